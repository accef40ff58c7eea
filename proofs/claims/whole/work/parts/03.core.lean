/-! the store, the values, the world that a store stands for -/
abbrev St : Type := Nat → Nat → Int → Int
abbrev V : Type := Int ⊕ Int ⊕ (Nat × Nat)
def wr (σ : St) (o f : Nat) (k v : Int) : St := fun o' f' k' => if o' = o ∧ f' = f ∧ k' = k then v else σ o' f' k'
abbrev R32 (x : Int) : Prop := -2147483648 ≤ x ∧ x < 2147483648
abbrev R64 (x : Int) : Prop := -9223372036854775808 ≤ x ∧ x < 9223372036854775808
def rk (k : Nat) (x : Int) : Prop := match k with
  | 1 => x = 0 ∨ x = 1
  | 4 => x = 0 ∨ x = 1
  | 5 => -128 ≤ x ∧ x ≤ 127
  | 2 => R64 x
  | 6 => R64 x
  | _ => R32 x
def Rng (σ : St) : Prop := ∀ (o f : Nat) (k : Int), rk (kd (cls o) f) (σ o f k)
theorem rng_wr {σ : St} {o f : Nat} {k v : Int} (h : Rng σ) (hv : rk (kd (cls o) f) v) : Rng (wr σ o f k v) := by
  intro o' f' k'
  unfold wr
  by_cases c : o' = o ∧ f' = f ∧ k' = k
  · rw [if_pos c, c.1, c.2.1]; exact hv
  · rw [if_neg c]; exact h o' f' k'
theorem wr_at (σ : St) (o f : Nat) (k v : Int) : wr σ o f k v o f k = v := by unfold wr; rw [if_pos ⟨rfl, rfl, rfl⟩]
theorem wr_ne {σ : St} {o f o' f' : Nat} {k v k' : Int} (h : ¬ (o' = o ∧ f' = f ∧ k' = k)) : wr σ o f k v o' f' k' = σ o' f' k' := by unfold wr; rw [if_neg h]
def toV (ρ : Nat → Nat → Nat) (v : V) : Value := match v with
  | .inl x => .int (Int32.ofInt x)
  | .inr (.inl x) => .long (Int64.ofInt x)
  | .inr (.inr r) => .ref (ρ r.1 r.2)
abbrev Wd : Type := va_G × (Nat → ClassId) × (Nat → Nat → Nat)
def tysOf (ca : Nat → ClassId) : List (ClassId × FieldType) := [(ca 3, .int), (ca 4, .boolean), (ca 5, .byte), (ca 6, .long), (ca 8, .object "SandGuards$Castle")]
/-- what a field holds -/
def fvl (σ : St) (o f kn : Nat) : V := match kn with
  | 0 => .inl (σ o f 0)
  | 1 => .inl (σ o f 0)
  | 2 => .inr (.inl (σ o f 0))
  | 7 => .inr (.inr (fo o f, 0))
  | _ => .inr (.inr (o, f + 1))
/-- what an array holds -/
def con (ρ : Nat → Nat → Nat) (σ : St) (o f kn : Nat) : (Nat → Int32) ⊕ (Nat → Int64) ⊕ (Nat → UInt32) ⊕ (Nat → UInt64) ⊕ (Nat → Option Nat) := match kn with
  | 6 => .inr (.inl fun j => Int64.ofInt (σ o f j))
  | 8 => .inr (.inr (.inr (.inr fun j => some (ρ (fo o f + j) 0))))
  | _ => .inl fun j => Int32.ofInt (σ o f j)
def cellE (w : Wd) (σ : St) (k : Nat × Nat) : va_E := match k.2 with
  | 0 => .inr (cls k.1, (List.range (nf (cls k.1))).map fun f => toV w.2.2 (fvl σ k.1 f (kd (cls k.1) f)))
  | f + 1 => .inl (w.2.1 (kd (cls k.1) f), ln (cls k.1) f, con w.2.2 σ k.1 f (kd (cls k.1) f))
def wsl (w : Wd) (σ : St) : va_W := kys.map fun k => (w.2.2 k.1 k.2, cellE w σ k)
def AA (w : Wd) : Nat → Prop := fun q => ∃ k ∈ kys, w.2.2 k.1 k.2 = q
def Rp (w : Wd) (σ : St) (H0 H : Heap) (locs : List Loc) : Prop := va_P w.1 classes (wsl w σ) H ∧ va_D (AA w) (wsl w σ) ∧ va_S (AA w) H0 H locs ∧ Rng σ
theorem ky_obj {o : Nat} (h : o ∈ objs) : (o, 0) ∈ kys := List.mem_flatMap.mpr ⟨o, h, List.mem_cons_self⟩
theorem ky_arr {o f : Nat} (h : o ∈ objs) (hf : f < nf (cls o)) (hk : isArr (kd (cls o) f) = true) : (o, f + 1) ∈ kys :=
  List.mem_flatMap.mpr ⟨o, h, List.mem_cons_of_mem _ (List.mem_map.mpr ⟨f, List.mem_filter.mpr ⟨List.mem_range.mpr hf, hk⟩, rfl⟩)⟩
theorem ky_in {k : Nat × Nat} (h : k ∈ kys) : k.2 = 0 ∨ ∃ f, k.2 = f + 1 ∧ isArr (kd (cls k.1) f) = true := by
  obtain ⟨o, -, ho⟩ := List.mem_flatMap.mp h
  rcases List.mem_cons.mp ho with e | e
  · rw [e]; exact Or.inl rfl
  · obtain ⟨f, hf, e2⟩ := List.mem_map.mp e
    rw [← e2]
    exact Or.inr ⟨f, rfl, (List.mem_filter.mp hf).2⟩
theorem wsl_get (w : Wd) (σ : St) {k : Nat × Nat} (h : k ∈ kys) : ∃ q : Nat, kys[q]? = some k ∧ (wsl w σ)[q]? = some (w.2.2 k.1 k.2, cellE w σ k) := by
  obtain ⟨q, hq⟩ := List.getElem?_of_mem h
  refine ⟨q, hq, ?_⟩
  unfold wsl
  rw [List.getElem?_map, hq]
  rfl
theorem wsl_set {w : Wd} {σ σ' : St} {k : Nat × Nat} {q : Nat} {A : Nat → Prop} (hD : va_D A (wsl w σ)) (hq : kys[q]? = some k) (hne : ∀ k' ∈ kys, k' ≠ k → cellE w σ' k' = cellE w σ k') :
    (wsl w σ).set q (w.2.2 k.1 k.2, cellE w σ' k) = wsl w σ' := by
  have hl := (List.getElem?_eq_some_iff.mp hq).1
  apply List.ext_getElem?
  intro i
  by_cases hi : i = q
  · subst hi
    rw [List.getElem?_set_self (by unfold wsl; rw [List.length_map]; exact hl)]
    unfold wsl
    rw [List.getElem?_map, hq]
    rfl
  · rw [List.getElem?_set_ne (fun e => hi e.symm)]
    unfold wsl
    rw [List.getElem?_map, List.getElem?_map]
    cases hk' : kys[i]? with
    | none => rfl
    | some k' =>
      have hm : k' ∈ kys := List.mem_of_getElem? hk'
      have hnk : k' ≠ k := by
        intro e
        subst e
        refine hi (hD.1 i q (w.2.2 k'.1 k'.2, cellE w σ k') (w.2.2 k'.1 k'.2, cellE w σ k') ?_ ?_ rfl)
        · unfold wsl; rw [List.getElem?_map, hk']; rfl
        · unfold wsl; rw [List.getElem?_map, hq]; rfl
      show some (_, _) = some (_, _)
      rw [hne k' hm hnk]
/-- a store changes one cell: the array's, or the object's -/
theorem cell_wr_arr {w : Wd} {σ : St} {o f : Nat} {i v : Int} (hk : isArr (kd (cls o) f) = true) : ∀ k' ∈ kys, k' ≠ (o, f + 1) → cellE w (wr σ o f i v) k' = cellE w σ k' := by
  intro k' hk' hne
  obtain ⟨o', j⟩ := k'
  cases j with
  | zero =>
    show Sum.inr _ = Sum.inr _
    congr 2
    apply List.map_congr_left
    intro f' _
    congr 1
    by_cases e : o' = o ∧ f' = f
    · obtain ⟨rfl, rfl⟩ := e
      show fvl _ _ _ (kd (cls o') f') = fvl _ _ _ (kd (cls o') f')
      generalize kd (cls o') f' = n at hk
      simp only [isArr, Bool.or_eq_true, beq_iff_eq] at hk
      rcases hk with (((h | h) | h) | h) | h <;> subst h <;> rfl
    · have e2 : wr σ o f i v o' f' 0 = σ o' f' 0 := wr_ne (fun h => e ⟨h.1, h.2.1⟩)
      show fvl _ _ _ (kd (cls o') f') = fvl _ _ _ (kd (cls o') f')
      generalize kd (cls o') f' = n
      unfold fvl
      rw [e2]
  | succ f' =>
    have e : ¬ (o' = o ∧ f' = f) := fun h => hne (by rw [h.1, h.2])
    show Sum.inl _ = Sum.inl _
    have e2 : ∀ z : Int, wr σ o f i v o' f' z = σ o' f' z := fun z => wr_ne (fun h => e ⟨h.1, h.2.1⟩)
    have e3 : con w.2.2 (wr σ o f i v) o' f' (kd (cls o') f') = con w.2.2 σ o' f' (kd (cls o') f') := by
      unfold con
      simp only [e2]
    show Sum.inl (_, _, con w.2.2 (wr σ o f i v) o' f' (kd (cls o') f')) = Sum.inl (_, _, con w.2.2 σ o' f' (kd (cls o') f'))
    rw [e3]
theorem cell_wr_fld {w : Wd} {σ : St} {o f : Nat} {i v : Int} (hk : isArr (kd (cls o) f) = false) : ∀ k' ∈ kys, k' ≠ (o, 0) → cellE w (wr σ o f i v) k' = cellE w σ k' := by
  intro k' hk' hne
  obtain ⟨o', j⟩ := k'
  cases j with
  | zero =>
    have e : ¬ o' = o := fun h => hne (by rw [h])
    show Sum.inr _ = Sum.inr _
    congr 2
    apply List.map_congr_left
    intro f' _
    congr 1
    have e2 : wr σ o f i v o' f' 0 = σ o' f' 0 := wr_ne (fun h => e h.1)
    show fvl _ _ _ (kd (cls o') f') = fvl _ _ _ (kd (cls o') f')
    generalize kd (cls o') f' = n
    unfold fvl
    rw [e2]
  | succ f' =>
    have e : ¬ (o' = o ∧ f' = f) := by
      rintro ⟨rfl, rfl⟩
      rcases ky_in hk' with h | ⟨f2, h, h2⟩
      · cases h
      · cases h
        rw [hk] at h2
        cases h2
    have e2 : ∀ z : Int, wr σ o f i v o' f' z = σ o' f' z := fun z => wr_ne (fun h => e ⟨h.1, h.2.1⟩)
    have e3 : con w.2.2 (wr σ o f i v) o' f' (kd (cls o') f') = con w.2.2 σ o' f' (kd (cls o') f') := by
      unfold con
      simp only [e2]
    show Sum.inl (_, _, con w.2.2 (wr σ o f i v) o' f' (kd (cls o') f')) = Sum.inl (_, _, con w.2.2 σ o' f' (kd (cls o') f'))
    rw [e3]
/-! whole numbers and the machine's -/
theorem r_lt {a b : Int} (ha : R32 a) (hb : R32 b) : Int32.ofInt a < Int32.ofInt b ↔ a < b := by
  rw [Int32.lt_iff_toInt_lt, Int32.toInt_ofInt_of_le (by have := ha.1; omega) (by have := ha.2; omega), Int32.toInt_ofInt_of_le (by have := hb.1; omega) (by have := hb.2; omega)]
theorem r_le {a b : Int} (ha : R32 a) (hb : R32 b) : Int32.ofInt a ≤ Int32.ofInt b ↔ a ≤ b := by
  rw [Int32.le_iff_toInt_le, Int32.toInt_ofInt_of_le (by have := ha.1; omega) (by have := ha.2; omega), Int32.toInt_ofInt_of_le (by have := hb.1; omega) (by have := hb.2; omega)]
theorem r_eq {a b : Int} (ha : R32 a) (hb : R32 b) : Int32.ofInt a = Int32.ofInt b ↔ a = b := by
  rw [← Int32.toInt_inj, Int32.toInt_ofInt_of_le (by have := ha.1; omega) (by have := ha.2; omega), Int32.toInt_ofInt_of_le (by have := hb.1; omega) (by have := hb.2; omega)]
theorem r_0 : R32 0 := ⟨by decide, by decide⟩
theorem r_int {a : Int} (ha : R32 a) : (Int32.ofInt a).toInt = a := Int32.toInt_ofInt_of_le (by have := ha.1; omega) (by have := ha.2; omega)
theorem r_clamp {i : Int} (h0 : 0 ≤ i) (h : i < 2147483648) : (Int32.ofInt i).toNatClampNeg = i.toNat := by
  rw [Int32.toNatClampNeg_ofInt_of_le (by omega) (by omega)]
theorem r_in {i : Int} {n : Nat} (h0 : 0 ≤ i) (h1 : i < n) (hn : n < 2147483648) : vp_in (Int32.ofInt i) n := by
  intro h
  rw [r_clamp h0 (by omega)] at h
  rcases h with h | h
  · have e : (0 : Int32) = Int32.ofInt 0 := rfl
    rw [e, r_lt ⟨by omega, by omega⟩ r_0] at h
    omega
  · omega
theorem r_of (x : Int32) : R32 x.toInt := ⟨by have := x.le_toInt; omega, by have := x.toInt_lt; omega⟩
