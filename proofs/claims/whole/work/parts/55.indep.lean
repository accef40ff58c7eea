/-! a castle with some cells replaced: what doesn't look at them goes as before -/
def rp (D : Nat → Int → Bool) (a y : Cs) : Cs := fun f k => if D f k = true then a f k else y f k
theorem rp_n {D : Nat → Int → Bool} {a y : Cs} {f : Nat} {k : Int} (h : D f k = false) : rp D a y f k = y f k := by unfold rp; rw [h, if_neg (by decide)]
theorem rp_y {D : Nat → Int → Bool} {a y : Cs} {f : Nat} {k : Int} (h : D f k = true) : rp D a y f k = a f k := by unfold rp; rw [if_pos h]
theorem rp_self (D : Nat → Int → Bool) (y : Cs) : rp D y y = y := by
  funext f k
  unfold rp
  split <;> rfl
theorem cu_rp {D : Nat → Int → Bool} {a y : Cs} {f : Nat} {k v : Int} (h : D f k = false) : cu (rp D a y) f k v = rp D a (cu y f k v) := by
  funext f' k'
  rw [cu_if]
  unfold rp
  by_cases z : f' = f ∧ k' = k
  · rw [if_pos z, z.1, z.2, h, if_neg (by decide), cu_s]
  · rw [if_neg z, cu_if, if_neg z]
/-- only sand and dryness are replaced -/
def RD (D : Nat → Int → Bool) : Prop := ∀ f k, f ≠ 0 → f ≠ 1 → f ≠ 3 → D f k = false
theorem c_up_if (y : Cs) (j : Int) (f : Nat) (k : Int) : c_up y j f k = if f = 11 ∧ k = 0 then y 11 0 - 1 else if f = 10 ∧ j ≤ k ∧ k < y 11 0 - 1 then y 10 (k + 1) else y f k := rfl
theorem up_rp {D : Nat → Int → Bool} {a y : Cs} {j : Int} (h : RD D) : c_up (rp D a y) j = rp D a (c_up y j) := by
  have e11 : rp D a y 11 0 = y 11 0 := rp_n (h 11 0 (by decide) (by decide) (by decide))
  have e10 : ∀ k, rp D a y 10 k = y 10 k := fun k => rp_n (h 10 k (by decide) (by decide) (by decide))
  funext f k
  rw [c_up_if, e11]
  by_cases z1 : f = 11 ∧ k = 0
  · rw [if_pos z1, rp_n (h f k (by omega) (by omega) (by omega)), c_up_if, if_pos z1]
  · rw [if_neg z1]
    by_cases z2 : f = 10 ∧ j ≤ k ∧ k < y 11 0 - 1
    · rw [if_pos z2, e10, rp_n (h f k (by omega) (by omega) (by omega)), c_up_if, if_neg z1, if_pos z2]
    · rw [if_neg z2]
      unfold rp
      split
      · rfl
      · rw [c_up_if, if_neg z1, if_neg z2]
theorem stand_rp {D : Nat → Int → Bool} {a y : Cs} {g p : Int} (h : RD D) : mstand (rp D a y) g p = rp D a (mstand y g p) := by
  unfold mstand
  rw [cu_rp (h 2 p (by decide) (by decide) (by decide)), cu_rp (h 8 g (by decide) (by decide) (by decide))]
theorem lie_rp {D : Nat → Int → Bool} {a y : Cs} {g : Int} (h : RD D) : mlie (rp D a y) g = rp D a (mlie y g) := by
  unfold mlie
  rw [rp_n (h 11 0 (by decide) (by decide) (by decide)), cu_rp (h 10 _ (by decide) (by decide) (by decide)), cu_rp (h 11 0 (by decide) (by decide) (by decide))]
theorem next_rp {D : Nat → Int → Bool} {a y : Cs} {p : Int} (h : RD D) : mnext (rp D a y) p = rp D a (mnext y p) := by
  unfold mnext
  rw [rp_n (h 11 0 (by decide) (by decide) (by decide)), rp_n (h 10 0 (by decide) (by decide) (by decide)), up_rp h, stand_rp h]
  split <;> rfl
theorem turn_rp {D : Nat → Int → Bool} {a y : Cs} {p : Int} (h : RD D) (h0 : D 0 p = false) (h1 : D 1 p = false) : mturn (rp D a y) p = rp D a (mturn y p) := by
  unfold mturn
  rw [rp_n h1, rp_n (h 4 p (by decide) (by decide) (by decide)), cu_rp h0, cu_rp h1, cu_rp (h 4 p (by decide) (by decide) (by decide))]
theorem rel_rp {D : Nat → Int → Bool} {a y : Cs} {N p : Int} (h : RD D) (h0 : (D 0 p = false ∧ D 1 p = false) ∨ (0 < a 0 p ∧ 0 < y 0 p)) : mrel N p (rp D a y) = rp D a (mrel N p y) := by
  have e2 : ∀ k, rp D a y 2 k = y 2 k := fun k => rp_n (h 2 k (by decide) (by decide) (by decide))
  have e9 : ∀ k, rp D a y 9 k = y 9 k := fun k => rp_n (h 9 k (by decide) (by decide) (by decide))
  by_cases hb : D 0 p = false ∧ D 1 p = false
  · unfold mrel
    rw [e2, e2, e9, rp_n hb.1, stand_rp h, turn_rp h hb.1 hb.2, cu_rp (h 2 _ (by decide) (by decide) (by decide)), next_rp h, lie_rp h, cu_rp (h 8 _ (by decide) (by decide) (by decide)), cu_rp (h 9 _ (by decide) (by decide) (by decide))]
    split <;> rfl
  · have h0 := h0.resolve_left hb
    have e : 0 < rp D a y 0 p := by
      unfold rp
      split
      · exact h0.1
      · exact h0.2
    unfold mrel
    rw [if_pos (Or.inr (Or.inl e)), if_pos (Or.inr (Or.inl h0.2))]
theorem fil_rp {D : Nat → Int → Bool} {a y : Cs} {p : Int} (h : RD D) : mfil p (rp D a y) = rp D a (mfil p y) := by
  unfold mfil
  rw [rp_n (h 2 p (by decide) (by decide) (by decide)), rp_n (h 11 0 (by decide) (by decide) (by decide)), rp_n (h 10 0 (by decide) (by decide) (by decide)), up_rp h, stand_rp h]
  split <;> rfl
theorem filN_rp {D : Nat → Int → Bool} {a : Cs} (h : RD D) : ∀ (n : Nat) (i : Int) (y : Cs), itr mfil n i (rp D a y) = rp D a (itr mfil n i y)
  | 0, _, _ => rfl
  | n + 1, i, y => by rw [itr_S, itr_S, fil_rp h, filN_rp h n]
theorem bedN_rp {D : Nat → Int → Bool} {a : Cs} (h : RD D) : ∀ (n : Nat) (i : Int) (y : Cs), itr mbed n i (rp D a y) = rp D a (itr mbed n i y)
  | 0, _, _ => rfl
  | n + 1, i, y => by
    have e : mbed i (rp D a y) = rp D a (mbed i y) := by
      unfold mbed
      rw [rp_n (h 10 i (by decide) (by decide) (by decide)), rp_n (h 7 _ (by decide) (by decide) (by decide)), cu_rp (h 7 _ (by decide) (by decide) (by decide))]
    rw [itr_S, itr_S, e, bedN_rp h n]
theorem watN_rp {D : Nat → Int → Bool} {a : Cs} (h : RD D) : ∀ (n : Nat) (i : Int) (y : Cs), itr mwat n i (rp D a y) = rp D a (itr mwat n i y)
  | 0, _, _ => rfl
  | n + 1, i, y => by
    have e : mwat i (rp D a y) = rp D a (mwat i y) := by
      unfold mwat
      rw [rp_n (h 2 i (by decide) (by decide) (by decide)), rp_n (h 8 _ (by decide) (by decide) (by decide)), cu_rp (h 8 _ (by decide) (by decide) (by decide))]
      split <;> rfl
    rw [itr_S, itr_S, e, watN_rp h n]
theorem cnt_rp {D : Nat → Int → Bool} {a y : Cs} {N : Int} (h : RD D) : mcnt N (rp D a y) = rp D a (mcnt N y) := by
  unfold mcnt
  rw [rp_n (h 11 0 (by decide) (by decide) (by decide)), rp_n (h 12 0 (by decide) (by decide) (by decide)), bedN_rp h, watN_rp h, cu_rp (h 12 0 (by decide) (by decide) (by decide))]
theorem mrel_0 {N p q : Int} {y : Cs} (h : q ≠ p) : mrel N p y 0 q = y 0 q := by
  unfold mrel
  split
  · rfl
  · unfold mlie mnext mturn mstand
    split <;> simp [cu_if, c_up, h]
theorem mrel_0p {N p : Int} {y : Cs} (h : 0 < y 0 p) : mrel N p y = y := by
  unfold mrel
  rw [if_pos (Or.inr (Or.inl h))]
/-- replaced cells of one glass that isn't out -/
theorem relN_rp {D : Nat → Int → Bool} {a : Cs} {N p : Int} (h : RD D) (hD : ∀ q, q ≠ p → D 0 q = false ∧ D 1 q = false) (h0 : 0 < a 0 p) : ∀ (n : Nat) (i : Int) (y : Cs), 0 < y 0 p → itr (mrel N) n i (rp D a y) = rp D a (itr (mrel N) n i y) ∧ itr (mrel N) n i y 0 p = y 0 p
  | 0, _, _, _ => ⟨rfl, rfl⟩
  | n + 1, i, y, hy => by
    have e : mrel N i (rp D a y) = rp D a (mrel N i y) := by
      by_cases z : i = p
      · subst z; exact rel_rp h (Or.inr ⟨h0, hy⟩)
      · exact rel_rp h (Or.inl (hD i z))
    have e2 : mrel N i y 0 p = y 0 p := by
      by_cases z : i = p
      · subst z; rw [mrel_0p hy]
      · exact mrel_0 (fun w => z w.symm)
    have ih := relN_rp (N := N) h hD h0 n (i + 1) (mrel N i y) (by rw [e2]; exact hy)
    rw [itr_S, itr_S, e]
    exact ⟨ih.1, ih.2.trans e2⟩
/-- nothing of the sand is replaced -/
theorem relN_rp3 {D : Nat → Int → Bool} {a : Cs} {N : Int} (h : RD D) (hD : ∀ q, D 0 q = false ∧ D 1 q = false) : ∀ (n : Nat) (i : Int) (y : Cs), itr (mrel N) n i (rp D a y) = rp D a (itr (mrel N) n i y)
  | 0, _, _ => rfl
  | n + 1, i, y => by rw [itr_S, itr_S, rel_rp h (Or.inl (hD i)), relN_rp3 h hD n]
theorem runN_rp3 {φ : Phi} {P : Cs} {D : Nat → Int → Bool} {a : Cs} (hD : ∀ q, D 0 q = false ∧ D 1 q = false) (hf : ∀ y q, c_fls φ P (rp D a y) q = c_fls φ P y q) : ∀ (n : Nat) (i : Int) (y : Cs), itr (mrun φ P) n i (rp D a y) = rp D a (itr (mrun φ P) n i y)
  | 0, _, _ => rfl
  | n + 1, i, y => by
    have e : mrun φ P i (rp D a y) = rp D a (mrun φ P i y) := by
      unfold mrun c_down
      rw [hf, rp_n (hD i).1, rp_n (hD i).2, cu_rp (hD i).1, cu_rp (hD i).2]
    rw [itr_S, itr_S, e, runN_rp3 hD hf n]
theorem min_rp3 {φ : Phi} {P : Cs} {D : Nat → Int → Bool} {a : Cs} (h : RD D) (hD : ∀ q, D 0 q = false ∧ D 1 q = false) (hf : ∀ y q, c_fls φ P (rp D a y) q = c_fls φ P y q) (y : Cs) : mmin φ P (rp D a y) = rp D a (mmin φ P y) := by
  unfold mmin
  rw [runN_rp3 hD hf, relN_rp3 h hD, filN_rp h, cnt_rp h]
/-- DAMP isn't felt -/
def UF (P : Cs) (φ : Phi) : Prop := P 7 0 = 0 → P 5 0 ≤ 0 ∨ ∀ n w w' a b m q, φ n w a b m q = φ n w' a b m q
theorem mso_rp {φ : Phi} {P : Cs} {D : Nat → Int → Bool} {a : Cs} (h : RD D) (hm : ∀ y, mmin φ P (rp D a y) = rp D a (mmin φ P y)) : ∀ (n : Nat) (k : Int) (y : Cs), mso φ P n k (rp D a y) = mso φ P n k y
  | 0, _, _ => rfl
  | n + 1, k, y => by
    have e : ∀ (m : Nat) (i w : Int), itr (gstep P (rp D a y)) m i w = itr (gstep P y) m i w := by
      intro m
      induction m with
      | zero => intro i w; rfl
      | succ m ih =>
        intro i w
        have : gstep P (rp D a y) i w = gstep P y i w := by unfold gstep; rw [rp_n (h 7 i (by decide) (by decide) (by decide))]
        rw [itr_S, itr_S, this, ih]
    have e2 : c_slepts P (rp D a y) = c_slepts P y := e _ _ _
    rw [mso_S, mso_S, e2, hm, mso_rp h hm n]
theorem UF_msb {P : Cs} {φ : Phi} (h : UF P φ) (h7 : P 7 0 = 0) (y : Cs) (p v : Int) : msb φ P (cu y 3 p v) = msb φ P y := by
  have e : cu y 3 p v = rp (fun f k => decide (f = 3 ∧ k = p)) (fun _ _ => v) y := by
    funext f k
    rw [cu_if]
    unfold rp
    by_cases z : f = 3 ∧ k = p
    · simp [z]
    · simp [z]
  have hR : RD (fun f k => decide (f = 3 ∧ k = p)) := fun f k _ _ h3 => by simp [h3]
  have hD : ∀ q : Int, (fun (f : Nat) (k : Int) => decide (f = 3 ∧ k = p)) 0 q = false ∧ (fun (f : Nat) (k : Int) => decide (f = 3 ∧ k = p)) 1 q = false := fun q => by simp
  have hf : ∀ y q, c_fls φ P (rp (fun f k => decide (f = 3 ∧ k = p)) (fun _ _ => v) y) q = c_fls φ P y q := by
    intro y q
    have e0 : rp (fun f k => decide (f = 3 ∧ k = p)) (fun _ _ => v) y 0 q = y 0 q := rp_n (hD q).1
    have e1 : rp (fun f k => decide (f = 3 ∧ k = p)) (fun _ _ => v) y 1 q = y 1 q := rp_n (hD q).2
    have e12 : rp (fun f k => decide (f = 3 ∧ k = p)) (fun _ _ => v) y 12 0 = y 12 0 := rp_n (hR 12 0 (by decide) (by decide) (by decide))
    unfold c_fls flw
    rw [e0, e1, e12]
    rcases h h7 with z | z
    · have e5 : pl_hour P (y 12 0) = 0 := by unfold pl_hour; rw [if_neg (by omega)]
      have ed : ∀ c, pl_damp c q 0 = 0 := fun c => by unfold pl_damp; split <;> rfl
      rw [e5, ed, ed]
    · rw [z _ (P 1 (pl_damp (rp (fun f k => decide (f = 3 ∧ k = p)) (fun _ _ => v) y) q (pl_hour P (y 12 0)))) (P 1 (pl_damp y q (pl_hour P (y 12 0))))]
  rw [e]
  unfold msb
  rw [mso_rp hR (min_rp3 hR hD hf)]
