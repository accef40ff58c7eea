/-! all keys in the order of their making; where the cells lie -/
/-- where each cell lies: the script at b, the words at t, all else from z on -/
def rhoA (b t z : Nat) : Nat → Nat → Nat := fun o f => if o = 98 then b else if o = 99 then t else z + rkA (o, f)
theorem rhoA_B (b t z : Nat) : Bs (rhoA b t z) kAll z := by
  intro i k hk
  have h1 := kA_lt k (List.mem_of_getElem? hk)
  unfold rhoA
  rw [if_neg (by omega), if_neg (by omega)]
  show z + rkA k = z + i
  rw [kA_idx hk]
theorem rhoA_in {b t z : Nat} {k : Nat × Nat} (h : k ∈ kys) : ∃ i, kAll[i]? = some k ∧ rhoA b t z k.1 k.2 = z + i := by
  obtain ⟨i, hi⟩ := List.getElem?_of_mem (kA_kys k h)
  exact ⟨i, hi, rhoA_B b t z i k hi⟩
theorem AA_ge {D : va_G} {ca : Nat → ClassId} {b t z : Nat} : ∀ q, AA (D, ca, rhoA b t z) q → z ≤ q := by
  rintro q ⟨k, hk, rfl⟩
  obtain ⟨i, -, h⟩ := rhoA_in (b := b) (t := t) (z := z) hk
  show z ≤ rhoA b t z k.1 k.2
  omega
theorem wsl_D {D : va_G} {ca : Nat → ClassId} {b t z : Nat} {σ : St} : va_D (AA (D, ca, rhoA b t z)) (wsl (D, ca, rhoA b t z) σ) := by
  refine va_D_nd.mpr ⟨?_, fun q hq => ?_⟩
  · unfold wsl
    rw [List.map_map]
    refine List.pairwise_map.mpr (List.Pairwise.imp_of_mem (fun {k k'} hk hk' hne e => hne ?_) kys_nd)
    obtain ⟨i, hi, e1⟩ := rhoA_in (b := b) (t := t) (z := z) hk
    obtain ⟨j, hj, e2⟩ := rhoA_in (b := b) (t := t) (z := z) hk'
    have e : rhoA b t z k.1 k.2 = rhoA b t z k'.1 k'.2 := e
    have : i = j := by omega
    subst this
    exact Option.some.inj (hi.symm.trans hj)
  · obtain ⟨k, hk, rfl⟩ := List.mem_map.mp hq
    exact ⟨k, hk, rfl⟩
theorem wsl_P {D D2 : va_G} {ca : Nat → ClassId} {ρ : Nat → Nat → Nat} {σ : St} {H : Heap} (h : va_P D classes (kO_0.map (nvC (D2, ca, ρ) σ) ++ kO_1.map (nvC (D2, ca, ρ) σ)) H) : va_P D classes (wsl (D2, ca, ρ) σ) H := by
  refine va_P_mem.mpr fun q hq => ?_
  obtain ⟨k, hk, rfl⟩ := List.mem_map.mp hq
  refine va_P_mem.mp h _ ?_
  rw [← List.map_append]
  exact List.mem_map.mpr ⟨k, kA_kys k hk, rfl⟩
/-! what the tables say that is no good word -/
theorem nx_of {s : State} {A : Array Value} (hts : ∀ w ∈ lw_tbl, w.before A s = true) : NX s := by
  refine ⟨va_AO.of (hts (.arrayOver (.object "SandGuards$Castle")) (List.mem_of_getElem? (i := 417) (by decide +kernel))), fun q hq => ?_⟩
  simp only [nstW, List.mem_cons, List.not_mem_nil, or_false] at hq
  rcases hq with h | h | h | h | h | h | h | h | h | h <;> subst h
  · exact va_Nw.of rfl (hts _ (List.mem_of_getElem? (i := 123) (by decide +kernel)))
  · exact va_Nw.of rfl (hts _ (List.mem_of_getElem? (i := 140) (by decide +kernel)))
  · exact va_Nw.of rfl (hts _ (List.mem_of_getElem? (i := 146) (by decide +kernel)))
  · exact va_Nw.of rfl (hts _ (List.mem_of_getElem? (i := 152) (by decide +kernel)))
  · exact va_Nw.of rfl (hts _ (List.mem_of_getElem? (i := 329) (by decide +kernel)))
  · exact va_Nw.of rfl (hts _ (List.mem_of_getElem? (i := 407) (by decide +kernel)))
  · exact va_Nw.of rfl (hts _ (List.mem_of_getElem? (i := 432) (by decide +kernel)))
  · exact va_Nw.of rfl (hts _ (List.mem_of_getElem? (i := 453) (by decide +kernel)))
  · exact va_Nw.of rfl (hts _ (List.mem_of_getElem? (i := 493) (by decide +kernel)))
  · exact va_Nw.of rfl (hts _ (List.mem_of_getElem? (i := 526) (by decide +kernel)))
theorem arr_of {s : State} {A : Array Value} {ty : FieldType} (h : (Cond.arrayClass ty).before A s = true) : ∃ cA : ClassId, ArrOfT s cA ty ∧ s.vm.findClass ("[" ++ ty.toString) = some cA := by
  obtain ⟨cA, kA, comp, h1, h2, h3⟩ := Cond.arrayClass_spec h
  exact ⟨cA, fun n z => ⟨fun k h => (by cases h), kA, h2, comp, h3⟩, h1⟩
theorem known {s : State} {A : Array Value} (hts : ∀ w ∈ lw_tbl, w.before A s = true) : ∃ (D : va_G) (ca : Nat → ClassId), va_K D classes (tysOf ca) s := by
  have hg : ∀ t ∈ lw_gd, t.before A s = true := fun t ht => hts t (List.mem_filter.mp ht).1
  obtain ⟨c0, i0, h0⟩ := u_known hg k_Ca.2.2.1 (hg _ iw_Ca.1)
  obtain ⟨c1, i1, h1⟩ := u_known hg k_Dr.2.2.1 (hg _ iw_Dr.1)
  obtain ⟨c2, i2, h2⟩ := u_known hg k_Ga.2.2.1 (hg _ iw_Ga.1)
  obtain ⟨c3, i3, h3⟩ := u_known hg k_Hi.2.2.1 (hg _ iw_Hi.1)
  obtain ⟨c4, i4, h4⟩ := u_known hg k_La.2.2.1 (hg _ iw_La.1)
  obtain ⟨c5, i5, h5⟩ := u_known hg k_Ou.2.2.1 (hg _ iw_Ou.1)
  obtain ⟨c6, i6, h6⟩ := u_known hg k_Pl.2.2.1 (hg _ iw_Pl.1)
  obtain ⟨c7, i7, h7⟩ := u_known hg k_Re.2.2.1 (hg _ iw_Re.1)
  obtain ⟨c8, i8, h8⟩ := u_known hg k_Ru.2.2.1 (hg _ iw_Ru.1)
  obtain ⟨c9, i9, h9⟩ := u_known hg k_Ta.2.2.1 (hg _ iw_Ta.1)
  obtain ⟨c10, i10, h10⟩ := u_known hg k_To.2.2.1 (hg _ iw_To.1)
  obtain ⟨c11, i11, h11⟩ := u_known hg k_Sg.2.2.1 (hg _ iw_Sg.1)
  obtain ⟨c12, i12, h12⟩ := u_known hg k_Mo.2.2.1 (hg _ iw_Mo.1)
  obtain ⟨a3, p3, q3⟩ := arr_of (hg _ ac_int)
  obtain ⟨a4, p4, q4⟩ := arr_of (hg _ ac_boolean)
  obtain ⟨a5, p5, q5⟩ := arr_of (hg _ ac_byte)
  obtain ⟨a6, p6, q6⟩ := arr_of (hg _ ac_long)
  obtain ⟨comp, a8, k8, f1, f2, f3, f4, f5⟩ := Cond.arrayOver_spec (hts (.arrayOver (.object "SandGuards$Castle")) (List.mem_of_getElem? (i := 417) (by decide +kernel)))
  refine ⟨(fun k => [c0, c1, c2, c3, c4, c5, c6, c7, c8, c9, c10, c11, c12].getD k c0, fun k => [i0, i1, i2, i3, i4, i5, i6, i7, i8, i9, i10, i11, i12].getD k i0), fun k => [a3, a3, a3, a3, a4, a5, a6, a3, a8].getD k a3, ?_, ?_⟩
  · intro k q hq
    match k, hq with
    | 0, hq => cases hq; exact h0
    | 1, hq => cases hq; exact h1
    | 2, hq => cases hq; exact h2
    | 3, hq => cases hq; exact h3
    | 4, hq => cases hq; exact h4
    | 5, hq => cases hq; exact h5
    | 6, hq => cases hq; exact h6
    | 7, hq => cases hq; exact h7
    | 8, hq => cases hq; exact h8
    | 9, hq => cases hq; exact h9
    | 10, hq => cases hq; exact h10
    | 11, hq => cases hq; exact h11
    | 12, hq => cases hq; exact h12
    | k + 13, hq => simp [classes] at hq
  · intro k q hq
    match k, hq with
    | 0, hq => cases hq; exact ⟨p3, q3⟩
    | 1, hq => cases hq; exact ⟨p4, q4⟩
    | 2, hq => cases hq; exact ⟨p5, q5⟩
    | 3, hq => cases hq; exact ⟨p6, q6⟩
    | 4, hq => cases hq; exact ⟨fun n z => ⟨fun k h => (by cases h), k8, f3, comp, f4⟩, k8, comp, f3, f4, f1, f5⟩
    | k + 5, hq => simp [tysOf] at hq
/-- the words that the class has from its beginning -/
theorem words_of {s : State} {b : Nat} (hts : ∀ w ∈ lw_tbl, w.before #[Value.ref b] s = true) (hgv : (Jvm.Cond.and given_1 narrow_1).before #[Value.ref b] s = true) : ∃ t : Nat, ∀ A : Nat → Prop, (∀ a : Nat, a < s.heap.size → ¬ A a) → va_Z "SandGuards$Tokens" "WORDS" "[J" (.ref t) A s s.heap ∧ va_T .long t 14 (fun j => .long (Int64.ofInt (wrdT.getD j 0))) A s s.heap := by
  have hs := flat_of_before _ hgv
  have harr : (Cond.arrayOf (.static "SandGuards$Tokens" "WORDS" "[J") .long).before #[Value.ref b] s = true := hs _ (by decide +kernel)
  have hlen : (Cond.eq (.length (.static "SandGuards$Tokens" "WORDS" "[J")) (.int 14)).before #[Value.ref b] s = true := hs _ (by decide +kernel)
  have hel : ∀ j : Nat, j < 14 → (Term.elem (.static "SandGuards$Tokens" "WORDS" "[J") (.int (Int32.ofNat j))).eval #[Value.ref b] s none [] s = some (.long (Int64.ofInt (wrdT.getD j 0))) := by
    intro j hj
    match j, hj with
    | 0, _ => exact va_eqtl (hs _ (by decide +kernel))
    | 1, _ => exact va_eqtl (hs _ (by decide +kernel))
    | 2, _ => exact va_eqtl (hs _ (by decide +kernel))
    | 3, _ => exact va_eqtl (hs _ (by decide +kernel))
    | 4, _ => exact va_eqtl (hs _ (by decide +kernel))
    | 5, _ => exact va_eqtl (hs _ (by decide +kernel))
    | 6, _ => exact va_eqtl (hs _ (by decide +kernel))
    | 7, _ => exact va_eqtl (hs _ (by decide +kernel))
    | 8, _ => exact va_eqtl (hs _ (by decide +kernel))
    | 9, _ => exact va_eqtl (hs _ (by decide +kernel))
    | 10, _ => exact va_eqtl (hs _ (by decide +kernel))
    | 11, _ => exact va_eqtl (hs _ (by decide +kernel))
    | 12, _ => exact va_eqtl (hs _ (by decide +kernel))
    | 13, _ => exact va_eqtl (hs _ (by decide +kernel))
    | j + 14, hj => omega
  obtain ⟨t, ht, -⟩ := va_Tof (A := fun _ => False) (by decide) harr (va_eqt hlen) hel (fun _ _ h => h)
  refine ⟨t, fun A hA => ⟨va_Zof (hts (.laysStatic "SandGuards$Tokens" "WORDS" "[J") (List.mem_of_getElem? (i := 656) (by decide +kernel))) (hts _ (List.mem_filter.mp iw_To.2).1) ht hA, ?_⟩⟩
  obtain ⟨t2, ht2, hT⟩ := va_Tof (A := A) (by decide) harr (va_eqt hlen) hel hA
  have : t2 = t := by
    have := ht2.symm.trans ht
    simpa using this
  rw [this] at hT
  exact hT
