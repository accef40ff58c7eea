/-! the reference: what its calls ask for -/
theorem MF_id (σ : St) : MF σ (σ 1) (σ 1 51) = σ := by
  unfold MF
  rw [lnm_id, so_id]
theorem MF_1 (σ : St) (m : Cs) (R : Int → Int) : MF σ m R 1 = lnm m 51 R := so_at _ _ _
theorem MF_f {σ : St} {m : Cs} {R : Int → Int} {f : Nat} (h : f ≠ 51) : MF σ m R 1 f = m f := by rw [MF_1, lnm_f h]
theorem MF_51 (σ : St) (m : Cs) (R : Int → Int) : MF σ m R 1 51 = R := by rw [MF_1, lnm_s]
theorem k_Mo_in {σ : St} {v a b : Int} (hv : R32 v) (ha : R32 a) (hb : R32 b) : CtI M_Mo_in [.inl v, .inl a, .inl b] σ (fun r u => r = (if a ≤ v ∧ v ≤ b then 1 else 0) ∧ u = σ) := by
  intro g C F
  refine e_iload_n C d_Mo_in_0 rfl ?_
  refine e_iload_n C d_Mo_in_1 rfl ?_
  refine e_icmp_lt C 14 d_Mo_in_2 (by decide) (by omega) (by omega) (fun c_2 => ?_) (fun c_2 => ?_)
  · refine e_iconst C d_Mo_in_14 ?_
    refine e_zret C F rfl d_Mo_in_15 (by omega) ?_
    refine ⟨?_, rfl⟩
    first | rw [if_pos (by omega)] | rw [if_neg (by omega)]
  · refine e_iload_n C d_Mo_in_5 rfl ?_
    refine e_iload_n C d_Mo_in_6 rfl ?_
    refine e_icmp_gt C 14 d_Mo_in_7 (by decide) (by omega) (by omega) (fun c_7 => ?_) (fun c_7 => ?_)
    · refine e_iconst C d_Mo_in_14 ?_
      refine e_zret C F rfl d_Mo_in_15 (by omega) ?_
      refine ⟨?_, rfl⟩
      first | rw [if_pos (by omega)] | rw [if_neg (by omega)]
    · refine e_iconst C d_Mo_in_10 ?_
      refine e_goto C 15 d_Mo_in_11 (by decide) ?_
      refine e_zret C F rfl d_Mo_in_15 (by omega) ?_
      refine ⟨?_, rfl⟩
      first | rw [if_pos (by omega)] | rw [if_neg (by omega)]
theorem k_Mo_isPost {σ : St} {m P : Cs} {p : Int} {R : Int → Int} (hM : MPl P m) (hN : 0 ≤ P 3 0 ∧ P 3 0 ≤ 8) (hp : R32 p) : CtI M_Mo_isPost [.inr (.inr (1, 0)), .inl p] (MF σ m R) (fun r u => r = (if 0 ≤ p ∧ p < P 3 0 then 1 else 0) ∧ u = MF σ m R) := by
  intro g C F
  have hlv := hM.1
  have he := hM.2.1
  refine e_iload_n C d_Mo_isPost_0 rfl ?_
  refine e_iconst C d_Mo_isPost_1 ?_
  refine e_aload_n C d_Mo_isPost_2 rfl ?_
  refine e_geta C fl_Mo_49 (by decide) rfl rfl d_Mo_isPost_3 ?_
  refine e_aload_n C d_Mo_isPost_6 rfl ?_
  refine e_geti C fl_Mo_215 (by decide) rfl rfl d_Mo_isPost_7 (fun r_7 => ?_)
  try simp only [MF_f, he, ne_eq, Nat.reduceEqDiff, not_false_eq_true] at r_7 ⊢
  refine e_iald (n := 2) C (by decide) rfl (by decide) rfl rfl (by decide) (by omega) (by omega) d_Mo_isPost_10 (fun r_10 => ?_)
  try simp only [MF_f, he, ne_eq, Nat.reduceEqDiff, not_false_eq_true] at r_10 ⊢
  refine e_iconst C d_Mo_isPost_11 ?_
  refine e_isub C d_Mo_isPost_12 ?_
  refine e_callIS C ok_Mo_in lk_Mo_302 [_, _, _] rfl rfl (Nat.le_of_ble_eq_true rfl) (by decide) (Nat.le_of_ble_eq_true rfl) d_Mo_isPost_13 (k_Mo_in hp (by omega) (by omega)) (fun v_13 u_13 q_13 h_13 => ?_)
  obtain ⟨rfl, rfl⟩ := h_13
  refine e_zret C F rfl d_Mo_isPost_16 (by split <;> omega) ?_
  refine ⟨?_, rfl⟩
  by_cases z : 0 ≤ p ∧ p < P 3 0
  · rw [if_pos z, if_pos (by omega)]
  · rw [if_neg z, if_neg (by omega)]
theorem k_Mo_isGuard {σ : St} {m P : Cs} {p : Int} {R : Int → Int} (hM : MPl P m) (hN : 0 ≤ P 4 0 ∧ P 4 0 ≤ 12) (hp : R32 p) : CtI M_Mo_isGuard [.inr (.inr (1, 0)), .inl p] (MF σ m R) (fun r u => r = (if 0 ≤ p ∧ p < P 4 0 then 1 else 0) ∧ u = MF σ m R) := by
  intro g C F
  have hlv := hM.1
  have he := hM.2.2.1
  refine e_iload_n C d_Mo_isGuard_0 rfl ?_
  refine e_iconst C d_Mo_isGuard_1 ?_
  refine e_aload_n C d_Mo_isGuard_2 rfl ?_
  refine e_geta C fl_Mo_64 (by decide) rfl rfl d_Mo_isGuard_3 ?_
  refine e_aload_n C d_Mo_isGuard_6 rfl ?_
  refine e_geti C fl_Mo_215 (by decide) rfl rfl d_Mo_isGuard_7 (fun r_7 => ?_)
  try simp only [MF_f, he, ne_eq, Nat.reduceEqDiff, not_false_eq_true] at r_7 ⊢
  refine e_iald (n := 2) C (by decide) rfl (by decide) rfl rfl (by decide) (by omega) (by omega) d_Mo_isGuard_10 (fun r_10 => ?_)
  try simp only [MF_f, he, ne_eq, Nat.reduceEqDiff, not_false_eq_true] at r_10 ⊢
  refine e_iconst C d_Mo_isGuard_11 ?_
  refine e_isub C d_Mo_isGuard_12 ?_
  refine e_callIS C ok_Mo_in lk_Mo_302 [_, _, _] rfl rfl (Nat.le_of_ble_eq_true rfl) (by decide) (Nat.le_of_ble_eq_true rfl) d_Mo_isGuard_13 (k_Mo_in hp (by omega) (by omega)) (fun v_13 u_13 q_13 h_13 => ?_)
  obtain ⟨rfl, rfl⟩ := h_13
  refine e_zret C F rfl d_Mo_isGuard_16 (by split <;> omega) ?_
  refine ⟨?_, rfl⟩
  by_cases z : 0 ≤ p ∧ p < P 4 0
  · rw [if_pos z, if_pos (by omega)]
  · rw [if_neg z, if_neg (by omega)]
/-- at which post a guard stands -/
def psf (P y : Cs) (a : Int) : Int := fnd (fun p => y 2 p == a) (P 3 0).toNat 0
theorem l_Mo_postOf {g : Mach} {Q : Int → St → Prop} (C : Cx M_Mo_postOf g) (F : FinI M_Mo_postOf g Q) {σ : St} {m P y : Cs} {R : Int → Int} {a : Int} (hM : MPl P m) (hN : P 3 0 ≤ 8) (hy : RY R y) (ha : 0 ≤ a ∧ a < 12) :
    ∀ (n : Nat) (i : Int), 0 ≤ i → i + n = P 3 0 → Q (fnd (fun p => y 2 p == a) n i) (MF σ m R) → Ev g 2 [some (.inr (.inr (1, 0))), some (.inl a), some (.inl i)] [] (MF σ m R) := by
  have hlv := hM.1
  have he := hM.2.1
  intro n
  induction n with
  | zero =>
    intro i h0 h1 hQ
    refine e_iload_n C d_Mo_postOf_2 rfl ?_
    refine e_aload_n C d_Mo_postOf_3 rfl ?_
    refine e_geta C fl_Mo_49 (by decide) rfl rfl d_Mo_postOf_4 ?_
    refine e_aload_n C d_Mo_postOf_7 rfl ?_
    refine e_geti C fl_Mo_215 (by decide) rfl rfl d_Mo_postOf_8 (fun r_8 => ?_)
    try simp only [MF_f, he, ne_eq, Nat.reduceEqDiff, not_false_eq_true] at r_8 ⊢
    refine e_iald (n := 2) C (by decide) rfl (by decide) rfl rfl (by decide) (by omega) (by omega) d_Mo_postOf_11 (fun r_11 => ?_)
    try simp only [MF_f, he, ne_eq, Nat.reduceEqDiff, not_false_eq_true] at r_11 ⊢
    refine e_icmp_ge C 36 d_Mo_postOf_12 (by decide) (by omega) (by omega) (fun c_12 => ?_) (fun c_12 => ?_)
    · refine e_bipush C d_Mo_postOf_36 (by decide) ?_
      refine e_iret C F rfl d_Mo_postOf_38 (by omega) ?_
      exact hQ
    · exact absurd h1 (by omega)
  | succ n ih =>
    intro i h0 h1 hQ
    have hyi := (hy.1 i h0 (by omega)).2.2.1
    have hem : em (y 2 i) = a ↔ y 2 i = a := by unfold em; split <;> omega
    unfold fnd at hQ
    refine e_iload_n C d_Mo_postOf_2 rfl ?_
    refine e_aload_n C d_Mo_postOf_3 rfl ?_
    refine e_geta C fl_Mo_49 (by decide) rfl rfl d_Mo_postOf_4 ?_
    refine e_aload_n C d_Mo_postOf_7 rfl ?_
    refine e_geti C fl_Mo_215 (by decide) rfl rfl d_Mo_postOf_8 (fun r_8 => ?_)
    try simp only [MF_f, MF_51, he, ne_eq, Nat.reduceEqDiff, not_false_eq_true] at r_8 ⊢
    refine e_iald (n := 2) C (by decide) rfl (by decide) rfl rfl (by decide) (by omega) (by omega) d_Mo_postOf_11 (fun r_11 => ?_)
    try simp only [MF_f, MF_51, he, ne_eq, Nat.reduceEqDiff, not_false_eq_true] at r_11 ⊢
    refine e_icmp_ge C 36 d_Mo_postOf_12 (by decide) (by omega) (by omega) (fun c_12 => ?_) (fun c_12 => ?_)
    · exact absurd h1 (by omega)
    · refine e_aload_n C d_Mo_postOf_15 rfl ?_
      refine e_geta C fl_Mo_119 (by decide) rfl rfl d_Mo_postOf_16 ?_
      refine e_bipush C d_Mo_postOf_19 (by decide) ?_
      refine e_iload_n C d_Mo_postOf_21 rfl ?_
      refine e_iadd C d_Mo_postOf_22 ?_
      refine e_iald (n := 100) C (by decide) rfl (by decide) rfl rfl (by decide) (by omega) (by omega) d_Mo_postOf_23 (fun r_23 => ?_)
      try simp only [MF_f, MF_51, he, ne_eq, Nat.reduceEqDiff, not_false_eq_true] at r_23 ⊢
      rw [hyi] at r_23 ⊢
      refine e_iload_n C d_Mo_postOf_24 rfl ?_
      refine e_icmp_ne C 30 d_Mo_postOf_25 (by decide) (by omega) (by omega) (fun c_25 => ?_) (fun c_25 => ?_)
      · rw [if_neg (fun z => c_25 (hem.mpr (by simpa using z)))] at hQ
        refine e_iinc C d_Mo_postOf_30 rfl (by decide) rfl ?_
        refine e_goto C 2 d_Mo_postOf_33 (by decide) ?_
        exact ih (i + 1) (by omega) (by omega) hQ
      · rw [if_pos (by simpa using hem.mp c_25)] at hQ
        refine e_iload_n C d_Mo_postOf_28 rfl ?_
        refine e_iret C F rfl d_Mo_postOf_29 (by omega) ?_
        exact hQ
theorem k_Mo_postOf {σ : St} {m P y : Cs} {R : Int → Int} {a : Int} (hM : MPl P m) (hN : 0 ≤ P 3 0 ∧ P 3 0 ≤ 8) (hy : RY R y) (ha : 0 ≤ a ∧ a < 12) : CtI M_Mo_postOf [.inr (.inr (1, 0)), .inl a] (MF σ m R) (fun r u => r = psf P y a ∧ u = MF σ m R) := by
  intro g C F
  refine e_iconst C d_Mo_postOf_0 ?_
  refine e_istore_n C d_Mo_postOf_1 (by decide) rfl ?_
  exact l_Mo_postOf C F hM hN.2 hy ha _ 0 (by omega) (by omega) ⟨rfl, rfl⟩
def bdf (y : Cs) (a : Int) : Int := fnd (fun k => y 10 k == a) (y 11 0).toNat 0
theorem l_Mo_placeInBed {g : Mach} {Q : Int → St → Prop} (C : Cx M_Mo_placeInBed g) (F : FinI M_Mo_placeInBed g Q) {σ : St} {m y : Cs} {R : Int → Int} {a : Int} (hl : y 11 0 ≤ 12) (hy : RY R y) (ha : R32 a) :
    ∀ (n : Nat) (i : Int), 0 ≤ i → i + n = y 11 0 → Q (fnd (fun k => y 10 k == a) n i) (MF σ m R) → Ev g 2 [some (.inr (.inr (1, 0))), some (.inl a), some (.inl i)] [] (MF σ m R) := by
  have e96 := hy.2.2.1
  intro n
  induction n with
  | zero =>
    intro i h0 h1 hQ
    refine e_iload_n C d_Mo_placeInBed_2 rfl ?_
    refine e_aload_n C d_Mo_placeInBed_3 rfl ?_
    refine e_geta C fl_Mo_119 (by decide) rfl rfl d_Mo_placeInBed_4 ?_
    refine e_bipush C d_Mo_placeInBed_7 (by decide) ?_
    refine e_iald (n := 100) C (by decide) rfl (by decide) rfl rfl (by decide) (by omega) (by omega) d_Mo_placeInBed_9 (fun r_9 => ?_)
    try simp only [MF_f, MF_51, e96, ne_eq, Nat.reduceEqDiff, not_false_eq_true] at r_9 ⊢
    refine e_icmp_ge C 34 d_Mo_placeInBed_10 (by decide) (by omega) (by omega) (fun c_10 => ?_) (fun c_10 => ?_)
    · refine e_bipush C d_Mo_placeInBed_34 (by decide) ?_
      refine e_iret C F rfl d_Mo_placeInBed_36 (by omega) ?_
      exact hQ
    · exact absurd h1 (by omega)
  | succ n ih =>
    intro i h0 h1 hQ
    have hyi := (hy.2.1 i h0 (by omega)).2.2.2
    unfold fnd at hQ
    refine e_iload_n C d_Mo_placeInBed_2 rfl ?_
    refine e_aload_n C d_Mo_placeInBed_3 rfl ?_
    refine e_geta C fl_Mo_119 (by decide) rfl rfl d_Mo_placeInBed_4 ?_
    refine e_bipush C d_Mo_placeInBed_7 (by decide) ?_
    refine e_iald (n := 100) C (by decide) rfl (by decide) rfl rfl (by decide) (by omega) (by omega) d_Mo_placeInBed_9 (fun r_9 => ?_)
    try simp only [MF_f, MF_51, e96, ne_eq, Nat.reduceEqDiff, not_false_eq_true] at r_9 ⊢
    refine e_icmp_ge C 34 d_Mo_placeInBed_10 (by decide) (by omega) (by omega) (fun c_10 => ?_) (fun c_10 => ?_)
    · exact absurd h1 (by omega)
    · refine e_aload_n C d_Mo_placeInBed_13 rfl ?_
      refine e_geta C fl_Mo_119 (by decide) rfl rfl d_Mo_placeInBed_14 ?_
      refine e_bipush C d_Mo_placeInBed_17 (by decide) ?_
      refine e_iload_n C d_Mo_placeInBed_19 rfl ?_
      refine e_iadd C d_Mo_placeInBed_20 ?_
      refine e_iald (n := 100) C (by decide) rfl (by decide) rfl rfl (by decide) (by omega) (by omega) d_Mo_placeInBed_21 (fun r_21 => ?_)
      try simp only [MF_f, MF_51, e96, ne_eq, Nat.reduceEqDiff, not_false_eq_true] at r_21 ⊢
      rw [hyi] at r_21 ⊢
      refine e_iload_n C d_Mo_placeInBed_22 rfl ?_
      refine e_icmp_ne C 28 d_Mo_placeInBed_23 (by decide) (by omega) (by omega) (fun c_23 => ?_) (fun c_23 => ?_)
      · rw [if_neg (fun z => c_23 (by simpa using z))] at hQ
        refine e_iinc C d_Mo_placeInBed_28 rfl (by decide) rfl ?_
        refine e_goto C 2 d_Mo_placeInBed_31 (by decide) ?_
        exact ih (i + 1) (by omega) (by omega) hQ
      · rw [if_pos (by simpa using c_23)] at hQ
        refine e_iload_n C d_Mo_placeInBed_26 rfl ?_
        refine e_iret C F rfl d_Mo_placeInBed_27 (by omega) ?_
        exact hQ
theorem k_Mo_placeInBed {σ : St} {m y : Cs} {R : Int → Int} {a : Int} (hl : 0 ≤ y 11 0 ∧ y 11 0 ≤ 12) (hy : RY R y) (ha : R32 a) : CtI M_Mo_placeInBed [.inr (.inr (1, 0)), .inl a] (MF σ m R) (fun r u => r = bdf y a ∧ u = MF σ m R) := by
  intro g C F
  refine e_iconst C d_Mo_placeInBed_0 ?_
  refine e_istore_n C d_Mo_placeInBed_1 (by decide) rfl ?_
  exact l_Mo_placeInBed C F hl.2 hy ha _ 0 (by omega) (by omega) ⟨rfl, rfl⟩
theorem l_Mo_emptyOnes {g : Mach} {Q : Int → St → Prop} (C : Cx M_Mo_emptyOnes g) (F : FinI M_Mo_emptyOnes g Q) {σ : St} {m P y : Cs} {R : Int → Int} (hM : MPl P m) (hN : P 3 0 ≤ 8) (hy : RY R y) (h2 : ∀ p, 0 ≤ p → p < P 3 0 → y 2 p = -2 ∨ 0 ≤ y 2 p) :
    ∀ (n : Nat) (i w : Int), 0 ≤ i → i + n = P 3 0 → (0 ≤ w ∧ w ≤ i) → Q (itr (estep y) n i w) (MF σ m R) → Ev g 4 [some (.inr (.inr (1, 0))), some (.inl w), some (.inl i)] [] (MF σ m R) := by
  have hlv := hM.1
  have he := hM.2.1
  intro n
  induction n with
  | zero =>
    intro i w h0 h1 hw hQ
    refine e_iload_n C d_Mo_emptyOnes_4 rfl ?_
    refine e_aload_n C d_Mo_emptyOnes_5 rfl ?_
    refine e_geta C fl_Mo_49 (by decide) rfl rfl d_Mo_emptyOnes_6 ?_
    refine e_aload_n C d_Mo_emptyOnes_9 rfl ?_
    refine e_geti C fl_Mo_215 (by decide) rfl rfl d_Mo_emptyOnes_10 (fun r_10 => ?_)
    try simp only [MF_f, he, ne_eq, Nat.reduceEqDiff, not_false_eq_true] at r_10 ⊢
    refine e_iald (n := 2) C (by decide) rfl (by decide) rfl rfl (by decide) (by omega) (by omega) d_Mo_emptyOnes_13 (fun r_13 => ?_)
    try simp only [MF_f, he, ne_eq, Nat.reduceEqDiff, not_false_eq_true] at r_13 ⊢
    refine e_icmp_ge C 38 d_Mo_emptyOnes_14 (by decide) (by omega) (by omega) (fun c_14 => ?_) (fun c_14 => ?_)
    · refine e_iload_n C d_Mo_emptyOnes_38 rfl ?_
      refine e_iret C F rfl d_Mo_emptyOnes_39 (by omega) ?_
      exact hQ
    · exact absurd h1 (by omega)
  | succ n ih =>
    intro i w h0 h1 hw hQ
    have hyi := (hy.1 i h0 (by omega)).2.2.1
    have hem := em_lt (h2 i h0 (by omega))
    rw [itr_S] at hQ
    unfold estep at hQ
    refine e_iload_n C d_Mo_emptyOnes_4 rfl ?_
    refine e_aload_n C d_Mo_emptyOnes_5 rfl ?_
    refine e_geta C fl_Mo_49 (by decide) rfl rfl d_Mo_emptyOnes_6 ?_
    refine e_aload_n C d_Mo_emptyOnes_9 rfl ?_
    refine e_geti C fl_Mo_215 (by decide) rfl rfl d_Mo_emptyOnes_10 (fun r_10 => ?_)
    try simp only [MF_f, MF_51, he, ne_eq, Nat.reduceEqDiff, not_false_eq_true] at r_10 ⊢
    refine e_iald (n := 2) C (by decide) rfl (by decide) rfl rfl (by decide) (by omega) (by omega) d_Mo_emptyOnes_13 (fun r_13 => ?_)
    try simp only [MF_f, MF_51, he, ne_eq, Nat.reduceEqDiff, not_false_eq_true] at r_13 ⊢
    refine e_icmp_ge C 38 d_Mo_emptyOnes_14 (by decide) (by omega) (by omega) (fun c_14 => ?_) (fun c_14 => ?_)
    · exact absurd h1 (by omega)
    · refine e_aload_n C d_Mo_emptyOnes_17 rfl ?_
      refine e_geta C fl_Mo_119 (by decide) rfl rfl d_Mo_emptyOnes_18 ?_
      refine e_bipush C d_Mo_emptyOnes_21 (by decide) ?_
      refine e_iload_n C d_Mo_emptyOnes_23 rfl ?_
      refine e_iadd C d_Mo_emptyOnes_24 ?_
      refine e_iald (n := 100) C (by decide) rfl (by decide) rfl rfl (by decide) (by omega) (by omega) d_Mo_emptyOnes_25 (fun r_25 => ?_)
      try simp only [MF_f, MF_51, he, ne_eq, Nat.reduceEqDiff, not_false_eq_true] at r_25 ⊢
      rw [hyi] at r_25 ⊢
      refine e_if_ge C 32 d_Mo_emptyOnes_26 (by decide) (by omega) (fun c_26 => ?_) (fun c_26 => ?_)
      · rw [if_neg (by omega), Int.add_zero] at hQ
        refine e_iinc C d_Mo_emptyOnes_32 rfl (by decide) rfl ?_
        refine e_goto C 4 d_Mo_emptyOnes_35 (by decide) ?_
        exact ih (i + 1) _ (by omega) (by omega) (by omega) hQ
      · rw [if_pos (by omega)] at hQ
        refine e_iinc C d_Mo_emptyOnes_29 rfl (by decide) rfl ?_
        refine e_iinc C d_Mo_emptyOnes_32 rfl (by decide) rfl ?_
        refine e_goto C 4 d_Mo_emptyOnes_35 (by decide) ?_
        exact ih (i + 1) _ (by omega) (by omega) (by omega) hQ
theorem k_Mo_emptyOnes {σ : St} {m P y : Cs} {R : Int → Int} (hM : MPl P m) (hN : 0 ≤ P 3 0 ∧ P 3 0 ≤ 8) (hy : RY R y) (h2 : ∀ p, 0 ≤ p → p < P 3 0 → y 2 p = -2 ∨ 0 ≤ y 2 p) : CtI M_Mo_emptyOnes [.inr (.inr (1, 0))] (MF σ m R) (fun r u => r = itr (estep y) (P 3 0).toNat 0 0 ∧ u = MF σ m R) := by
  intro g C F
  refine e_iconst C d_Mo_emptyOnes_0 ?_
  refine e_istore_n C d_Mo_emptyOnes_1 (by decide) rfl ?_
  refine e_iconst C d_Mo_emptyOnes_2 ?_
  refine e_istore_n C d_Mo_emptyOnes_3 (by decide) rfl ?_
  exact l_Mo_emptyOnes C F hM hN.2 hy h2 _ 0 0 (by omega) (by omega) (by omega) ⟨rfl, rfl⟩
theorem l_Mo_sleptOnes {g : Mach} {Q : Int → St → Prop} (C : Cx M_Mo_sleptOnes g) (F : FinI M_Mo_sleptOnes g Q) {σ : St} {m P y : Cs} {R : Int → Int} (hM : MPl P m) (hG : P 4 0 ≤ 12) (hy : RY R y) :
    ∀ (n : Nat) (i w : Int), 0 ≤ i → i + n = P 4 0 → (0 ≤ w ∧ w ≤ i) → Q (itr (gstep P y) n i w) (MF σ m R) → Ev g 4 [some (.inr (.inr (1, 0))), some (.inl w), some (.inl i)] [] (MF σ m R) := by
  have hlv := hM.1
  have he := hM.2.2.1
  have hs := hM.2.2.2
  intro n
  induction n with
  | zero =>
    intro i w h0 h1 hw hQ
    refine e_iload_n C d_Mo_sleptOnes_4 rfl ?_
    refine e_aload_n C d_Mo_sleptOnes_5 rfl ?_
    refine e_geta C fl_Mo_64 (by decide) rfl rfl d_Mo_sleptOnes_6 ?_
    refine e_aload_n C d_Mo_sleptOnes_9 rfl ?_
    refine e_geti C fl_Mo_215 (by decide) rfl rfl d_Mo_sleptOnes_10 (fun r_10 => ?_)
    try simp only [MF_f, he, ne_eq, Nat.reduceEqDiff, not_false_eq_true] at r_10 ⊢
    refine e_iald (n := 2) C (by decide) rfl (by decide) rfl rfl (by decide) (by omega) (by omega) d_Mo_sleptOnes_13 (fun r_13 => ?_)
    try simp only [MF_f, he, ne_eq, Nat.reduceEqDiff, not_false_eq_true] at r_13 ⊢
    refine e_icmp_ge C 47 d_Mo_sleptOnes_14 (by decide) (by omega) (by omega) (fun c_14 => ?_) (fun c_14 => ?_)
    · refine e_iload_n C d_Mo_sleptOnes_47 rfl ?_
      refine e_iret C F rfl d_Mo_sleptOnes_48 (by omega) ?_
      exact hQ
    · exact absurd h1 (by omega)
  | succ n ih =>
    intro i w h0 h1 hw hQ
    have hyi := (hy.2.1 i h0 (by omega)).1
    rw [itr_S] at hQ
    unfold gstep at hQ
    refine e_iload_n C d_Mo_sleptOnes_4 rfl ?_
    refine e_aload_n C d_Mo_sleptOnes_5 rfl ?_
    refine e_geta C fl_Mo_64 (by decide) rfl rfl d_Mo_sleptOnes_6 ?_
    refine e_aload_n C d_Mo_sleptOnes_9 rfl ?_
    refine e_geti C fl_Mo_215 (by decide) rfl rfl d_Mo_sleptOnes_10 (fun r_10 => ?_)
    try simp only [MF_f, MF_51, he, hs, ne_eq, Nat.reduceEqDiff, not_false_eq_true] at r_10 ⊢
    refine e_iald (n := 2) C (by decide) rfl (by decide) rfl rfl (by decide) (by omega) (by omega) d_Mo_sleptOnes_13 (fun r_13 => ?_)
    try simp only [MF_f, MF_51, he, hs, ne_eq, Nat.reduceEqDiff, not_false_eq_true] at r_13 ⊢
    refine e_icmp_ge C 47 d_Mo_sleptOnes_14 (by decide) (by omega) (by omega) (fun c_14 => ?_) (fun c_14 => ?_)
    · exact absurd h1 (by omega)
    · refine e_aload_n C d_Mo_sleptOnes_17 rfl ?_
      refine e_geta C fl_Mo_119 (by decide) rfl rfl d_Mo_sleptOnes_18 ?_
      refine e_bipush C d_Mo_sleptOnes_21 (by decide) ?_
      refine e_iload_n C d_Mo_sleptOnes_23 rfl ?_
      refine e_iadd C d_Mo_sleptOnes_24 ?_
      refine e_iald (n := 100) C (by decide) rfl (by decide) rfl rfl (by decide) (by omega) (by omega) d_Mo_sleptOnes_25 (fun r_25 => ?_)
      try simp only [MF_f, MF_51, he, hs, ne_eq, Nat.reduceEqDiff, not_false_eq_true] at r_25 ⊢
      rw [hyi] at r_25 ⊢
      refine e_aload_n C d_Mo_sleptOnes_26 rfl ?_
      refine e_geta C fl_Mo_76 (by decide) rfl rfl d_Mo_sleptOnes_27 ?_
      refine e_aload_n C d_Mo_sleptOnes_30 rfl ?_
      refine e_geti C fl_Mo_215 (by decide) rfl rfl d_Mo_sleptOnes_31 (fun r_31 => ?_)
      try simp only [MF_f, MF_51, he, hs, ne_eq, Nat.reduceEqDiff, not_false_eq_true] at r_31 ⊢
      refine e_iald (n := 2) C (by decide) rfl (by decide) rfl rfl (by decide) (by omega) (by omega) d_Mo_sleptOnes_34 (fun r_34 => ?_)
      try simp only [MF_f, MF_51, he, hs, ne_eq, Nat.reduceEqDiff, not_false_eq_true] at r_34 ⊢
      refine e_icmp_lt C 41 d_Mo_sleptOnes_35 (by decide) (by omega) (by omega) (fun c_35 => ?_) (fun c_35 => ?_)
      · rw [if_neg (by omega), Int.add_zero] at hQ
        refine e_iinc C d_Mo_sleptOnes_41 rfl (by decide) rfl ?_
        refine e_goto C 4 d_Mo_sleptOnes_44 (by decide) ?_
        exact ih (i + 1) _ (by omega) (by omega) (by omega) hQ
      · rw [if_pos (by omega)] at hQ
        refine e_iinc C d_Mo_sleptOnes_38 rfl (by decide) rfl ?_
        refine e_iinc C d_Mo_sleptOnes_41 rfl (by decide) rfl ?_
        refine e_goto C 4 d_Mo_sleptOnes_44 (by decide) ?_
        exact ih (i + 1) _ (by omega) (by omega) (by omega) hQ
theorem k_Mo_sleptOnes {σ : St} {m P y : Cs} {R : Int → Int} (hM : MPl P m) (hG : 0 ≤ P 4 0 ∧ P 4 0 ≤ 12) (hy : RY R y) : CtI M_Mo_sleptOnes [.inr (.inr (1, 0))] (MF σ m R) (fun r u => r = c_slepts P y ∧ u = MF σ m R) := by
  intro g C F
  refine e_iconst C d_Mo_sleptOnes_0 ?_
  refine e_istore_n C d_Mo_sleptOnes_1 (by decide) rfl ?_
  refine e_iconst C d_Mo_sleptOnes_2 ?_
  refine e_istore_n C d_Mo_sleptOnes_3 (by decide) rfl ?_
  exact l_Mo_sleptOnes C F hM hG.2 hy _ 0 0 (by omega) (by omega) (by omega) ⟨rfl, rfl⟩
theorem l_Mo_sleptBy {g : Mach} {Q : Int → St → Prop} (C : Cx M_Mo_sleptBy g) (F : FinI M_Mo_sleptBy g Q) {σ : St} {m P l : Cs} {φ : Phi} (hPl : PlanOk P l φ) (hM : MPl P m) (hF : FlowC φ P m) :
    ∀ (n : Nat) (i B : Int) (m' y : Cs) (R : Int → Int), MS m m' → RY R y → QY P B y → 0 ≤ B → B + 9 * n < 1900000000 → 0 ≤ i → i + n = 3001 → (∀ R' m'', MS m m'' → Q (if mso φ P n i y = -2 then 5000 else mso φ P n i y) (MF σ m'' R')) → Ev g 2 [some (.inr (.inr (1, 0))), some (.inl i)] [] (MF σ m' R) := by
  have hG := hPl.2.1
  have hlv := hM.1
  intro n
  induction n with
  | zero =>
    intro i B m' y R hm hy hQy hB hb h0 h1 hQ
    refine e_iload_n C d_Mo_sleptBy_2 rfl ?_
    refine e_sipush C d_Mo_sleptBy_3 (by decide) ?_
    refine e_icmp_gt C 37 d_Mo_sleptBy_6 (by decide) (by omega) (by omega) (fun c_6 => ?_) (fun c_6 => ?_)
    · refine e_sipush C d_Mo_sleptBy_37 (by decide) ?_
      refine e_iret C F rfl d_Mo_sleptBy_40 (by omega) ?_
      exact hQ R m' hm
    · exact absurd h1 (by omega)
  | succ n ih =>
    intro i B m' y R hm hy hQy hB hb h0 h1 hQ
    have hM' := hM.same hm.mp
    have hlv' := hM'.1
    have he := hM'.2.2.1
    have hsi := slepts_in (P := P) (c := y) hG.1
    rw [mso_S] at hQ
    refine e_iload_n C d_Mo_sleptBy_2 rfl ?_
    refine e_sipush C d_Mo_sleptBy_3 (by decide) ?_
    refine e_icmp_gt C 37 d_Mo_sleptBy_6 (by decide) (by omega) (by omega) (fun c_6 => ?_) (fun c_6 => ?_)
    · exact absurd h1 (by omega)
    · refine e_aload_n C d_Mo_sleptBy_9 rfl ?_
      refine e_callIV C ok_Mo_sleptOnes lk_Mo_354 (o := 1) (by decide) rfl [] rfl rfl (Nat.le_of_ble_eq_true rfl) (by decide) (Nat.le_of_ble_eq_true rfl) d_Mo_sleptBy_10 (k_Mo_sleptOnes hM' hG hy) (fun v_10 u_10 q_10 h_10 => ?_)
      obtain ⟨rfl, rfl⟩ := h_10
      refine e_aload_n C d_Mo_sleptBy_13 rfl ?_
      refine e_geta C fl_Mo_64 (by decide) rfl rfl d_Mo_sleptBy_14 ?_
      refine e_aload_n C d_Mo_sleptBy_17 rfl ?_
      refine e_geti C fl_Mo_215 (by decide) rfl rfl d_Mo_sleptBy_18 (fun r_18 => ?_)
      try simp only [MF_f, he, ne_eq, Nat.reduceEqDiff, not_false_eq_true] at r_18 ⊢
      refine e_iald (n := 2) C (by decide) rfl (by decide) rfl rfl (by decide) (by omega) (by omega) d_Mo_sleptBy_21 (fun r_21 => ?_)
      try simp only [MF_f, he, ne_eq, Nat.reduceEqDiff, not_false_eq_true] at r_21 ⊢
      refine e_icmp_ne C 27 d_Mo_sleptBy_22 (by decide) (by omega) (by omega) (fun c_22 => ?_) (fun c_22 => ?_)
      · rw [if_neg (show ¬ c_slepts P y = P 4 0 by omega)] at hQ
        refine e_aload_n C d_Mo_sleptBy_27 rfl ?_
        refine e_callVV C ok_Mo_minuteGoes lk_Mo_342 (o := 1) (by decide) rfl [] rfl rfl (Nat.le_of_ble_eq_true rfl) (by decide) (Nat.le_of_ble_eq_true rfl) d_Mo_sleptBy_28 (k_Mo_minuteGoes hPl hM' (hF.same hm.mp) hy hQy (by omega)) (fun u_28 h_28 => ?_)
        obtain ⟨R1, m1, hm1, hy1, rfl⟩ := h_28
        refine e_iinc C d_Mo_sleptBy_31 rfl (by decide) rfl ?_
        refine e_goto C 2 d_Mo_sleptBy_34 (by decide) ?_
        exact ih (i + 1) (B + 9) m1 _ R1 (hm.tr hm1) hy1 (QY_min hQy hB hPl) (by omega) (by omega) (by omega) (by omega) hQ
      · rw [if_pos (show c_slepts P y = P 4 0 by omega), if_neg (by omega)] at hQ
        refine e_iload_n C d_Mo_sleptBy_25 rfl ?_
        refine e_iret C F rfl d_Mo_sleptBy_26 (by omega) ?_
        exact hQ R m' hm
theorem k_Mo_sleptBy {σ : St} {m P l y : Cs} {φ : Phi} {B : Int} {R : Int → Int} (hPl : PlanOk P l φ) (hM : MPl P m) (hF : FlowC φ P m) (hy : RY R y) (hQ : QY P B y) (hB : 0 ≤ B ∧ B < 1800000000) : CtI M_Mo_sleptBy [.inr (.inr (1, 0))] (MF σ m R) (fun r u => r = msb φ P y ∧ ∃ R' m', MS m m' ∧ u = MF σ m' R') := by
  intro g C F
  refine e_iconst C d_Mo_sleptBy_0 ?_
  refine e_istore_n C d_Mo_sleptBy_1 (by decide) rfl ?_
  exact l_Mo_sleptBy C F hPl hM hF 3001 0 B m y R (MS.rf m) hy hQ hB.1 (by omega) (by omega) (by omega) (fun R' m' h => ⟨rfl, R', m', h, rfl⟩)
theorem k_Mo_orNot {σ : St} {v : Int} (hv : R32 v) : CtI M_Mo_orNot [.inl v] σ (fun r u => r = orn v ∧ u = σ) := by
  intro g C F
  refine e_iload_n C d_Mo_orNot_0 rfl ?_
  refine e_sipush C d_Mo_orNot_1 (by decide) ?_
  refine e_icmp_ne C 12 d_Mo_orNot_4 (by decide) (by omega) (by omega) (fun c_4 => ?_) (fun c_4 => ?_)
  · refine e_iload_n C d_Mo_orNot_12 rfl ?_
    refine e_iret C F rfl d_Mo_orNot_13 (by omega) ?_
    refine ⟨?_, rfl⟩
    unfold orn
    first | rw [if_pos (by omega)] | rw [if_neg (by omega)]
  · refine e_bipush C d_Mo_orNot_7 (by decide) ?_
    refine e_goto C 13 d_Mo_orNot_9 (by decide) ?_
    refine e_iret C F rfl d_Mo_orNot_13 (by omega) ?_
    refine ⟨?_, rfl⟩
    unfold orn
    first | rw [if_pos (by omega)] | rw [if_neg (by omega)]
