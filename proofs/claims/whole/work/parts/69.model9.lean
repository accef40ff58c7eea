/-! the reference's calls: pinches that rest; what is told, held, fed, counted -/
theorem l_Mo_isAllowed {g : Mach} {Q : Int → St → Prop} (C : Cx M_Mo_isAllowed g) (F : FinI M_Mo_isAllowed g Q) {σ : St} {m P y : Cs} {R : Int → Int} {s : Int} (hM : MPl P m) (hN : 0 ≤ P 3 0 ∧ P 3 0 ≤ 8) (hy : RY (m 50) y) (h2 : ∀ p, 0 ≤ p → p < P 3 0 → y 2 p = -2 ∨ 0 ≤ y 2 p) :
    ∀ (n : Nat) (i : Int), 0 ≤ i → i + n = P 3 0 → Q (if allb (fun p => !(bt s p.toNat && y 2 p == -2)) n i = true then 1 else 0) (MF σ m R) → Ev g 2 [some (.inr (.inr (1, 0))), some (.inl s), some (.inl i)] [] (MF σ m R) := by
  have hlv := hM.1
  have he := hM.2.1
  intro n
  induction n with
  | zero =>
    intro i h0 h1 hQ
    refine e_iload_n C d_Mo_isAllowed_2 rfl ?_
    refine e_aload_n C d_Mo_isAllowed_3 rfl ?_
    refine e_geta C fl_Mo_49 (by decide) rfl rfl d_Mo_isAllowed_4 ?_
    refine e_aload_n C d_Mo_isAllowed_7 rfl ?_
    refine e_geti C fl_Mo_215 (by decide) rfl rfl d_Mo_isAllowed_8 (fun r_8 => ?_)
    try simp only [MF_f, he, ne_eq, Nat.reduceEqDiff, not_false_eq_true] at r_8 ⊢
    refine e_iald (n := 2) C (by decide) rfl (by decide) rfl rfl (by decide) (by omega) (by omega) d_Mo_isAllowed_11 (fun r_11 => ?_)
    try simp only [MF_f, he, ne_eq, Nat.reduceEqDiff, not_false_eq_true] at r_11 ⊢
    refine e_icmp_ge C 44 d_Mo_isAllowed_12 (by decide) (by omega) (by omega) (fun c_12 => ?_) (fun c_12 => ?_)
    · refine e_iconst C d_Mo_isAllowed_44 ?_
      refine e_zret C F rfl d_Mo_isAllowed_45 (by omega) ?_
      exact hQ
    · exact absurd h1 (by omega)
  | succ n ih =>
    intro i h0 h1 hQ
    have hyi := (hy.1 i h0 (by omega)).2.2.1
    have hem := em_lt (h2 i h0 (by omega))
    have hbit := bit_is (x := s) (p := i) (by omega)
    rw [allb_S] at hQ
    refine e_iload_n C d_Mo_isAllowed_2 rfl ?_
    refine e_aload_n C d_Mo_isAllowed_3 rfl ?_
    refine e_geta C fl_Mo_49 (by decide) rfl rfl d_Mo_isAllowed_4 ?_
    refine e_aload_n C d_Mo_isAllowed_7 rfl ?_
    refine e_geti C fl_Mo_215 (by decide) rfl rfl d_Mo_isAllowed_8 (fun r_8 => ?_)
    try simp only [MF_f, MF_51, he, ne_eq, Nat.reduceEqDiff, not_false_eq_true] at r_8 ⊢
    refine e_iald (n := 2) C (by decide) rfl (by decide) rfl rfl (by decide) (by omega) (by omega) d_Mo_isAllowed_11 (fun r_11 => ?_)
    try simp only [MF_f, MF_51, he, ne_eq, Nat.reduceEqDiff, not_false_eq_true] at r_11 ⊢
    refine e_icmp_ge C 44 d_Mo_isAllowed_12 (by decide) (by omega) (by omega) (fun c_12 => ?_) (fun c_12 => ?_)
    · exact absurd h1 (by omega)
    · refine e_iload_n C d_Mo_isAllowed_15 rfl ?_
      refine e_iload_n C d_Mo_isAllowed_16 rfl ?_
      refine e_ishr C d_Mo_isAllowed_17 ?_
      refine e_iconst C d_Mo_isAllowed_18 ?_
      refine e_iand C d_Mo_isAllowed_19 ?_
      rw [hbit]
      refine e_iconst C d_Mo_isAllowed_20 ?_
      refine e_icmp_ne C 38 d_Mo_isAllowed_21 (by decide) (by split <;> omega) (by omega) (fun c_21 => ?_) (fun c_21 => ?_)
      · have hb : bt s i.toNat = false := by
          cases hb : bt s i.toNat with
          | false => rfl
          | true => rw [if_pos hb] at c_21; exact absurd rfl c_21
        rw [hb] at hQ
        simp only [Bool.false_and, Bool.not_false, Bool.true_and] at hQ
        refine e_iinc C d_Mo_isAllowed_38 rfl (by decide) rfl ?_
        refine e_goto C 2 d_Mo_isAllowed_41 (by decide) ?_
        exact ih (i + 1) (by omega) (by omega) hQ
      · have hb : bt s i.toNat = true := Decidable.byContradiction fun z => by rw [if_neg z] at c_21; omega
        rw [hb] at hQ
        simp only [Bool.true_and] at hQ
        refine e_aload_n C d_Mo_isAllowed_24 rfl ?_
        refine e_geta C fl_Mo_116 (by decide) rfl rfl d_Mo_isAllowed_25 ?_
        refine e_bipush C d_Mo_isAllowed_28 (by decide) ?_
        refine e_iload_n C d_Mo_isAllowed_30 rfl ?_
        refine e_iadd C d_Mo_isAllowed_31 ?_
        refine e_iald (n := 100) C (by decide) rfl (by decide) rfl rfl (by decide) (by omega) (by omega) d_Mo_isAllowed_32 (fun r_32 => ?_)
        try simp only [MF_f, MF_51, he, ne_eq, Nat.reduceEqDiff, not_false_eq_true] at r_32 ⊢
        rw [hyi] at r_32 ⊢
        refine e_if_ge C 38 d_Mo_isAllowed_33 (by decide) (by omega) (fun c_33 => ?_) (fun c_33 => ?_)
        · rw [show (y 2 i == -2) = false by simp; omega] at hQ
          simp only [Bool.not_false, Bool.true_and] at hQ
          refine e_iinc C d_Mo_isAllowed_38 rfl (by decide) rfl ?_
          refine e_goto C 2 d_Mo_isAllowed_41 (by decide) ?_
          exact ih (i + 1) (by omega) (by omega) hQ
        · rw [if_neg (by simp; omega)] at hQ
          refine e_iconst C d_Mo_isAllowed_36 ?_
          refine e_zret C F rfl d_Mo_isAllowed_37 (by omega) ?_
          exact hQ
theorem k_Mo_isAllowed {σ : St} {m P y : Cs} {R : Int → Int} {s : Int} (hM : MPl P m) (hN : 0 ≤ P 3 0 ∧ P 3 0 ≤ 8) (hy : RY (m 50) y) (h2 : ∀ p, 0 ≤ p → p < P 3 0 → y 2 p = -2 ∨ 0 ≤ y 2 p) : CtI M_Mo_isAllowed [.inr (.inr (1, 0)), .inl s] (MF σ m R) (fun r u => r = (if alw y (P 3 0) s = true then 1 else 0) ∧ u = MF σ m R) := by
  intro g C F
  refine e_iconst C d_Mo_isAllowed_0 ?_
  refine e_istore_n C d_Mo_isAllowed_1 (by decide) rfl ?_
  exact l_Mo_isAllowed C F hM hN hy h2 _ 0 (by omega) (by omega) ⟨rfl, rfl⟩
/-- what the reference notes of each set -/
def TBm (φ : Phi) (P y : Cs) (u : Int) (n : Nat) (s0 : Int) (m : Cs) : Prop := ∀ s, 0 ≤ s → s < s0 → alw y (P 3 0) s = true → ∀ a, 0 ≤ a → a < 12 → m 54 (12 * s + a) = aft φ P y u n s 7 a
theorem l_Mo_isResting {g : Mach} {Q : Int → St → Prop} (C : Cx M_Mo_isResting g) (F : FinI M_Mo_isResting g Q) {σ : St} {m P y : Cs} {φ : Phi} {R : Int → Int} {u s : Int} {k : Nat} (hM : MPl P m) (hN : 0 ≤ P 3 0 ∧ P 3 0 ≤ 8) (hy : RY (m 50) y) (h2 : ∀ p, 0 ≤ p → p < P 3 0 → y 2 p = -2 ∨ (0 ≤ y 2 p ∧ y 2 p < 12)) (hT : TBm φ P y u k (z_ishl 1 (P 3 0)) m) (hs : 0 ≤ s ∧ s < z_ishl 1 (P 3 0)) (ha : alw y (P 3 0) s = true) :
    ∀ (n : Nat) (i : Int), 0 ≤ i → i + n = P 3 0 → Q (if allb (fun p => (y 2 p == -2) || decide (aft φ P y u k (z_ixor s (z_ishl 1 p)) 7 (y 2 p) ≤ aft φ P y u k s 7 (y 2 p))) n i = true then 1 else 0) (MF σ m R) → Ev g 2 [some (.inr (.inr (1, 0))), some (.inl s), some (.inl i), none] [] (MF σ m R) := by
  have hlv := hM.1
  have he := hM.2.1
  have hsi := sh_in (p := P 3 0) (by omega)
  intro n
  induction n with
  | zero =>
    intro i h0 h1 hQ
    refine e_iload_n C d_Mo_isResting_2 rfl ?_
    refine e_aload_n C d_Mo_isResting_3 rfl ?_
    refine e_geta C fl_Mo_49 (by decide) rfl rfl d_Mo_isResting_4 ?_
    refine e_aload_n C d_Mo_isResting_7 rfl ?_
    refine e_geti C fl_Mo_215 (by decide) rfl rfl d_Mo_isResting_8 (fun r_8 => ?_)
    try simp only [MF_f, he, ne_eq, Nat.reduceEqDiff, not_false_eq_true] at r_8 ⊢
    refine e_iald (n := 2) C (by decide) rfl (by decide) rfl rfl (by decide) (by omega) (by omega) d_Mo_isResting_11 (fun r_11 => ?_)
    try simp only [MF_f, he, ne_eq, Nat.reduceEqDiff, not_false_eq_true] at r_11 ⊢
    refine e_icmp_ge C 66 d_Mo_isResting_12 (by decide) (by omega) (by omega) (fun c_12 => ?_) (fun c_12 => ?_)
    · refine e_iconst C d_Mo_isResting_66 ?_
      refine e_zret C F rfl d_Mo_isResting_67 (by omega) ?_
      exact hQ
    · exact absurd h1 (by omega)
  | succ n ih =>
    intro i h0 h1 hQ
    have hyi := (hy.1 i h0 (by omega)).2.2.1
    have h2i := h2 i h0 (by omega)
    have hem := em_lt (v := y 2 i) (by omega)
    have hx := xor_lim hN hs.1 hs.2 (p := i) (by omega)
    rw [allb_S] at hQ
    refine e_iload_n C d_Mo_isResting_2 rfl ?_
    refine e_aload_n C d_Mo_isResting_3 rfl ?_
    refine e_geta C fl_Mo_49 (by decide) rfl rfl d_Mo_isResting_4 ?_
    refine e_aload_n C d_Mo_isResting_7 rfl ?_
    refine e_geti C fl_Mo_215 (by decide) rfl rfl d_Mo_isResting_8 (fun r_8 => ?_)
    try simp only [MF_f, MF_51, he, ne_eq, Nat.reduceEqDiff, not_false_eq_true] at r_8 ⊢
    refine e_iald (n := 2) C (by decide) rfl (by decide) rfl rfl (by decide) (by omega) (by omega) d_Mo_isResting_11 (fun r_11 => ?_)
    try simp only [MF_f, MF_51, he, ne_eq, Nat.reduceEqDiff, not_false_eq_true] at r_11 ⊢
    refine e_icmp_ge C 66 d_Mo_isResting_12 (by decide) (by omega) (by omega) (fun c_12 => ?_) (fun c_12 => ?_)
    · exact absurd h1 (by omega)
    · refine e_aload_n C d_Mo_isResting_15 rfl ?_
      refine e_geta C fl_Mo_116 (by decide) rfl rfl d_Mo_isResting_16 ?_
      refine e_bipush C d_Mo_isResting_19 (by decide) ?_
      refine e_iload_n C d_Mo_isResting_21 rfl ?_
      refine e_iadd C d_Mo_isResting_22 ?_
      refine e_iald (n := 100) C (by decide) rfl (by decide) rfl rfl (by decide) (by omega) (by omega) d_Mo_isResting_23 (fun r_23 => ?_)
      try simp only [MF_f, MF_51, he, ne_eq, Nat.reduceEqDiff, not_false_eq_true] at r_23 ⊢
      rw [hyi] at r_23 ⊢
      refine e_istore_n C d_Mo_isResting_24 (by decide) rfl ?_
      refine e_iload_n C d_Mo_isResting_25 rfl ?_
      refine e_if_lt C 60 d_Mo_isResting_26 (by decide) (by omega) (fun c_26 => ?_) (fun c_26 => ?_)
      · rw [show (y 2 i == -2) = true by simp; omega] at hQ
        simp only [Bool.true_or, Bool.true_and] at hQ
        refine e_iinc C d_Mo_isResting_60 rfl (by decide) rfl ?_
        refine e_goto C 2 d_Mo_isResting_63 (by decide) ?_
        exact e_drop 3 (ih (i + 1) (by omega) (by omega) hQ)
      · have hy2 : y 2 i ≠ -2 := by omega
        rw [em_id hy2]
        rw [show (y 2 i == -2) = false by simp; omega] at hQ
        simp only [Bool.false_or] at hQ
        have t1 := hT _ hx.1 hx.2 (alw_xor hN (p := i) (by omega) ha hy2) (y 2 i) (by omega) (by omega)
        have t2 := hT s hs.1 hs.2 ha (y 2 i) (by omega) (by omega)
        refine e_aload_n C d_Mo_isResting_29 rfl ?_
        refine e_geta C fl_Mo_125 (by decide) rfl rfl d_Mo_isResting_30 ?_
        refine e_bipush C d_Mo_isResting_33 (by decide) ?_
        refine e_iload_n C d_Mo_isResting_35 rfl ?_
        refine e_iconst C d_Mo_isResting_36 ?_
        refine e_iload_n C d_Mo_isResting_37 rfl ?_
        refine e_ishl C d_Mo_isResting_38 ?_
        refine e_ixor C d_Mo_isResting_39 ?_
        refine e_imul C d_Mo_isResting_40 ?_
        refine e_iload_n C d_Mo_isResting_41 rfl ?_
        refine e_iadd C d_Mo_isResting_42 ?_
        refine e_iald (n := 3072) C (by decide) rfl (by decide) rfl rfl (by decide) (by omega) (by omega) d_Mo_isResting_43 (fun r_43 => ?_)
        try simp only [MF_f, MF_51, he, ne_eq, Nat.reduceEqDiff, not_false_eq_true] at r_43 ⊢
        rw [t1] at r_43 ⊢
        refine e_aload_n C d_Mo_isResting_44 rfl ?_
        refine e_geta C fl_Mo_125 (by decide) rfl rfl d_Mo_isResting_45 ?_
        refine e_bipush C d_Mo_isResting_48 (by decide) ?_
        refine e_iload_n C d_Mo_isResting_50 rfl ?_
        refine e_imul C d_Mo_isResting_51 ?_
        refine e_iload_n C d_Mo_isResting_52 rfl ?_
        refine e_iadd C d_Mo_isResting_53 ?_
        refine e_iald (n := 3072) C (by decide) rfl (by decide) rfl rfl (by decide) (by omega) (by omega) d_Mo_isResting_54 (fun r_54 => ?_)
        try simp only [MF_f, MF_51, he, ne_eq, Nat.reduceEqDiff, not_false_eq_true] at r_54 ⊢
        rw [t2] at r_54 ⊢
        refine e_icmp_le C 60 d_Mo_isResting_55 (by decide) (by omega) (by omega) (fun c_55 => ?_) (fun c_55 => ?_)
        · rw [show decide (aft φ P y u k (z_ixor s (z_ishl 1 i)) 7 (y 2 i) ≤ aft φ P y u k s 7 (y 2 i)) = true by simp; omega] at hQ
          simp only [Bool.true_and] at hQ
          refine e_iinc C d_Mo_isResting_60 rfl (by decide) rfl ?_
          refine e_goto C 2 d_Mo_isResting_63 (by decide) ?_
          exact e_drop 3 (ih (i + 1) (by omega) (by omega) hQ)
        · rw [if_neg (by simp; omega)] at hQ
          refine e_iconst C d_Mo_isResting_58 ?_
          refine e_zret C F rfl d_Mo_isResting_59 (by omega) ?_
          exact hQ
theorem k_Mo_isResting {σ : St} {m P y : Cs} {φ : Phi} {R : Int → Int} {u s : Int} {k : Nat} (hM : MPl P m) (hN : 0 ≤ P 3 0 ∧ P 3 0 ≤ 8) (hy : RY (m 50) y) (h2 : ∀ p, 0 ≤ p → p < P 3 0 → y 2 p = -2 ∨ (0 ≤ y 2 p ∧ y 2 p < 12)) (hT : TBm φ P y u k (z_ishl 1 (P 3 0)) m) (hs : 0 ≤ s ∧ s < z_ishl 1 (P 3 0)) (ha : alw y (P 3 0) s = true) : CtI M_Mo_isResting [.inr (.inr (1, 0)), .inl s] (MF σ m R) (fun r v => r = (if rst φ P y u k s = true then 1 else 0) ∧ v = MF σ m R) := by
  intro g C F
  refine e_iconst C d_Mo_isResting_0 ?_
  refine e_istore_n C d_Mo_isResting_1 (by decide) rfl ?_
  exact l_Mo_isResting C F hM hN hy h2 hT hs ha _ 0 (by omega) (by omega) ⟨rfl, rfl⟩
/-- pinches are put -/
theorem l_Mo_fills2 {g : Mach} (C : Cx M_Mo_fillsPinches g) {σ : St} {m P : Cs} {u k s : Int} (hM : MPl P m) (hN : 0 ≤ P 3 0 ∧ P 3 0 ≤ 8) (hu : 1 ≤ u ∧ u ≤ 99) :
    ∀ (n : Nat) (i : Int) (y : Cs) (R : Int → Int), RY R y → 0 ≤ i → i + n = P 3 0 → (∀ q, 0 ≤ q → q < P 3 0 → 0 ≤ y 0 q ∧ y 0 q ≤ 1000000000 + 100 * i) → (∀ R', RY R' (itr (pst (P 3 0) s u) n i y) → Ev g 156 [some (.inr (.inr (1, 0))), some (.inl u), some (.inl k), some (.inl s), none, none, none] [] (MF σ m R')) → Ev g 35 [some (.inr (.inr (1, 0))), some (.inl u), some (.inl k), some (.inl s), some (.inl i), none, none] [] (MF σ m R) := by
  have hlv := hM.1
  have he := hM.2.1
  intro n
  induction n with
  | zero =>
    intro i y R hy h0 h1 hb hQ
    refine e_iload C d_Mo_fillsPinches_35 rfl ?_
    refine e_aload_n C d_Mo_fillsPinches_37 rfl ?_
    refine e_geta C fl_Mo_49 (by decide) rfl rfl d_Mo_fillsPinches_38 ?_
    refine e_aload_n C d_Mo_fillsPinches_41 rfl ?_
    refine e_geti C fl_Mo_215 (by decide) rfl rfl d_Mo_fillsPinches_42 (fun r_42 => ?_)
    try simp only [MF_f, he, ne_eq, Nat.reduceEqDiff, not_false_eq_true] at r_42 ⊢
    refine e_iald (n := 2) C (by decide) rfl (by decide) rfl rfl (by decide) (by omega) (by omega) d_Mo_fillsPinches_45 (fun r_45 => ?_)
    try simp only [MF_f, he, ne_eq, Nat.reduceEqDiff, not_false_eq_true] at r_45 ⊢
    refine e_icmp_ge C 156 d_Mo_fillsPinches_46 (by decide) (by omega) (by omega) (fun c_46 => ?_) (fun c_46 => ?_)
    · exact e_drop 4 (hQ R hy)
    · exact absurd h1 (by omega)
  | succ n ih =>
    intro i y R hy h0 h1 hb hQ
    have hbit := bit_is (x := s) (p := i) (by omega)
    rw [itr_S] at hQ
    have hst : ∀ t, t = (if i + 1 = P 3 0 then 0 else i + 1) → bt s i.toNat = true → pst (P 3 0) s u i y = cu y 0 t (min (y 0 t + u) (max (y 0 t) 9999)) := fun t e z => by
      unfold pst
      rw [if_pos z, ← e]
      congr 1
      omega
    refine e_iload C d_Mo_fillsPinches_35 rfl ?_
    refine e_aload_n C d_Mo_fillsPinches_37 rfl ?_
    refine e_geta C fl_Mo_49 (by decide) rfl rfl d_Mo_fillsPinches_38 ?_
    refine e_aload_n C d_Mo_fillsPinches_41 rfl ?_
    refine e_geti C fl_Mo_215 (by decide) rfl rfl d_Mo_fillsPinches_42 (fun r_42 => ?_)
    try simp only [MF_f, MF_51, he, so_at, so_so, wr_so, lnm_s, lnm_cu, ne_eq, Nat.reduceEqDiff, not_false_eq_true] at r_42 ⊢
    refine e_iald (n := 2) C (by decide) rfl (by decide) rfl rfl (by decide) (by omega) (by omega) d_Mo_fillsPinches_45 (fun r_45 => ?_)
    try simp only [MF_f, MF_51, he, so_at, so_so, wr_so, lnm_s, lnm_cu, ne_eq, Nat.reduceEqDiff, not_false_eq_true] at r_45 ⊢
    refine e_icmp_ge C 156 d_Mo_fillsPinches_46 (by decide) (by omega) (by omega) (fun c_46 => ?_) (fun c_46 => ?_)
    · exact absurd h1 (by omega)
    · refine e_iload_n C d_Mo_fillsPinches_49 rfl ?_
      refine e_iload C d_Mo_fillsPinches_50 rfl ?_
      refine e_ishr C d_Mo_fillsPinches_52 ?_
      refine e_iconst C d_Mo_fillsPinches_53 ?_
      refine e_iand C d_Mo_fillsPinches_54 ?_
      rw [hbit]
      refine e_if_ne C 61 d_Mo_fillsPinches_55 (by decide) (by split <;> omega) (fun c_55 => ?_) (fun c_55 => ?_)
      · have hz : bt s i.toNat = true := Decidable.byContradiction fun z => c_55 (by rw [if_neg z])
        refine e_iload C d_Mo_fillsPinches_61 rfl ?_
        refine e_aload_n C d_Mo_fillsPinches_63 rfl ?_
        refine e_geta C fl_Mo_49 (by decide) rfl rfl d_Mo_fillsPinches_64 ?_
        refine e_aload_n C d_Mo_fillsPinches_67 rfl ?_
        refine e_geti C fl_Mo_215 (by decide) rfl rfl d_Mo_fillsPinches_68 (fun r_68 => ?_)
        try simp only [MF_f, MF_51, he, so_at, so_so, wr_so, lnm_s, lnm_cu, ne_eq, Nat.reduceEqDiff, not_false_eq_true] at r_68 ⊢
        refine e_iald (n := 2) C (by decide) rfl (by decide) rfl rfl (by decide) (by omega) (by omega) d_Mo_fillsPinches_71 (fun r_71 => ?_)
        try simp only [MF_f, MF_51, he, so_at, so_so, wr_so, lnm_s, lnm_cu, ne_eq, Nat.reduceEqDiff, not_false_eq_true] at r_71 ⊢
        refine e_iconst C d_Mo_fillsPinches_72 ?_
        refine e_isub C d_Mo_fillsPinches_73 ?_
        refine e_icmp_ne C 81 d_Mo_fillsPinches_74 (by decide) (by omega) (by omega) (fun c_74 => ?_) (fun c_74 => ?_)
        · refine e_iload C d_Mo_fillsPinches_81 rfl ?_
          refine e_iconst C d_Mo_fillsPinches_83 ?_
          refine e_iadd C d_Mo_fillsPinches_84 ?_
          obtain ⟨t, ht⟩ : ∃ t, t = (if i + 1 = P 3 0 then 0 else i + 1) := ⟨_, rfl⟩
          have htt : 0 ≤ t ∧ t < P 3 0 := by rw [ht]; split <;> omega
          refine e_topi (y := t) (by congr 1; rw [ht]; split <;> omega) ?_
          rw [hst t ht hz] at hQ
          have hyt := (hy.1 t htt.1 (by omega)).1
          have hbt := hb t htt.1 htt.2
          have fin : ∀ v, v = min (y 0 t + u) (max (y 0 t) 9999) → Ev g 150 [some (.inr (.inr (1, 0))), some (.inl u), some (.inl k), some (.inl s), some (.inl i), none, none] [] (MF σ m (ua R t v)) := by
            intro v hv
            have hy1 := RY_0 hy (q := t) (v := v) (by omega)
            refine e_iinc C d_Mo_fillsPinches_150 rfl (by decide) rfl ?_
            refine e_goto C 35 d_Mo_fillsPinches_153 (by decide) ?_
            refine ih (i + 1) (cu y 0 t v) _ hy1 (by omega) (by omega) (fun q a b => ?_) (by rw [hv]; exact hQ)
            have := hb q a b
            rw [cu_if]
            split <;> omega
          refine e_istore C d_Mo_fillsPinches_85 (by decide) rfl ?_
          refine e_aload_n C d_Mo_fillsPinches_87 rfl ?_
          refine e_geta C fl_Mo_119 (by decide) rfl rfl d_Mo_fillsPinches_88 ?_
          refine e_iload C d_Mo_fillsPinches_91 rfl ?_
          refine e_iald (n := 100) C (by decide) rfl (by decide) rfl rfl (by decide) (by omega) (by omega) d_Mo_fillsPinches_93 (fun r_93 => ?_)
          try simp only [MF_f, MF_51, he, hyt, so_at, so_so, wr_so, lnm_s, lnm_cu, ne_eq, Nat.reduceEqDiff, not_false_eq_true] at r_93 ⊢
          refine e_sipush C d_Mo_fillsPinches_94 (by decide) ?_
          refine e_icmp_le C 110 d_Mo_fillsPinches_97 (by decide) (by omega) (by omega) (fun c_97 => ?_) (fun c_97 => ?_)
          · refine e_sipush C d_Mo_fillsPinches_110 (by decide) ?_
            refine e_istore C d_Mo_fillsPinches_113 (by decide) rfl ?_
            refine e_aload_n C d_Mo_fillsPinches_115 rfl ?_
            refine e_geta C fl_Mo_119 (by decide) rfl rfl d_Mo_fillsPinches_116 ?_
            refine e_iload C d_Mo_fillsPinches_119 rfl ?_
            refine e_aload_n C d_Mo_fillsPinches_121 rfl ?_
            refine e_geta C fl_Mo_119 (by decide) rfl rfl d_Mo_fillsPinches_122 ?_
            refine e_iload C d_Mo_fillsPinches_125 rfl ?_
            refine e_iald (n := 100) C (by decide) rfl (by decide) rfl rfl (by decide) (by omega) (by omega) d_Mo_fillsPinches_127 (fun r_127 => ?_)
            try simp only [MF_f, MF_51, he, hyt, so_at, so_so, wr_so, lnm_s, lnm_cu, ne_eq, Nat.reduceEqDiff, not_false_eq_true] at r_127 ⊢
            refine e_iload_n C d_Mo_fillsPinches_128 rfl ?_
            refine e_iadd C d_Mo_fillsPinches_129 ?_
            refine e_iload C d_Mo_fillsPinches_130 rfl ?_
            refine e_icmp_le C 140 d_Mo_fillsPinches_132 (by decide) (by omega) (by omega) (fun c_132 => ?_) (fun c_132 => ?_)
            · refine e_aload_n C d_Mo_fillsPinches_140 rfl ?_
              refine e_geta C fl_Mo_119 (by decide) rfl rfl d_Mo_fillsPinches_141 ?_
              refine e_iload C d_Mo_fillsPinches_144 rfl ?_
              refine e_iald (n := 100) C (by decide) rfl (by decide) rfl rfl (by decide) (by omega) (by omega) d_Mo_fillsPinches_146 (fun r_146 => ?_)
              try simp only [MF_f, MF_51, he, hyt, so_at, so_so, wr_so, lnm_s, lnm_cu, ne_eq, Nat.reduceEqDiff, not_false_eq_true] at r_146 ⊢
              refine e_iload_n C d_Mo_fillsPinches_147 rfl ?_
              refine e_iadd C d_Mo_fillsPinches_148 ?_
              refine e_iast (n := 100) C (by decide) rfl (by decide) rfl rfl (by decide) (by omega) (by omega) (by omega) d_Mo_fillsPinches_149 ?_
              try simp only [MF_f, MF_51, he, hyt, so_at, so_so, wr_so, lnm_s, lnm_cu, ne_eq, Nat.reduceEqDiff, not_false_eq_true]
              exact e_drop 5 (e_drop 6 (fin _ (by omega)))
            · refine e_iload C d_Mo_fillsPinches_135 rfl ?_
              refine e_goto C 149 d_Mo_fillsPinches_137 (by decide) ?_
              refine e_iast (n := 100) C (by decide) rfl (by decide) rfl rfl (by decide) (by omega) (by omega) (by omega) d_Mo_fillsPinches_149 ?_
              try simp only [MF_f, MF_51, he, hyt, so_at, so_so, wr_so, lnm_s, lnm_cu, ne_eq, Nat.reduceEqDiff, not_false_eq_true]
              exact e_drop 5 (e_drop 6 (fin _ (by omega)))
          · refine e_aload_n C d_Mo_fillsPinches_100 rfl ?_
            refine e_geta C fl_Mo_119 (by decide) rfl rfl d_Mo_fillsPinches_101 ?_
            refine e_iload C d_Mo_fillsPinches_104 rfl ?_
            refine e_iald (n := 100) C (by decide) rfl (by decide) rfl rfl (by decide) (by omega) (by omega) d_Mo_fillsPinches_106 (fun r_106 => ?_)
            try simp only [MF_f, MF_51, he, hyt, so_at, so_so, wr_so, lnm_s, lnm_cu, ne_eq, Nat.reduceEqDiff, not_false_eq_true] at r_106 ⊢
            refine e_goto C 113 d_Mo_fillsPinches_107 (by decide) ?_
            refine e_istore C d_Mo_fillsPinches_113 (by decide) rfl ?_
            refine e_aload_n C d_Mo_fillsPinches_115 rfl ?_
            refine e_geta C fl_Mo_119 (by decide) rfl rfl d_Mo_fillsPinches_116 ?_
            refine e_iload C d_Mo_fillsPinches_119 rfl ?_
            refine e_aload_n C d_Mo_fillsPinches_121 rfl ?_
            refine e_geta C fl_Mo_119 (by decide) rfl rfl d_Mo_fillsPinches_122 ?_
            refine e_iload C d_Mo_fillsPinches_125 rfl ?_
            refine e_iald (n := 100) C (by decide) rfl (by decide) rfl rfl (by decide) (by omega) (by omega) d_Mo_fillsPinches_127 (fun r_127 => ?_)
            try simp only [MF_f, MF_51, he, hyt, so_at, so_so, wr_so, lnm_s, lnm_cu, ne_eq, Nat.reduceEqDiff, not_false_eq_true] at r_127 ⊢
            refine e_iload_n C d_Mo_fillsPinches_128 rfl ?_
            refine e_iadd C d_Mo_fillsPinches_129 ?_
            refine e_iload C d_Mo_fillsPinches_130 rfl ?_
            refine e_icmp_le C 140 d_Mo_fillsPinches_132 (by decide) (by omega) (by omega) (fun c_132 => ?_) (fun c_132 => ?_)
            · refine e_aload_n C d_Mo_fillsPinches_140 rfl ?_
              refine e_geta C fl_Mo_119 (by decide) rfl rfl d_Mo_fillsPinches_141 ?_
              refine e_iload C d_Mo_fillsPinches_144 rfl ?_
              refine e_iald (n := 100) C (by decide) rfl (by decide) rfl rfl (by decide) (by omega) (by omega) d_Mo_fillsPinches_146 (fun r_146 => ?_)
              try simp only [MF_f, MF_51, he, hyt, so_at, so_so, wr_so, lnm_s, lnm_cu, ne_eq, Nat.reduceEqDiff, not_false_eq_true] at r_146 ⊢
              refine e_iload_n C d_Mo_fillsPinches_147 rfl ?_
              refine e_iadd C d_Mo_fillsPinches_148 ?_
              refine e_iast (n := 100) C (by decide) rfl (by decide) rfl rfl (by decide) (by omega) (by omega) (by omega) d_Mo_fillsPinches_149 ?_
              try simp only [MF_f, MF_51, he, hyt, so_at, so_so, wr_so, lnm_s, lnm_cu, ne_eq, Nat.reduceEqDiff, not_false_eq_true]
              exact e_drop 5 (e_drop 6 (fin _ (by omega)))
            · refine e_iload C d_Mo_fillsPinches_135 rfl ?_
              refine e_goto C 149 d_Mo_fillsPinches_137 (by decide) ?_
              refine e_iast (n := 100) C (by decide) rfl (by decide) rfl rfl (by decide) (by omega) (by omega) (by omega) d_Mo_fillsPinches_149 ?_
              try simp only [MF_f, MF_51, he, hyt, so_at, so_so, wr_so, lnm_s, lnm_cu, ne_eq, Nat.reduceEqDiff, not_false_eq_true]
              exact e_drop 5 (e_drop 6 (fin _ (by omega)))
        · refine e_iconst C d_Mo_fillsPinches_77 ?_
          refine e_goto C 85 d_Mo_fillsPinches_78 (by decide) ?_
          obtain ⟨t, ht⟩ : ∃ t, t = (if i + 1 = P 3 0 then 0 else i + 1) := ⟨_, rfl⟩
          have htt : 0 ≤ t ∧ t < P 3 0 := by rw [ht]; split <;> omega
          refine e_topi (y := t) (by congr 1; rw [ht]; split <;> omega) ?_
          rw [hst t ht hz] at hQ
          have hyt := (hy.1 t htt.1 (by omega)).1
          have hbt := hb t htt.1 htt.2
          have fin : ∀ v, v = min (y 0 t + u) (max (y 0 t) 9999) → Ev g 150 [some (.inr (.inr (1, 0))), some (.inl u), some (.inl k), some (.inl s), some (.inl i), none, none] [] (MF σ m (ua R t v)) := by
            intro v hv
            have hy1 := RY_0 hy (q := t) (v := v) (by omega)
            refine e_iinc C d_Mo_fillsPinches_150 rfl (by decide) rfl ?_
            refine e_goto C 35 d_Mo_fillsPinches_153 (by decide) ?_
            refine ih (i + 1) (cu y 0 t v) _ hy1 (by omega) (by omega) (fun q a b => ?_) (by rw [hv]; exact hQ)
            have := hb q a b
            rw [cu_if]
            split <;> omega
          refine e_istore C d_Mo_fillsPinches_85 (by decide) rfl ?_
          refine e_aload_n C d_Mo_fillsPinches_87 rfl ?_
          refine e_geta C fl_Mo_119 (by decide) rfl rfl d_Mo_fillsPinches_88 ?_
          refine e_iload C d_Mo_fillsPinches_91 rfl ?_
          refine e_iald (n := 100) C (by decide) rfl (by decide) rfl rfl (by decide) (by omega) (by omega) d_Mo_fillsPinches_93 (fun r_93 => ?_)
          try simp only [MF_f, MF_51, he, hyt, so_at, so_so, wr_so, lnm_s, lnm_cu, ne_eq, Nat.reduceEqDiff, not_false_eq_true] at r_93 ⊢
          refine e_sipush C d_Mo_fillsPinches_94 (by decide) ?_
          refine e_icmp_le C 110 d_Mo_fillsPinches_97 (by decide) (by omega) (by omega) (fun c_97 => ?_) (fun c_97 => ?_)
          · refine e_sipush C d_Mo_fillsPinches_110 (by decide) ?_
            refine e_istore C d_Mo_fillsPinches_113 (by decide) rfl ?_
            refine e_aload_n C d_Mo_fillsPinches_115 rfl ?_
            refine e_geta C fl_Mo_119 (by decide) rfl rfl d_Mo_fillsPinches_116 ?_
            refine e_iload C d_Mo_fillsPinches_119 rfl ?_
            refine e_aload_n C d_Mo_fillsPinches_121 rfl ?_
            refine e_geta C fl_Mo_119 (by decide) rfl rfl d_Mo_fillsPinches_122 ?_
            refine e_iload C d_Mo_fillsPinches_125 rfl ?_
            refine e_iald (n := 100) C (by decide) rfl (by decide) rfl rfl (by decide) (by omega) (by omega) d_Mo_fillsPinches_127 (fun r_127 => ?_)
            try simp only [MF_f, MF_51, he, hyt, so_at, so_so, wr_so, lnm_s, lnm_cu, ne_eq, Nat.reduceEqDiff, not_false_eq_true] at r_127 ⊢
            refine e_iload_n C d_Mo_fillsPinches_128 rfl ?_
            refine e_iadd C d_Mo_fillsPinches_129 ?_
            refine e_iload C d_Mo_fillsPinches_130 rfl ?_
            refine e_icmp_le C 140 d_Mo_fillsPinches_132 (by decide) (by omega) (by omega) (fun c_132 => ?_) (fun c_132 => ?_)
            · refine e_aload_n C d_Mo_fillsPinches_140 rfl ?_
              refine e_geta C fl_Mo_119 (by decide) rfl rfl d_Mo_fillsPinches_141 ?_
              refine e_iload C d_Mo_fillsPinches_144 rfl ?_
              refine e_iald (n := 100) C (by decide) rfl (by decide) rfl rfl (by decide) (by omega) (by omega) d_Mo_fillsPinches_146 (fun r_146 => ?_)
              try simp only [MF_f, MF_51, he, hyt, so_at, so_so, wr_so, lnm_s, lnm_cu, ne_eq, Nat.reduceEqDiff, not_false_eq_true] at r_146 ⊢
              refine e_iload_n C d_Mo_fillsPinches_147 rfl ?_
              refine e_iadd C d_Mo_fillsPinches_148 ?_
              refine e_iast (n := 100) C (by decide) rfl (by decide) rfl rfl (by decide) (by omega) (by omega) (by omega) d_Mo_fillsPinches_149 ?_
              try simp only [MF_f, MF_51, he, hyt, so_at, so_so, wr_so, lnm_s, lnm_cu, ne_eq, Nat.reduceEqDiff, not_false_eq_true]
              exact e_drop 5 (e_drop 6 (fin _ (by omega)))
            · refine e_iload C d_Mo_fillsPinches_135 rfl ?_
              refine e_goto C 149 d_Mo_fillsPinches_137 (by decide) ?_
              refine e_iast (n := 100) C (by decide) rfl (by decide) rfl rfl (by decide) (by omega) (by omega) (by omega) d_Mo_fillsPinches_149 ?_
              try simp only [MF_f, MF_51, he, hyt, so_at, so_so, wr_so, lnm_s, lnm_cu, ne_eq, Nat.reduceEqDiff, not_false_eq_true]
              exact e_drop 5 (e_drop 6 (fin _ (by omega)))
          · refine e_aload_n C d_Mo_fillsPinches_100 rfl ?_
            refine e_geta C fl_Mo_119 (by decide) rfl rfl d_Mo_fillsPinches_101 ?_
            refine e_iload C d_Mo_fillsPinches_104 rfl ?_
            refine e_iald (n := 100) C (by decide) rfl (by decide) rfl rfl (by decide) (by omega) (by omega) d_Mo_fillsPinches_106 (fun r_106 => ?_)
            try simp only [MF_f, MF_51, he, hyt, so_at, so_so, wr_so, lnm_s, lnm_cu, ne_eq, Nat.reduceEqDiff, not_false_eq_true] at r_106 ⊢
            refine e_goto C 113 d_Mo_fillsPinches_107 (by decide) ?_
            refine e_istore C d_Mo_fillsPinches_113 (by decide) rfl ?_
            refine e_aload_n C d_Mo_fillsPinches_115 rfl ?_
            refine e_geta C fl_Mo_119 (by decide) rfl rfl d_Mo_fillsPinches_116 ?_
            refine e_iload C d_Mo_fillsPinches_119 rfl ?_
            refine e_aload_n C d_Mo_fillsPinches_121 rfl ?_
            refine e_geta C fl_Mo_119 (by decide) rfl rfl d_Mo_fillsPinches_122 ?_
            refine e_iload C d_Mo_fillsPinches_125 rfl ?_
            refine e_iald (n := 100) C (by decide) rfl (by decide) rfl rfl (by decide) (by omega) (by omega) d_Mo_fillsPinches_127 (fun r_127 => ?_)
            try simp only [MF_f, MF_51, he, hyt, so_at, so_so, wr_so, lnm_s, lnm_cu, ne_eq, Nat.reduceEqDiff, not_false_eq_true] at r_127 ⊢
            refine e_iload_n C d_Mo_fillsPinches_128 rfl ?_
            refine e_iadd C d_Mo_fillsPinches_129 ?_
            refine e_iload C d_Mo_fillsPinches_130 rfl ?_
            refine e_icmp_le C 140 d_Mo_fillsPinches_132 (by decide) (by omega) (by omega) (fun c_132 => ?_) (fun c_132 => ?_)
            · refine e_aload_n C d_Mo_fillsPinches_140 rfl ?_
              refine e_geta C fl_Mo_119 (by decide) rfl rfl d_Mo_fillsPinches_141 ?_
              refine e_iload C d_Mo_fillsPinches_144 rfl ?_
              refine e_iald (n := 100) C (by decide) rfl (by decide) rfl rfl (by decide) (by omega) (by omega) d_Mo_fillsPinches_146 (fun r_146 => ?_)
              try simp only [MF_f, MF_51, he, hyt, so_at, so_so, wr_so, lnm_s, lnm_cu, ne_eq, Nat.reduceEqDiff, not_false_eq_true] at r_146 ⊢
              refine e_iload_n C d_Mo_fillsPinches_147 rfl ?_
              refine e_iadd C d_Mo_fillsPinches_148 ?_
              refine e_iast (n := 100) C (by decide) rfl (by decide) rfl rfl (by decide) (by omega) (by omega) (by omega) d_Mo_fillsPinches_149 ?_
              try simp only [MF_f, MF_51, he, hyt, so_at, so_so, wr_so, lnm_s, lnm_cu, ne_eq, Nat.reduceEqDiff, not_false_eq_true]
              exact e_drop 5 (e_drop 6 (fin _ (by omega)))
            · refine e_iload C d_Mo_fillsPinches_135 rfl ?_
              refine e_goto C 149 d_Mo_fillsPinches_137 (by decide) ?_
              refine e_iast (n := 100) C (by decide) rfl (by decide) rfl rfl (by decide) (by omega) (by omega) (by omega) d_Mo_fillsPinches_149 ?_
              try simp only [MF_f, MF_51, he, hyt, so_at, so_so, wr_so, lnm_s, lnm_cu, ne_eq, Nat.reduceEqDiff, not_false_eq_true]
              exact e_drop 5 (e_drop 6 (fin _ (by omega)))
      · have hz : ¬ bt s i.toNat = true := fun z => by rw [if_pos z] at c_55; omega
        have e1 : pst (P 3 0) s u i y = y := by unfold pst; rw [if_neg hz]
        rw [e1] at hQ
        refine e_goto C 150 d_Mo_fillsPinches_58 (by decide) ?_
        refine e_iinc C d_Mo_fillsPinches_150 rfl (by decide) rfl ?_
        refine e_goto C 35 d_Mo_fillsPinches_153 (by decide) ?_
        exact ih (i + 1) y R hy (by omega) (by omega) (fun q a b => by have := hb q a b; omega) hQ
def sTh (x : Int → Int) (R : Int → Int) (s i : Int) : Int → Int := fun j => if 12 * s ≤ j ∧ j < 12 * s + i then R (48 + (j - 12 * s)) else x j
theorem sTh_S {x R : Int → Int} {s i : Int} (h : 0 ≤ i) : ua (sTh x R s i) (12 * s + i) (R (48 + i)) = sTh x R s (i + 1) := by
  funext j
  unfold ua sTh
  by_cases z : j = 12 * s + i
  · rw [if_pos z, if_pos (by omega), show j - 12 * s = i by omega]
  · rw [if_neg z]
    by_cases w : 12 * s ≤ j ∧ j < 12 * s + i
    · rw [if_pos w, if_pos (by omega)]
    · rw [if_neg w, if_neg (by omega)]
theorem sTh_0 (x R : Int → Int) (s : Int) : sTh x R s 0 = x := by
  funext j; unfold sTh; rw [if_neg (by omega)]
theorem l_Mo_fills3 {g : Mach} (C : Cx M_Mo_fillsPinches g) {σ : St} {x : Cs} {u k s : Int} (hs : 0 ≤ s ∧ s < 256) (hQ : Ev g 199 [some (.inr (.inr (1, 0))), some (.inl u), some (.inl k), some (.inl s), none, none, none] [] (so σ 1 (lnm x 54 (sTh (x 54) (x 51) s 12)))) :
    ∀ (n : Nat) (i : Int), 0 ≤ i → i + n = 12 → Ev g 164 [some (.inr (.inr (1, 0))), some (.inl u), some (.inl k), some (.inl s), some (.inl i), none, none] [] (so σ 1 (lnm x 54 (sTh (x 54) (x 51) s i))) := by
  intro n
  induction n with
  | zero =>
    intro i h0 h1
    refine e_iload C d_Mo_fillsPinches_164 rfl ?_
    refine e_bipush C d_Mo_fillsPinches_166 (by decide) ?_
    refine e_icmp_ge C 199 d_Mo_fillsPinches_168 (by decide) (by omega) (by omega) (fun c_168 => ?_) (fun c_168 => ?_)
    · rw [show i = 12 by omega]; exact e_drop 4 hQ
    · exact absurd h1 (by omega)
  | succ n ih =>
    intro i h0 h1
    refine e_iload C d_Mo_fillsPinches_164 rfl ?_
    refine e_bipush C d_Mo_fillsPinches_166 (by decide) ?_
    refine e_icmp_ge C 199 d_Mo_fillsPinches_168 (by decide) (by omega) (by omega) (fun c_168 => ?_) (fun c_168 => ?_)
    · exact absurd h1 (by omega)
    · refine e_aload_n C d_Mo_fillsPinches_171 rfl ?_
      refine e_geta C fl_Mo_125 (by decide) rfl rfl d_Mo_fillsPinches_172 ?_
      refine e_bipush C d_Mo_fillsPinches_175 (by decide) ?_
      refine e_iload_n C d_Mo_fillsPinches_177 rfl ?_
      refine e_imul C d_Mo_fillsPinches_178 ?_
      refine e_iload C d_Mo_fillsPinches_179 rfl ?_
      refine e_iadd C d_Mo_fillsPinches_181 ?_
      refine e_aload_n C d_Mo_fillsPinches_182 rfl ?_
      refine e_geta C fl_Mo_119 (by decide) rfl rfl d_Mo_fillsPinches_183 ?_
      refine e_bipush C d_Mo_fillsPinches_186 (by decide) ?_
      refine e_iload C d_Mo_fillsPinches_188 rfl ?_
      refine e_iadd C d_Mo_fillsPinches_190 ?_
      refine e_iald (n := 100) C (by decide) rfl (by decide) rfl rfl (by decide) (by omega) (by omega) d_Mo_fillsPinches_191 (fun r_191 => ?_)
      try simp only [so_at, so_so, wr_so, lnm_s, lnm_cu, lnm_f, ne_eq, Nat.reduceEqDiff, not_false_eq_true] at r_191 ⊢
      refine e_iast (n := 3072) C (by decide) rfl (by decide) rfl rfl (by decide) (by omega) (by omega) (by omega) d_Mo_fillsPinches_192 ?_
      try simp only [so_at, so_so, wr_so, lnm_s, lnm_cu, lnm_f, ne_eq, Nat.reduceEqDiff, not_false_eq_true]
      refine e_iinc C d_Mo_fillsPinches_193 rfl (by decide) rfl ?_
      refine e_goto C 164 d_Mo_fillsPinches_196 (by decide) ?_
      rw [sTh_S h0]; exact ih (i + 1) (by omega) (by omega)
theorem QY_pst {P y : Cs} {B s u : Int} (h : QY P B y) (hN : 0 ≤ P 3 0 ∧ P 3 0 ≤ 8) (hS : ∀ p, 0 ≤ p → p < P 3 0 → y 0 p + y 1 p ≤ 900000000) (hu : 1 ≤ u ∧ u ≤ 99) : QY P B (itr (pst (P 3 0) s u) (P 3 0).toNat 0 y) := by
  obtain ⟨c, hc, hK⟩ := h
  have hKS : CKS B 900000000 (P 3 0) c := ⟨hK, fun p a b => by
    have e0 := hc.1.1 0 p (by decide) a b
    have e1 := hc.1.1 1 p (by decide) a b
    have := hS p a b
    omega⟩
  exact ⟨_, pstN_sim _ 0 c y hc (by omega) (by omega), (CKS_pstN hu hN.2 _ 0 _ c hKS (by omega) (by omega) (by omega)).1⟩
theorem TBm_skip {φ : Phi} {P y m m' : Cs} {u s : Int} {n : Nat} (h : TBm φ P y u n s m) (hm : m' 54 = m 54) (hs : ¬ alw y (P 3 0) s = true) : TBm φ P y u n (s + 1) m' := by
  intro t t0 t1 ta a a0 a1
  rw [hm]
  by_cases z : t = s
  · rw [z] at ta; exact absurd ta hs
  · exact h t t0 (by omega) ta a a0 a1
set_option maxHeartbeats 1000000 in
theorem l_Mo_fills1 {g : Mach} {Q : St → Prop} (C : Cx M_Mo_fillsPinches g) (F : FinV M_Mo_fillsPinches g Q) {σ : St} {m P l y : Cs} {φ : Phi} {u k B : Int} (hPl : PlanOk P l φ) (hM : MPl P m) (hF : FlowC φ P m) (hmy : RY (m 50) y) (hQy : QY P B y) (hB : 0 ≤ B ∧ B < 1800000000) (hS : ∀ p, 0 ≤ p → p < P 3 0 → y 0 p + y 1 p ≤ 900000000) (hu : 1 ≤ u ∧ u ≤ 99) (hk : 1 ≤ k ∧ k ≤ 300) :
    ∀ (n : Nat) (s : Int) (m' : Cs) (R : Int → Int), MK m m' → 0 ≤ s → s + n = z_ishl 1 (P 3 0) → TBm φ P y u k.toNat s m' → (∀ R' m'', MK m m'' → TBm φ P y u k.toNat (z_ishl 1 (P 3 0)) m'' → Q (MF σ m'' R')) → Ev g 2 [some (.inr (.inr (1, 0))), some (.inl u), some (.inl k), some (.inl s), none, none, none] [] (MF σ m' R) := by
  have hN := hPl.1
  have hG := hPl.2.1
  have hsi := sh_in (p := P 3 0) (by omega)
  have h2 : ∀ p, 0 ≤ p → p < P 3 0 → y 2 p = -2 ∨ 0 ≤ y 2 p := fun p a b => by have := (hQy.post hN.2 hG.2 ⟨a, b⟩).2; omega
  intro n
  induction n with
  | zero =>
    intro s m' R hm h0 h1 hT hQ
    have hM' := hM.same hm.mp
    have hlv := hM'.1
    have he := hM'.2.1
    refine e_iload_n C d_Mo_fillsPinches_2 rfl ?_
    refine e_iconst C d_Mo_fillsPinches_3 ?_
    refine e_aload_n C d_Mo_fillsPinches_4 rfl ?_
    refine e_geta C fl_Mo_49 (by decide) rfl rfl d_Mo_fillsPinches_5 ?_
    refine e_aload_n C d_Mo_fillsPinches_8 rfl ?_
    refine e_geti C fl_Mo_215 (by decide) rfl rfl d_Mo_fillsPinches_9 (fun r_9 => ?_)
    try simp only [MF_f, he, ne_eq, Nat.reduceEqDiff, not_false_eq_true] at r_9 ⊢
    refine e_iald (n := 2) C (by decide) rfl (by decide) rfl rfl (by decide) (by omega) (by omega) d_Mo_fillsPinches_12 (fun r_12 => ?_)
    try simp only [MF_f, he, ne_eq, Nat.reduceEqDiff, not_false_eq_true] at r_12 ⊢
    refine e_ishl C d_Mo_fillsPinches_13 ?_
    refine e_icmp_ge C 205 d_Mo_fillsPinches_14 (by decide) (by omega) (z_ishl_r _ _) (fun c_14 => ?_) (fun c_14 => ?_)
    · refine e_vret C F rfl d_Mo_fillsPinches_205 ?_
      exact hQ R m' hm (by rw [show z_ishl 1 (P 3 0) = s by omega]; exact hT)
    · exact absurd h1 (by omega)
  | succ n ih =>
    intro s m' R hm h0 h1 hT hQ
    have hM' := hM.same hm.mp
    have hlv := hM'.1
    have he := hM'.2.1
    have e50 := hm 50 (by decide) (by decide) (by decide) (by decide) (by decide) (by decide)
    refine e_iload_n C d_Mo_fillsPinches_2 rfl ?_
    refine e_iconst C d_Mo_fillsPinches_3 ?_
    refine e_aload_n C d_Mo_fillsPinches_4 rfl ?_
    refine e_geta C fl_Mo_49 (by decide) rfl rfl d_Mo_fillsPinches_5 ?_
    refine e_aload_n C d_Mo_fillsPinches_8 rfl ?_
    refine e_geti C fl_Mo_215 (by decide) rfl rfl d_Mo_fillsPinches_9 (fun r_9 => ?_)
    try simp only [MF_f, he, ne_eq, Nat.reduceEqDiff, not_false_eq_true] at r_9 ⊢
    refine e_iald (n := 2) C (by decide) rfl (by decide) rfl rfl (by decide) (by omega) (by omega) d_Mo_fillsPinches_12 (fun r_12 => ?_)
    try simp only [MF_f, he, ne_eq, Nat.reduceEqDiff, not_false_eq_true] at r_12 ⊢
    refine e_ishl C d_Mo_fillsPinches_13 ?_
    refine e_icmp_ge C 205 d_Mo_fillsPinches_14 (by decide) (by omega) (z_ishl_r _ _) (fun c_14 => ?_) (fun c_14 => ?_)
    · exact absurd h1 (by omega)
    · refine e_aload_n C d_Mo_fillsPinches_17 rfl ?_
      refine e_callVV C ok_Mo_copies lk_Mo_330 (o := 1) (by decide) rfl [] rfl rfl (Nat.le_of_ble_eq_true rfl) (by decide) (Nat.le_of_ble_eq_true rfl) d_Mo_fillsPinches_18 (k_Mo_copies) (fun u_18 h_18 => ?_)
      subst h_18
      have hy := RY_cp (R := R) hmy
      rw [← e50] at hy
      generalize r_cp R (m' 50) 100 = R1 at hy ⊢
      refine e_aload_n C d_Mo_fillsPinches_21 rfl ?_
      refine e_iload_n C d_Mo_fillsPinches_22 rfl ?_
      refine e_callIV C ok_Mo_isAllowed lk_Mo_366 (o := 1) (by decide) rfl [_] rfl rfl (Nat.le_of_ble_eq_true rfl) (by decide) (Nat.le_of_ble_eq_true rfl) d_Mo_fillsPinches_23 (k_Mo_isAllowed hM' hN (by rw [e50]; exact hmy) h2) (fun v_23 u_23 q_23 h_23 => ?_)
      obtain ⟨rfl, rfl⟩ := h_23
      refine e_if_ne C 32 d_Mo_fillsPinches_26 (by decide) (by split <;> omega) (fun c_26 => ?_) (fun c_26 => ?_)
      · have hal : alw y (P 3 0) s = true := Decidable.byContradiction fun z => c_26 (by rw [if_neg z])
        refine e_iconst C d_Mo_fillsPinches_32 ?_
        refine e_istore C d_Mo_fillsPinches_33 (by decide) rfl ?_
        refine l_Mo_fills2 C hM' hN hu (P 3 0).toNat 0 y R1 hy (by omega) (by omega) (fun q a b => by have := (hQy.post hN.2 hG.2 ⟨a, b⟩).1; omega) (fun R2 hy2 => ?_)
        refine e_aload_n C d_Mo_fillsPinches_156 rfl ?_
        refine e_iload_n C d_Mo_fillsPinches_157 rfl ?_
        refine e_callVV C ok_Mo_goes lk_Mo_345 (o := 1) (by decide) rfl [_] rfl rfl (Nat.le_of_ble_eq_true rfl) (by decide) (Nat.le_of_ble_eq_true rfl) d_Mo_fillsPinches_158 (k_Mo_goes hPl hM' (hF.same hm.mp) hy2 (QY_pst hQy hN hS hu) hB (by omega)) (fun u_158 h_158 => ?_)
        obtain ⟨R3, m3, hm3, hy3, rfl⟩ := h_158
        refine e_iconst C d_Mo_fillsPinches_161 ?_
        refine e_istore C d_Mo_fillsPinches_162 (by decide) rfl ?_
        have e0 := sTh_0 (lnm m3 51 R3 54) (lnm m3 51 R3 51) s
        have h3 := l_Mo_fills3 (σ := σ) (x := lnm m3 51 R3) (u := u) (k := k) (s := s) C (by omega) (by
          have e54 : lnm m3 51 R3 54 = m3 54 := lnm_f (by decide)
          rw [lnm_s, e54]
          have ec : lnm (lnm m3 51 R3) 54 (sTh (m3 54) R3 s 12) = lnm (lnm m3 54 (sTh (m3 54) R3 s 12)) 51 R3 := by
            funext f
            by_cases z : f = 54
            · subst z; rw [lnm_s, lnm_f (by decide), lnm_s]
            · rw [lnm_f z]
              by_cases w : f = 51
              · subst w; rw [lnm_s, lnm_s]
              · rw [lnm_f w, lnm_f w, lnm_f z]
          rw [ec]
          have hm4 : MK m (lnm m3 54 (sTh (m3 54) R3 s 12)) := fun f a b c d e h => by rw [lnm_f e]; exact (hm.tr hm3.mk) f a b c d e h
          have hT4 : TBm φ P y u k.toNat (s + 1) (lnm m3 54 (sTh (m3 54) R3 s 12)) := by
            intro t t0 t1 ta a a0 a1
            rw [lnm_s]
            unfold sTh
            by_cases z : t = s
            · subst z
              rw [if_pos (by omega), show 12 * t + a - 12 * t = a by omega]
              exact (hy3.2.1 a a0 a1).1
            · rw [if_neg (by omega), hm3 54 (by decide) (by decide) (by decide) (by decide)]
              exact hT t t0 (by omega) ta a a0 a1
          refine e_iinc C d_Mo_fillsPinches_199 rfl (by decide) rfl ?_
          refine e_goto C 2 d_Mo_fillsPinches_202 (by decide) ?_
          exact ih (s + 1) _ R3 hm4 (by omega) (by omega) hT4 hQ
          ) 12 0 (by omega) (by omega)
        rw [e0, lnm_id] at h3
        exact h3
      · have hna : ¬ alw y (P 3 0) s = true := fun z => by rw [if_pos z] at c_26; omega
        refine e_goto C 199 d_Mo_fillsPinches_29 (by decide) ?_
        refine e_iinc C d_Mo_fillsPinches_199 rfl (by decide) rfl ?_
        refine e_goto C 2 d_Mo_fillsPinches_202 (by decide) ?_
        exact ih (s + 1) m' R1 hm (by omega) (by omega) (TBm_skip hT rfl hna) hQ
theorem k_Mo_fillsPinches {σ : St} {m P l y : Cs} {φ : Phi} {u k B : Int} {R : Int → Int} (hPl : PlanOk P l φ) (hM : MPl P m) (hF : FlowC φ P m) (hmy : RY (m 50) y) (hQy : QY P B y) (hB : 0 ≤ B ∧ B < 1800000000) (hS : ∀ p, 0 ≤ p → p < P 3 0 → y 0 p + y 1 p ≤ 900000000) (hu : 1 ≤ u ∧ u ≤ 99) (hk : 1 ≤ k ∧ k ≤ 300) : CtV M_Mo_fillsPinches [.inr (.inr (1, 0)), .inl u, .inl k] (MF σ m R) (fun v => ∃ R' m', MK m m' ∧ TBm φ P y u k.toNat (z_ishl 1 (P 3 0)) m' ∧ v = MF σ m' R') := by
  intro g C F
  have hsi := sh_in (p := P 3 0) (by have := hPl.1; omega)
  refine e_iconst C d_Mo_fillsPinches_0 ?_
  refine e_istore_n C d_Mo_fillsPinches_1 (by decide) rfl ?_
  exact l_Mo_fills1 C F hPl hM hF hmy hQy hB hS hu hk (z_ishl 1 (P 3 0)).toNat 0 m R (MK.rf m) (by omega) (by omega) (fun t t0 t1 => by omega) (fun R' m' h1 h2 => ⟨R', m', h1, h2, rfl⟩)
abbrev okRests (u k i : Int) : Prop := (1 ≤ u ∧ u ≤ 99) ∧ (1 ≤ k ∧ k ≤ 300) ∧ -1 ≤ i
def rvRests (S : SS) (u k i : Int) : Int := if okRests u k i then rsv (sF S) (sP S) (sY S) u k.toNat i else -1
theorem gfin_some (i x y : Int) : gfin i (some x, y) = x := rfl
theorem gfin_none (i y : Int) : gfin i (none, y) = if i = -1 then y else -1 := rfl
theorem gse_no {q : Int → Bool} {v : Int → Int} {i s x : Int} (h : ¬ q s = true) : gse q v i s (none, x) = (none, x) := by
  unfold gse; rw [if_neg (fun z => h z.2)]
theorem gse_hit {q : Int → Bool} {v : Int → Int} {i s : Int} (h : q s = true) : gse q v i s (none, i) = (some (v s), i) := by
  unfold gse; rw [if_pos ⟨rfl, h⟩, if_pos rfl]
theorem gse_more {q : Int → Bool} {v : Int → Int} {i s x : Int} (h : q s = true) (hx : x ≠ i) : gse q v i s (none, x) = (none, x + 1) := by
  unfold gse; rw [if_pos ⟨rfl, h⟩, if_neg hx]
theorem l_Mo_rests {g : Mach} {Q : Int → St → Prop} (C : Cx M_Mo_rests g) (F : FinI M_Mo_rests g Q) {σ : St} {m P y : Cs} {φ : Phi} {R : Int → Int} {u k i : Int} (hM : MPl P m) (hN : 0 ≤ P 3 0 ∧ P 3 0 ≤ 8) (hy : RY (m 50) y) (h2 : ∀ p, 0 ≤ p → p < P 3 0 → y 2 p = -2 ∨ (0 ≤ y 2 p ∧ y 2 p < 12)) (hT : TBm φ P y u k.toNat (z_ishl 1 (P 3 0)) m) (hi : R32 i) :
    ∀ (n : Nat) (s x : Int), 0 ≤ s → s + n = z_ishl 1 (P 3 0) → (0 ≤ x ∧ x ≤ s) → Q (gfin i (itr (gse (rsq φ P y u k.toNat) (fun s => s) i) n s (none, x))) (MF σ m R) → Ev g 40 [some (.inr (.inr (1, 0))), some (.inl u), some (.inl k), some (.inl i), some (.inl x), some (.inl s)] [] (MF σ m R) := by
  have hlv := hM.1
  have he := hM.2.1
  have hsi := sh_in (p := P 3 0) (by omega)
  have h20 : ∀ p, 0 ≤ p → p < P 3 0 → y 2 p = -2 ∨ 0 ≤ y 2 p := fun p a b => by have := h2 p a b; omega
  intro n
  induction n with
  | zero =>
    intro s x h0 h1 hx hQ
    change Q (gfin i (none, x)) (MF σ m R) at hQ
    rw [gfin_none] at hQ
    refine e_iload C d_Mo_rests_40 rfl ?_
    refine e_iconst C d_Mo_rests_42 ?_
    refine e_aload_n C d_Mo_rests_43 rfl ?_
    refine e_geta C fl_Mo_49 (by decide) rfl rfl d_Mo_rests_44 ?_
    refine e_aload_n C d_Mo_rests_47 rfl ?_
    refine e_geti C fl_Mo_215 (by decide) rfl rfl d_Mo_rests_48 (fun r_48 => ?_)
    try simp only [MF_f, he, ne_eq, Nat.reduceEqDiff, not_false_eq_true] at r_48 ⊢
    refine e_iald (n := 2) C (by decide) rfl (by decide) rfl rfl (by decide) (by omega) (by omega) d_Mo_rests_51 (fun r_51 => ?_)
    try simp only [MF_f, he, ne_eq, Nat.reduceEqDiff, not_false_eq_true] at r_51 ⊢
    refine e_ishl C d_Mo_rests_52 ?_
    refine e_icmp_ge C 95 d_Mo_rests_53 (by decide) (by omega) (z_ishl_r _ _) (fun c_53 => ?_) (fun c_53 => ?_)
    · refine e_iload_n C d_Mo_rests_95 rfl ?_
      refine e_iconst C d_Mo_rests_96 ?_
      refine e_icmp_ne C 105 d_Mo_rests_97 (by decide) (by omega) (by omega) (fun c_97 => ?_) (fun c_97 => ?_)
      · rw [if_neg c_97] at hQ
        refine e_iconst C d_Mo_rests_105 ?_
        refine e_iret C F rfl d_Mo_rests_106 (by omega) ?_
        exact hQ
      · rw [if_pos c_97] at hQ
        refine e_iload C d_Mo_rests_100 rfl ?_
        refine e_goto C 106 d_Mo_rests_102 (by decide) ?_
        refine e_iret C F rfl d_Mo_rests_106 (by omega) ?_
        exact hQ
    · exact absurd h1 (by omega)
  | succ n ih =>
    intro s x h0 h1 hx hQ
    rw [itr_S] at hQ
    refine e_iload C d_Mo_rests_40 rfl ?_
    refine e_iconst C d_Mo_rests_42 ?_
    refine e_aload_n C d_Mo_rests_43 rfl ?_
    refine e_geta C fl_Mo_49 (by decide) rfl rfl d_Mo_rests_44 ?_
    refine e_aload_n C d_Mo_rests_47 rfl ?_
    refine e_geti C fl_Mo_215 (by decide) rfl rfl d_Mo_rests_48 (fun r_48 => ?_)
    try simp only [MF_f, he, ne_eq, Nat.reduceEqDiff, not_false_eq_true] at r_48 ⊢
    refine e_iald (n := 2) C (by decide) rfl (by decide) rfl rfl (by decide) (by omega) (by omega) d_Mo_rests_51 (fun r_51 => ?_)
    try simp only [MF_f, he, ne_eq, Nat.reduceEqDiff, not_false_eq_true] at r_51 ⊢
    refine e_ishl C d_Mo_rests_52 ?_
    refine e_icmp_ge C 95 d_Mo_rests_53 (by decide) (by omega) (z_ishl_r _ _) (fun c_53 => ?_) (fun c_53 => ?_)
    · exact absurd h1 (by omega)
    · refine e_aload_n C d_Mo_rests_56 rfl ?_
      refine e_iload C d_Mo_rests_57 rfl ?_
      refine e_callIV C ok_Mo_isAllowed lk_Mo_366 (o := 1) (by decide) rfl [_] rfl rfl (Nat.le_of_ble_eq_true rfl) (by decide) (Nat.le_of_ble_eq_true rfl) d_Mo_rests_59 (k_Mo_isAllowed hM hN hy h20) (fun v_59 u_59 q_59 h_59 => ?_)
      obtain ⟨rfl, rfl⟩ := h_59
      refine e_if_eq C 89 d_Mo_rests_62 (by decide) (by split <;> omega) (fun c_62 => ?_) (fun c_62 => ?_)
      · have hna : ¬ alw y (P 3 0) s = true := fun z => by rw [if_pos z] at c_62; omega
        rw [gse_no (by unfold rsq; simp [hna])] at hQ
        refine e_iinc C d_Mo_rests_89 rfl (by decide) rfl ?_
        refine e_goto C 40 d_Mo_rests_92 (by decide) ?_
        exact ih (s + 1) _ (by omega) (by omega) (by omega) hQ
      · have hal : alw y (P 3 0) s = true := Decidable.byContradiction fun z => c_62 (by rw [if_neg z])
        refine e_aload_n C d_Mo_rests_65 rfl ?_
        refine e_iload C d_Mo_rests_66 rfl ?_
        refine e_callIV C ok_Mo_isResting lk_Mo_372 (o := 1) (by decide) rfl [_] rfl rfl (Nat.le_of_ble_eq_true rfl) (by decide) (Nat.le_of_ble_eq_true rfl) d_Mo_rests_68 (k_Mo_isResting hM hN hy h2 hT (by omega) hal) (fun v_68 u_68 q_68 h_68 => ?_)
        obtain ⟨rfl, rfl⟩ := h_68
        refine e_if_ne C 77 d_Mo_rests_71 (by decide) (by split <;> omega) (fun c_71 => ?_) (fun c_71 => ?_)
        · have hre : rst φ P y u k.toNat s = true := Decidable.byContradiction fun z => c_71 (by rw [if_neg z])
          have hq : rsq φ P y u k.toNat s = true := by unfold rsq; rw [hal, hre]; rfl
          refine e_iload C d_Mo_rests_77 rfl ?_
          refine e_iload_n C d_Mo_rests_79 rfl ?_
          refine e_icmp_ne C 86 d_Mo_rests_80 (by decide) (by omega) (by omega) (fun c_80 => ?_) (fun c_80 => ?_)
          · rw [gse_more hq c_80] at hQ
            refine e_iinc C d_Mo_rests_86 rfl (by decide) rfl ?_
            refine e_iinc C d_Mo_rests_89 rfl (by decide) rfl ?_
            refine e_goto C 40 d_Mo_rests_92 (by decide) ?_
            exact ih (s + 1) _ (by omega) (by omega) (by omega) hQ
          · subst c_80
            rw [gse_hit hq, gse_some, gfin_some] at hQ
            refine e_iload C d_Mo_rests_83 rfl ?_
            refine e_iret C F rfl d_Mo_rests_85 (by omega) ?_
            exact hQ
        · have hnr : ¬ rst φ P y u k.toNat s = true := fun z => by rw [if_pos z] at c_71; omega
          rw [gse_no (by unfold rsq; simp [hnr])] at hQ
          refine e_goto C 89 d_Mo_rests_74 (by decide) ?_
          refine e_iinc C d_Mo_rests_89 rfl (by decide) rfl ?_
          refine e_goto C 40 d_Mo_rests_92 (by decide) ?_
          exact ih (s + 1) _ (by omega) (by omega) (by omega) hQ
theorem K_Mo_rests {σ : St} {m : Cs} {S : SS} {n u k i : Int} (hp : PI S n) (hm : IVm S m) (r1 : R32 u) (r2 : R32 k) (r3 : R32 i) : CtI M_Mo_rests [.inr (.inr (1, 0)), .inl u, .inl k, .inl i] (so σ 1 m) (fun r v => r = rvRests S u k i ∧ ∃ m', v = so σ 1 m' ∧ IVm S m') := by
  intro g C F
  obtain ⟨l, hPl⟩ := hp.pl
  have hN := hPl.1
  have hG := hPl.2.1
  have hM := hm.1.1
  have hn := hp.n
  have hsi := sh_in (p := sP S 3 0) (by omega)
  have hno : ¬ okRests u k i → ∀ R, -1 = rvRests S u k i ∧ ∃ m', MF σ m R = so σ 1 m' ∧ IVm S m' := by
    intro z R
    unfold rvRests
    rw [if_neg z]
    exact ⟨rfl, _, rfl, hm.fin0⟩
  rw [soMF]
  refine e_iload_n C d_Mo_rests_0 rfl ?_
  refine e_iconst C d_Mo_rests_1 ?_
  refine e_bipush C d_Mo_rests_2 (by decide) ?_
  refine e_callIS C ok_Mo_in lk_Mo_302 [_, _, _] rfl rfl (Nat.le_of_ble_eq_true rfl) (by decide) (Nat.le_of_ble_eq_true rfl) d_Mo_rests_4 (k_Mo_in r1 (by omega) (by omega)) (fun v_4 u_4 q_4 h_4 => ?_)
  obtain ⟨rfl, rfl⟩ := h_4
  refine e_if_eq C 26 d_Mo_rests_7 (by decide) (by split <;> omega) (fun c_7 => ?_) (fun c_7 => ?_)
  · have hv0 : ¬ okRests u k i := fun z => in_f c_7 z.1
    refine e_iconst C d_Mo_rests_26 ?_
    refine e_iret C F rfl d_Mo_rests_27 (by omega) ?_
    exact hno hv0 _
  · have hv := in_t c_7
    refine e_iload_n C d_Mo_rests_10 rfl ?_
    refine e_iconst C d_Mo_rests_11 ?_
    refine e_sipush C d_Mo_rests_12 (by decide) ?_
    refine e_callIS C ok_Mo_in lk_Mo_302 [_, _, _] rfl rfl (Nat.le_of_ble_eq_true rfl) (by decide) (Nat.le_of_ble_eq_true rfl) d_Mo_rests_15 (k_Mo_in r2 (by omega) (by omega)) (fun v_15 u_15 q_15 h_15 => ?_)
    obtain ⟨rfl, rfl⟩ := h_15
    refine e_if_eq C 26 d_Mo_rests_18 (by decide) (by split <;> omega) (fun c_18 => ?_) (fun c_18 => ?_)
    · have hv0 : ¬ okRests u k i := fun z => in_f c_18 z.2.1
      refine e_iconst C d_Mo_rests_26 ?_
      refine e_iret C F rfl d_Mo_rests_27 (by omega) ?_
      exact hno hv0 _
    · have hv2 := in_t c_18
      refine e_iload_n C d_Mo_rests_21 rfl ?_
      refine e_iconst C d_Mo_rests_22 ?_
      refine e_icmp_ge C 28 d_Mo_rests_23 (by decide) (by omega) (by omega) (fun c_23 => ?_) (fun c_23 => ?_)
      · unfold rvRests rsv at F
        rw [if_pos ⟨hv, hv2, c_23⟩] at F
        refine e_aload_n C d_Mo_rests_28 rfl ?_
        refine e_iload_n C d_Mo_rests_29 rfl ?_
        refine e_iload_n C d_Mo_rests_30 rfl ?_
        refine e_callVV C ok_Mo_fillsPinches lk_Mo_369 (o := 1) (by decide) rfl [_, _] rfl rfl (Nat.le_of_ble_eq_true rfl) (by decide) (Nat.le_of_ble_eq_true rfl) d_Mo_rests_31 (k_Mo_fillsPinches hPl hM hm.1.2.1 hm.2.1 hp.y.1 (by omega) (fun p a b => by have := hp.y.2.1 p a b; omega) hv hv2) (fun u_31 h_31 => ?_)
        obtain ⟨R1, m1, hm1, hT, rfl⟩ := h_31
        have e50 := hm1 50 (by decide) (by decide) (by decide) (by decide) (by decide) (by decide)
        refine e_iconst C d_Mo_rests_34 ?_
        refine e_istore C d_Mo_rests_35 (by decide) rfl ?_
        refine e_iconst C d_Mo_rests_37 ?_
        refine e_istore C d_Mo_rests_38 (by decide) rfl ?_
        exact l_Mo_rests (φ := sF S) (y := sY S) C F (hM.same hm1.mp) hN (by rw [e50]; exact hm.2.1) (fun p a b => by have := (hp.y.1.post hN.2 hG.2 ⟨a, b⟩).2; omega) hT r3 (z_ishl 1 (sP S 3 0)).toNat 0 0 (by omega) (by omega) (by omega) ⟨rfl, _, rfl, hm.mk (hm1.tr (MK_51 _ _))⟩
      · have hv0 : ¬ okRests u k i := fun z => c_23 z.2.2
        refine e_iconst C d_Mo_rests_26 ?_
        refine e_iret C F rfl d_Mo_rests_27 (by omega) ?_
        exact hno hv0 _
