/-! the class reads a text: its plan cleared, told, settled -/
section RDT
variable {T : Tab} {σ : St} {X x P l c : Cs} {t : Int}
def plN (P : Cs) : Cs := cu (cu (cu (cu P 3 0 0) 4 0 0) 5 0 0) 6 0 60
theorem k_Pl_clear : CtV M_Pl_clear [.inr (.inr (4, 0))] (RZ σ x P l c) (fun u => u = RZ σ x (plN P) (addS (clr l) 5 0 0) c) := by
  intro g C F
  have e7 : clr l 7 0 = 0 := by unfold clr; rw [cu_f (by decide), cu_f (by decide), cu_f (by decide), cu_s]
  refine e_aload_n C d_Pl_clear_0 rfl ?_
  refine e_iconst C d_Pl_clear_1 ?_
  refine e_puti C fp_Pl_32 (by decide) rfl rfl (by omega) d_Pl_clear_2 ?_
  try simp only [RZ_4, RZ_w4, wr_so]
  refine e_aload_n C d_Pl_clear_5 rfl ?_
  refine e_iconst C d_Pl_clear_6 ?_
  refine e_puti C fp_Pl_35 (by decide) rfl rfl (by omega) d_Pl_clear_7 ?_
  try simp only [RZ_4, RZ_w4, wr_so]
  refine e_aload_n C d_Pl_clear_10 rfl ?_
  refine e_iconst C d_Pl_clear_11 ?_
  refine e_puti C fp_Pl_38 (by decide) rfl rfl (by omega) d_Pl_clear_12 ?_
  try simp only [RZ_4, RZ_w4, wr_so]
  refine e_aload_n C d_Pl_clear_15 rfl ?_
  refine e_bipush C d_Pl_clear_16 (by decide) ?_
  refine e_puti C fp_Pl_25 (by decide) rfl rfl (by omega) d_Pl_clear_18 ?_
  try simp only [RZ_4, RZ_w4, wr_so]
  refine e_aload_n C d_Pl_clear_21 rfl ?_
  refine e_geto (o2 := 5) C fl_Pl_21 (by decide) rfl rfl rfl d_Pl_clear_22 ?_
  refine e_callVV C ok_La_clear lk_Pl_41 (o := 5) (by decide) rfl [] rfl rfl (Nat.le_of_ble_eq_true rfl) (by decide) (Nat.le_of_ble_eq_true rfl) d_Pl_clear_25 (k_La_clear) (fun u_25 h_25 => ?_)
  subst h_25
  refine e_aload_n C d_Pl_clear_28 rfl ?_
  refine e_geto (o2 := 5) C fl_Pl_21 (by decide) rfl rfl rfl d_Pl_clear_29 ?_
  refine e_iconst C d_Pl_clear_32 ?_
  refine e_iconst C d_Pl_clear_33 ?_
  refine e_iconst C d_Pl_clear_34 ?_
  refine e_callIV C ok_La_addStep lk_Pl_44 (o := 5) (by decide) rfl [_, _, _] rfl rfl (Nat.le_of_ble_eq_true rfl) (by decide) (Nat.le_of_ble_eq_true rfl) d_Pl_clear_35 (k_La_addStep (by rw [e7]; omega) ⟨by decide, by decide⟩ ⟨by decide, by decide⟩ ⟨by decide, by decide⟩) (fun v_35 u_35 q_35 h_35 => ?_)
  obtain ⟨_, e_35⟩ := h_35
  rw [e_35]
  refine e_pop C d_Pl_clear_38 rfl ?_
  refine e_vret C F rfl d_Pl_clear_39 ?_
  rfl
/-- the rates so far -/
def SP (P1 P' : Cs) (φ : Phi) (i j : Int) : Prop := (∀ f, f ≠ 8 → P' f = P1 f) ∧ ∀ p d, 0 ≤ p → 0 ≤ d → d ≤ P1 5 0 → (p < i ∨ (p = i ∧ d < j)) → P' 8 (p * 25 + d) = φ (P1 0 p) (P1 1 d) 0 0 0 p
theorem l_Pl_settle2 {g : Mach} (C : Cx M_Pl_settle g) {φ : Phi} {P1 : Cs} (h3 : 0 ≤ P1 3 0 ∧ P1 3 0 ≤ 8) (h5 : 0 ≤ P1 5 0 ∧ P1 5 0 ≤ 24) (hl : LawIs l φ) {i : Int} (hi : 0 ≤ i ∧ i < P1 3 0)
    (K : ∀ P' l', LSm l l' → SP P1 P' φ (i + 1) 0 → Ev g 97 [some (.inr (.inr (4, 0))), some (.inl i), none] [] (RZ σ x P' l' c)) :
    ∀ (n : Nat) (j : Int) (P' l' : Cs), 0 ≤ j → j + n = P1 5 0 + 1 → LSm l l' → SP P1 P' φ i j → Ev g 49 [some (.inr (.inr (4, 0))), some (.inl i), some (.inl j)] [] (RZ σ x P' l' c) := by
  intro n
  induction n with
  | zero =>
    intro j P' l' h0 h1 hs hP
    have e5 : P' 5 0 = P1 5 0 := by rw [hP.1 5 (by decide)]
    refine e_iload_n C d_Pl_settle_49 rfl ?_
    refine e_aload_n C d_Pl_settle_50 rfl ?_
    refine e_geti C fl_Pl_38 (by decide) rfl rfl d_Pl_settle_51 (fun r_51 => ?_)
    try simp only [RZ_4, e5] at r_51 ⊢
    refine e_icmp_gt C 97 d_Pl_settle_54 (by decide) (by omega) (by omega) (fun c_54 => ?_) (fun c_54 => ?_)
    · exact e_drop 2 (K P' l' hs ⟨hP.1, fun p d a b d1 e => hP.2 p d a b d1 (by omega)⟩)
    · exact absurd h1 (by omega)
  | succ n ih =>
    intro j P' l' h0 h1 hs hP
    have e5 : P' 5 0 = P1 5 0 := by rw [hP.1 5 (by decide)]
    have hl' := hl.same hs
    refine e_iload_n C d_Pl_settle_49 rfl ?_
    refine e_aload_n C d_Pl_settle_50 rfl ?_
    refine e_geti C fl_Pl_38 (by decide) rfl rfl d_Pl_settle_51 (fun r_51 => ?_)
    try simp only [RZ_4, RZ_w4, RZ_5, RZ_w5, wr_so, e5] at r_51 ⊢
    refine e_icmp_gt C 97 d_Pl_settle_54 (by decide) (by omega) (by omega) (fun c_54 => ?_) (fun c_54 => ?_)
    · exact absurd h1 (by omega)
    · refine e_aload_n C d_Pl_settle_57 rfl ?_
      refine e_geta C fl_Pl_29 (by decide) rfl rfl d_Pl_settle_58 ?_
      refine e_iload_n C d_Pl_settle_61 rfl ?_
      refine e_bipush C d_Pl_settle_62 (by decide) ?_
      refine e_imul C d_Pl_settle_64 ?_
      refine e_iload_n C d_Pl_settle_65 rfl ?_
      refine e_iadd C d_Pl_settle_66 ?_
      refine e_aload_n C d_Pl_settle_67 rfl ?_
      refine e_geto (o2 := 5) C fl_Pl_21 (by decide) rfl rfl rfl d_Pl_settle_68 ?_
      refine e_aload_n C d_Pl_settle_71 rfl ?_
      refine e_geta C fl_Pl_9 (by decide) rfl rfl d_Pl_settle_72 ?_
      refine e_iload_n C d_Pl_settle_75 rfl ?_
      refine e_iald (n := 8) C (by decide) rfl (by decide) rfl rfl (by decide) (by omega) (by omega) d_Pl_settle_76 (fun r_76 => ?_)
      try simp only [RZ_4, RZ_w4, RZ_5, RZ_w5, wr_so, e5] at r_76 ⊢
      refine e_aload_n C d_Pl_settle_77 rfl ?_
      refine e_geta C fl_Pl_15 (by decide) rfl rfl d_Pl_settle_78 ?_
      refine e_iload_n C d_Pl_settle_81 rfl ?_
      refine e_iald (n := 25) C (by decide) rfl (by decide) rfl rfl (by decide) (by omega) (by omega) d_Pl_settle_82 (fun r_82 => ?_)
      try simp only [RZ_4, RZ_w4, RZ_5, RZ_w5, wr_so, e5] at r_82 ⊢
      refine e_iconst C d_Pl_settle_83 ?_
      refine e_iconst C d_Pl_settle_84 ?_
      refine e_iconst C d_Pl_settle_85 ?_
      refine e_iload_n C d_Pl_settle_86 rfl ?_
      refine e_callIV C ok_La_value lk_Pl_58 (o := 5) (by decide) rfl [_, _, _, _, _, _] rfl rfl (Nat.le_of_ble_eq_true rfl) (by decide) (Nat.le_of_ble_eq_true rfl) d_Pl_settle_87 (k_La_value (σ := RZ σ x P' l' c) (o := 5) (by decide) (by decide) (by rw [RZ_5]; exact hl'.1) r_76 r_82 ⟨by decide, by decide⟩ ⟨by decide, by decide⟩ ⟨by decide, by decide⟩ (by omega)) (fun v_87 u_87 q_87 h_87 => ?_)
      obtain ⟨e_87, l2, hs2, rfl⟩ := h_87
      rw [RZ_5] at e_87 hs2
      rw [hl'.val] at e_87
      rw [RZ_w5]
      refine e_iast (n := 200) C (by decide) rfl (by decide) rfl rfl (by decide) (by omega) (by omega) (by omega) d_Pl_settle_90 ?_
      try simp only [RZ_4, RZ_w4, RZ_5, RZ_w5, wr_so, e5]
      refine e_iinc C d_Pl_settle_91 rfl (by decide) rfl ?_
      refine e_goto C 49 d_Pl_settle_94 (by decide) ?_
      refine ih (j + 1) _ _ (by omega) (by omega) (hs.tr hs2) ⟨fun f hf => by rw [cf_f hf]; exact hP.1 f hf, fun p d a b d1 e => ?_⟩
      rw [cu_if]
      by_cases w : p * 25 + d = i * 25 + j
      · rw [if_pos ⟨rfl, w⟩, show p = i by omega, show d = j by omega, e_87, hP.1 0 (by decide), hP.1 1 (by decide)]
      · rw [if_neg (fun z => w z.2)]
        exact hP.2 p d a b d1 (by
          by_cases w2 : p = i
          · subst w2; omega
          · omega)
theorem l_Pl_settle {g : Mach} {Q : St → Prop} (C : Cx M_Pl_settle g) (F : FinV M_Pl_settle g Q) {φ : Phi} {P1 : Cs} (h3 : 0 ≤ P1 3 0 ∧ P1 3 0 ≤ 8) (h5 : 0 ≤ P1 5 0 ∧ P1 5 0 ≤ 24) (hl : LawIs l φ)
    (K : ∀ P' l', LSm l l' → SP P1 P' φ (P1 3 0) 0 → Q (RZ σ x P' l' c)) :
    ∀ (n : Nat) (i : Int) (P' l' : Cs), 0 ≤ i → i + n = P1 3 0 → LSm l l' → SP P1 P' φ i 0 → Ev g 39 [some (.inr (.inr (4, 0))), some (.inl i), none] [] (RZ σ x P' l' c) := by
  intro n
  induction n with
  | zero =>
    intro i P' l' h0 h1 hs hP
    have e3 : P' 3 0 = P1 3 0 := by rw [hP.1 3 (by decide)]
    have ei : i = P1 3 0 := by omega
    subst ei
    refine e_iload_n C d_Pl_settle_39 rfl ?_
    refine e_aload_n C d_Pl_settle_40 rfl ?_
    refine e_geti C fl_Pl_32 (by decide) rfl rfl d_Pl_settle_41 (fun r_41 => ?_)
    try simp only [RZ_4, e3] at r_41 ⊢
    refine e_icmp_ge C 103 d_Pl_settle_44 (by decide) (by omega) (by omega) (fun c_44 => ?_) (fun c_44 => ?_)
    · refine e_vret C F rfl d_Pl_settle_103 ?_
      exact K P' l' hs hP
    · exact absurd c_44 (by omega)
  | succ n ih =>
    intro i P' l' h0 h1 hs hP
    have e3 : P' 3 0 = P1 3 0 := by rw [hP.1 3 (by decide)]
    refine e_iload_n C d_Pl_settle_39 rfl ?_
    refine e_aload_n C d_Pl_settle_40 rfl ?_
    refine e_geti C fl_Pl_32 (by decide) rfl rfl d_Pl_settle_41 (fun r_41 => ?_)
    try simp only [RZ_4, e3] at r_41 ⊢
    refine e_icmp_ge C 103 d_Pl_settle_44 (by decide) (by omega) (by omega) (fun c_44 => ?_) (fun c_44 => ?_)
    · exact absurd h1 (by omega)
    · refine e_iconst C d_Pl_settle_47 ?_
      refine e_istore_n C d_Pl_settle_48 (by decide) rfl ?_
      refine l_Pl_settle2 C h3 h5 hl (by omega) (fun P2 l2 hs2 hP2 => ?_) (P1 5 0 + 1).toNat 0 P' l' (by omega) (by omega) hs hP
      refine e_iinc C d_Pl_settle_97 rfl (by decide) rfl ?_
      refine e_goto C 39 d_Pl_settle_100 (by decide) ?_
      exact ih (i + 1) P2 l2 (by omega) (by omega) hs2 hP2
/-- a plan that is settled -/
def StP (P P' l : Cs) (φ : Phi) : Prop := (∀ f, f ≠ 7 → f ≠ 8 → P' f = P f) ∧ (P' 7 0 = 0 → l 1 0 = 0 ∨ P 5 0 ≤ 0) ∧ (l 0 0 ≠ 0 → ∀ p d, 0 ≤ p → p < P 3 0 → 0 ≤ d → d ≤ P 5 0 → P' 8 (p * 25 + d) = φ (P 0 p) (P 1 d) 0 0 0 p)
theorem k_Pl_settle {φ : Phi} (h3 : 0 ≤ P 3 0 ∧ P 3 0 ≤ 8) (h5 : 0 ≤ P 5 0 ∧ P 5 0 ≤ 24) (hl : LawIs l φ) : CtV M_Pl_settle [.inr (.inr (4, 0))] (RZ σ x P l c) (fun u => ∃ P' l', u = RZ σ x P' l' c ∧ LSm l l' ∧ StP P P' l φ) := by
  intro g C F
  have key : ∀ v, (v = 0 → l 1 0 = 0 ∨ P 5 0 ≤ 0) → Ev g 26 [some (.inr (.inr (4, 0))), none, none] [] (RZ σ x (cu P 7 0 v) l c) := by
    intro v hv
    refine e_aload_n C d_Pl_settle_26 rfl ?_
    refine e_geto (o2 := 5) C fl_Pl_21 (by decide) rfl rfl rfl d_Pl_settle_27 ?_
    refine e_getz C fl_Pl_55 (by decide) rfl rfl d_Pl_settle_30 (fun r_30 => ?_)
    try simp only [RZ_5] at r_30 ⊢
    refine e_if_ne C 37 d_Pl_settle_33 (by decide) (by omega) (fun c_33 => ?_) (fun c_33 => ?_)
    · refine e_iconst C d_Pl_settle_37 ?_
      refine e_istore_n C d_Pl_settle_38 (by decide) rfl ?_
      refine l_Pl_settle C F (P1 := cu P 7 0 v) (by rw [cu_f (by decide)]; exact h3) (by rw [cu_f (by decide)]; exact h5) hl (fun P' l' hs hP => ⟨P', l', rfl, hs, fun f a b => by rw [hP.1 f b, cf_f a], fun z => hv (by rw [hP.1 7 (by decide), cu_s] at z; exact z), fun _ p d p0 p1 d0 d1 => ?_⟩) (P 3 0).toNat 0 (cu P 7 0 v) l (by omega) (by rw [cu_f (by decide)]; omega) (LSm.rf l) ⟨fun f _ => rfl, fun p d a b d1 e => by omega⟩
      have := hP.2 p d p0 d0 (by rw [cu_f (by decide)]; exact d1) (by rw [cu_f (by decide)]; omega)
      rw [cu_f (by decide), cu_f (by decide)] at this
      exact this
    · refine e_vret C F rfl d_Pl_settle_36 ?_
      exact ⟨_, _, rfl, LSm.rf l, fun f a b => cf_f a, fun z => hv (by rw [cu_s] at z; exact z), fun z => absurd c_33 z⟩
  refine e_aload_n C d_Pl_settle_0 rfl ?_
  refine e_aload_n C d_Pl_settle_1 rfl ?_
  refine e_geto (o2 := 5) C fl_Pl_21 (by decide) rfl rfl rfl d_Pl_settle_2 ?_
  refine e_getz C fl_Pl_48 (by decide) rfl rfl d_Pl_settle_5 (fun r_5 => ?_)
  try simp only [RZ_4, RZ_5, RZ_w4, wr_so] at r_5 ⊢
  refine e_if_eq C 22 d_Pl_settle_8 (by decide) (by omega) (fun c_8 => ?_) (fun c_8 => ?_)
  · refine e_iconst C d_Pl_settle_22 ?_
    refine e_putz C fp_Pl_52 (by decide) rfl rfl (by omega) d_Pl_settle_23 ?_
    try simp only [RZ_4, RZ_5, RZ_w4, wr_so]
    first | exact key 1 (fun z => absurd z (by decide)) | exact key 0 (fun _ => Or.inl c_8) | exact key 0 (fun _ => Or.inr c_15)
  · refine e_aload_n C d_Pl_settle_11 rfl ?_
    refine e_geti C fl_Pl_38 (by decide) rfl rfl d_Pl_settle_12 (fun r_12 => ?_)
    try simp only [RZ_4, RZ_5, RZ_w4, wr_so] at r_12 ⊢
    refine e_if_le C 22 d_Pl_settle_15 (by decide) (by omega) (fun c_15 => ?_) (fun c_15 => ?_)
    · refine e_iconst C d_Pl_settle_22 ?_
      refine e_putz C fp_Pl_52 (by decide) rfl rfl (by omega) d_Pl_settle_23 ?_
      try simp only [RZ_4, RZ_5, RZ_w4, wr_so]
      first | exact key 1 (fun z => absurd z (by decide)) | exact key 0 (fun _ => Or.inl c_8) | exact key 0 (fun _ => Or.inr c_15)
    · refine e_iconst C d_Pl_settle_18 ?_
      refine e_goto C 23 d_Pl_settle_19 (by decide) ?_
      refine e_putz C fp_Pl_52 (by decide) rfl rfl (by omega) d_Pl_settle_23 ?_
      try simp only [RZ_4, RZ_5, RZ_w4, wr_so]
      first | exact key 1 (fun z => absurd z (by decide)) | exact key 0 (fun _ => Or.inl c_8) | exact key 0 (fun _ => Or.inr c_15)
end RDT
