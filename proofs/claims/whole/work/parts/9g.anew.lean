/-! the class begins anew -/
def l_copy (c d : Cs) : Cs := cu (cu (cu (cu (cc (cc (cc (cc (cc c 2 (d 2) (d 7 0)) 3 (d 3) (d 7 0)) 4 (d 4) (d 7 0)) 5 (d 5) (d 7 0)) 6 (d 6) (6 + d 8 0)) 7 0 (d 7 0)) 8 0 (d 8 0)) 0 0 (d 0 0)) 1 0 (d 1 0)
theorem l_copy_cp {c d : Cs} : LCp d (l_copy c d) ∧ l_copy c d 0 0 = d 0 0 ∧ l_copy c d 1 0 = d 1 0 := by
  unfold l_copy
  refine ⟨⟨?_, ?_, fun f i f0 f1 i0 i1 => ?_, fun k k0 k1 => ?_⟩, ?_, ?_⟩
  · simp only [cu_f, cu_s, ne_eq, Nat.reduceEqDiff, not_false_eq_true]
  · simp only [cu_f, cu_s, ne_eq, Nat.reduceEqDiff, not_false_eq_true]
  · have h : f = 2 ∨ f = 3 ∨ f = 4 ∨ f = 5 := by omega
    rcases h with rfl | rfl | rfl | rfl <;> simp only [cu_f, cc_f, ne_eq, Nat.reduceEqDiff, not_false_eq_true] <;> exact cc_s ⟨i0, i1⟩
  · simp only [cu_f, ne_eq, Nat.reduceEqDiff, not_false_eq_true]
    exact cc_s (by omega)
  · simp only [cu_f, cu_s, ne_eq, Nat.reduceEqDiff, not_false_eq_true]
  · simp only [cu_s]
theorem so_com {σ : St} {o o2 : Nat} {a b : Cs} (h : o ≠ o2) : so (so σ o a) o2 b = so (so σ o2 b) o a := by
  funext q
  unfold so
  by_cases h1 : q = o
  · subst h1; rw [if_neg h, if_pos rfl, if_pos rfl]
  · rw [if_neg h1, if_neg h1]
set_option maxHeartbeats 1000000 in
theorem k_La_copyFrom {σ : St} (h7 : 0 ≤ σ 5 7 0 ∧ σ 5 7 0 ≤ 400) (h8 : 0 ≤ σ 5 8 0 ∧ σ 5 8 0 ≤ 400) : CtV M_La_copyFrom [.inr (.inr (8, 0)), .inr (.inr (5, 0))] σ (fun u => u = so σ 8 (l_copy (σ 8) (σ 5))) := by
  intro g C F
  have n5 : ∀ (τ : St) (d : Cs), so τ 8 d 5 = τ 5 := fun τ d => so_ne (by decide)
  have la : ((ln (cls 8) 2 : Nat) : Int) = 400 ∧ ((ln (cls 8) 3 : Nat) : Int) = 400 ∧ ((ln (cls 8) 4 : Nat) : Int) = 400 ∧ ((ln (cls 8) 5 : Nat) : Int) = 400 ∧ ((ln (cls 8) 6 : Nat) : Int) = 806 := by decide
  have lb : ((ln (cls 5) 2 : Nat) : Int) = 400 ∧ ((ln (cls 5) 3 : Nat) : Int) = 400 ∧ ((ln (cls 5) 4 : Nat) : Int) = 400 ∧ ((ln (cls 5) 5 : Nat) : Int) = 400 ∧ ((ln (cls 5) 6 : Nat) : Int) = 806 := by decide
  refine e_aload_n C d_La_copyFrom_0 rfl ?_
  refine e_geta C fl_La_11 (by decide) rfl rfl d_La_copyFrom_1 ?_
  refine e_iconst C d_La_copyFrom_4 ?_
  refine e_aload_n C d_La_copyFrom_5 rfl ?_
  refine e_geta C fl_La_11 (by decide) rfl rfl d_La_copyFrom_6 ?_
  refine e_iconst C d_La_copyFrom_9 ?_
  refine e_aload_n C d_La_copyFrom_10 rfl ?_
  refine e_geti C fl_La_27 (by decide) rfl rfl d_La_copyFrom_11 (fun r_11 => ?_)
  try simp only [cpy_so, wr_so, so_so, so_at, n5] at r_11 ⊢
  refine e_copy (kn := 3) (ty := .int) C 0 (fun _ => rfl) (by decide) lk_La_41 (by decide) rfl (by decide) rfl (by decide) rfl (by decide) rfl (by omega) (by omega) (by omega) (by omega) (by decide) d_La_copyFrom_14 ?_
  refine e_aload_n C d_La_copyFrom_17 rfl ?_
  refine e_geta C fl_La_15 (by decide) rfl rfl d_La_copyFrom_18 ?_
  refine e_iconst C d_La_copyFrom_21 ?_
  refine e_aload_n C d_La_copyFrom_22 rfl ?_
  refine e_geta C fl_La_15 (by decide) rfl rfl d_La_copyFrom_23 ?_
  refine e_iconst C d_La_copyFrom_26 ?_
  refine e_aload_n C d_La_copyFrom_27 rfl ?_
  refine e_geti C fl_La_27 (by decide) rfl rfl d_La_copyFrom_28 (fun r_28 => ?_)
  try simp only [cpy_so, wr_so, so_so, so_at, n5] at r_28 ⊢
  refine e_copy (kn := 3) (ty := .int) C 0 (fun _ => rfl) (by decide) lk_La_41 (by decide) rfl (by decide) rfl (by decide) rfl (by decide) rfl (by omega) (by omega) (by omega) (by omega) (by decide) d_La_copyFrom_31 ?_
  refine e_aload_n C d_La_copyFrom_34 rfl ?_
  refine e_geta C fl_La_18 (by decide) rfl rfl d_La_copyFrom_35 ?_
  refine e_iconst C d_La_copyFrom_38 ?_
  refine e_aload_n C d_La_copyFrom_39 rfl ?_
  refine e_geta C fl_La_18 (by decide) rfl rfl d_La_copyFrom_40 ?_
  refine e_iconst C d_La_copyFrom_43 ?_
  refine e_aload_n C d_La_copyFrom_44 rfl ?_
  refine e_geti C fl_La_27 (by decide) rfl rfl d_La_copyFrom_45 (fun r_45 => ?_)
  try simp only [cpy_so, wr_so, so_so, so_at, n5] at r_45 ⊢
  refine e_copy (kn := 3) (ty := .int) C 0 (fun _ => rfl) (by decide) lk_La_41 (by decide) rfl (by decide) rfl (by decide) rfl (by decide) rfl (by omega) (by omega) (by omega) (by omega) (by decide) d_La_copyFrom_48 ?_
  refine e_aload_n C d_La_copyFrom_51 rfl ?_
  refine e_geta C fl_La_21 (by decide) rfl rfl d_La_copyFrom_52 ?_
  refine e_iconst C d_La_copyFrom_55 ?_
  refine e_aload_n C d_La_copyFrom_56 rfl ?_
  refine e_geta C fl_La_21 (by decide) rfl rfl d_La_copyFrom_57 ?_
  refine e_iconst C d_La_copyFrom_60 ?_
  refine e_aload_n C d_La_copyFrom_61 rfl ?_
  refine e_geti C fl_La_27 (by decide) rfl rfl d_La_copyFrom_62 (fun r_62 => ?_)
  try simp only [cpy_so, wr_so, so_so, so_at, n5] at r_62 ⊢
  refine e_copy (kn := 3) (ty := .int) C 0 (fun _ => rfl) (by decide) lk_La_41 (by decide) rfl (by decide) rfl (by decide) rfl (by decide) rfl (by omega) (by omega) (by omega) (by omega) (by decide) d_La_copyFrom_65 ?_
  refine e_aload_n C d_La_copyFrom_68 rfl ?_
  refine e_geta C fl_La_24 (by decide) rfl rfl d_La_copyFrom_69 ?_
  refine e_iconst C d_La_copyFrom_72 ?_
  refine e_aload_n C d_La_copyFrom_73 rfl ?_
  refine e_geta C fl_La_24 (by decide) rfl rfl d_La_copyFrom_74 ?_
  refine e_iconst C d_La_copyFrom_77 ?_
  refine e_bipush C d_La_copyFrom_78 (by decide) ?_
  refine e_aload_n C d_La_copyFrom_80 rfl ?_
  refine e_geti C fl_La_31 (by decide) rfl rfl d_La_copyFrom_81 (fun r_81 => ?_)
  try simp only [cpy_so, wr_so, so_so, so_at, n5] at r_81 ⊢
  refine e_iadd C d_La_copyFrom_84 ?_
  refine e_copy (kn := 3) (ty := .int) C 0 (fun _ => rfl) (by decide) lk_La_41 (by decide) rfl (by decide) rfl (by decide) rfl (by decide) rfl (by omega) (by omega) (by omega) (by omega) (by decide) d_La_copyFrom_85 ?_
  refine e_aload_n C d_La_copyFrom_88 rfl ?_
  refine e_aload_n C d_La_copyFrom_89 rfl ?_
  refine e_geti C fl_La_27 (by decide) rfl rfl d_La_copyFrom_90 (fun r_90 => ?_)
  try simp only [cpy_so, wr_so, so_so, so_at, n5] at r_90 ⊢
  refine e_puti C fp_La_27 (by decide) rfl rfl (by omega) d_La_copyFrom_93 ?_
  try simp only [cpy_so, wr_so, so_so, so_at, n5]
  refine e_aload_n C d_La_copyFrom_96 rfl ?_
  refine e_aload_n C d_La_copyFrom_97 rfl ?_
  refine e_geti C fl_La_31 (by decide) rfl rfl d_La_copyFrom_98 (fun r_98 => ?_)
  try simp only [cpy_so, wr_so, so_so, so_at, n5] at r_98 ⊢
  refine e_puti C fp_La_31 (by decide) rfl rfl (by omega) d_La_copyFrom_101 ?_
  try simp only [cpy_so, wr_so, so_so, so_at, n5]
  refine e_aload_n C d_La_copyFrom_104 rfl ?_
  refine e_aload_n C d_La_copyFrom_105 rfl ?_
  refine e_getz C fl_La_34 (by decide) rfl rfl d_La_copyFrom_106 (fun r_106 => ?_)
  try simp only [cpy_so, wr_so, so_so, so_at, n5] at r_106 ⊢
  refine e_putz C fp_La_34 (by decide) rfl rfl (by omega) d_La_copyFrom_109 ?_
  try simp only [cpy_so, wr_so, so_so, so_at, n5]
  refine e_aload_n C d_La_copyFrom_112 rfl ?_
  refine e_aload_n C d_La_copyFrom_113 rfl ?_
  refine e_getz C fl_La_38 (by decide) rfl rfl d_La_copyFrom_114 (fun r_114 => ?_)
  try simp only [cpy_so, wr_so, so_so, so_at, n5] at r_114 ⊢
  refine e_putz C fp_La_38 (by decide) rfl rfl (by omega) d_La_copyFrom_117 ?_
  try simp only [cpy_so, wr_so, so_so, so_at, n5]
  refine e_vret C F rfl d_La_copyFrom_120 ?_
  rfl
def p_copy (c d : Cs) : Cs := cu (cu (cu (cu (cu (cc (cc (cc c 0 (d 0) 8) 1 (d 1) 25) 8 (d 8) 200) 3 0 (d 3 0)) 4 0 (d 4 0)) 5 0 (d 5 0)) 6 0 (d 6 0)) 7 0 (d 7 0)
theorem p_copy_1 {c d : Cs} {f : Nat} (h : f = 3 ∨ f = 4 ∨ f = 5 ∨ f = 6 ∨ f = 7) : p_copy c d f 0 = d f 0 := by
  unfold p_copy
  rcases h with rfl | rfl | rfl | rfl | rfl <;> simp only [cu_f, cu_s, ne_eq, Nat.reduceEqDiff, not_false_eq_true]
theorem p_copy_0 {c d : Cs} {k : Int} (h : 0 ≤ k ∧ k < 8) : p_copy c d 0 k = d 0 k := by unfold p_copy; simp only [cu_f, cc_f, ne_eq, Nat.reduceEqDiff, not_false_eq_true]; exact cc_s h
theorem p_copy_w {c d : Cs} {k : Int} (h : 0 ≤ k ∧ k < 25) : p_copy c d 1 k = d 1 k := by unfold p_copy; simp only [cu_f, cc_f, ne_eq, Nat.reduceEqDiff, not_false_eq_true]; exact cc_s h
theorem p_copy_8 {c d : Cs} {k : Int} (h : 0 ≤ k ∧ k < 200) : p_copy c d 8 k = d 8 k := by unfold p_copy; simp only [cu_f, cc_f, ne_eq, Nat.reduceEqDiff, not_false_eq_true]; exact cc_s h
set_option maxHeartbeats 1000000 in
theorem k_Pl_copyFrom {σ : St} (h7 : 0 ≤ σ 5 7 0 ∧ σ 5 7 0 ≤ 400) (h8 : 0 ≤ σ 5 8 0 ∧ σ 5 8 0 ≤ 400) : CtV M_Pl_copyFrom [.inr (.inr (7, 0)), .inr (.inr (4, 0))] σ (fun u => u = so (so σ 8 (l_copy (σ 8) (σ 5))) 7 (p_copy (σ 7) (σ 4))) := by
  intro g C F
  have n4 : ∀ (τ : St) (d : Cs), so τ 7 d 4 = τ 4 := fun τ d => so_ne (by decide)
  have n5 : ∀ (τ : St) (d : Cs), so τ 7 d 5 = τ 5 := fun τ d => so_ne (by decide)
  have n8 : ∀ (τ : St) (d : Cs), so τ 7 d 8 = τ 8 := fun τ d => so_ne (by decide)
  have m4 : ∀ (τ : St) (d : Cs), so τ 8 d 4 = τ 4 := fun τ d => so_ne (by decide)
  have m7 : ∀ (τ : St) (d : Cs), so τ 8 d 7 = τ 7 := fun τ d => so_ne (by decide)
  have sw : ∀ (τ : St) (d e : Cs), so (so τ 7 d) 8 e = so (so τ 8 e) 7 d := fun τ d e => so_com (by decide)
  refine e_aload_n C d_Pl_copyFrom_0 rfl ?_
  refine e_geta C fl_Pl_9 (by decide) rfl rfl d_Pl_copyFrom_1 ?_
  refine e_iconst C d_Pl_copyFrom_4 ?_
  refine e_aload_n C d_Pl_copyFrom_5 rfl ?_
  refine e_geta C fl_Pl_9 (by decide) rfl rfl d_Pl_copyFrom_6 ?_
  refine e_iconst C d_Pl_copyFrom_9 ?_
  refine e_bipush C d_Pl_copyFrom_10 (by decide) ?_
  refine e_copy (kn := 3) (ty := .int) C 0 (fun _ => rfl) (by decide) lk_Pl_62 (by decide) rfl (by decide) rfl (by decide) rfl (by decide) rfl (by decide) (by decide) (by decide) (by decide) (by decide) d_Pl_copyFrom_12 ?_
  refine e_aload_n C d_Pl_copyFrom_15 rfl ?_
  refine e_geta C fl_Pl_15 (by decide) rfl rfl d_Pl_copyFrom_16 ?_
  refine e_iconst C d_Pl_copyFrom_19 ?_
  refine e_aload_n C d_Pl_copyFrom_20 rfl ?_
  refine e_geta C fl_Pl_15 (by decide) rfl rfl d_Pl_copyFrom_21 ?_
  refine e_iconst C d_Pl_copyFrom_24 ?_
  refine e_bipush C d_Pl_copyFrom_25 (by decide) ?_
  refine e_copy (kn := 3) (ty := .int) C 0 (fun _ => rfl) (by decide) lk_Pl_62 (by decide) rfl (by decide) rfl (by decide) rfl (by decide) rfl (by decide) (by decide) (by decide) (by decide) (by decide) d_Pl_copyFrom_27 ?_
  refine e_aload_n C d_Pl_copyFrom_30 rfl ?_
  refine e_geta C fl_Pl_29 (by decide) rfl rfl d_Pl_copyFrom_31 ?_
  refine e_iconst C d_Pl_copyFrom_34 ?_
  refine e_aload_n C d_Pl_copyFrom_35 rfl ?_
  refine e_geta C fl_Pl_29 (by decide) rfl rfl d_Pl_copyFrom_36 ?_
  refine e_iconst C d_Pl_copyFrom_39 ?_
  refine e_aload_n C d_Pl_copyFrom_40 rfl ?_
  refine e_geta C fl_Pl_29 (by decide) rfl rfl d_Pl_copyFrom_41 ?_
  refine e_alen3 (n := 200) C (by decide) rfl (by decide) rfl rfl d_Pl_copyFrom_44 ?_
  refine e_copy (kn := 3) (ty := .int) C 0 (fun _ => rfl) (by decide) lk_Pl_62 (by decide) rfl (by decide) rfl (by decide) rfl (by decide) rfl (by decide) (by decide) (by decide) (by decide) (by decide) d_Pl_copyFrom_45 ?_
  simp only [cpy_so, so_so, so_at, n4, show ((200 : Nat) : Int) = 200 from rfl]
  refine e_aload_n C d_Pl_copyFrom_48 rfl ?_
  refine e_geto (o2 := 8) C fl_Pl_21 (by decide) rfl rfl rfl d_Pl_copyFrom_49 ?_
  refine e_aload_n C d_Pl_copyFrom_52 rfl ?_
  refine e_geto (o2 := 5) C fl_Pl_21 (by decide) rfl rfl rfl d_Pl_copyFrom_53 ?_
  refine e_callVV C ok_La_copyFrom lk_Pl_68 (o := 8) (by decide) rfl [_] rfl rfl (Nat.le_of_ble_eq_true rfl) (by decide) (Nat.le_of_ble_eq_true rfl) d_Pl_copyFrom_56 (k_La_copyFrom (by rw [n5]; exact h7) (by rw [n5]; exact h8)) (fun u_56 h_56 => ?_)
  subst h_56
  rw [n5, n8, sw]
  refine e_aload_n C d_Pl_copyFrom_59 rfl ?_
  refine e_aload_n C d_Pl_copyFrom_60 rfl ?_
  refine e_geti C fl_Pl_32 (by decide) rfl rfl d_Pl_copyFrom_61 (fun r_61 => ?_)
  try simp only [cpy_so, wr_so, so_so, so_at, n4, n5, n8, m4, m7] at r_61 ⊢
  refine e_puti C fp_Pl_32 (by decide) rfl rfl (by omega) d_Pl_copyFrom_64 ?_
  try simp only [cpy_so, wr_so, so_so, so_at, n4, n5, n8, m4, m7]
  refine e_aload_n C d_Pl_copyFrom_67 rfl ?_
  refine e_aload_n C d_Pl_copyFrom_68 rfl ?_
  refine e_geti C fl_Pl_35 (by decide) rfl rfl d_Pl_copyFrom_69 (fun r_69 => ?_)
  try simp only [cpy_so, wr_so, so_so, so_at, n4, n5, n8, m4, m7] at r_69 ⊢
  refine e_puti C fp_Pl_35 (by decide) rfl rfl (by omega) d_Pl_copyFrom_72 ?_
  try simp only [cpy_so, wr_so, so_so, so_at, n4, n5, n8, m4, m7]
  refine e_aload_n C d_Pl_copyFrom_75 rfl ?_
  refine e_aload_n C d_Pl_copyFrom_76 rfl ?_
  refine e_geti C fl_Pl_38 (by decide) rfl rfl d_Pl_copyFrom_77 (fun r_77 => ?_)
  try simp only [cpy_so, wr_so, so_so, so_at, n4, n5, n8, m4, m7] at r_77 ⊢
  refine e_puti C fp_Pl_38 (by decide) rfl rfl (by omega) d_Pl_copyFrom_80 ?_
  try simp only [cpy_so, wr_so, so_so, so_at, n4, n5, n8, m4, m7]
  refine e_aload_n C d_Pl_copyFrom_83 rfl ?_
  refine e_aload_n C d_Pl_copyFrom_84 rfl ?_
  refine e_geti C fl_Pl_25 (by decide) rfl rfl d_Pl_copyFrom_85 (fun r_85 => ?_)
  try simp only [cpy_so, wr_so, so_so, so_at, n4, n5, n8, m4, m7] at r_85 ⊢
  refine e_puti C fp_Pl_25 (by decide) rfl rfl (by omega) d_Pl_copyFrom_88 ?_
  try simp only [cpy_so, wr_so, so_so, so_at, n4, n5, n8, m4, m7]
  refine e_aload_n C d_Pl_copyFrom_91 rfl ?_
  refine e_aload_n C d_Pl_copyFrom_92 rfl ?_
  refine e_getz C fl_Pl_52 (by decide) rfl rfl d_Pl_copyFrom_93 (fun r_93 => ?_)
  try simp only [cpy_so, wr_so, so_so, so_at, n4, n5, n8, m4, m7] at r_93 ⊢
  refine e_putz C fp_Pl_52 (by decide) rfl rfl (by omega) d_Pl_copyFrom_96 ?_
  try simp only [cpy_so, wr_so, so_so, so_at, n4, n5, n8, m4, m7]
  refine e_vret C F rfl d_Pl_copyFrom_99 ?_
  rfl
/-- the castles kept are let go -/
theorem l_Sg_beginAnew {g : Mach} (C : Cx M_Sg_beginAnew g) {τ : St} {d0 : Cs} (K : ∀ d : Cs, (∀ f, f ≠ 7 → d f = d0 f) → (∀ s, 0 ≤ s → s < 3 → d 7 s = 0) → Ev g 67 [some (.inr (.inr (0, 0))), none] [] (so τ 0 d)) :
    ∀ (n : Nat) (i : Int) (d : Cs), 0 ≤ i → i + n = 3 → (∀ f, f ≠ 7 → d f = d0 f) → (∀ s, 0 ≤ s → s < i → d 7 s = 0) → Ev g 49 [some (.inr (.inr (0, 0))), some (.inl i)] [] (so τ 0 d) := by
  intro n
  induction n with
  | zero =>
    intro i d h0 h1 hf hs
    refine e_iload_n C d_Sg_beginAnew_49 rfl ?_
    refine e_iconst C d_Sg_beginAnew_50 ?_
    refine e_icmp_ge C 67 d_Sg_beginAnew_51 (by decide) (by omega) (by omega) (fun c_51 => ?_) (fun c_51 => ?_)
    · exact e_drop 1 (K d hf (fun s a b => hs s a (by omega)))
    · exact absurd h1 (by omega)
  | succ n ih =>
    intro i d h0 h1 hf hs
    refine e_iload_n C d_Sg_beginAnew_49 rfl ?_
    refine e_iconst C d_Sg_beginAnew_50 ?_
    refine e_icmp_ge C 67 d_Sg_beginAnew_51 (by decide) (by omega) (by omega) (fun c_51 => ?_) (fun c_51 => ?_)
    · exact absurd h1 (by omega)
    · refine e_aload_n C d_Sg_beginAnew_54 rfl ?_
      refine e_geta C fl_Sg_51 (by decide) rfl rfl d_Sg_beginAnew_55 ?_
      refine e_iload_n C d_Sg_beginAnew_58 rfl ?_
      refine e_iconst C d_Sg_beginAnew_59 ?_
      refine e_zast (n := 3) C (by decide) rfl (by decide) rfl rfl (by decide) (by omega) (by omega) (by omega) d_Sg_beginAnew_60 ?_
      try simp only [wr_so, so_so, so_at]
      refine e_iinc C d_Sg_beginAnew_61 rfl (by decide) rfl ?_
      refine e_goto C 49 d_Sg_beginAnew_64 (by decide) ?_
      refine ih (i + 1) _ (by omega) (by omega) (fun f a => by rw [cf_f a]; exact hf f a) (fun s a b => ?_)
      rw [cu_if]
      split
      · rfl
      · rename_i w; exact hs s a (by omega)
/-- anew -/
def AN (σ u : St) : Prop := u 7 = p_copy (σ 7) (σ 4) ∧ u 8 = l_copy (σ 8) (σ 5) ∧ u 17 = c_copy (σ 17) (σ 16) ∧ u 18 = c_copy (σ 18) (c_copy (σ 17) (σ 16)) ∧ (u 9 0 0 = 0 ∧ u 9 2 0 = σ 9 2 0) ∧ ((∀ f, f ≠ 7 → u 0 f = σ 0 f) ∧ ∀ s, 0 ≤ s → s < 3 → u 0 7 s = 0) ∧ (u 13 2 0 = 0 ∧ u 13 4 = σ 13 4 ∧ u 13 5 = σ 13 5 ∧ u 13 7 0 = 0) ∧ (u 11 6 0 = 0 ∧ u 11 7 0 = 0 ∧ u 11 8 0 = 0) ∧ u 12 2 0 = 0 ∧ ∀ o, o = 1 ∨ o = 2 ∨ o = 4 ∨ o = 16 → u o = σ o
theorem k_Sg_beginAnew {σ : St} (h7 : 0 ≤ σ 5 7 0 ∧ σ 5 7 0 ≤ 400) (h8 : 0 ≤ σ 5 8 0 ∧ σ 5 8 0 ≤ 400) : CtV M_Sg_beginAnew [.inr (.inr (0, 0))] σ (AN σ) := by
  intro g C F
  have key : ∀ τ : St, τ 7 = p_copy (σ 7) (σ 4) → τ 8 = l_copy (σ 8) (σ 5) → τ 17 = c_copy (σ 17) (σ 16) → τ 18 = c_copy (σ 18) (c_copy (σ 17) (σ 16)) → τ 9 = cu (σ 9) 0 0 0 → (∀ o, o = 0 ∨ o = 1 ∨ o = 2 ∨ o = 4 ∨ o = 11 ∨ o = 12 ∨ o = 13 ∨ o = 16 → τ o = σ o) → Ev g 49 [some (.inr (.inr (0, 0))), some (.inl 0)] [] τ := by
    intro τ t7 t8 t17 t18 t9 to
    have := l_Sg_beginAnew (τ := τ) (d0 := τ 0) C (fun d hd hs => ?_) 3 0 (τ 0) (by omega) (by omega) (fun f _ => rfl) (fun s a b => by omega)
    · rw [so_id] at this
      exact this
    have e : ∀ (o : Nat) (q1 q2 q3 : Cs), o ≠ 0 → o ≠ 13 → o ≠ 11 → o ≠ 12 → so (so (so (so τ 0 d) 13 q1) 11 q2) 12 q3 o = τ o := fun o q1 q2 q3 a1 a2 a3 a4 => by rw [so_ne a4, so_ne a3, so_ne a2, so_ne a1]
    refine e_aload_n C d_Sg_beginAnew_67 rfl ?_
    refine e_geto (o2 := 13) C fl_Sg_79 (by decide) rfl rfl rfl d_Sg_beginAnew_68 ?_
    refine e_callVV C ok_Ru_clear lk_Sg_120 (o := 13) (by decide) rfl [] rfl rfl (Nat.le_of_ble_eq_true rfl) (by decide) (Nat.le_of_ble_eq_true rfl) d_Sg_beginAnew_71 (k_Ru_clear) (fun u_71 h_71 => ?_)
    subst h_71
    refine e_aload_n C d_Sg_beginAnew_74 rfl ?_
    refine e_callVV C ok_Sg_noteChange lk_Sg_123 (o := 0) (by decide) rfl [] rfl rfl (Nat.le_of_ble_eq_true rfl) (by decide) (Nat.le_of_ble_eq_true rfl) d_Sg_beginAnew_75 (k_Sg_noteChange) (fun u_75 h_75 => ?_)
    subst h_75
    refine e_vret C F rfl d_Sg_beginAnew_78 ?_
    refine ⟨?_, ?_, ?_, ?_, ⟨?_, ?_⟩, ⟨fun f a => ?_, fun s a b => ?_⟩, ⟨?_, ?_, ?_, ?_⟩, ⟨?_, ?_, ?_⟩, ?_, fun o ho => ?_⟩
    · rw [e 7 _ _ _ (by decide) (by decide) (by decide) (by decide)]; exact t7
    · rw [e 8 _ _ _ (by decide) (by decide) (by decide) (by decide)]; exact t8
    · rw [e 17 _ _ _ (by decide) (by decide) (by decide) (by decide)]; exact t17
    · rw [e 18 _ _ _ (by decide) (by decide) (by decide) (by decide)]; exact t18
    · rw [e 9 _ _ _ (by decide) (by decide) (by decide) (by decide), t9, cu_s]
    · rw [e 9 _ _ _ (by decide) (by decide) (by decide) (by decide), t9, cu_f (by decide)]
    · rw [so_ne (by decide), so_ne (by decide), so_ne (by decide), so_at, hd f a, to 0 (by decide)]
    · rw [so_ne (by decide), so_ne (by decide), so_ne (by decide), so_at]; exact hs s a b
    · rw [so_ne (by decide), so_ne (by decide), so_at, cu_f (by decide), cu_s]
    · rw [so_ne (by decide), so_ne (by decide), so_at, cf_f (by decide), cf_f (by decide), so_ne (by decide), to 13 (by decide)]
    · rw [so_ne (by decide), so_ne (by decide), so_at, cf_f (by decide), cf_f (by decide), so_ne (by decide), to 13 (by decide)]
    · rw [so_ne (by decide), so_ne (by decide), so_at, cu_s]
    · rw [so_ne (by decide), so_at, cu_f (by decide), cu_f (by decide), cu_s]
    · rw [so_ne (by decide), so_at, cu_f (by decide), cu_s]
    · rw [so_ne (by decide), so_at, cu_s]
    · rw [so_at, cu_s]
    · rw [e o _ _ _ (by omega) (by omega) (by omega) (by omega)]; exact to o (by omega)
  refine e_aload_n C d_Sg_beginAnew_0 rfl ?_
  refine e_geto (o2 := 7) C fl_Sg_26 (by decide) rfl rfl rfl d_Sg_beginAnew_1 ?_
  refine e_aload_n C d_Sg_beginAnew_4 rfl ?_
  refine e_geto (o2 := 3) C fl_Sg_19 (by decide) rfl rfl rfl d_Sg_beginAnew_5 ?_
  refine e_geto (o2 := 4) C fl_Sg_108 (by decide) rfl rfl rfl d_Sg_beginAnew_8 ?_
  refine e_callVV C ok_Pl_copyFrom lk_Sg_109 (o := 7) (by decide) rfl [_] rfl rfl (Nat.le_of_ble_eq_true rfl) (by decide) (Nat.le_of_ble_eq_true rfl) d_Sg_beginAnew_11 (k_Pl_copyFrom h7 h8) (fun u_11 h_11 => ?_)
  subst h_11
  refine e_aload_n C d_Sg_beginAnew_14 rfl ?_
  refine e_geto (o2 := 17) C fl_Sg_33 (by decide) rfl rfl rfl d_Sg_beginAnew_15 ?_
  refine e_aload_n C d_Sg_beginAnew_18 rfl ?_
  refine e_geto (o2 := 3) C fl_Sg_19 (by decide) rfl rfl rfl d_Sg_beginAnew_19 ?_
  refine e_geto (o2 := 16) C fl_Sg_113 (by decide) rfl rfl rfl d_Sg_beginAnew_22 ?_
  refine e_callVV C ok_Ca_copyFrom lk_Sg_116 (o := 17) (by decide) rfl [_] rfl rfl (Nat.le_of_ble_eq_true rfl) (by decide) (Nat.le_of_ble_eq_true rfl) d_Sg_beginAnew_25 (k_Ca_copyFrom (by decide) (by decide) (by decide)) (fun u_25 h_25 => ?_)
  subst h_25
  refine e_aload_n C d_Sg_beginAnew_28 rfl ?_
  refine e_geto (o2 := 18) C fl_Sg_37 (by decide) rfl rfl rfl d_Sg_beginAnew_29 ?_
  refine e_aload_n C d_Sg_beginAnew_32 rfl ?_
  refine e_geto (o2 := 17) C fl_Sg_33 (by decide) rfl rfl rfl d_Sg_beginAnew_33 ?_
  refine e_callVV C ok_Ca_copyFrom lk_Sg_116 (o := 18) (by decide) rfl [_] rfl rfl (Nat.le_of_ble_eq_true rfl) (by decide) (Nat.le_of_ble_eq_true rfl) d_Sg_beginAnew_36 (k_Ca_copyFrom (by decide) (by decide) (by decide)) (fun u_36 h_36 => ?_)
  subst h_36
  refine e_aload_n C d_Sg_beginAnew_39 rfl ?_
  refine e_geto (o2 := 9) C fl_Sg_43 (by decide) rfl rfl rfl d_Sg_beginAnew_40 ?_
  refine e_iconst C d_Sg_beginAnew_43 ?_
  refine e_puti C fp_Sg_119 (by decide) rfl rfl (by omega) d_Sg_beginAnew_44 ?_
  refine e_iconst C d_Sg_beginAnew_47 ?_
  refine e_istore_n C d_Sg_beginAnew_48 (by decide) rfl ?_
  refine key _ ?_ ?_ ?_ ?_ ?_ ?_
  · rw [wr_so, so_ne (by decide), so_ne (by decide), so_ne (by decide), so_at]
  · rw [wr_so, so_ne (by decide), so_ne (by decide), so_ne (by decide), so_ne (by decide), so_at]
  · rw [wr_so, so_ne (by decide), so_ne (by decide), so_at, so_ne (by decide), so_ne (by decide), so_ne (by decide), so_ne (by decide)]
  · rw [wr_so, so_ne (by decide), so_at, so_ne (by decide), so_ne (by decide), so_ne (by decide), so_at, so_ne (by decide), so_ne (by decide), so_ne (by decide), so_ne (by decide)]
  · rw [wr_so, so_at, so_ne (by decide), so_ne (by decide), so_ne (by decide), so_ne (by decide)]
  · intro o ho
    rw [wr_so, so_ne (by omega), so_ne (by omega), so_ne (by omega), so_ne (by omega), so_ne (by omega)]
