/-! the reference's calls, one by one -/
theorem soMF (σ : St) (m : Cs) : so σ 1 m = MF σ m (m 51) := by unfold MF; rw [lnm_id]
theorem IVm.fin {S : SS} {m m' : Cs} {R : Int → Int} (h : IVm S m) (hs : MS m m') : IVm S (lnm m' 51 R) := h.mk (hs.mk.tr (MK_51 _ _))
theorem IVm.fin0 {S : SS} {m : Cs} {R : Int → Int} (h : IVm S m) : IVm S (lnm m 51 R) := h.mk (MK_51 _ _)
def rvPost (S : SS) (p w : Int) : Int := if ¬ (0 ≤ p ∧ p < sP S 3 0) then -1 else if w = 0 then sY S 0 p else if w = 1 then sY S 1 p else if w = 2 then sY S 2 p else if w = 3 then sY S 3 p else if w = 4 then sY S 4 p else if w = 5 then c_fls (sF S) (sP S) (sY S) p else if w = 6 then sY S 5 p else -1
set_option maxHeartbeats 1000000 in
theorem K_Mo_post {σ : St} {m : Cs} {S : SS} {n p w : Int} (hp : PI S n) (hm : IVm S m) (r1 : R32 p) (r2 : R32 w) : CtI M_Mo_post [.inr (.inr (1, 0)), .inl p, .inl w] (so σ 1 m) (fun r u => r = rvPost S p w ∧ ∃ m', u = so σ 1 m' ∧ IVm S m') := by
  intro g C F
  obtain ⟨l, hPl⟩ := hp.pl
  have hN := hPl.1
  have hG := hPl.2.1
  have hM := hm.1.1
  have hn := hp.n
  rw [soMF]
  unfold rvPost at F
  refine e_aload_n C d_Mo_post_0 rfl ?_
  refine e_iload_n C d_Mo_post_1 rfl ?_
  refine e_callIV C ok_Mo_isPost lk_Mo_327 (o := 1) (by decide) rfl [_] rfl rfl (Nat.le_of_ble_eq_true rfl) (by decide) (Nat.le_of_ble_eq_true rfl) d_Mo_post_2 (k_Mo_isPost hM hN r1) (fun v_2 u_2 q_2 h_2 => ?_)
  obtain ⟨rfl, rfl⟩ := h_2
  refine e_if_ne C 10 d_Mo_post_5 (by decide) (by split <;> omega) (fun c_5 => ?_) (fun c_5 => ?_)
  · have hv : 0 ≤ p ∧ p < sP S 3 0 := Decidable.byContradiction fun z => by rw [if_neg z] at c_5; omega
    rw [if_neg (show ¬ ¬ (0 ≤ p ∧ p < sP S 3 0) from fun z => z hv)] at F
    refine e_aload_n C d_Mo_post_10 rfl ?_
    refine e_callVV C ok_Mo_copies lk_Mo_330 (o := 1) (by decide) rfl [] rfl rfl (Nat.le_of_ble_eq_true rfl) (by decide) (Nat.le_of_ble_eq_true rfl) d_Mo_post_11 (k_Mo_copies) (fun u_11 h_11 => ?_)
    subst h_11
    have hy := RY_cp (R := m 51) hm.2.1
    generalize r_cp (m 51) (m 50) 100 = R at hy ⊢
    have hyp := hy.1 p hv.1 (by omega)
    have hq := hp.y.1.post hN.2 hG.2 hv
    have h12 := hp.y.1.bed.2.2
    have hem := em_lt (v := sY S 2 p) (by omega)
    refine e_iload_n C d_Mo_post_14 rfl ?_
    by_cases s_15 : w < 0 ∨ 6 < w
    · refine e_tableOut C 136 d_Mo_post_15 (by omega) (by omega) (by decide) ?_
      refine e_iconst C d_Mo_post_136 ?_
      refine e_iret C F rfl d_Mo_post_137 (by omega) ?_
      rw [if_neg (by omega), if_neg (by omega), if_neg (by omega), if_neg (by omega), if_neg (by omega), if_neg (by omega), if_neg (by omega)]; exact ⟨rfl, _, rfl, hm.fin0⟩
    · rcases (show w = 0 ∨ w = 1 ∨ w = 2 ∨ w = 3 ∨ w = 4 ∨ w = 5 ∨ w = 6 by omega) with s_15_ | s_15_ | s_15_ | s_15_ | s_15_ | s_15_ | s_15_
      · refine e_tableIn (off := 41) C 56 d_Mo_post_15 (by omega) (by omega) (by omega) (by rw [s_15_]; rfl) (by decide) ?_
        refine e_aload_n C d_Mo_post_56 rfl ?_
        refine e_geta C fl_Mo_119 (by decide) rfl rfl d_Mo_post_57 ?_
        refine e_iload_n C d_Mo_post_60 rfl ?_
        refine e_iald (n := 100) C (by decide) rfl (by decide) rfl rfl (by decide) (by omega) (by omega) d_Mo_post_61 (fun r_61 => ?_)
        try simp only [MF_51] at r_61 ⊢
        rw [hyp.1] at r_61 ⊢
        refine e_iret C F rfl d_Mo_post_62 (by omega) ?_
        rw [if_pos s_15_]; exact ⟨rfl, _, rfl, hm.fin0⟩
      · refine e_tableIn (off := 48) C 63 d_Mo_post_15 (by omega) (by omega) (by omega) (by rw [s_15_]; rfl) (by decide) ?_
        refine e_aload_n C d_Mo_post_63 rfl ?_
        refine e_geta C fl_Mo_119 (by decide) rfl rfl d_Mo_post_64 ?_
        refine e_bipush C d_Mo_post_67 (by decide) ?_
        refine e_iload_n C d_Mo_post_69 rfl ?_
        refine e_iadd C d_Mo_post_70 ?_
        refine e_iald (n := 100) C (by decide) rfl (by decide) rfl rfl (by decide) (by omega) (by omega) d_Mo_post_71 (fun r_71 => ?_)
        try simp only [MF_51] at r_71 ⊢
        rw [hyp.2.1] at r_71 ⊢
        refine e_iret C F rfl d_Mo_post_72 (by omega) ?_
        rw [if_neg (by omega), if_pos s_15_]; exact ⟨rfl, _, rfl, hm.fin0⟩
      · refine e_tableIn (off := 58) C 73 d_Mo_post_15 (by omega) (by omega) (by omega) (by rw [s_15_]; rfl) (by decide) ?_
        refine e_aload_n C d_Mo_post_73 rfl ?_
        refine e_geta C fl_Mo_119 (by decide) rfl rfl d_Mo_post_74 ?_
        refine e_bipush C d_Mo_post_77 (by decide) ?_
        refine e_iload_n C d_Mo_post_79 rfl ?_
        refine e_iadd C d_Mo_post_80 ?_
        refine e_iald (n := 100) C (by decide) rfl (by decide) rfl rfl (by decide) (by omega) (by omega) d_Mo_post_81 (fun r_81 => ?_)
        try simp only [MF_51] at r_81 ⊢
        rw [hyp.2.2.1] at r_81 ⊢
        refine e_if_ge C 90 d_Mo_post_82 (by decide) (by omega) (fun c_82 => ?_) (fun c_82 => ?_)
        · refine e_aload_n C d_Mo_post_90 rfl ?_
          refine e_geta C fl_Mo_119 (by decide) rfl rfl d_Mo_post_91 ?_
          refine e_bipush C d_Mo_post_94 (by decide) ?_
          refine e_iload_n C d_Mo_post_96 rfl ?_
          refine e_iadd C d_Mo_post_97 ?_
          refine e_iald (n := 100) C (by decide) rfl (by decide) rfl rfl (by decide) (by omega) (by omega) d_Mo_post_98 (fun r_98 => ?_)
          try simp only [MF_51] at r_98 ⊢
          rw [hyp.2.2.1] at r_98 ⊢
          rw [em_id (by omega)] at r_98 ⊢
          refine e_iret C F rfl d_Mo_post_99 (by omega) ?_
          rw [if_neg (by omega), if_neg (by omega), if_pos s_15_]; exact ⟨by omega, _, rfl, hm.fin0⟩
        · refine e_bipush C d_Mo_post_85 (by decide) ?_
          refine e_goto C 99 d_Mo_post_87 (by decide) ?_
          refine e_iret C F rfl d_Mo_post_99 (by omega) ?_
          rw [if_neg (by omega), if_neg (by omega), if_pos s_15_]; exact ⟨by omega, _, rfl, hm.fin0⟩
      · refine e_tableIn (off := 85) C 100 d_Mo_post_15 (by omega) (by omega) (by omega) (by rw [s_15_]; rfl) (by decide) ?_
        refine e_aload_n C d_Mo_post_100 rfl ?_
        refine e_geta C fl_Mo_119 (by decide) rfl rfl d_Mo_post_101 ?_
        refine e_bipush C d_Mo_post_104 (by decide) ?_
        refine e_iload_n C d_Mo_post_106 rfl ?_
        refine e_iadd C d_Mo_post_107 ?_
        refine e_iald (n := 100) C (by decide) rfl (by decide) rfl rfl (by decide) (by omega) (by omega) d_Mo_post_108 (fun r_108 => ?_)
        try simp only [MF_51] at r_108 ⊢
        rw [hyp.2.2.2.1] at r_108 ⊢
        refine e_iret C F rfl d_Mo_post_109 (by omega) ?_
        rw [if_neg (by omega), if_neg (by omega), if_neg (by omega), if_pos s_15_]; exact ⟨rfl, _, rfl, hm.fin0⟩
      · refine e_tableIn (off := 95) C 110 d_Mo_post_15 (by omega) (by omega) (by omega) (by rw [s_15_]; rfl) (by decide) ?_
        refine e_aload_n C d_Mo_post_110 rfl ?_
        refine e_geta C fl_Mo_119 (by decide) rfl rfl d_Mo_post_111 ?_
        refine e_bipush C d_Mo_post_114 (by decide) ?_
        refine e_iload_n C d_Mo_post_116 rfl ?_
        refine e_iadd C d_Mo_post_117 ?_
        refine e_iald (n := 100) C (by decide) rfl (by decide) rfl rfl (by decide) (by omega) (by omega) d_Mo_post_118 (fun r_118 => ?_)
        try simp only [MF_51] at r_118 ⊢
        rw [hyp.2.2.2.2.1] at r_118 ⊢
        refine e_iret C F rfl d_Mo_post_119 (by omega) ?_
        rw [if_neg (by omega), if_neg (by omega), if_neg (by omega), if_neg (by omega), if_pos s_15_]; exact ⟨rfl, _, rfl, hm.fin0⟩
      · refine e_tableIn (off := 105) C 120 d_Mo_post_15 (by omega) (by omega) (by omega) (by rw [s_15_]; rfl) (by decide) ?_
        refine e_aload_n C d_Mo_post_120 rfl ?_
        refine e_iload_n C d_Mo_post_121 rfl ?_
        refine e_callIV C ok_Mo_flowOf lk_Mo_312 (o := 1) (by decide) rfl [_] rfl rfl (Nat.le_of_ble_eq_true rfl) (by decide) (Nat.le_of_ble_eq_true rfl) d_Mo_post_122 (hm.1.2.1 σ m _ R p (MW.rf m) hy hv.1 hv.2 hq.1.1 h12.1) (fun v_122 u_122 q_122 h_122 => ?_)
        obtain ⟨h_122, m1, hm1, rfl⟩ := h_122
        refine e_iret C F rfl d_Mo_post_125 (by omega) ?_
        rw [if_neg (by omega), if_neg (by omega), if_neg (by omega), if_neg (by omega), if_neg (by omega), if_pos s_15_]; exact ⟨h_122, _, rfl, hm.fin hm1⟩
      · refine e_tableIn (off := 111) C 126 d_Mo_post_15 (by omega) (by omega) (by omega) (by rw [s_15_]; rfl) (by decide) ?_
        refine e_aload_n C d_Mo_post_126 rfl ?_
        refine e_geta C fl_Mo_119 (by decide) rfl rfl d_Mo_post_127 ?_
        refine e_bipush C d_Mo_post_130 (by decide) ?_
        refine e_iload_n C d_Mo_post_132 rfl ?_
        refine e_iadd C d_Mo_post_133 ?_
        refine e_iald (n := 100) C (by decide) rfl (by decide) rfl rfl (by decide) (by omega) (by omega) d_Mo_post_134 (fun r_134 => ?_)
        try simp only [MF_51] at r_134 ⊢
        rw [hyp.2.2.2.2.2] at r_134 ⊢
        refine e_iret C F rfl d_Mo_post_135 (by omega) ?_
        rw [if_neg (by omega), if_neg (by omega), if_neg (by omega), if_neg (by omega), if_neg (by omega), if_neg (by omega), if_pos s_15_]; exact ⟨rfl, _, rfl, hm.fin0⟩
  · rw [if_pos (show ¬ (0 ≤ p ∧ p < sP S 3 0) from fun z => by rw [if_pos z] at c_5; omega)] at F
    refine e_iconst C d_Mo_post_8 ?_
    refine e_iret C F rfl d_Mo_post_9 (by omega) ?_
    exact ⟨rfl, _, rfl, hm.fin0⟩
def rvGuard (S : SS) (a w : Int) : Int := if ¬ (0 ≤ a ∧ a < sP S 4 0) then -1 else if w = 0 then psf (sP S) (sY S) a else if w = 1 then sY S 7 a else if w = 2 then sY S 8 a else if w = 3 then bdf (sY S) a else if w = 4 then sY S 9 a else -1
theorem psf_r {P y : Cs} {a : Int} (hN : 0 ≤ P 3 0 ∧ P 3 0 ≤ 8) : psf P y a = -2 ∨ (0 ≤ psf P y a ∧ psf P y a < P 3 0) := by
  unfold psf
  rcases fnd_some (q := fun p => y 2 p == a) (P 3 0).toNat 0 (by omega) with ⟨z, _⟩ | ⟨z, w, _⟩
  · exact Or.inl z
  · right; omega
theorem bdf_r {y : Cs} {a : Int} (hN : 0 ≤ y 11 0) : bdf y a = -2 ∨ (0 ≤ bdf y a ∧ bdf y a < y 11 0 ∧ y 10 (bdf y a) = a) := by
  unfold bdf
  rcases fnd_some (q := fun p => y 10 p == a) (y 11 0).toNat 0 (by omega) with ⟨z, _⟩ | ⟨z, w, q⟩
  · exact Or.inl z
  · right; exact ⟨z, by omega, by simpa using q⟩
set_option maxHeartbeats 1000000 in
theorem K_Mo_guard {σ : St} {m : Cs} {S : SS} {n a w : Int} (hp : PI S n) (hm : IVm S m) (r1 : R32 a) (r2 : R32 w) : CtI M_Mo_guard [.inr (.inr (1, 0)), .inl a, .inl w] (so σ 1 m) (fun r u => r = rvGuard S a w ∧ ∃ m', u = so σ 1 m' ∧ IVm S m') := by
  intro g C F
  obtain ⟨l, hPl⟩ := hp.pl
  have hN := hPl.1
  have hG := hPl.2.1
  have hM := hm.1.1
  have hn := hp.n
  rw [soMF]
  unfold rvGuard at F
  refine e_aload_n C d_Mo_guard_0 rfl ?_
  refine e_iload_n C d_Mo_guard_1 rfl ?_
  refine e_callIV C ok_Mo_isGuard lk_Mo_333 (o := 1) (by decide) rfl [_] rfl rfl (Nat.le_of_ble_eq_true rfl) (by decide) (Nat.le_of_ble_eq_true rfl) d_Mo_guard_2 (k_Mo_isGuard hM hG r1) (fun v_2 u_2 q_2 h_2 => ?_)
  obtain ⟨rfl, rfl⟩ := h_2
  refine e_if_ne C 10 d_Mo_guard_5 (by decide) (by split <;> omega) (fun c_5 => ?_) (fun c_5 => ?_)
  · have hv : 0 ≤ a ∧ a < sP S 4 0 := Decidable.byContradiction fun z => by rw [if_neg z] at c_5; omega
    rw [if_neg (show ¬ ¬ (0 ≤ a ∧ a < sP S 4 0) from fun z => z hv)] at F
    refine e_aload_n C d_Mo_guard_10 rfl ?_
    refine e_callVV C ok_Mo_copies lk_Mo_330 (o := 1) (by decide) rfl [] rfl rfl (Nat.le_of_ble_eq_true rfl) (by decide) (Nat.le_of_ble_eq_true rfl) d_Mo_guard_11 (k_Mo_copies) (fun u_11 h_11 => ?_)
    subst h_11
    have hy := RY_cp (R := m 51) hm.2.1
    generalize r_cp (m 51) (m 50) 100 = R at hy ⊢
    have hyp := hy.2.1 a hv.1 (by omega)
    have hb := hp.y.1.bed
    have hpr := psf_r (y := sY S) (a := a) hN
    have hbr := bdf_r (y := sY S) (a := a) hb.1.1
    refine e_iload_n C d_Mo_guard_14 rfl ?_
    by_cases s_15 : w < 0 ∨ 4 < w
    · refine e_tableOut C 90 d_Mo_guard_15 (by omega) (by omega) (by decide) ?_
      refine e_iconst C d_Mo_guard_90 ?_
      refine e_iret C F rfl d_Mo_guard_91 (by omega) ?_
      rw [if_neg (by omega), if_neg (by omega), if_neg (by omega), if_neg (by omega), if_neg (by omega)]; exact ⟨rfl, _, rfl, hm.fin0⟩
    · rcases (show w = 0 ∨ w = 1 ∨ w = 2 ∨ w = 3 ∨ w = 4 by omega) with s_15_ | s_15_ | s_15_ | s_15_ | s_15_
      · refine e_tableIn (off := 33) C 48 d_Mo_guard_15 (by omega) (by omega) (by omega) (by rw [s_15_]; rfl) (by decide) ?_
        refine e_aload_n C d_Mo_guard_48 rfl ?_
        refine e_iload_n C d_Mo_guard_49 rfl ?_
        refine e_callIV C ok_Mo_postOf lk_Mo_336 (o := 1) (by decide) rfl [_] rfl rfl (Nat.le_of_ble_eq_true rfl) (by decide) (Nat.le_of_ble_eq_true rfl) d_Mo_guard_50 (k_Mo_postOf hM hN hy (by omega)) (fun v_50 u_50 q_50 h_50 => ?_)
        obtain ⟨h_50, rfl⟩ := h_50
        refine e_iret C F rfl d_Mo_guard_53 (by omega) ?_
        rw [if_pos s_15_]; exact ⟨h_50, _, rfl, hm.fin0⟩
      · refine e_tableIn (off := 39) C 54 d_Mo_guard_15 (by omega) (by omega) (by omega) (by rw [s_15_]; rfl) (by decide) ?_
        refine e_aload_n C d_Mo_guard_54 rfl ?_
        refine e_geta C fl_Mo_119 (by decide) rfl rfl d_Mo_guard_55 ?_
        refine e_bipush C d_Mo_guard_58 (by decide) ?_
        refine e_iload_n C d_Mo_guard_60 rfl ?_
        refine e_iadd C d_Mo_guard_61 ?_
        refine e_iald (n := 100) C (by decide) rfl (by decide) rfl rfl (by decide) (by omega) (by omega) d_Mo_guard_62 (fun r_62 => ?_)
        try simp only [MF_51] at r_62 ⊢
        rw [hyp.1] at r_62 ⊢
        refine e_iret C F rfl d_Mo_guard_63 (by omega) ?_
        rw [if_neg (by omega), if_pos s_15_]; exact ⟨rfl, _, rfl, hm.fin0⟩
      · refine e_tableIn (off := 49) C 64 d_Mo_guard_15 (by omega) (by omega) (by omega) (by rw [s_15_]; rfl) (by decide) ?_
        refine e_aload_n C d_Mo_guard_64 rfl ?_
        refine e_geta C fl_Mo_119 (by decide) rfl rfl d_Mo_guard_65 ?_
        refine e_bipush C d_Mo_guard_68 (by decide) ?_
        refine e_iload_n C d_Mo_guard_70 rfl ?_
        refine e_iadd C d_Mo_guard_71 ?_
        refine e_iald (n := 100) C (by decide) rfl (by decide) rfl rfl (by decide) (by omega) (by omega) d_Mo_guard_72 (fun r_72 => ?_)
        try simp only [MF_51] at r_72 ⊢
        rw [hyp.2.1] at r_72 ⊢
        refine e_iret C F rfl d_Mo_guard_73 (by omega) ?_
        rw [if_neg (by omega), if_neg (by omega), if_pos s_15_]; exact ⟨rfl, _, rfl, hm.fin0⟩
      · refine e_tableIn (off := 59) C 74 d_Mo_guard_15 (by omega) (by omega) (by omega) (by rw [s_15_]; rfl) (by decide) ?_
        refine e_aload_n C d_Mo_guard_74 rfl ?_
        refine e_iload_n C d_Mo_guard_75 rfl ?_
        refine e_callIV C ok_Mo_placeInBed lk_Mo_339 (o := 1) (by decide) rfl [_] rfl rfl (Nat.le_of_ble_eq_true rfl) (by decide) (Nat.le_of_ble_eq_true rfl) d_Mo_guard_76 (k_Mo_placeInBed (by omega) hy r1) (fun v_76 u_76 q_76 h_76 => ?_)
        obtain ⟨h_76, rfl⟩ := h_76
        refine e_iret C F rfl d_Mo_guard_79 (by omega) ?_
        rw [if_neg (by omega), if_neg (by omega), if_neg (by omega), if_pos s_15_]; exact ⟨h_76, _, rfl, hm.fin0⟩
      · refine e_tableIn (off := 65) C 80 d_Mo_guard_15 (by omega) (by omega) (by omega) (by rw [s_15_]; rfl) (by decide) ?_
        refine e_aload_n C d_Mo_guard_80 rfl ?_
        refine e_geta C fl_Mo_119 (by decide) rfl rfl d_Mo_guard_81 ?_
        refine e_bipush C d_Mo_guard_84 (by decide) ?_
        refine e_iload_n C d_Mo_guard_86 rfl ?_
        refine e_iadd C d_Mo_guard_87 ?_
        refine e_iald (n := 100) C (by decide) rfl (by decide) rfl rfl (by decide) (by omega) (by omega) d_Mo_guard_88 (fun r_88 => ?_)
        try simp only [MF_51] at r_88 ⊢
        rw [hyp.2.2.1] at r_88 ⊢
        refine e_iret C F rfl d_Mo_guard_89 (by omega) ?_
        rw [if_neg (by omega), if_neg (by omega), if_neg (by omega), if_neg (by omega), if_pos s_15_]; exact ⟨rfl, _, rfl, hm.fin0⟩
  · rw [if_pos (show ¬ (0 ≤ a ∧ a < sP S 4 0) from fun z => by rw [if_pos z] at c_5; omega)] at F
    refine e_iconst C d_Mo_guard_8 ?_
    refine e_iret C F rfl d_Mo_guard_9 (by omega) ?_
    exact ⟨rfl, _, rfl, hm.fin0⟩
/-- in bounds, as an answer -/
theorem in_t {a v b : Int} (h : (if a ≤ v ∧ v ≤ b then (1 : Int) else 0) ≠ 0) : a ≤ v ∧ v ≤ b := Decidable.byContradiction fun z => by rw [if_neg z] at h; omega
theorem in_f {a v b : Int} (h : (if a ≤ v ∧ v ≤ b then (1 : Int) else 0) = 0) : ¬ (a ≤ v ∧ v ≤ b) := fun z => by rw [if_pos z] at h; omega
theorem po_t {v b : Int} (h : (if 0 ≤ v ∧ v < b then (1 : Int) else 0) ≠ 0) : 0 ≤ v ∧ v < b := Decidable.byContradiction fun z => by rw [if_neg z] at h; omega
theorem po_f {v b : Int} (h : (if 0 ≤ v ∧ v < b then (1 : Int) else 0) = 0) : ¬ (0 ≤ v ∧ v < b) := fun z => by rw [if_pos z] at h; omega
def rvRun (S : SS) (k : Int) : Int := if 0 ≤ k ∧ k ≤ 2000 then (if k = 0 then sY S 12 0 else mits (sF S) (sP S) k.toNat (sY S) 12 0) else -1
def nxRun (S : SS) (k : Int) : SS := if 1 ≤ k ∧ k ≤ 2000 then upS S (mits (sF S) (sP S) k.toNat (sY S)) else S
theorem KP.of {m m1 m' : Cs} {R : Int → Int} (h : KP m1 R m') (hs : MS m m1) : KP m R m' := by
  have e52 := hs 52 (by decide) (by decide) (by decide) (by decide)
  have e53 := hs 53 (by decide) (by decide) (by decide) (by decide)
  have e50 := hs 50 (by decide) (by decide) (by decide) (by decide)
  obtain ⟨a, b, c, d⟩ := h
  rw [e52] at c d
  rw [e53, e50] at d
  exact ⟨fun f f1 f2 f3 f4 f5 f6 f7 => (a f f1 f2 f3 f4 f5 f6 f7).trans (hs f f1 f2 f3 f5), b, c, d⟩
theorem K_Mo_run {σ : St} {m : Cs} {S : SS} {n k : Int} (hp : PI S n) (hm : IVm S m) (r1 : R32 k) : CtI M_Mo_run [.inr (.inr (1, 0)), .inl k] (so σ 1 m) (fun r u => r = rvRun S k ∧ ∃ m', u = so σ 1 m' ∧ IVm (nxRun S k) m') := by
  intro g C F
  obtain ⟨l, hPl⟩ := hp.pl
  have hM := hm.1.1
  have hn := hp.n
  have hz := hp.hz
  have e52 := hm.2.2.1.1
  rw [soMF]
  unfold rvRun nxRun at F
  refine e_iload_n C d_Mo_run_0 rfl ?_
  refine e_iconst C d_Mo_run_1 ?_
  refine e_sipush C d_Mo_run_2 (by decide) ?_
  refine e_callIS C ok_Mo_in lk_Mo_302 [_, _, _] rfl rfl (Nat.le_of_ble_eq_true rfl) (by decide) (Nat.le_of_ble_eq_true rfl) d_Mo_run_5 (k_Mo_in r1 (by omega) (by omega)) (fun v_5 u_5 q_5 h_5 => ?_)
  obtain ⟨rfl, rfl⟩ := h_5
  refine e_if_ne C 13 d_Mo_run_8 (by decide) (by split <;> omega) (fun c_8 => ?_) (fun c_8 => ?_)
  · have hv := in_t c_8
    rw [if_pos hv] at F
    refine e_iload_n C d_Mo_run_13 rfl ?_
    refine e_if_ne C 25 d_Mo_run_14 (by decide) (by omega) (fun c_14 => ?_) (fun c_14 => ?_)
    · rw [if_neg c_14, if_pos (by omega)] at F
      refine e_aload_n C d_Mo_run_25 rfl ?_
      refine e_callVV C ok_Mo_copies lk_Mo_330 (o := 1) (by decide) rfl [] rfl rfl (Nat.le_of_ble_eq_true rfl) (by decide) (Nat.le_of_ble_eq_true rfl) d_Mo_run_26 (k_Mo_copies) (fun u_26 h_26 => ?_)
      subst h_26
      have hy := RY_cp (R := m 51) hm.2.1
      generalize r_cp (m 51) (m 50) 100 = R at hy ⊢
      refine e_aload_n C d_Mo_run_29 rfl ?_
      refine e_iload_n C d_Mo_run_30 rfl ?_
      refine e_callVV C ok_Mo_goes lk_Mo_345 (o := 1) (by decide) rfl [_] rfl rfl (Nat.le_of_ble_eq_true rfl) (by decide) (Nat.le_of_ble_eq_true rfl) d_Mo_run_31 (k_Mo_goes hPl hM hm.1.2.1 hy hp.y.1 (by omega) (by omega)) (fun u_31 h_31 => ?_)
      obtain ⟨R1, m1, hm1, hy1, rfl⟩ := h_31
      refine e_aload_n C d_Mo_run_34 rfl ?_
      refine e_callVV C ok_Mo_keeps lk_Mo_348 (o := 1) (by decide) rfl [] rfl rfl (Nat.le_of_ble_eq_true rfl) (by decide) (Nat.le_of_ble_eq_true rfl) d_Mo_run_35 (k_Mo_keeps (by rw [hm1 52 (by decide) (by decide) (by decide) (by decide)]; omega)) (fun u_35 h_35 => ?_)
      obtain ⟨m2, rfl, hk⟩ := h_35
      have hk2 := hk.of hm1
      have hv2 := hm.up hz hy1 hk2
      refine e_aload_n C d_Mo_run_38 rfl ?_
      refine e_geta C fl_Mo_116 (by decide) rfl rfl d_Mo_run_39 ?_
      refine e_bipush C d_Mo_run_42 (by decide) ?_
      refine e_iald (n := 100) C (by decide) rfl (by decide) rfl rfl (by decide) (by omega) (by omega) d_Mo_run_44 (fun r_44 => ?_)
      try simp only [MF_51] at r_44 ⊢
      rw [show so σ 1 m2 1 50 97 = mits (sF S) (sP S) k.toNat (sY S) 12 0 by rw [so_at, hk2.2.1 97 (by omega) (by omega)]; exact hy1.2.2.2] at r_44 ⊢
      refine e_iret C F rfl d_Mo_run_45 (by omega) ?_
      exact ⟨rfl, _, rfl, hv2⟩
    · rw [if_pos c_14, if_neg (by omega)] at F
      refine e_aload_n C d_Mo_run_17 rfl ?_
      refine e_geta C fl_Mo_116 (by decide) rfl rfl d_Mo_run_18 ?_
      refine e_bipush C d_Mo_run_21 (by decide) ?_
      refine e_iald (n := 100) C (by decide) rfl (by decide) rfl rfl (by decide) (by omega) (by omega) d_Mo_run_23 (fun r_23 => ?_)
      try simp only [MF_51] at r_23 ⊢
      rw [show MF σ m (m 51) 1 50 97 = sY S 12 0 by rw [MF_f (by decide)]; exact hm.2.1.2.2.2] at r_23 ⊢
      refine e_iret C F rfl d_Mo_run_24 (by omega) ?_
      exact ⟨rfl, _, rfl, hm.fin0⟩
  · have hv := in_f c_8
    rw [if_neg hv, if_neg (by omega)] at F
    refine e_iconst C d_Mo_run_11 ?_
    refine e_iret C F rfl d_Mo_run_12 (by omega) ?_
    exact ⟨rfl, _, rfl, hm.fin0⟩
def rvPo (S : SS) (p : Int) : Int := if 0 ≤ p ∧ p < sP S 3 0 then 1 else 0
def nxTurn (S : SS) (p : Int) : SS := if 0 ≤ p ∧ p < sP S 3 0 then upS S (c_exchange (sY S) p) else S
theorem cu_comm {y : Cs} {f f' : Nat} {k k' v v' : Int} (h : f ≠ f') : cu (cu y f k v) f' k' v' = cu (cu y f' k' v') f k v := by
  funext a b
  simp only [cu_if]
  by_cases z : a = f ∧ b = k
  · have w : ¬ (a = f' ∧ b = k') := fun w => h (z.1.symm.trans w.1)
    simp only [z, w, if_true, if_false]
    rw [if_neg (fun q => h q.1)]
    simp
  · simp only [z, if_false]
theorem RY_turn {R : Int → Int} {y : Cs} {p : Int} (h : RY R y) (hp : 0 ≤ p ∧ p < 8) : RY (ua (ua R p (R (8 + p))) (8 + p) (R p)) (c_exchange y p) := by
  have hpp := h.1 p hp.1 hp.2
  unfold c_exchange
  rw [cu_comm (by decide), hpp.1, hpp.2.1]
  exact RY_1 (RY_0 h hp) hp
theorem K_Mo_turn {σ : St} {m : Cs} {S : SS} {n p : Int} (hp : PI S n) (hm : IVm S m) (r1 : R32 p) : CtI M_Mo_turn [.inr (.inr (1, 0)), .inl p] (so σ 1 m) (fun r u => r = rvPo S p ∧ ∃ m', u = so σ 1 m' ∧ IVm (nxTurn S p) m') := by
  intro g C F
  obtain ⟨l, hPl⟩ := hp.pl
  have hN := hPl.1
  have hM := hm.1.1
  have hz := hp.hz
  have e52 := hm.2.2.1.1
  rw [soMF]
  unfold rvPo nxTurn at F
  refine e_aload_n C d_Mo_turn_0 rfl ?_
  refine e_iload_n C d_Mo_turn_1 rfl ?_
  refine e_callIV C ok_Mo_isPost lk_Mo_327 (o := 1) (by decide) rfl [_] rfl rfl (Nat.le_of_ble_eq_true rfl) (by decide) (Nat.le_of_ble_eq_true rfl) d_Mo_turn_2 (k_Mo_isPost hM hN r1) (fun v_2 u_2 q_2 h_2 => ?_)
  obtain ⟨rfl, rfl⟩ := h_2
  refine e_if_ne C 10 d_Mo_turn_5 (by decide) (by split <;> omega) (fun c_5 => ?_) (fun c_5 => ?_)
  · have hv := po_t c_5
    rw [if_pos hv, if_pos hv] at F
    refine e_aload_n C d_Mo_turn_10 rfl ?_
    refine e_callVV C ok_Mo_copies lk_Mo_330 (o := 1) (by decide) rfl [] rfl rfl (Nat.le_of_ble_eq_true rfl) (by decide) (Nat.le_of_ble_eq_true rfl) d_Mo_turn_11 (k_Mo_copies) (fun u_11 h_11 => ?_)
    subst h_11
    have hy := RY_cp (R := m 51) hm.2.1
    generalize r_cp (m 51) (m 50) 100 = R at hy ⊢
    refine e_aload_n C d_Mo_turn_14 rfl ?_
    refine e_iload_n C d_Mo_turn_15 rfl ?_
    refine e_callVV C ok_Mo_turns lk_Mo_351 (o := 1) (by decide) rfl [_] rfl rfl (Nat.le_of_ble_eq_true rfl) (by decide) (Nat.le_of_ble_eq_true rfl) d_Mo_turn_16 (k_Mo_turns (by omega)) (fun u_16 h_16 => ?_)
    subst h_16
    have hy1 := RY_turn hy (p := p) (by omega)
    refine e_aload_n C d_Mo_turn_19 rfl ?_
    refine e_callVV C ok_Mo_keeps lk_Mo_348 (o := 1) (by decide) rfl [] rfl rfl (Nat.le_of_ble_eq_true rfl) (by decide) (Nat.le_of_ble_eq_true rfl) d_Mo_turn_20 (k_Mo_keeps (by omega)) (fun u_20 h_20 => ?_)
    obtain ⟨m2, rfl, hk⟩ := h_20
    refine e_iconst C d_Mo_turn_23 ?_
    refine e_zret C F rfl d_Mo_turn_24 (by omega) ?_
    exact ⟨rfl, _, rfl, hm.up hz hy1 hk⟩
  · have hv := po_f c_5
    rw [if_neg hv, if_neg hv] at F
    refine e_iconst C d_Mo_turn_8 ?_
    refine e_zret C F rfl d_Mo_turn_9 (by omega) ?_
    exact ⟨rfl, _, rfl, hm.fin0⟩
def rvShake (S : SS) (p k : Int) : Int := if (0 ≤ p ∧ p < sP S 3 0) ∧ 0 ≤ k then min k (sY S 1 p) else -1
def shY (y : Cs) (p k : Int) : Cs := cu (cu y 1 p (y 1 p - min k (y 1 p))) 0 p (y 0 p + min k (y 1 p))
def nxShake (S : SS) (p k : Int) : SS := if (0 ≤ p ∧ p < sP S 3 0) ∧ 0 ≤ k then upS S (shY (sY S) p k) else S
set_option maxHeartbeats 1000000 in
theorem K_Mo_shake {σ : St} {m : Cs} {S : SS} {n p k : Int} (hp : PI S n) (hm : IVm S m) (r1 : R32 p) (r2 : R32 k) : CtI M_Mo_shake [.inr (.inr (1, 0)), .inl p, .inl k] (so σ 1 m) (fun r u => r = rvShake S p k ∧ ∃ m', u = so σ 1 m' ∧ IVm (nxShake S p k) m') := by
  intro g C F
  obtain ⟨l, hPl⟩ := hp.pl
  have hN := hPl.1
  have hG := hPl.2.1
  have hM := hm.1.1
  have hz := hp.hz
  have e52 := hm.2.2.1.1
  rw [soMF]
  unfold rvShake nxShake at F
  refine e_aload_n C d_Mo_shake_0 rfl ?_
  refine e_iload_n C d_Mo_shake_1 rfl ?_
  refine e_callIV C ok_Mo_isPost lk_Mo_327 (o := 1) (by decide) rfl [_] rfl rfl (Nat.le_of_ble_eq_true rfl) (by decide) (Nat.le_of_ble_eq_true rfl) d_Mo_shake_2 (k_Mo_isPost hM hN r1) (fun v_2 u_2 q_2 h_2 => ?_)
  obtain ⟨rfl, rfl⟩ := h_2
  refine e_if_eq C 12 d_Mo_shake_5 (by decide) (by split <;> omega) (fun c_5 => ?_) (fun c_5 => ?_)
  · have hv := po_f c_5
    rw [if_neg (show ¬ ((0 ≤ p ∧ p < sP S 3 0) ∧ 0 ≤ k) from fun z => hv z.1), if_neg (show ¬ ((0 ≤ p ∧ p < sP S 3 0) ∧ 0 ≤ k) from fun z => hv z.1)] at F
    refine e_iconst C d_Mo_shake_12 ?_
    refine e_iret C F rfl d_Mo_shake_13 (by omega) ?_
    exact ⟨rfl, _, rfl, hm.fin0⟩
  · have hv := po_t c_5
    refine e_iload_n C d_Mo_shake_8 rfl ?_
    refine e_if_ge C 14 d_Mo_shake_9 (by decide) (by omega) (fun c_9 => ?_) (fun c_9 => ?_)
    · rw [if_pos (show (0 ≤ p ∧ p < sP S 3 0) ∧ 0 ≤ k by omega), if_pos (show (0 ≤ p ∧ p < sP S 3 0) ∧ 0 ≤ k by omega)] at F
      refine e_aload_n C d_Mo_shake_14 rfl ?_
      refine e_callVV C ok_Mo_copies lk_Mo_330 (o := 1) (by decide) rfl [] rfl rfl (Nat.le_of_ble_eq_true rfl) (by decide) (Nat.le_of_ble_eq_true rfl) d_Mo_shake_15 (k_Mo_copies) (fun u_15 h_15 => ?_)
      subst h_15
      have hy := RY_cp (R := m 51) hm.2.1
      generalize r_cp (m 51) (m 50) 100 = R at hy ⊢
      have hyp := hy.1 p hv.1 (by omega)
      have hq := (hp.y.1.post hN.2 hG.2 hv).1
      refine e_iload_n C d_Mo_shake_18 rfl ?_
      refine e_aload_n C d_Mo_shake_19 rfl ?_
      refine e_geta C fl_Mo_119 (by decide) rfl rfl d_Mo_shake_20 ?_
      refine e_bipush C d_Mo_shake_23 (by decide) ?_
      refine e_iload_n C d_Mo_shake_25 rfl ?_
      refine e_iadd C d_Mo_shake_26 ?_
      refine e_iald (n := 100) C (by decide) rfl (by decide) rfl rfl (by decide) (by omega) (by omega) d_Mo_shake_27 (fun r_27 => ?_)
      try simp only [so_at, so_so, wr_so, lnm_s, lnm_cu] at r_27 ⊢
      rw [hyp.2.1] at r_27 ⊢
      refine e_icmp_ge C 35 d_Mo_shake_28 (by decide) (by omega) (by omega) (fun c_28 => ?_) (fun c_28 => ?_)
      · refine e_aload_n C d_Mo_shake_35 rfl ?_
        refine e_geta C fl_Mo_119 (by decide) rfl rfl d_Mo_shake_36 ?_
        refine e_bipush C d_Mo_shake_39 (by decide) ?_
        refine e_iload_n C d_Mo_shake_41 rfl ?_
        refine e_iadd C d_Mo_shake_42 ?_
        refine e_iald (n := 100) C (by decide) rfl (by decide) rfl rfl (by decide) (by omega) (by omega) d_Mo_shake_43 (fun r_43 => ?_)
        try simp only [so_at, so_so, wr_so, lnm_s, lnm_cu] at r_43 ⊢
        rw [hyp.2.1] at r_43 ⊢
        obtain ⟨v, hv2⟩ : ∃ v, v = min k (sY S 1 p) := ⟨_, rfl⟩
        refine e_topi (y := v) (by congr 1; omega) ?_
        refine e_istore_n C d_Mo_shake_44 (by decide) rfl ?_
        refine e_aload_n C d_Mo_shake_45 rfl ?_
        refine e_geta C fl_Mo_119 (by decide) rfl rfl d_Mo_shake_46 ?_
        refine e_bipush C d_Mo_shake_49 (by decide) ?_
        refine e_iload_n C d_Mo_shake_51 rfl ?_
        refine e_iadd C d_Mo_shake_52 ?_
        refine e_dup2 C d_Mo_shake_53 rfl rfl ?_
        refine e_iald (n := 100) C (by decide) rfl (by decide) rfl rfl (by decide) (by omega) (by omega) d_Mo_shake_54 (fun r_54 => ?_)
        try simp only [so_at, so_so, wr_so, lnm_s, lnm_cu] at r_54 ⊢
        rw [hyp.2.1] at r_54 ⊢
        refine e_iload_n C d_Mo_shake_55 rfl ?_
        refine e_isub C d_Mo_shake_56 ?_
        refine e_iast (n := 100) C (by decide) rfl (by decide) rfl rfl (by decide) (by omega) (by omega) (by omega) d_Mo_shake_57 ?_
        try simp only [so_at, so_so, wr_so, lnm_s, lnm_cu]
        refine e_aload_n C d_Mo_shake_58 rfl ?_
        refine e_geta C fl_Mo_119 (by decide) rfl rfl d_Mo_shake_59 ?_
        refine e_iload_n C d_Mo_shake_62 rfl ?_
        refine e_dup2 C d_Mo_shake_63 rfl rfl ?_
        refine e_iald (n := 100) C (by decide) rfl (by decide) rfl rfl (by decide) (by omega) (by omega) d_Mo_shake_64 (fun r_64 => ?_)
        try simp only [so_at, so_so, wr_so, lnm_s, lnm_cu] at r_64 ⊢
        rw [ua_ne (by omega), hyp.1] at r_64 ⊢
        refine e_iload_n C d_Mo_shake_65 rfl ?_
        refine e_iadd C d_Mo_shake_66 ?_
        refine e_iast (n := 100) C (by decide) rfl (by decide) rfl rfl (by decide) (by omega) (by omega) (by omega) d_Mo_shake_67 ?_
        try simp only [so_at, so_so, wr_so, lnm_s, lnm_cu]
        refine e_aload_n C d_Mo_shake_68 rfl ?_
        have hy1 : RY (ua (ua R (8 + p) (sY S 1 p - v)) p (sY S 0 p + v)) (shY (sY S) p k) := by
            unfold shY
            rw [← hv2]
            exact RY_0 (RY_1 hy (by omega)) (by omega)
        refine e_callVV C ok_Mo_keeps lk_Mo_348 (o := 1) (by decide) rfl [] rfl rfl (Nat.le_of_ble_eq_true rfl) (by decide) (Nat.le_of_ble_eq_true rfl) d_Mo_shake_69 (k_Mo_keeps (by omega)) (fun u_69 h_69 => ?_)
        obtain ⟨m2, rfl, hkk⟩ := h_69
        refine e_iload_n C d_Mo_shake_72 rfl ?_
        refine e_iret C F rfl d_Mo_shake_73 (by omega) ?_
        exact ⟨hv2, _, rfl, hm.up hz hy1 hkk⟩
      · refine e_iload_n C d_Mo_shake_31 rfl ?_
        refine e_goto C 44 d_Mo_shake_32 (by decide) ?_
        obtain ⟨v, hv2⟩ : ∃ v, v = min k (sY S 1 p) := ⟨_, rfl⟩
        refine e_topi (y := v) (by congr 1; omega) ?_
        refine e_istore_n C d_Mo_shake_44 (by decide) rfl ?_
        refine e_aload_n C d_Mo_shake_45 rfl ?_
        refine e_geta C fl_Mo_119 (by decide) rfl rfl d_Mo_shake_46 ?_
        refine e_bipush C d_Mo_shake_49 (by decide) ?_
        refine e_iload_n C d_Mo_shake_51 rfl ?_
        refine e_iadd C d_Mo_shake_52 ?_
        refine e_dup2 C d_Mo_shake_53 rfl rfl ?_
        refine e_iald (n := 100) C (by decide) rfl (by decide) rfl rfl (by decide) (by omega) (by omega) d_Mo_shake_54 (fun r_54 => ?_)
        try simp only [so_at, so_so, wr_so, lnm_s, lnm_cu] at r_54 ⊢
        rw [hyp.2.1] at r_54 ⊢
        refine e_iload_n C d_Mo_shake_55 rfl ?_
        refine e_isub C d_Mo_shake_56 ?_
        refine e_iast (n := 100) C (by decide) rfl (by decide) rfl rfl (by decide) (by omega) (by omega) (by omega) d_Mo_shake_57 ?_
        try simp only [so_at, so_so, wr_so, lnm_s, lnm_cu]
        refine e_aload_n C d_Mo_shake_58 rfl ?_
        refine e_geta C fl_Mo_119 (by decide) rfl rfl d_Mo_shake_59 ?_
        refine e_iload_n C d_Mo_shake_62 rfl ?_
        refine e_dup2 C d_Mo_shake_63 rfl rfl ?_
        refine e_iald (n := 100) C (by decide) rfl (by decide) rfl rfl (by decide) (by omega) (by omega) d_Mo_shake_64 (fun r_64 => ?_)
        try simp only [so_at, so_so, wr_so, lnm_s, lnm_cu] at r_64 ⊢
        rw [ua_ne (by omega), hyp.1] at r_64 ⊢
        refine e_iload_n C d_Mo_shake_65 rfl ?_
        refine e_iadd C d_Mo_shake_66 ?_
        refine e_iast (n := 100) C (by decide) rfl (by decide) rfl rfl (by decide) (by omega) (by omega) (by omega) d_Mo_shake_67 ?_
        try simp only [so_at, so_so, wr_so, lnm_s, lnm_cu]
        refine e_aload_n C d_Mo_shake_68 rfl ?_
        have hy1 : RY (ua (ua R (8 + p) (sY S 1 p - v)) p (sY S 0 p + v)) (shY (sY S) p k) := by
            unfold shY
            rw [← hv2]
            exact RY_0 (RY_1 hy (by omega)) (by omega)
        refine e_callVV C ok_Mo_keeps lk_Mo_348 (o := 1) (by decide) rfl [] rfl rfl (Nat.le_of_ble_eq_true rfl) (by decide) (Nat.le_of_ble_eq_true rfl) d_Mo_shake_69 (k_Mo_keeps (by omega)) (fun u_69 h_69 => ?_)
        obtain ⟨m2, rfl, hkk⟩ := h_69
        refine e_iload_n C d_Mo_shake_72 rfl ?_
        refine e_iret C F rfl d_Mo_shake_73 (by omega) ?_
        exact ⟨hv2, _, rfl, hm.up hz hy1 hkk⟩
    · rw [if_neg (show ¬ ((0 ≤ p ∧ p < sP S 3 0) ∧ 0 ≤ k) by omega), if_neg (show ¬ ((0 ≤ p ∧ p < sP S 3 0) ∧ 0 ≤ k) by omega)] at F
      refine e_iconst C d_Mo_shake_12 ?_
      refine e_iret C F rfl d_Mo_shake_13 (by omega) ?_
      exact ⟨rfl, _, rfl, hm.fin0⟩
def nxDry (S : SS) (p b : Int) : SS := if 0 ≤ p ∧ p < sP S 3 0 then upS S (cu (sY S) 3 p b) else S
theorem K_Mo_dry {σ : St} {m : Cs} {S : SS} {n p b : Int} (hp : PI S n) (hm : IVm S m) (r1 : R32 p) (r2 : b = 0 ∨ b = 1) : CtI M_Mo_dry [.inr (.inr (1, 0)), .inl p, .inl b] (so σ 1 m) (fun r u => r = rvPo S p ∧ ∃ m', u = so σ 1 m' ∧ IVm (nxDry S p b) m') := by
  intro g C F
  obtain ⟨l, hPl⟩ := hp.pl
  have hN := hPl.1
  have hM := hm.1.1
  have hz := hp.hz
  have e52 := hm.2.2.1.1
  rw [soMF]
  unfold rvPo nxDry at F
  refine e_aload_n C d_Mo_dry_0 rfl ?_
  refine e_iload_n C d_Mo_dry_1 rfl ?_
  refine e_callIV C ok_Mo_isPost lk_Mo_327 (o := 1) (by decide) rfl [_] rfl rfl (Nat.le_of_ble_eq_true rfl) (by decide) (Nat.le_of_ble_eq_true rfl) d_Mo_dry_2 (k_Mo_isPost hM hN r1) (fun v_2 u_2 q_2 h_2 => ?_)
  obtain ⟨rfl, rfl⟩ := h_2
  refine e_if_ne C 10 d_Mo_dry_5 (by decide) (by split <;> omega) (fun c_5 => ?_) (fun c_5 => ?_)
  · have hv := po_t c_5
    rw [if_pos hv, if_pos hv] at F
    refine e_aload_n C d_Mo_dry_10 rfl ?_
    refine e_callVV C ok_Mo_copies lk_Mo_330 (o := 1) (by decide) rfl [] rfl rfl (Nat.le_of_ble_eq_true rfl) (by decide) (Nat.le_of_ble_eq_true rfl) d_Mo_dry_11 (k_Mo_copies) (fun u_11 h_11 => ?_)
    subst h_11
    have hy := RY_cp (R := m 51) hm.2.1
    generalize r_cp (m 51) (m 50) 100 = R at hy ⊢
    have hy1 := RY_3 hy (q := p) (v := b) (by omega)
    refine e_aload_n C d_Mo_dry_14 rfl ?_
    refine e_geta C fl_Mo_119 (by decide) rfl rfl d_Mo_dry_15 ?_
    refine e_bipush C d_Mo_dry_18 (by decide) ?_
    refine e_iload_n C d_Mo_dry_20 rfl ?_
    refine e_iadd C d_Mo_dry_21 ?_
    refine e_iload_n C d_Mo_dry_22 rfl ?_
    refine e_if_eq C 30 d_Mo_dry_23 (by decide) (by omega) (fun c_23 => ?_) (fun c_23 => ?_)
    · refine e_iconst C d_Mo_dry_30 ?_
      refine e_topi (y := b) (by congr 1; omega) ?_
      refine e_iast (n := 100) C (by decide) rfl (by decide) rfl rfl (by decide) (by omega) (by omega) (by omega) d_Mo_dry_31 ?_
      try simp only [so_at, so_so, wr_so, lnm_s, lnm_cu]
      refine e_aload_n C d_Mo_dry_32 rfl ?_
      refine e_callVV C ok_Mo_keeps lk_Mo_348 (o := 1) (by decide) rfl [] rfl rfl (Nat.le_of_ble_eq_true rfl) (by decide) (Nat.le_of_ble_eq_true rfl) d_Mo_dry_33 (k_Mo_keeps (by omega)) (fun u_33 h_33 => ?_)
      obtain ⟨m2, rfl, hk⟩ := h_33
      refine e_iconst C d_Mo_dry_36 ?_
      refine e_zret C F rfl d_Mo_dry_37 (by omega) ?_
      exact ⟨rfl, _, rfl, hm.up hz hy1 hk⟩
    · refine e_iconst C d_Mo_dry_26 ?_
      refine e_goto C 31 d_Mo_dry_27 (by decide) ?_
      refine e_topi (y := b) (by congr 1; omega) ?_
      refine e_iast (n := 100) C (by decide) rfl (by decide) rfl rfl (by decide) (by omega) (by omega) (by omega) d_Mo_dry_31 ?_
      try simp only [so_at, so_so, wr_so, lnm_s, lnm_cu]
      refine e_aload_n C d_Mo_dry_32 rfl ?_
      refine e_callVV C ok_Mo_keeps lk_Mo_348 (o := 1) (by decide) rfl [] rfl rfl (Nat.le_of_ble_eq_true rfl) (by decide) (Nat.le_of_ble_eq_true rfl) d_Mo_dry_33 (k_Mo_keeps (by omega)) (fun u_33 h_33 => ?_)
      obtain ⟨m2, rfl, hk⟩ := h_33
      refine e_iconst C d_Mo_dry_36 ?_
      refine e_zret C F rfl d_Mo_dry_37 (by omega) ?_
      exact ⟨rfl, _, rfl, hm.up hz hy1 hk⟩
  · have hv := po_f c_5
    rw [if_neg hv, if_neg hv] at F
    refine e_iconst C d_Mo_dry_8 ?_
    refine e_zret C F rfl d_Mo_dry_9 (by omega) ?_
    exact ⟨rfl, _, rfl, hm.fin0⟩
def rvPinch (S : SS) (p k : Int) : Int := if (0 ≤ p ∧ p < sP S 3 0) ∧ 0 ≤ sY S 0 p + k ∧ sY S 0 p + k ≤ 9999 then sY S 0 p + k else -1
def piY (y : Cs) (p k : Int) : Cs := cu (cu y 0 p (y 0 p + k)) 5 p (y 5 p + k)
def nxPinch (S : SS) (p k : Int) : SS := if (0 ≤ p ∧ p < sP S 3 0) ∧ 0 ≤ sY S 0 p + k ∧ sY S 0 p + k ≤ 9999 then upS S (piY (sY S) p k) else S
set_option maxHeartbeats 1000000 in
theorem K_Mo_pinch {σ : St} {m : Cs} {S : SS} {n p k : Int} (hp : PI S n) (hm : IVm S m) (r1 : R32 p) (r2 : R32 k) : CtI M_Mo_pinch [.inr (.inr (1, 0)), .inl p, .inl k] (so σ 1 m) (fun r u => r = rvPinch S p k ∧ ∃ m', u = so σ 1 m' ∧ IVm (nxPinch S p k) m') := by
  intro g C F
  obtain ⟨l, hPl⟩ := hp.pl
  have hN := hPl.1
  have hG := hPl.2.1
  have hM := hm.1.1
  have hz := hp.hz
  have hn := hp.n
  have e52 := hm.2.2.1.1
  rw [soMF]
  unfold rvPinch nxPinch at F
  refine e_aload_n C d_Mo_pinch_0 rfl ?_
  refine e_iload_n C d_Mo_pinch_1 rfl ?_
  refine e_callIV C ok_Mo_isPost lk_Mo_327 (o := 1) (by decide) rfl [_] rfl rfl (Nat.le_of_ble_eq_true rfl) (by decide) (Nat.le_of_ble_eq_true rfl) d_Mo_pinch_2 (k_Mo_isPost hM hN r1) (fun v_2 u_2 q_2 h_2 => ?_)
  obtain ⟨rfl, rfl⟩ := h_2
  refine e_if_eq C 32 d_Mo_pinch_5 (by decide) (by split <;> omega) (fun c_5 => ?_) (fun c_5 => ?_)
  · have hv := po_f c_5
    rw [if_neg (fun z => hv z.1), if_neg (fun z => hv z.1)] at F
    refine e_iconst C d_Mo_pinch_32 ?_
    refine e_iret C F rfl d_Mo_pinch_33 (by omega) ?_
    exact ⟨rfl, _, rfl, hm.fin0⟩
  · have hv := po_t c_5
    have hn0 := (hm.2.1.1 p hv.1 (by omega)).1
    have hq := (hp.y.1.post hN.2 hG.2 hv).1
    have hq2 := hp.y.2.1 p hv.1 hv.2
    refine e_iload_n C d_Mo_pinch_8 rfl ?_
    refine e_aload_n C d_Mo_pinch_9 rfl ?_
    refine e_geta C fl_Mo_116 (by decide) rfl rfl d_Mo_pinch_10 ?_
    refine e_iload_n C d_Mo_pinch_13 rfl ?_
    refine e_iald (n := 100) C (by decide) rfl (by decide) rfl rfl (by decide) (by omega) (by omega) d_Mo_pinch_14 (fun r_14 => ?_)
    try simp only [so_at, so_so, wr_so, lnm_s, lnm_cu, lnm_f, ne_eq, Nat.reduceEqDiff, not_false_eq_true] at r_14 ⊢
    rw [hn0] at r_14 ⊢
    refine e_ineg C d_Mo_pinch_15 ?_
    refine e_sipush C d_Mo_pinch_16 (by decide) ?_
    refine e_aload_n C d_Mo_pinch_19 rfl ?_
    refine e_geta C fl_Mo_116 (by decide) rfl rfl d_Mo_pinch_20 ?_
    refine e_iload_n C d_Mo_pinch_23 rfl ?_
    refine e_iald (n := 100) C (by decide) rfl (by decide) rfl rfl (by decide) (by omega) (by omega) d_Mo_pinch_24 (fun r_24 => ?_)
    try simp only [so_at, so_so, wr_so, lnm_s, lnm_cu, lnm_f, ne_eq, Nat.reduceEqDiff, not_false_eq_true] at r_24 ⊢
    rw [hn0] at r_24 ⊢
    refine e_isub C d_Mo_pinch_25 ?_
    refine e_callIS C ok_Mo_in lk_Mo_302 [_, _, _] rfl rfl (Nat.le_of_ble_eq_true rfl) (by decide) (Nat.le_of_ble_eq_true rfl) d_Mo_pinch_26 (k_Mo_in r2 (by omega) (by omega)) (fun v_26 u_26 q_26 h_26 => ?_)
    obtain ⟨rfl, rfl⟩ := h_26
    refine e_if_ne C 34 d_Mo_pinch_29 (by decide) (by split <;> omega) (fun c_29 => ?_) (fun c_29 => ?_)
    · have hv2 := in_t c_29
      rw [if_pos (show (0 ≤ p ∧ p < sP S 3 0) ∧ 0 ≤ sY S 0 p + k ∧ sY S 0 p + k ≤ 9999 by omega), if_pos (show (0 ≤ p ∧ p < sP S 3 0) ∧ 0 ≤ sY S 0 p + k ∧ sY S 0 p + k ≤ 9999 by omega)] at F
      refine e_aload_n C d_Mo_pinch_34 rfl ?_
      refine e_callVV C ok_Mo_copies lk_Mo_330 (o := 1) (by decide) rfl [] rfl rfl (Nat.le_of_ble_eq_true rfl) (by decide) (Nat.le_of_ble_eq_true rfl) d_Mo_pinch_35 (k_Mo_copies) (fun u_35 h_35 => ?_)
      subst h_35
      have hy := RY_cp (R := m 51) hm.2.1
      generalize r_cp (m 51) (m 50) 100 = R at hy ⊢
      have hyp := hy.1 p hv.1 (by omega)
      refine e_aload_n C d_Mo_pinch_38 rfl ?_
      refine e_geta C fl_Mo_119 (by decide) rfl rfl d_Mo_pinch_39 ?_
      refine e_iload_n C d_Mo_pinch_42 rfl ?_
      refine e_dup2 C d_Mo_pinch_43 rfl rfl ?_
      refine e_iald (n := 100) C (by decide) rfl (by decide) rfl rfl (by decide) (by omega) (by omega) d_Mo_pinch_44 (fun r_44 => ?_)
      try simp only [so_at, so_so, wr_so, lnm_s, lnm_cu, lnm_f, ne_eq, Nat.reduceEqDiff, not_false_eq_true] at r_44 ⊢
      rw [hyp.1] at r_44 ⊢
      refine e_iload_n C d_Mo_pinch_45 rfl ?_
      refine e_iadd C d_Mo_pinch_46 ?_
      refine e_iast (n := 100) C (by decide) rfl (by decide) rfl rfl (by decide) (by omega) (by omega) (by omega) d_Mo_pinch_47 ?_
      try simp only [so_at, so_so, wr_so, lnm_s, lnm_cu, lnm_f, ne_eq, Nat.reduceEqDiff, not_false_eq_true]
      refine e_aload_n C d_Mo_pinch_48 rfl ?_
      refine e_geta C fl_Mo_119 (by decide) rfl rfl d_Mo_pinch_49 ?_
      refine e_bipush C d_Mo_pinch_52 (by decide) ?_
      refine e_iload_n C d_Mo_pinch_54 rfl ?_
      refine e_iadd C d_Mo_pinch_55 ?_
      refine e_dup2 C d_Mo_pinch_56 rfl rfl ?_
      refine e_iald (n := 100) C (by decide) rfl (by decide) rfl rfl (by decide) (by omega) (by omega) d_Mo_pinch_57 (fun r_57 => ?_)
      try simp only [so_at, so_so, wr_so, lnm_s, lnm_cu, lnm_f, ne_eq, Nat.reduceEqDiff, not_false_eq_true] at r_57 ⊢
      rw [ua_ne (by omega), hyp.2.2.2.2.2] at r_57 ⊢
      refine e_iload_n C d_Mo_pinch_58 rfl ?_
      refine e_iadd C d_Mo_pinch_59 ?_
      refine e_iast (n := 100) C (by decide) rfl (by decide) rfl rfl (by decide) (by omega) (by omega) (by omega) d_Mo_pinch_60 ?_
      try simp only [so_at, so_so, wr_so, lnm_s, lnm_cu, lnm_f, ne_eq, Nat.reduceEqDiff, not_false_eq_true]
      refine e_aload_n C d_Mo_pinch_61 rfl ?_
      have hy1 : RY (ua (ua R p (sY S 0 p + k)) (40 + p) (sY S 5 p + k)) (piY (sY S) p k) := RY_5 (RY_0 hy (by omega)) (by omega)
      refine e_callVV C ok_Mo_keeps lk_Mo_348 (o := 1) (by decide) rfl [] rfl rfl (Nat.le_of_ble_eq_true rfl) (by decide) (Nat.le_of_ble_eq_true rfl) d_Mo_pinch_62 (k_Mo_keeps (by omega)) (fun u_62 h_62 => ?_)
      obtain ⟨m2, rfl, hk⟩ := h_62
      have hrd : so σ 1 m2 1 50 p = sY S 0 p + k := by rw [so_at, hk.2.1 p hv.1 (by omega), ua_ne (by omega), ua_at]
      refine e_aload_n C d_Mo_pinch_65 rfl ?_
      refine e_geta C fl_Mo_116 (by decide) rfl rfl d_Mo_pinch_66 ?_
      refine e_iload_n C d_Mo_pinch_69 rfl ?_
      refine e_iald (n := 100) C (by decide) rfl (by decide) rfl rfl (by decide) (by omega) (by omega) d_Mo_pinch_70 (fun r_70 => ?_)
      try simp only [so_at, so_so, wr_so, lnm_s, lnm_cu, lnm_f, ne_eq, Nat.reduceEqDiff, not_false_eq_true] at r_70 ⊢
      first | rw [hrd] at r_70 ⊢ | (rw [so_at] at hrd; rw [hrd] at r_70 ⊢)
      refine e_iret C F rfl d_Mo_pinch_71 (by omega) ?_
      exact ⟨rfl, _, rfl, hm.up hz hy1 hk⟩
    · have hv2 := in_f c_29
      rw [if_neg (show ¬ ((0 ≤ p ∧ p < sP S 3 0) ∧ 0 ≤ sY S 0 p + k ∧ sY S 0 p + k ≤ 9999) by omega), if_neg (show ¬ ((0 ≤ p ∧ p < sP S 3 0) ∧ 0 ≤ sY S 0 p + k ∧ sY S 0 p + k ≤ 9999) by omega)] at F
      refine e_iconst C d_Mo_pinch_32 ?_
      refine e_iret C F rfl d_Mo_pinch_33 (by omega) ?_
      exact ⟨rfl, _, rfl, hm.fin0⟩
abbrev okSend (S : SS) (a p : Int) : Prop := (0 ≤ a ∧ a < sP S 4 0) ∧ (0 ≤ p ∧ p < sP S 3 0) ∧ sY S 2 p = -2 ∧ bdf (sY S) a ≠ -2
def rvSend (S : SS) (a p : Int) : Int := if okSend S a p then 1 else 0
def nxSend (S : SS) (a p : Int) : SS := if okSend S a p then upS S (mstand (c_up (sY S) (bdf (sY S) a)) a p) else S
set_option maxHeartbeats 1000000 in
theorem K_Mo_send {σ : St} {m : Cs} {S : SS} {n a p : Int} (hp : PI S n) (hm : IVm S m) (r1 : R32 a) (r2 : R32 p) : CtI M_Mo_send [.inr (.inr (1, 0)), .inl a, .inl p] (so σ 1 m) (fun r u => r = rvSend S a p ∧ ∃ m', u = so σ 1 m' ∧ IVm (nxSend S a p) m') := by
  intro g C F
  obtain ⟨l, hPl⟩ := hp.pl
  have hN := hPl.1
  have hG := hPl.2.1
  have hM := hm.1.1
  have hz := hp.hz
  have e52 := hm.2.2.1.1
  have hno : ¬ okSend S a p → ∀ R, 0 = rvSend S a p ∧ ∃ m', MF σ m R = so σ 1 m' ∧ IVm (nxSend S a p) m' := by
    intro z R
    unfold rvSend nxSend
    rw [if_neg z, if_neg z]
    exact ⟨rfl, _, rfl, hm.fin0⟩
  have hyes : okSend S a p → rvSend S a p = 1 ∧ nxSend S a p = upS S (mstand (c_up (sY S) (bdf (sY S) a)) a p) := by
    intro z
    unfold rvSend nxSend
    rw [if_pos z, if_pos z]
    exact ⟨rfl, rfl⟩
  rw [soMF]
  refine e_aload_n C d_Mo_send_0 rfl ?_
  refine e_iload_n C d_Mo_send_1 rfl ?_
  refine e_callIV C ok_Mo_isGuard lk_Mo_333 (o := 1) (by decide) rfl [_] rfl rfl (Nat.le_of_ble_eq_true rfl) (by decide) (Nat.le_of_ble_eq_true rfl) d_Mo_send_2 (k_Mo_isGuard hM hG r1) (fun v_2 u_2 q_2 h_2 => ?_)
  obtain ⟨rfl, rfl⟩ := h_2
  refine e_if_eq C 28 d_Mo_send_5 (by decide) (by split <;> omega) (fun c_5 => ?_) (fun c_5 => ?_)
  · have hv0 : ¬ okSend S a p := fun z => po_f c_5 z.1
    refine e_iconst C d_Mo_send_28 ?_
    refine e_zret C F rfl d_Mo_send_29 (by omega) ?_
    exact hno hv0 _
  · have hv := po_t c_5
    refine e_aload_n C d_Mo_send_8 rfl ?_
    refine e_iload_n C d_Mo_send_9 rfl ?_
    refine e_callIV C ok_Mo_isPost lk_Mo_327 (o := 1) (by decide) rfl [_] rfl rfl (Nat.le_of_ble_eq_true rfl) (by decide) (Nat.le_of_ble_eq_true rfl) d_Mo_send_10 (k_Mo_isPost hM hN r2) (fun v_10 u_10 q_10 h_10 => ?_)
    obtain ⟨rfl, rfl⟩ := h_10
    refine e_if_eq C 28 d_Mo_send_13 (by decide) (by split <;> omega) (fun c_13 => ?_) (fun c_13 => ?_)
    · have hv0 : ¬ okSend S a p := fun z => po_f c_13 z.2.1
      refine e_iconst C d_Mo_send_28 ?_
      refine e_zret C F rfl d_Mo_send_29 (by omega) ?_
      exact hno hv0 _
    · have hv2 := po_t c_13
      have hn0 := (hm.2.1.1 p hv2.1 (by omega)).2.2.1
      have hq := (hp.y.1.post hN.2 hG.2 hv2).2
      have hem := em_lt (v := sY S 2 p) (by omega)
      have hb := hp.y.1.bed
      have hbr := bdf_r (y := sY S) (a := a) hb.1.1
      refine e_aload_n C d_Mo_send_16 rfl ?_
      refine e_geta C fl_Mo_116 (by decide) rfl rfl d_Mo_send_17 ?_
      refine e_bipush C d_Mo_send_20 (by decide) ?_
      refine e_iload_n C d_Mo_send_22 rfl ?_
      refine e_iadd C d_Mo_send_23 ?_
      refine e_iald (n := 100) C (by decide) rfl (by decide) rfl rfl (by decide) (by omega) (by omega) d_Mo_send_24 (fun r_24 => ?_)
      try simp only [so_at, so_so, wr_so, lnm_s, lnm_cu, lnm_f, ne_eq, Nat.reduceEqDiff, not_false_eq_true] at r_24 ⊢
      rw [hn0] at r_24 ⊢
      refine e_if_lt C 30 d_Mo_send_25 (by decide) (by omega) (fun c_25 => ?_) (fun c_25 => ?_)
      · refine e_aload_n C d_Mo_send_30 rfl ?_
        refine e_callVV C ok_Mo_copies lk_Mo_330 (o := 1) (by decide) rfl [] rfl rfl (Nat.le_of_ble_eq_true rfl) (by decide) (Nat.le_of_ble_eq_true rfl) d_Mo_send_31 (k_Mo_copies) (fun u_31 h_31 => ?_)
        subst h_31
        have hy := RY_cp (R := m 51) hm.2.1
        generalize r_cp (m 51) (m 50) 100 = R at hy ⊢
        have e96 := hy.2.2.1
        refine e_aload_n C d_Mo_send_34 rfl ?_
        refine e_iload_n C d_Mo_send_35 rfl ?_
        refine e_callIV C ok_Mo_placeInBed lk_Mo_339 (o := 1) (by decide) rfl [_] rfl rfl (Nat.le_of_ble_eq_true rfl) (by decide) (Nat.le_of_ble_eq_true rfl) d_Mo_send_36 (k_Mo_placeInBed (by omega) hy r1) (fun v_36 u_36 q_36 h_36 => ?_)
        obtain ⟨rfl, rfl⟩ := h_36
        refine e_istore_n C d_Mo_send_39 (by decide) rfl ?_
        refine e_iload_n C d_Mo_send_40 rfl ?_
        refine e_if_ge C 46 d_Mo_send_41 (by decide) (by omega) (fun c_41 => ?_) (fun c_41 => ?_)
        · have hok : okSend S a p := ⟨hv, hv2, by omega, by omega⟩
          have hbb : 0 ≤ bdf (sY S) a ∧ bdf (sY S) a < sY S 11 0 ∧ sY S 10 (bdf (sY S) a) = a := by omega
          refine e_aload_n C d_Mo_send_46 rfl ?_
          refine e_aload_n C d_Mo_send_47 rfl ?_
          refine e_iload_n C d_Mo_send_48 rfl ?_
          refine e_callIV C ok_Mo_getsUp lk_Mo_318 (o := 1) (by decide) rfl [_] rfl rfl (Nat.le_of_ble_eq_true rfl) (by decide) (Nat.le_of_ble_eq_true rfl) d_Mo_send_49 (k_Mo_getsUp (by omega) (by omega) (by omega)) (fun v_49 u_49 q_49 h_49 => ?_)
          obtain ⟨h_49, rfl⟩ := h_49
          have h49 : v_49 = a := by rw [h_49, (hy.2.1 (bdf (sY S) a) (by omega) (by omega)).2.2.2]; exact hbb.2.2
          subst h49
          refine e_iload_n C d_Mo_send_52 rfl ?_
          refine e_callVV C ok_Mo_comes lk_Mo_315 (o := 1) (by decide) rfl [_, _] rfl rfl (Nat.le_of_ble_eq_true rfl) (by decide) (Nat.le_of_ble_eq_true rfl) d_Mo_send_53 (k_Mo_comes (by omega) (by omega)) (fun u_53 h_53 => ?_)
          subst h_53
          have hy1 := RY_stand (RY_up hy (k := bdf (sY S) v_49) (by omega) (by omega)) (a := v_49) (p := p) (by omega) (by omega)
          refine e_aload_n C d_Mo_send_56 rfl ?_
          refine e_callVV C ok_Mo_keeps lk_Mo_348 (o := 1) (by decide) rfl [] rfl rfl (Nat.le_of_ble_eq_true rfl) (by decide) (Nat.le_of_ble_eq_true rfl) d_Mo_send_57 (k_Mo_keeps (by omega)) (fun u_57 h_57 => ?_)
          obtain ⟨m2, rfl, hk⟩ := h_57
          refine e_iconst C d_Mo_send_60 ?_
          refine e_zret C F rfl d_Mo_send_61 (by omega) ?_
          rw [(hyes hok).1, (hyes hok).2]
          exact ⟨rfl, _, rfl, hm.up hz hy1 hk⟩
        · have hv0 : ¬ okSend S a p := fun z => by have := z.2.2.2; omega
          refine e_iconst C d_Mo_send_44 ?_
          refine e_zret C F rfl d_Mo_send_45 (by omega) ?_
          exact hno hv0 _
      · have hv0 : ¬ okSend S a p := fun z => by have := z.2.2.1; omega
        refine e_iconst C d_Mo_send_28 ?_
        refine e_zret C F rfl d_Mo_send_29 (by omega) ?_
        exact hno hv0 _
