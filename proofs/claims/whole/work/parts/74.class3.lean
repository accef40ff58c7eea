/-! the class's calls that ask -/
theorem IVc.sf {S : SS} {n : Int} {σ : St} {o : Nat} {l' c' : Cs} (h : IVc S n σ) (ho : 19 ≤ o ∧ o ≤ 22) (hl : LSm (σ 8) l') : PC S n σ (SF σ o l' c') := by
  have e : ∀ q, q ≠ 8 → q ≠ o → SF σ o l' c' q = σ q := fun q a b => by unfold SF; rw [so_ne b, so_ne a]
  refine ⟨e 1 (by decide) (by omega), h.keep (fun q hq => ?_) ?_ ?_ ?_ ?_⟩
  · simp only [scr, List.mem_cons, List.not_mem_nil, or_false] at hq
    exact e q (by omega) (by omega)
  · unfold SF; rw [so_ne (by omega), so_at]; exact hl
  · rw [e 11 (by decide) (by omega)]; exact h.di
  · rw [e 12 (by decide) (by omega)]; exact h.ga
  · rw [e 13 (by decide) (by omega)]; exact h.ru
theorem IVc.s8 {S : SS} {n : Int} {σ : St} {l' : Cs} (h : IVc S n σ) (hl : LSm (σ 8) l') : PC S n σ (so σ 8 l') := by
  have e : ∀ q, q ≠ 8 → so σ 8 l' q = σ q := fun q a => so_ne a
  refine ⟨e 1 (by decide), h.keep (fun q hq => ?_) ?_ ?_ ?_ ?_⟩
  · simp only [scr, List.mem_cons, List.not_mem_nil, or_false] at hq
    exact e q (by omega)
  · rw [so_at]; exact hl
  · rw [e 11 (by decide)]; exact h.di
  · rw [e 12 (by decide)]; exact h.ga
  · rw [e 13 (by decide)]; exact h.ru
set_option maxHeartbeats 1000000 in
theorem K_Sg_post {σ : St} {S : SS} {n p w : Int} (hp : PI S n) (h : IVc S n σ) (r1 : R32 p) (r2 : R32 w) : CtI M_Sg_post [.inr (.inr (0, 0)), .inl p, .inl w] σ (fun r u => r = rvPost S p w ∧ PC S n σ u) := by
  intro g C F
  have hPl := h.pl
  have e7 := h.e7
  have hN := h.1.2.1
  have hH := h.1.2.2.2.1
  have e12 := h.y.1.1.2.2.2.2
  have hm := h.y.2.2.2.2
  have hn := hp.n
  unfold rvPost at F
  refine e_aload_n C d_Sg_post_0 rfl ?_
  refine e_iload_n C d_Sg_post_1 rfl ?_
  refine e_callIV C ok_Sg_isPost lk_Sg_126 (o := 0) (by decide) rfl [_] rfl rfl (Nat.le_of_ble_eq_true rfl) (by decide) (Nat.le_of_ble_eq_true rfl) d_Sg_post_2 (s_Sg_isPost h r1) (fun v_2 u_2 q_2 h_2 => ?_)
  obtain ⟨rfl, e_2⟩ := h_2
  rw [e_2]
  refine e_if_ne C 10 d_Sg_post_5 (by decide) (by split <;> omega) (fun c_5 => ?_) (fun c_5 => ?_)
  · have hv := po_t c_5
    rw [if_neg (fun z => z hv)] at F
    have hE := fun f hf => h.y.1.1.1 f p hf hv.1 hv.2
    have hy3 := (hp.y.2.1 p hv.1 hv.2).2.2.2
    have e3 := hE 3 (by decide)
    refine e_iload_n C d_Sg_post_10 rfl ?_
    by_cases s_11 : w < 0 ∨ 6 < w
    · refine e_tableOut C 147 d_Sg_post_11 (by omega) (by omega) (by decide) ?_
      refine e_iconst C d_Sg_post_147 ?_
      refine e_iret C F rfl d_Sg_post_148 (by omega) ?_
      rw [if_neg (by omega), if_neg (by omega), if_neg (by omega), if_neg (by omega), if_neg (by omega), if_neg (by omega), if_neg (by omega)]; exact ⟨rfl, h.same⟩
    · rcases (show w = 0 ∨ w = 1 ∨ w = 2 ∨ w = 3 ∨ w = 4 ∨ w = 5 ∨ w = 6 by omega) with s_11_ | s_11_ | s_11_ | s_11_ | s_11_ | s_11_ | s_11_
      · refine e_tableIn (off := 41) C 52 d_Sg_post_11 (by omega) (by omega) (by omega) (by rw [s_11_]; rfl) (by decide) ?_
        refine e_aload_n C d_Sg_post_52 rfl ?_
        refine e_geto (o2 := 18) C fl_Sg_37 (by decide) rfl rfl rfl d_Sg_post_53 ?_
        refine e_geta C fl_Sg_129 (by decide) rfl rfl d_Sg_post_56 ?_
        refine e_iload_n C d_Sg_post_59 rfl ?_
        refine e_iald (n := 8) C (by decide) rfl (by decide) rfl rfl (by decide) (by omega) (by omega) d_Sg_post_60 (fun r_60 => ?_)
        refine e_iret C F rfl d_Sg_post_61 (by omega) ?_
        rw [if_pos s_11_]; exact ⟨(hE 0 (by decide)).symm, h.same⟩
      · refine e_tableIn (off := 51) C 62 d_Sg_post_11 (by omega) (by omega) (by omega) (by rw [s_11_]; rfl) (by decide) ?_
        refine e_aload_n C d_Sg_post_62 rfl ?_
        refine e_geto (o2 := 18) C fl_Sg_37 (by decide) rfl rfl rfl d_Sg_post_63 ?_
        refine e_geta C fl_Sg_133 (by decide) rfl rfl d_Sg_post_66 ?_
        refine e_iload_n C d_Sg_post_69 rfl ?_
        refine e_iald (n := 8) C (by decide) rfl (by decide) rfl rfl (by decide) (by omega) (by omega) d_Sg_post_70 (fun r_70 => ?_)
        refine e_iret C F rfl d_Sg_post_71 (by omega) ?_
        rw [if_neg (by omega), if_pos s_11_]; exact ⟨(hE 1 (by decide)).symm, h.same⟩
      · refine e_tableIn (off := 61) C 72 d_Sg_post_11 (by omega) (by omega) (by omega) (by rw [s_11_]; rfl) (by decide) ?_
        refine e_aload_n C d_Sg_post_72 rfl ?_
        refine e_geto (o2 := 18) C fl_Sg_37 (by decide) rfl rfl rfl d_Sg_post_73 ?_
        refine e_geta C fl_Sg_136 (by decide) rfl rfl d_Sg_post_76 ?_
        refine e_iload_n C d_Sg_post_79 rfl ?_
        refine e_iald (n := 8) C (by decide) rfl (by decide) rfl rfl (by decide) (by omega) (by omega) d_Sg_post_80 (fun r_80 => ?_)
        refine e_iret C F rfl d_Sg_post_81 (by omega) ?_
        rw [if_neg (by omega), if_neg (by omega), if_pos s_11_]; exact ⟨(hE 2 (by decide)).symm, h.same⟩
      · refine e_tableIn (off := 71) C 82 d_Sg_post_11 (by omega) (by omega) (by omega) (by rw [s_11_]; rfl) (by decide) ?_
        refine e_aload_n C d_Sg_post_82 rfl ?_
        refine e_geto (o2 := 18) C fl_Sg_37 (by decide) rfl rfl rfl d_Sg_post_83 ?_
        refine e_geta C fl_Sg_139 (by decide) rfl rfl d_Sg_post_86 ?_
        refine e_iload_n C d_Sg_post_89 rfl ?_
        refine e_zald (n := 8) C (by decide) rfl (by decide) rfl rfl (by decide) (by omega) (by omega) d_Sg_post_90 (fun r_90 => ?_)
        refine e_if_eq C 98 d_Sg_post_91 (by decide) (by omega) (fun c_91 => ?_) (fun c_91 => ?_)
        · refine e_iconst C d_Sg_post_98 ?_
          refine e_iret C F rfl d_Sg_post_99 (by omega) ?_
          rw [if_neg (by omega), if_neg (by omega), if_neg (by omega), if_pos s_11_]; exact ⟨by omega, h.same⟩
        · refine e_iconst C d_Sg_post_94 ?_
          refine e_goto C 99 d_Sg_post_95 (by decide) ?_
          refine e_iret C F rfl d_Sg_post_99 (by omega) ?_
          rw [if_neg (by omega), if_neg (by omega), if_neg (by omega), if_pos s_11_]; exact ⟨by omega, h.same⟩
      · refine e_tableIn (off := 89) C 100 d_Sg_post_11 (by omega) (by omega) (by omega) (by rw [s_11_]; rfl) (by decide) ?_
        refine e_aload_n C d_Sg_post_100 rfl ?_
        refine e_geto (o2 := 18) C fl_Sg_37 (by decide) rfl rfl rfl d_Sg_post_101 ?_
        refine e_geta C fl_Sg_142 (by decide) rfl rfl d_Sg_post_104 ?_
        refine e_iload_n C d_Sg_post_107 rfl ?_
        refine e_iald (n := 8) C (by decide) rfl (by decide) rfl rfl (by decide) (by omega) (by omega) d_Sg_post_108 (fun r_108 => ?_)
        refine e_iret C F rfl d_Sg_post_109 (by omega) ?_
        rw [if_neg (by omega), if_neg (by omega), if_neg (by omega), if_neg (by omega), if_pos s_11_]; exact ⟨(hE 4 (by decide)).symm, h.same⟩
      · refine e_tableIn (off := 99) C 110 d_Sg_post_11 (by omega) (by omega) (by omega) (by rw [s_11_]; rfl) (by decide) ?_
        refine e_aload_n C d_Sg_post_110 rfl ?_
        refine e_geto (o2 := 7) C fl_Sg_26 (by decide) rfl rfl rfl d_Sg_post_111 ?_
        refine e_aload_n C d_Sg_post_114 rfl ?_
        refine e_geto (o2 := 18) C fl_Sg_37 (by decide) rfl rfl rfl d_Sg_post_115 ?_
        refine e_iload_n C d_Sg_post_118 rfl ?_
        refine e_aload_n C d_Sg_post_119 rfl ?_
        refine e_geto (o2 := 7) C fl_Sg_26 (by decide) rfl rfl rfl d_Sg_post_120 ?_
        refine e_aload_n C d_Sg_post_123 rfl ?_
        refine e_geto (o2 := 18) C fl_Sg_37 (by decide) rfl rfl rfl d_Sg_post_124 ?_
        refine e_geti C fl_Sg_145 (by decide) rfl rfl d_Sg_post_127 (fun r_127 => ?_)
        refine e_callIV C ok_Pl_hourOf lk_Sg_148 (o := 7) (by decide) rfl [_] rfl rfl (Nat.le_of_ble_eq_true rfl) (by decide) (Nat.le_of_ble_eq_true rfl) d_Sg_post_130 (k_Pl_hourOf hm.1 (by omega) (by rw [e7]; omega)) (fun v_130 u_130 q_130 h_130 => ?_)
        obtain ⟨rfl, e_130⟩ := h_130
        rw [e_130]
        have hh := pl_hour_in hPl (m := σ 18 12 0) hm.1
        refine e_callIV C ok_Pl_flow lk_Sg_152 (o := 7) (by decide) rfl [_, _, _] rfl rfl (Nat.le_of_ble_eq_true rfl) (by decide) (Nat.le_of_ble_eq_true rfl) d_Sg_post_133 (k_Pl_flow (by decide) (by omega) (by rw [e7] at hh; rw [e7]; omega) hPl.2.2.2.2.2.1.1) (fun v_133 u_133 q_133 h_133 => ?_)
        obtain ⟨h_133, l', hl', rfl⟩ := h_133
        rw [flw_pl hPl (by rw [e7]; exact hv) hh] at h_133
        refine e_iret C F rfl d_Sg_post_136 (by omega) ?_
        rw [if_neg (by omega), if_neg (by omega), if_neg (by omega), if_neg (by omega), if_neg (by omega), if_pos s_11_]
        refine ⟨?_, h.s8 hl'⟩
        rw [h_133, ← e7]
        exact (fls_cong (hE 0 (by decide)) (hE 1 (by decide)) (hE 3 (by decide)) e12).symm
      · refine e_tableIn (off := 126) C 137 d_Sg_post_11 (by omega) (by omega) (by omega) (by rw [s_11_]; rfl) (by decide) ?_
        refine e_aload_n C d_Sg_post_137 rfl ?_
        refine e_geto (o2 := 18) C fl_Sg_37 (by decide) rfl rfl rfl d_Sg_post_138 ?_
        refine e_geta C fl_Sg_156 (by decide) rfl rfl d_Sg_post_141 ?_
        refine e_iload_n C d_Sg_post_144 rfl ?_
        refine e_iald (n := 8) C (by decide) rfl (by decide) rfl rfl (by decide) (by omega) (by omega) d_Sg_post_145 (fun r_145 => ?_)
        refine e_iret C F rfl d_Sg_post_146 (by omega) ?_
        rw [if_neg (by omega), if_neg (by omega), if_neg (by omega), if_neg (by omega), if_neg (by omega), if_neg (by omega), if_pos s_11_]; exact ⟨(hE 5 (by decide)).symm, h.same⟩
  · rw [if_pos (po_f c_5)] at F
    refine e_iconst C d_Sg_post_8 ?_
    refine e_iret C F rfl d_Sg_post_9 (by omega) ?_
    exact ⟨rfl, h.same⟩
set_option maxHeartbeats 1000000 in
theorem K_Sg_guard {σ : St} {S : SS} {n a w : Int} (hp : PI S n) (h : IVc S n σ) (r1 : R32 a) (r2 : R32 w) : CtI M_Sg_guard [.inr (.inr (0, 0)), .inl a, .inl w] σ (fun r u => r = rvGuard S a w ∧ PC S n σ u) := by
  intro g C F
  have hN := h.1.2.1
  have hG := h.1.2.2.1
  have hL := h.y.1.2.1
  unfold rvGuard at F
  refine e_aload_n C d_Sg_guard_0 rfl ?_
  refine e_iload_n C d_Sg_guard_1 rfl ?_
  refine e_callIV C ok_Sg_isGuard lk_Sg_159 (o := 0) (by decide) rfl [_] rfl rfl (Nat.le_of_ble_eq_true rfl) (by decide) (Nat.le_of_ble_eq_true rfl) d_Sg_guard_2 (s_Sg_isGuard h r1) (fun v_2 u_2 q_2 h_2 => ?_)
  obtain ⟨rfl, e_2⟩ := h_2
  rw [e_2]
  refine e_if_ne C 10 d_Sg_guard_5 (by decide) (by split <;> omega) (fun c_5 => ?_) (fun c_5 => ?_)
  · have hv := po_t c_5
    rw [if_neg (fun z => z hv)] at F
    have hE := fun f h1 h2 => h.y.1.1.2.1 f a h1 h2 hv.1 hv.2
    refine e_iload_n C d_Sg_guard_10 rfl ?_
    by_cases s_11 : w < 0 ∨ 4 < w
    · refine e_tableOut C 93 d_Sg_guard_11 (by omega) (by omega) (by decide) ?_
      refine e_iconst C d_Sg_guard_93 ?_
      refine e_iret C F rfl d_Sg_guard_94 (by omega) ?_
      rw [if_neg (by omega), if_neg (by omega), if_neg (by omega), if_neg (by omega), if_neg (by omega)]; exact ⟨rfl, h.same⟩
    · rcases (show w = 0 ∨ w = 1 ∨ w = 2 ∨ w = 3 ∨ w = 4 by omega) with s_11_ | s_11_ | s_11_ | s_11_ | s_11_
      · refine e_tableIn (off := 33) C 44 d_Sg_guard_11 (by omega) (by omega) (by omega) (by rw [s_11_]; rfl) (by decide) ?_
        refine e_aload_n C d_Sg_guard_44 rfl ?_
        refine e_geto (o2 := 18) C fl_Sg_37 (by decide) rfl rfl rfl d_Sg_guard_45 ?_
        refine e_geta C fl_Sg_162 (by decide) rfl rfl d_Sg_guard_48 ?_
        refine e_iload_n C d_Sg_guard_51 rfl ?_
        refine e_iald (n := 12) C (by decide) rfl (by decide) rfl rfl (by decide) (by omega) (by omega) d_Sg_guard_52 (fun r_52 => ?_)
        refine e_iret C F rfl d_Sg_guard_53 (by omega) ?_
        rw [if_pos s_11_]; exact ⟨(psf_eq h.y.1 hN.1 hv).symm, h.same⟩
      · refine e_tableIn (off := 43) C 54 d_Sg_guard_11 (by omega) (by omega) (by omega) (by rw [s_11_]; rfl) (by decide) ?_
        refine e_aload_n C d_Sg_guard_54 rfl ?_
        refine e_geto (o2 := 18) C fl_Sg_37 (by decide) rfl rfl rfl d_Sg_guard_55 ?_
        refine e_geta C fl_Sg_165 (by decide) rfl rfl d_Sg_guard_58 ?_
        refine e_iload_n C d_Sg_guard_61 rfl ?_
        refine e_iald (n := 12) C (by decide) rfl (by decide) rfl rfl (by decide) (by omega) (by omega) d_Sg_guard_62 (fun r_62 => ?_)
        refine e_iret C F rfl d_Sg_guard_63 (by omega) ?_
        rw [if_neg (by omega), if_pos s_11_]; exact ⟨(hE 7 (by decide) (by decide)).symm, h.same⟩
      · refine e_tableIn (off := 53) C 64 d_Sg_guard_11 (by omega) (by omega) (by omega) (by rw [s_11_]; rfl) (by decide) ?_
        refine e_aload_n C d_Sg_guard_64 rfl ?_
        refine e_geto (o2 := 18) C fl_Sg_37 (by decide) rfl rfl rfl d_Sg_guard_65 ?_
        refine e_geta C fl_Sg_168 (by decide) rfl rfl d_Sg_guard_68 ?_
        refine e_iload_n C d_Sg_guard_71 rfl ?_
        refine e_iald (n := 12) C (by decide) rfl (by decide) rfl rfl (by decide) (by omega) (by omega) d_Sg_guard_72 (fun r_72 => ?_)
        refine e_iret C F rfl d_Sg_guard_73 (by omega) ?_
        rw [if_neg (by omega), if_neg (by omega), if_pos s_11_]; exact ⟨(hE 8 (by decide) (by decide)).symm, h.same⟩
      · refine e_tableIn (off := 63) C 74 d_Sg_guard_11 (by omega) (by omega) (by omega) (by rw [s_11_]; rfl) (by decide) ?_
        refine e_aload_n C d_Sg_guard_74 rfl ?_
        refine e_geto (o2 := 18) C fl_Sg_37 (by decide) rfl rfl rfl d_Sg_guard_75 ?_
        refine e_iload_n C d_Sg_guard_78 rfl ?_
        refine e_callIV C ok_Ca_placeInBed lk_Sg_171 (o := 18) (by decide) rfl [_] rfl rfl (Nat.le_of_ble_eq_true rfl) (by decide) (Nat.le_of_ble_eq_true rfl) d_Sg_guard_79 (k_Ca_placeInBed (by decide) r1 (by omega)) (fun v_79 u_79 q_79 h_79 => ?_)
        obtain ⟨h_79, rfl⟩ := h_79
        refine e_iret C F rfl d_Sg_guard_82 (by omega) ?_
        rw [if_neg (by omega), if_neg (by omega), if_neg (by omega), if_pos s_11_]; exact ⟨h_79.trans (bdf_eq h.y.1).symm, h.same⟩
      · refine e_tableIn (off := 72) C 83 d_Sg_guard_11 (by omega) (by omega) (by omega) (by rw [s_11_]; rfl) (by decide) ?_
        refine e_aload_n C d_Sg_guard_83 rfl ?_
        refine e_geto (o2 := 18) C fl_Sg_37 (by decide) rfl rfl rfl d_Sg_guard_84 ?_
        refine e_geta C fl_Sg_174 (by decide) rfl rfl d_Sg_guard_87 ?_
        refine e_iload_n C d_Sg_guard_90 rfl ?_
        refine e_iald (n := 12) C (by decide) rfl (by decide) rfl rfl (by decide) (by omega) (by omega) d_Sg_guard_91 (fun r_91 => ?_)
        refine e_iret C F rfl d_Sg_guard_92 (by omega) ?_
        rw [if_neg (by omega), if_neg (by omega), if_neg (by omega), if_neg (by omega), if_pos s_11_]; exact ⟨(hE 9 (by decide) (by decide)).symm, h.same⟩
  · rw [if_pos (po_f c_5)] at F
    refine e_iconst C d_Sg_guard_8 ?_
    refine e_iret C F rfl d_Sg_guard_9 (by omega) ?_
    exact ⟨rfl, h.same⟩
theorem K_Sg_out {σ : St} {S : SS} {n p : Int} (hp : PI S n) (h : IVc S n σ) (r1 : R32 p) : CtI M_Sg_out [.inr (.inr (0, 0)), .inl p] σ (fun r u => r = rvOut S p ∧ PC S n σ u) := by
  intro g C F
  have hPl := h.pl
  have e7 := h.e7
  have hN := h.1.2.1
  have hn := hp.n
  unfold rvOut at F
  refine e_aload_n C d_Sg_out_0 rfl ?_
  refine e_iload_n C d_Sg_out_1 rfl ?_
  refine e_callIV C ok_Sg_isPost lk_Sg_126 (o := 0) (by decide) rfl [_] rfl rfl (Nat.le_of_ble_eq_true rfl) (by decide) (Nat.le_of_ble_eq_true rfl) d_Sg_out_2 (s_Sg_isPost h r1) (fun v_2 u_2 q_2 h_2 => ?_)
  obtain ⟨rfl, e_2⟩ := h_2
  rw [e_2]
  refine e_if_ne C 10 d_Sg_out_5 (by decide) (by split <;> omega) (fun c_5 => ?_) (fun c_5 => ?_)
  · have hv := po_t c_5
    rw [if_pos hv] at F
    have hE := fun f hf => h.y.1.1.1 f p hf hv.1 hv.2
    have hq := h.y.2.2.1 p hv.1 (by omega)
    rw [← SF_id σ 19 (by decide)]
    refine e_aload_n C d_Sg_out_10 rfl ?_
    refine e_geto (o2 := 10) C fl_Sg_58 (by decide) rfl rfl rfl d_Sg_out_11 ?_
    refine e_geto (o2 := 19) C fl_Sg_206 (by decide) rfl rfl rfl d_Sg_out_14 ?_
    refine e_aload_n C d_Sg_out_17 rfl ?_
    refine e_geto (o2 := 18) C fl_Sg_37 (by decide) rfl rfl rfl d_Sg_out_18 ?_
    refine e_callVV C ok_Ca_copyFrom lk_Sg_116 (o := 19) (by decide) rfl [_] rfl rfl (Nat.le_of_ble_eq_true rfl) (by decide) (Nat.le_of_ble_eq_true rfl) d_Sg_out_21 (s_Ca_copy (by decide) (by decide)) (fun u_21 h_21 => ?_)
    subst h_21
    refine e_aload_n C d_Sg_out_24 rfl ?_
    refine e_geto (o2 := 10) C fl_Sg_58 (by decide) rfl rfl rfl d_Sg_out_25 ?_
    refine e_aload_n C d_Sg_out_28 rfl ?_
    refine e_geto (o2 := 7) C fl_Sg_26 (by decide) rfl rfl rfl d_Sg_out_29 ?_
    refine e_iload_n C d_Sg_out_32 rfl ?_
    refine e_sipush C d_Sg_out_33 (by decide) ?_
    refine e_callIV C ok_Ou_minutesToOut lk_Sg_209 (o := 10) (by decide) rfl [_, _, _] rfl rfl (Nat.le_of_ble_eq_true rfl) (by decide) (Nat.le_of_ble_eq_true rfl) d_Sg_out_36 (k_Ou_minutesToOut (φ := sF S) (B := 20000 * n) hPl (CK_copy h.y.2) (by omega) (by omega) (by rw [e7]; exact hv)) (fun v_36 u_36 q_36 h_36 => ?_)
    obtain ⟨h_36, l', c', hl', rfl⟩ := h_36
    rw [show ((2000 : Int) + 1).toNat = 2000 + 1 from rfl] at h_36
    rw [out_eq0 (y := sY S) (by rw [e7]; exact hv) 2000 (c_copy (σ 19) (σ 18)) (by rw [cp_0 (by omega)]; exact hE 0 (by decide)) (by rw [cp_1 (by omega)]; exact hE 1 (by decide)) (by rw [cp_3 (by omega)]; exact hE 3 (by decide)) (by rw [cp_12]; exact h.y.1.1.2.2.2.2) (by rw [hE 0 (by decide)]; omega), e7] at h_36
    refine e_iret C F rfl d_Sg_out_39 (by omega) ?_
    exact ⟨h_36, h.sf (by decide) hl'⟩
  · have hv := po_f c_5
    rw [if_neg hv] at F
    refine e_iconst C d_Sg_out_8 ?_
    refine e_iret C F rfl d_Sg_out_9 (by omega) ?_
    exact ⟨rfl, h.same⟩
theorem DF_id (σ : St) : DF σ (σ 11) (σ 8) (σ 20) = σ := by unfold DF; rw [so_id, SF_id σ 20 (by decide)]
theorem IVc.df {S : SS} {n : Int} {σ : St} {d' l' c' : Cs} (h : IVc S n σ) (hl : LSm (σ 8) l') (hd : DI S d') : PC S n σ (DF σ d' l' c') := by
  have e : ∀ q, q ≠ 11 → q ≠ 8 → q ≠ 20 → DF σ d' l' c' q = σ q := fun q a b c => DF_o a b c
  refine ⟨e 1 (by decide) (by decide) (by decide), h.keep (fun q hq => ?_) ?_ ?_ ?_ ?_⟩
  · simp only [scr, List.mem_cons, List.not_mem_nil, or_false] at hq
    exact e q (by omega) (by omega) (by omega)
  · show LSm (σ 8) (DF σ d' l' c' 8)
    unfold DF SF
    rw [so_ne (by decide), so_at]
    exact hl
  · rw [DF_11]; exact hd
  · rw [e 12 (by decide) (by decide) (by decide)]; exact h.ga
  · rw [e 13 (by decide) (by decide) (by decide)]; exact h.ru
theorem orn_msb (φ : Phi) (P y : Cs) : orn (msb φ P y) = mso φ P 3001 0 y := by
  have := mso_ge (φ := φ) (P := P) 3001 0 y
  unfold orn msb
  by_cases z : mso φ P 3001 0 y = -2
  · rw [if_pos z, if_pos rfl, z]
  · rw [if_neg z, if_neg (by omega)]
theorem K_Sg_slept {σ : St} {S : SS} {n : Int} (hp : PI S n) (h : IVc S n σ) : CtI M_Sg_slept [.inr (.inr (0, 0))] σ (fun r u => r = rvSlept S ∧ PC S n σ u) := by
  intro g C F
  have hPl := h.pl
  have e7 := h.e7
  have hn := hp.n
  have hd := h.di
  unfold rvSlept at F
  rw [orn_msb] at F
  rw [← DF_id σ]
  refine e_aload_n C d_Sg_slept_0 rfl ?_
  refine e_geto (o2 := 11) C fl_Sg_65 (by decide) rfl rfl rfl d_Sg_slept_1 ?_
  refine e_aload_n C d_Sg_slept_4 rfl ?_
  refine e_geto (o2 := 7) C fl_Sg_26 (by decide) rfl rfl rfl d_Sg_slept_5 ?_
  refine e_aload_n C d_Sg_slept_8 rfl ?_
  refine e_geto (o2 := 18) C fl_Sg_37 (by decide) rfl rfl rfl d_Sg_slept_9 ?_
  refine e_callIV C ok_Dr_asItIs lk_Sg_213 (o := 11) (by decide) rfl [_, _] rfl rfl (Nat.le_of_ble_eq_true rfl) (by decide) (Nat.le_of_ble_eq_true rfl) d_Sg_slept_12 (k_Dr_asItIs (φ := sF S) (y := sY S) (B := 20000 * n) hPl (by rw [e7]; exact h.y.1) h.y.2 (by rw [e7]; exact hp.y.2.2.1) (by omega) (by rw [e7]; exact hd.1)) (fun v_12 u_12 q_12 h_12 => ?_)
  obtain ⟨h_12, d', l', c', hl', rfl, hd5, hdf⟩ := h_12
  rw [e7] at h_12 hd5
  refine e_iret C F rfl d_Sg_slept_15 (by omega) ?_
  refine ⟨h_12, h.df hl' ⟨hd5, ?_, ?_⟩⟩
  · unfold dFi; rw [hdf 7 (by decide) (by decide), hdf 0 (by decide) (by decide), hdf 1 (by decide) (by decide)]; exact hd.2.1
  · unfold dTi; rw [hdf 8 (by decide) (by decide), hdf 2 (by decide) (by decide), hdf 3 (by decide) (by decide)]; exact hd.2.2
theorem K_Sg_dryFirst {σ : St} {S : SS} {n w : Int} (hp : PI S n) (h : IVc S n σ) (r1 : R32 w) : CtI M_Sg_dryFirst [.inr (.inr (0, 0)), .inl w] σ (fun r u => r = rvDryF S w ∧ PC S n σ u) := by
  intro g C F
  have hPl := h.pl
  have e7 := h.e7
  have hn := hp.n
  have hd := h.di
  unfold rvDryF at F
  refine e_iload_n C d_Sg_dryFirst_0 rfl ?_
  refine e_if_eq C 11 d_Sg_dryFirst_1 (by decide) (by omega) (fun c_1 => ?_) (fun c_1 => ?_)
  · rw [if_pos (by omega)] at F
    rw [← DF_id σ]
    refine e_aload_n C d_Sg_dryFirst_11 rfl ?_
    refine e_geto (o2 := 11) C fl_Sg_65 (by decide) rfl rfl rfl d_Sg_dryFirst_12 ?_
    refine e_aload_n C d_Sg_dryFirst_15 rfl ?_
    refine e_geto (o2 := 7) C fl_Sg_26 (by decide) rfl rfl rfl d_Sg_dryFirst_16 ?_
    refine e_aload_n C d_Sg_dryFirst_19 rfl ?_
    refine e_geto (o2 := 18) C fl_Sg_37 (by decide) rfl rfl rfl d_Sg_dryFirst_20 ?_
    refine e_aload_n C d_Sg_dryFirst_23 rfl ?_
    refine e_geto (o2 := 11) C fl_Sg_65 (by decide) rfl rfl rfl d_Sg_dryFirst_24 ?_
    refine e_aload_n C d_Sg_dryFirst_27 rfl ?_
    refine e_geto (o2 := 7) C fl_Sg_26 (by decide) rfl rfl rfl d_Sg_dryFirst_28 ?_
    refine e_aload_n C d_Sg_dryFirst_31 rfl ?_
    refine e_geto (o2 := 18) C fl_Sg_37 (by decide) rfl rfl rfl d_Sg_dryFirst_32 ?_
    refine e_callIV C ok_Dr_asItIs lk_Sg_213 (o := 11) (by decide) rfl [_, _] rfl rfl (Nat.le_of_ble_eq_true rfl) (by decide) (Nat.le_of_ble_eq_true rfl) d_Sg_dryFirst_35 (k_Dr_asItIs (φ := sF S) (y := sY S) (B := 20000 * n) hPl (by rw [e7]; exact h.y.1) h.y.2 (by rw [e7]; exact hp.y.2.2.1) (by omega) (by rw [e7]; exact hd.1)) (fun v_35 u_35 q_35 h_35 => ?_)
    obtain ⟨rfl, d', l', c', hl', rfl, hd5, hdf⟩ := h_35
    refine e_callVV C ok_Dr_findFirst lk_Sg_217 (o := 11) (by decide) rfl [_, _, _] rfl rfl (Nat.le_of_ble_eq_true rfl) (by decide) (Nat.le_of_ble_eq_true rfl) d_Sg_dryFirst_38 (k_Dr_findFirst (φ := sF S) (y := sY S) (B := 20000 * n) (hPl.same hl') (by rw [e7]; exact h.y.1) h.y.2 (by rw [e7]; exact hp.y.2.2.1) (by omega) (by rw [e7]; exact fun z y p v => UF_msb hp.uf z y p v) (by rw [e7]; unfold dFi; rw [hdf 7 (by decide) (by decide), hdf 0 (by decide) (by decide), hdf 1 (by decide) (by decide)]; exact hd.2.1)) (fun u_38 h_38 => ?_)
    obtain ⟨d2, l2, c2, hl2, rfl, ⟨hd7, hdF⟩, hdf2⟩ := h_38
    rw [e7] at hdF hd5
    have hF := hdF hd7
    have hdi : DI S d2 := ⟨by rw [hdf2 6 (by decide) (by decide) (by decide), hdf2 5 (by decide) (by decide) (by decide)]; exact hd5, hdF, by unfold dTi; rw [hdf2 8 (by decide) (by decide) (by decide), hdf2 2 (by decide) (by decide) (by decide), hdf2 3 (by decide) (by decide) (by decide), hdf 8 (by decide) (by decide), hdf 2 (by decide) (by decide), hdf 3 (by decide) (by decide)]; exact hd.2.2⟩
    refine e_iload_n C d_Sg_dryFirst_41 rfl ?_
    refine e_if_ne C 55 d_Sg_dryFirst_42 (by decide) (by omega) (fun c_42 => ?_) (fun c_42 => ?_)
    · rw [if_neg c_42] at F
      refine e_aload_n C d_Sg_dryFirst_55 rfl ?_
      refine e_geto (o2 := 11) C fl_Sg_65 (by decide) rfl rfl rfl d_Sg_dryFirst_56 ?_
      refine e_geti C fl_Sg_224 (by decide) rfl rfl d_Sg_dryFirst_59 (fun r_59 => ?_)
      try simp only [DF_11] at r_59 ⊢
      refine e_iret C F rfl d_Sg_dryFirst_62 (by omega) ?_
      first | exact ⟨hF.1, h.df (hl'.tr hl2) hdi⟩ | exact ⟨hF.2, h.df (hl'.tr hl2) hdi⟩
    · rw [if_pos c_42] at F
      refine e_aload_n C d_Sg_dryFirst_45 rfl ?_
      refine e_geto (o2 := 11) C fl_Sg_65 (by decide) rfl rfl rfl d_Sg_dryFirst_46 ?_
      refine e_geti C fl_Sg_221 (by decide) rfl rfl d_Sg_dryFirst_49 (fun r_49 => ?_)
      try simp only [DF_11] at r_49 ⊢
      refine e_goto C 62 d_Sg_dryFirst_52 (by decide) ?_
      refine e_iret C F rfl d_Sg_dryFirst_62 (by omega) ?_
      first | exact ⟨hF.1, h.df (hl'.tr hl2) hdi⟩ | exact ⟨hF.2, h.df (hl'.tr hl2) hdi⟩
  · refine e_iload_n C d_Sg_dryFirst_4 rfl ?_
    refine e_iconst C d_Sg_dryFirst_5 ?_
    refine e_icmp_eq C 11 d_Sg_dryFirst_6 (by decide) (by omega) (by omega) (fun c_6 => ?_) (fun c_6 => ?_)
    · rw [if_pos (by omega)] at F
      rw [← DF_id σ]
      refine e_aload_n C d_Sg_dryFirst_11 rfl ?_
      refine e_geto (o2 := 11) C fl_Sg_65 (by decide) rfl rfl rfl d_Sg_dryFirst_12 ?_
      refine e_aload_n C d_Sg_dryFirst_15 rfl ?_
      refine e_geto (o2 := 7) C fl_Sg_26 (by decide) rfl rfl rfl d_Sg_dryFirst_16 ?_
      refine e_aload_n C d_Sg_dryFirst_19 rfl ?_
      refine e_geto (o2 := 18) C fl_Sg_37 (by decide) rfl rfl rfl d_Sg_dryFirst_20 ?_
      refine e_aload_n C d_Sg_dryFirst_23 rfl ?_
      refine e_geto (o2 := 11) C fl_Sg_65 (by decide) rfl rfl rfl d_Sg_dryFirst_24 ?_
      refine e_aload_n C d_Sg_dryFirst_27 rfl ?_
      refine e_geto (o2 := 7) C fl_Sg_26 (by decide) rfl rfl rfl d_Sg_dryFirst_28 ?_
      refine e_aload_n C d_Sg_dryFirst_31 rfl ?_
      refine e_geto (o2 := 18) C fl_Sg_37 (by decide) rfl rfl rfl d_Sg_dryFirst_32 ?_
      refine e_callIV C ok_Dr_asItIs lk_Sg_213 (o := 11) (by decide) rfl [_, _] rfl rfl (Nat.le_of_ble_eq_true rfl) (by decide) (Nat.le_of_ble_eq_true rfl) d_Sg_dryFirst_35 (k_Dr_asItIs (φ := sF S) (y := sY S) (B := 20000 * n) hPl (by rw [e7]; exact h.y.1) h.y.2 (by rw [e7]; exact hp.y.2.2.1) (by omega) (by rw [e7]; exact hd.1)) (fun v_35 u_35 q_35 h_35 => ?_)
      obtain ⟨rfl, d', l', c', hl', rfl, hd5, hdf⟩ := h_35
      refine e_callVV C ok_Dr_findFirst lk_Sg_217 (o := 11) (by decide) rfl [_, _, _] rfl rfl (Nat.le_of_ble_eq_true rfl) (by decide) (Nat.le_of_ble_eq_true rfl) d_Sg_dryFirst_38 (k_Dr_findFirst (φ := sF S) (y := sY S) (B := 20000 * n) (hPl.same hl') (by rw [e7]; exact h.y.1) h.y.2 (by rw [e7]; exact hp.y.2.2.1) (by omega) (by rw [e7]; exact fun z y p v => UF_msb hp.uf z y p v) (by rw [e7]; unfold dFi; rw [hdf 7 (by decide) (by decide), hdf 0 (by decide) (by decide), hdf 1 (by decide) (by decide)]; exact hd.2.1)) (fun u_38 h_38 => ?_)
      obtain ⟨d2, l2, c2, hl2, rfl, ⟨hd7, hdF⟩, hdf2⟩ := h_38
      rw [e7] at hdF hd5
      have hF := hdF hd7
      have hdi : DI S d2 := ⟨by rw [hdf2 6 (by decide) (by decide) (by decide), hdf2 5 (by decide) (by decide) (by decide)]; exact hd5, hdF, by unfold dTi; rw [hdf2 8 (by decide) (by decide) (by decide), hdf2 2 (by decide) (by decide) (by decide), hdf2 3 (by decide) (by decide) (by decide), hdf 8 (by decide) (by decide), hdf 2 (by decide) (by decide), hdf 3 (by decide) (by decide)]; exact hd.2.2⟩
      refine e_iload_n C d_Sg_dryFirst_41 rfl ?_
      refine e_if_ne C 55 d_Sg_dryFirst_42 (by decide) (by omega) (fun c_42 => ?_) (fun c_42 => ?_)
      · rw [if_neg c_42] at F
        refine e_aload_n C d_Sg_dryFirst_55 rfl ?_
        refine e_geto (o2 := 11) C fl_Sg_65 (by decide) rfl rfl rfl d_Sg_dryFirst_56 ?_
        refine e_geti C fl_Sg_224 (by decide) rfl rfl d_Sg_dryFirst_59 (fun r_59 => ?_)
        try simp only [DF_11] at r_59 ⊢
        refine e_iret C F rfl d_Sg_dryFirst_62 (by omega) ?_
        first | exact ⟨hF.1, h.df (hl'.tr hl2) hdi⟩ | exact ⟨hF.2, h.df (hl'.tr hl2) hdi⟩
      · rw [if_pos c_42] at F
        refine e_aload_n C d_Sg_dryFirst_45 rfl ?_
        refine e_geto (o2 := 11) C fl_Sg_65 (by decide) rfl rfl rfl d_Sg_dryFirst_46 ?_
        refine e_geti C fl_Sg_221 (by decide) rfl rfl d_Sg_dryFirst_49 (fun r_49 => ?_)
        try simp only [DF_11] at r_49 ⊢
        refine e_goto C 62 d_Sg_dryFirst_52 (by decide) ?_
        refine e_iret C F rfl d_Sg_dryFirst_62 (by omega) ?_
        first | exact ⟨hF.1, h.df (hl'.tr hl2) hdi⟩ | exact ⟨hF.2, h.df (hl'.tr hl2) hdi⟩
    · rw [if_neg (by omega)] at F
      refine e_iconst C d_Sg_dryFirst_9 ?_
      refine e_iret C F rfl d_Sg_dryFirst_10 (by omega) ?_
      exact ⟨rfl, h.same⟩
theorem K_Sg_dryTwo {σ : St} {S : SS} {n w : Int} (hp : PI S n) (h : IVc S n σ) (r1 : R32 w) : CtI M_Sg_dryTwo [.inr (.inr (0, 0)), .inl w] σ (fun r u => r = rvDryT S w ∧ PC S n σ u) := by
  intro g C F
  have hPl := h.pl
  have e7 := h.e7
  have hn := hp.n
  have hd := h.di
  unfold rvDryT at F
  refine e_iload_n C d_Sg_dryTwo_0 rfl ?_
  refine e_if_eq C 11 d_Sg_dryTwo_1 (by decide) (by omega) (fun c_1 => ?_) (fun c_1 => ?_)
  · rw [if_pos (by omega)] at F
    rw [← DF_id σ]
    refine e_aload_n C d_Sg_dryTwo_11 rfl ?_
    refine e_geto (o2 := 11) C fl_Sg_65 (by decide) rfl rfl rfl d_Sg_dryTwo_12 ?_
    refine e_aload_n C d_Sg_dryTwo_15 rfl ?_
    refine e_geto (o2 := 7) C fl_Sg_26 (by decide) rfl rfl rfl d_Sg_dryTwo_16 ?_
    refine e_aload_n C d_Sg_dryTwo_19 rfl ?_
    refine e_geto (o2 := 18) C fl_Sg_37 (by decide) rfl rfl rfl d_Sg_dryTwo_20 ?_
    refine e_callVV C ok_Dr_findTwo lk_Sg_227 (o := 11) (by decide) rfl [_, _] rfl rfl (Nat.le_of_ble_eq_true rfl) (by decide) (Nat.le_of_ble_eq_true rfl) d_Sg_dryTwo_23 (k_Dr_findTwo (φ := sF S) (y := sY S) (B := 20000 * n) hPl (by rw [e7]; exact h.y.1) h.y.2 (by rw [e7]; exact hp.y.2.2.1) (by omega) (by rw [e7]; exact fun z y p v => UF_msb hp.uf z y p v) (by rw [e7]; exact hd.2.2)) (fun u_23 h_23 => ?_)
    obtain ⟨d2, l2, c2, hl2, rfl, ⟨hd8, hdT⟩, hdf2⟩ := h_23
    rw [e7] at hdT
    have hT := hdT hd8
    have hdi : DI S d2 := ⟨by rw [hdf2 6 (by decide) (by decide) (by decide), hdf2 5 (by decide) (by decide) (by decide)]; exact hd.1, by unfold dFi; rw [hdf2 7 (by decide) (by decide) (by decide), hdf2 0 (by decide) (by decide) (by decide), hdf2 1 (by decide) (by decide) (by decide)]; exact hd.2.1, hdT⟩
    refine e_iload_n C d_Sg_dryTwo_26 rfl ?_
    refine e_if_ne C 40 d_Sg_dryTwo_27 (by decide) (by omega) (fun c_27 => ?_) (fun c_27 => ?_)
    · rw [if_neg c_27] at F
      refine e_aload_n C d_Sg_dryTwo_40 rfl ?_
      refine e_geto (o2 := 11) C fl_Sg_65 (by decide) rfl rfl rfl d_Sg_dryTwo_41 ?_
      refine e_geti C fl_Sg_234 (by decide) rfl rfl d_Sg_dryTwo_44 (fun r_44 => ?_)
      try simp only [DF_11] at r_44 ⊢
      refine e_iret C F rfl d_Sg_dryTwo_47 (by omega) ?_
      first | exact ⟨hT.1, h.df hl2 hdi⟩ | exact ⟨hT.2, h.df hl2 hdi⟩
    · rw [if_pos c_27] at F
      refine e_aload_n C d_Sg_dryTwo_30 rfl ?_
      refine e_geto (o2 := 11) C fl_Sg_65 (by decide) rfl rfl rfl d_Sg_dryTwo_31 ?_
      refine e_geti C fl_Sg_231 (by decide) rfl rfl d_Sg_dryTwo_34 (fun r_34 => ?_)
      try simp only [DF_11] at r_34 ⊢
      refine e_goto C 47 d_Sg_dryTwo_37 (by decide) ?_
      refine e_iret C F rfl d_Sg_dryTwo_47 (by omega) ?_
      first | exact ⟨hT.1, h.df hl2 hdi⟩ | exact ⟨hT.2, h.df hl2 hdi⟩
  · refine e_iload_n C d_Sg_dryTwo_4 rfl ?_
    refine e_iconst C d_Sg_dryTwo_5 ?_
    refine e_icmp_eq C 11 d_Sg_dryTwo_6 (by decide) (by omega) (by omega) (fun c_6 => ?_) (fun c_6 => ?_)
    · rw [if_pos (by omega)] at F
      rw [← DF_id σ]
      refine e_aload_n C d_Sg_dryTwo_11 rfl ?_
      refine e_geto (o2 := 11) C fl_Sg_65 (by decide) rfl rfl rfl d_Sg_dryTwo_12 ?_
      refine e_aload_n C d_Sg_dryTwo_15 rfl ?_
      refine e_geto (o2 := 7) C fl_Sg_26 (by decide) rfl rfl rfl d_Sg_dryTwo_16 ?_
      refine e_aload_n C d_Sg_dryTwo_19 rfl ?_
      refine e_geto (o2 := 18) C fl_Sg_37 (by decide) rfl rfl rfl d_Sg_dryTwo_20 ?_
      refine e_callVV C ok_Dr_findTwo lk_Sg_227 (o := 11) (by decide) rfl [_, _] rfl rfl (Nat.le_of_ble_eq_true rfl) (by decide) (Nat.le_of_ble_eq_true rfl) d_Sg_dryTwo_23 (k_Dr_findTwo (φ := sF S) (y := sY S) (B := 20000 * n) hPl (by rw [e7]; exact h.y.1) h.y.2 (by rw [e7]; exact hp.y.2.2.1) (by omega) (by rw [e7]; exact fun z y p v => UF_msb hp.uf z y p v) (by rw [e7]; exact hd.2.2)) (fun u_23 h_23 => ?_)
      obtain ⟨d2, l2, c2, hl2, rfl, ⟨hd8, hdT⟩, hdf2⟩ := h_23
      rw [e7] at hdT
      have hT := hdT hd8
      have hdi : DI S d2 := ⟨by rw [hdf2 6 (by decide) (by decide) (by decide), hdf2 5 (by decide) (by decide) (by decide)]; exact hd.1, by unfold dFi; rw [hdf2 7 (by decide) (by decide) (by decide), hdf2 0 (by decide) (by decide) (by decide), hdf2 1 (by decide) (by decide) (by decide)]; exact hd.2.1, hdT⟩
      refine e_iload_n C d_Sg_dryTwo_26 rfl ?_
      refine e_if_ne C 40 d_Sg_dryTwo_27 (by decide) (by omega) (fun c_27 => ?_) (fun c_27 => ?_)
      · rw [if_neg c_27] at F
        refine e_aload_n C d_Sg_dryTwo_40 rfl ?_
        refine e_geto (o2 := 11) C fl_Sg_65 (by decide) rfl rfl rfl d_Sg_dryTwo_41 ?_
        refine e_geti C fl_Sg_234 (by decide) rfl rfl d_Sg_dryTwo_44 (fun r_44 => ?_)
        try simp only [DF_11] at r_44 ⊢
        refine e_iret C F rfl d_Sg_dryTwo_47 (by omega) ?_
        first | exact ⟨hT.1, h.df hl2 hdi⟩ | exact ⟨hT.2, h.df hl2 hdi⟩
      · rw [if_pos c_27] at F
        refine e_aload_n C d_Sg_dryTwo_30 rfl ?_
        refine e_geto (o2 := 11) C fl_Sg_65 (by decide) rfl rfl rfl d_Sg_dryTwo_31 ?_
        refine e_geti C fl_Sg_231 (by decide) rfl rfl d_Sg_dryTwo_34 (fun r_34 => ?_)
        try simp only [DF_11] at r_34 ⊢
        refine e_goto C 47 d_Sg_dryTwo_37 (by decide) ?_
        refine e_iret C F rfl d_Sg_dryTwo_47 (by omega) ?_
        first | exact ⟨hT.1, h.df hl2 hdi⟩ | exact ⟨hT.2, h.df hl2 hdi⟩
    · rw [if_neg (by omega)] at F
      refine e_iconst C d_Sg_dryTwo_9 ?_
      refine e_iret C F rfl d_Sg_dryTwo_10 (by omega) ?_
      exact ⟨rfl, h.same⟩
theorem K_Sg_bribe {σ : St} {S : SS} {n a k : Int} (hp : PI S n) (h : IVc S n σ) (r1 : R32 a) (r2 : R32 k) : CtI M_Sg_bribe [.inr (.inr (0, 0)), .inl a, .inl k] σ (fun r u => r = rvBribe S a k ∧ PC S n σ u) := by
  intro g C F
  have hPl := h.pl
  have e7 := h.e7
  have hN := h.1.2.1
  have hG := h.1.2.2.1
  have hn := hp.n
  have hno : ¬ okBribe S a k → -1 = rvBribe S a k ∧ PC S n σ σ := by
    intro z
    unfold rvBribe
    rw [if_neg z]
    exact ⟨rfl, h.same⟩
  refine e_aload_n C d_Sg_bribe_0 rfl ?_
  refine e_iload_n C d_Sg_bribe_1 rfl ?_
  refine e_callIV C ok_Sg_isGuard lk_Sg_159 (o := 0) (by decide) rfl [_] rfl rfl (Nat.le_of_ble_eq_true rfl) (by decide) (Nat.le_of_ble_eq_true rfl) d_Sg_bribe_2 (s_Sg_isGuard h r1) (fun v_2 u_2 q_2 h_2 => ?_)
  obtain ⟨rfl, e_2⟩ := h_2
  rw [e_2]
  refine e_if_eq C 34 d_Sg_bribe_5 (by decide) (by split <;> omega) (fun c_5 => ?_) (fun c_5 => ?_)
  · have hv0 : ¬ okBribe S a k := fun z => po_f c_5 z.1
    refine e_iconst C d_Sg_bribe_34 ?_
    refine e_iret C F rfl d_Sg_bribe_35 (by omega) ?_
    exact hno hv0
  · have hv := po_t c_5
    have hps := psf_eq h.y.1 hN.1 hv
    have hpr := psf_r (y := sY S) (a := a) hN
    refine e_iload_n C d_Sg_bribe_8 rfl ?_
    refine e_iconst C d_Sg_bribe_9 ?_
    refine e_icmp_lt C 34 d_Sg_bribe_10 (by decide) (by omega) (by omega) (fun c_10 => ?_) (fun c_10 => ?_)
    · have hv0 : ¬ okBribe S a k := fun z => by have := z.2.1; omega
      refine e_iconst C d_Sg_bribe_34 ?_
      refine e_iret C F rfl d_Sg_bribe_35 (by omega) ?_
      exact hno hv0
    · refine e_iload_n C d_Sg_bribe_13 rfl ?_
      refine e_sipush C d_Sg_bribe_14 (by decide) ?_
      refine e_icmp_gt C 34 d_Sg_bribe_17 (by decide) (by omega) (by omega) (fun c_17 => ?_) (fun c_17 => ?_)
      · have hv0 : ¬ okBribe S a k := fun z => by have := z.2.1; omega
        refine e_iconst C d_Sg_bribe_34 ?_
        refine e_iret C F rfl d_Sg_bribe_35 (by omega) ?_
        exact hno hv0
      · refine e_aload_n C d_Sg_bribe_20 rfl ?_
        refine e_geto (o2 := 18) C fl_Sg_37 (by decide) rfl rfl rfl d_Sg_bribe_21 ?_
        refine e_geta C fl_Sg_162 (by decide) rfl rfl d_Sg_bribe_24 ?_
        refine e_iload_n C d_Sg_bribe_27 rfl ?_
        refine e_iald (n := 12) C (by decide) rfl (by decide) rfl rfl (by decide) (by omega) (by omega) d_Sg_bribe_28 (fun r_28 => ?_)
        refine e_bipush C d_Sg_bribe_29 (by decide) ?_
        refine e_icmp_ne C 36 d_Sg_bribe_31 (by decide) (by omega) (by omega) (fun c_31 => ?_) (fun c_31 => ?_)
        · have hok : okBribe S a k := ⟨hv, by omega, by omega⟩
          unfold rvBribe at F
          rw [if_pos hok, hps] at F
          rw [← SF_id σ 19 (by decide)]
          refine e_aload_n C d_Sg_bribe_36 rfl ?_
          refine e_geto (o2 := 10) C fl_Sg_58 (by decide) rfl rfl rfl d_Sg_bribe_37 ?_
          refine e_aload_n C d_Sg_bribe_40 rfl ?_
          refine e_geto (o2 := 7) C fl_Sg_26 (by decide) rfl rfl rfl d_Sg_bribe_41 ?_
          refine e_aload_n C d_Sg_bribe_44 rfl ?_
          refine e_geto (o2 := 18) C fl_Sg_37 (by decide) rfl rfl rfl d_Sg_bribe_45 ?_
          refine e_iload_n C d_Sg_bribe_48 rfl ?_
          refine e_iload_n C d_Sg_bribe_49 rfl ?_
          refine e_callIV C ok_Ou_fewestGrains lk_Sg_237 (o := 10) (by decide) rfl [_, _, _, _] rfl rfl (Nat.le_of_ble_eq_true rfl) (by decide) (Nat.le_of_ble_eq_true rfl) d_Sg_bribe_50 (k_Ou_fewestGrains (φ := sF S) (y := sY S) (B := 20000 * n) hPl (by rw [e7]; exact h.y.1) h.y.2 (by omega) (by omega) (by rw [e7]; exact hv) (by omega)) (fun v_50 u_50 q_50 h_50 => ?_)
          obtain ⟨h_50, l', c', hl', rfl⟩ := h_50
          rw [e7] at h_50
          refine e_iret C F rfl d_Sg_bribe_53 (by omega) ?_
          exact ⟨h_50, h.sf (by decide) hl'⟩
        · have hv0 : ¬ okBribe S a k := fun z => by have := z.2.2; omega
          refine e_iconst C d_Sg_bribe_34 ?_
          refine e_iret C F rfl d_Sg_bribe_35 (by omega) ?_
          exact hno hv0
theorem K_Sg_weak {σ : St} {S : SS} {n k w : Int} (h : IVc S n σ) (r1 : R32 k) (r2 : R32 w) : CtI M_Sg_weak [.inr (.inr (0, 0)), .inl k, .inl w] σ (fun r u => r = rvWeak S k w ∧ PC S n σ u) := by
  intro g C F
  have e7 := h.e7
  have hno : ¬ okWeak k w → -1 = rvWeak S k w ∧ PC S n σ σ := by
    intro z
    unfold rvWeak
    rw [if_neg z]
    exact ⟨rfl, h.same⟩
  refine e_iload_n C d_Sg_weak_0 rfl ?_
  refine e_iconst C d_Sg_weak_1 ?_
  refine e_icmp_lt C 21 d_Sg_weak_2 (by decide) (by omega) (by omega) (fun c_2 => ?_) (fun c_2 => ?_)
  · have hv0 : ¬ okWeak k w := by omega
    refine e_iconst C d_Sg_weak_21 ?_
    refine e_iret C F rfl d_Sg_weak_22 (by omega) ?_
    exact hno hv0
  · refine e_iload_n C d_Sg_weak_5 rfl ?_
    refine e_sipush C d_Sg_weak_6 (by decide) ?_
    refine e_icmp_gt C 21 d_Sg_weak_9 (by decide) (by omega) (by omega) (fun c_9 => ?_) (fun c_9 => ?_)
    · have hv0 : ¬ okWeak k w := by omega
      refine e_iconst C d_Sg_weak_21 ?_
      refine e_iret C F rfl d_Sg_weak_22 (by omega) ?_
      exact hno hv0
    · refine e_iload_n C d_Sg_weak_12 rfl ?_
      refine e_if_lt C 21 d_Sg_weak_13 (by decide) (by omega) (fun c_13 => ?_) (fun c_13 => ?_)
      · have hv0 : ¬ okWeak k w := by omega
        refine e_iconst C d_Sg_weak_21 ?_
        refine e_iret C F rfl d_Sg_weak_22 (by omega) ?_
        exact hno hv0
      · refine e_iload_n C d_Sg_weak_16 rfl ?_
        refine e_iconst C d_Sg_weak_17 ?_
        refine e_icmp_le C 23 d_Sg_weak_18 (by decide) (by omega) (by omega) (fun c_18 => ?_) (fun c_18 => ?_)
        · unfold rvWeak at F
          rw [if_pos (show okWeak k w by omega)] at F
          refine e_aload_n C d_Sg_weak_23 rfl ?_
          refine e_geto (o2 := 7) C fl_Sg_26 (by decide) rfl rfl rfl d_Sg_weak_24 ?_
          refine e_geti C fl_Sg_241 (by decide) rfl rfl d_Sg_weak_27 (fun r_27 => ?_)
          try simp only [e7] at r_27 ⊢
          refine e_aload_n C d_Sg_weak_30 rfl ?_
          refine e_geto (o2 := 7) C fl_Sg_26 (by decide) rfl rfl rfl d_Sg_weak_31 ?_
          refine e_geti C fl_Sg_244 (by decide) rfl rfl d_Sg_weak_34 (fun r_34 => ?_)
          try simp only [e7] at r_34 ⊢
          refine e_icmp_ge C 44 d_Sg_weak_37 (by decide) (by omega) (by omega) (fun c_37 => ?_) (fun c_37 => ?_)
          · rw [if_neg (by omega)] at F
            refine e_iconst C d_Sg_weak_44 ?_
            refine e_istore_n C d_Sg_weak_45 (by decide) rfl ?_
            refine e_iload_n C d_Sg_weak_46 rfl ?_
            refine e_if_ne C 60 d_Sg_weak_47 (by decide) (by omega) (fun c_47 => ?_) (fun c_47 => ?_)
            · rw [if_neg c_47] at F
              refine e_iload_n C d_Sg_weak_60 rfl ?_
              refine e_if_eq C 68 d_Sg_weak_61 (by decide) (by omega) (fun c_61 => ?_) (fun c_61 => ?_)
              · refine e_bipush C d_Sg_weak_68 (by decide) ?_
                refine e_iret C F rfl d_Sg_weak_70 (by omega) ?_
                first | exact ⟨rfl, h.same⟩ | exact absurd c_51 (by decide) | exact absurd c_61 (by decide) | exact absurd rfl c_51 | exact absurd rfl c_61
              · refine e_iconst C d_Sg_weak_64 ?_
                refine e_goto C 70 d_Sg_weak_65 (by decide) ?_
                refine e_iret C F rfl d_Sg_weak_70 (by omega) ?_
                first | exact ⟨rfl, h.same⟩ | exact absurd c_51 (by decide) | exact absurd c_61 (by decide) | exact absurd rfl c_51 | exact absurd rfl c_61
            · rw [if_pos c_47] at F
              refine e_iload_n C d_Sg_weak_50 rfl ?_
              refine e_if_eq C 58 d_Sg_weak_51 (by decide) (by omega) (fun c_51 => ?_) (fun c_51 => ?_)
              · refine e_iconst C d_Sg_weak_58 ?_
                refine e_iret C F rfl d_Sg_weak_59 (by omega) ?_
                first | exact ⟨rfl, h.same⟩ | exact absurd c_51 (by decide) | exact absurd c_61 (by decide) | exact absurd rfl c_51 | exact absurd rfl c_61
              · refine e_iload_n C d_Sg_weak_54 rfl ?_
                refine e_goto C 59 d_Sg_weak_55 (by decide) ?_
                refine e_iret C F rfl d_Sg_weak_59 (by omega) ?_
                first | exact ⟨rfl, h.same⟩ | exact absurd c_51 (by decide) | exact absurd c_61 (by decide) | exact absurd rfl c_51 | exact absurd rfl c_61
          · rw [if_pos (by omega)] at F
            refine e_iconst C d_Sg_weak_40 ?_
            refine e_goto C 45 d_Sg_weak_41 (by decide) ?_
            refine e_istore_n C d_Sg_weak_45 (by decide) rfl ?_
            refine e_iload_n C d_Sg_weak_46 rfl ?_
            refine e_if_ne C 60 d_Sg_weak_47 (by decide) (by omega) (fun c_47 => ?_) (fun c_47 => ?_)
            · rw [if_neg c_47] at F
              refine e_iload_n C d_Sg_weak_60 rfl ?_
              refine e_if_eq C 68 d_Sg_weak_61 (by decide) (by omega) (fun c_61 => ?_) (fun c_61 => ?_)
              · refine e_bipush C d_Sg_weak_68 (by decide) ?_
                refine e_iret C F rfl d_Sg_weak_70 (by omega) ?_
                first | exact ⟨rfl, h.same⟩ | exact absurd c_51 (by decide) | exact absurd c_61 (by decide) | exact absurd rfl c_51 | exact absurd rfl c_61
              · refine e_iconst C d_Sg_weak_64 ?_
                refine e_goto C 70 d_Sg_weak_65 (by decide) ?_
                refine e_iret C F rfl d_Sg_weak_70 (by omega) ?_
                first | exact ⟨rfl, h.same⟩ | exact absurd c_51 (by decide) | exact absurd c_61 (by decide) | exact absurd rfl c_51 | exact absurd rfl c_61
            · rw [if_pos c_47] at F
              refine e_iload_n C d_Sg_weak_50 rfl ?_
              refine e_if_eq C 58 d_Sg_weak_51 (by decide) (by omega) (fun c_51 => ?_) (fun c_51 => ?_)
              · refine e_iconst C d_Sg_weak_58 ?_
                refine e_iret C F rfl d_Sg_weak_59 (by omega) ?_
                first | exact ⟨rfl, h.same⟩ | exact absurd c_51 (by decide) | exact absurd c_61 (by decide) | exact absurd rfl c_51 | exact absurd rfl c_61
              · refine e_iload_n C d_Sg_weak_54 rfl ?_
                refine e_goto C 59 d_Sg_weak_55 (by decide) ?_
                refine e_iret C F rfl d_Sg_weak_59 (by omega) ?_
                first | exact ⟨rfl, h.same⟩ | exact absurd c_51 (by decide) | exact absurd c_61 (by decide) | exact absurd rfl c_51 | exact absurd rfl c_61
        · have hv0 : ¬ okWeak k w := by omega
          refine e_iconst C d_Sg_weak_21 ?_
          refine e_iret C F rfl d_Sg_weak_22 (by omega) ?_
          exact hno hv0
