/-! the class's Reader: posts, guards, damp, sleep -/
def telQ (σ : St) (l : Cs) (res : (Int × Int) ⊕ (Int × Cs × Cs × Cs)) (r : Int) (u : St) : Prop := match res with
  | .inl fp => r = 0 ∧ FZ σ fp u
  | .inr p => r = 1 ∧ ∃ X', u = RZ σ X' p.2.2.1 l p.2.2.2 ∧ XZ X' p.2.1 ∧ X' 11 0 = p.1
theorem pMu_go {T : Tab} {k t : Int} (h : T.1 t = k) : pMu T k t = pGo T t := by unfold pMu; rw [if_pos h]
section RT2
variable {T : Tab} {σ : St} {X x P l c : Cs} {t : Int}
set_option maxHeartbeats 2000000 in
theorem k_Re_takePost (h : TH T σ X t) (hx : XZ X x) (hk : T.1 t = 137) (h3 : 0 ≤ P 3 0 ∧ P 3 0 ≤ 8) (h10 : 0 ≤ x 10 0 ∧ x 10 0 < 20 ∨ 8 ≤ P 3 0) (hP1 : P 1 0 = 0) (hc : RdC c) : CtI M_Re_takePost [.inr (.inr (3, 0))] (RZ σ X P l c) (fun r u => telQ σ l (zPost T t x P c) r u) := by
  intro g C F
  unfold zPost at F
  refine e_aload_n C d_Re_takePost_0 rfl ?_
  refine e_geto (o2 := 4) C fl_Re_14 (by decide) rfl rfl rfl d_Re_takePost_1 ?_
  refine e_geti C fl_Re_105 (by decide) rfl rfl d_Re_takePost_4 (fun r_4 => ?_)
  try simp only [RZ_3, RZ_4, RZ_16, RZ_w3, RZ_w4, RZ_w16, wr_so, cu_s, cu_f, ne_eq, Nat.reduceEqDiff, not_false_eq_true] at r_4 ⊢
  refine e_bipush C d_Re_takePost_7 (by decide) ?_
  refine e_icmp_lt C 18 d_Re_takePost_9 (by decide) (by omega) (by omega) (fun c_9 => ?_) (fun c_9 => ?_)
  · rw [if_neg (by omega), ← pMu_go hk] at F
    refine e_aload_n C d_Re_takePost_18 rfl ?_
    refine e_sipush C d_Re_takePost_19 (by decide) ?_
    refine e_callIV C ok_Re_take lk_Re_108 (o := 3) (by decide) rfl [_] rfl rfl (Nat.le_of_ble_eq_true rfl) (by decide) (Nat.le_of_ble_eq_true rfl) d_Re_takePost_22 (k_Re_take h (by omega)) (fun v_22 u_22 q_22 h_22 => ?_)
    refine e_if_eq C 35 d_Re_takePost_25 (by decide) (by omega) (fun c_25 => ?_) (fun c_25 => ?_)
    · obtain ⟨fp, a1, a2, a3⟩ := h_22.resolve_right (fun z => by have := z.2.1; omega)
      rw [a1, bnd_l] at F
      refine e_iconst C d_Re_takePost_35 ?_
      refine e_zret C F rfl d_Re_takePost_36 (by omega) ?_
      exact ⟨rfl, a3.fz hP1 hc⟩
    · obtain ⟨a1, a2, a3, a4, rfl⟩ := h_22.resolve_left (fun z => by obtain ⟨fp, _, z2, _⟩ := z; exact c_25 z2)
      rw [a1, bnd_r] at F
      have h1 := h.go (x' := cu X 11 0 (t + 1)) a3 (by omega) (cu_s _ _ _ _)
      have hx1 : XZ (cu X 11 0 (t + 1)) x := hx.wu (by decide) (by decide) (by decide) (by decide) (by decide)
      refine e_aload_n C d_Re_takePost_28 rfl ?_
      refine e_callIV C ok_Re_takeNewName lk_Re_111 (o := 3) (by decide) rfl [] rfl rfl (Nat.le_of_ble_eq_true rfl) (by decide) (Nat.le_of_ble_eq_true rfl) d_Re_takePost_29 (k_Re_takeNewName (s := P 3 0) h1 hx1 (by omega)) (fun v_29 u_29 q_29 h_29 => ?_)
      refine e_if_ne C 37 d_Re_takePost_32 (by decide) (by omega) (fun c_32 => ?_) (fun c_32 => ?_)
      · obtain ⟨X2, b1, b2, b3, b4, rfl, b6, b7, b8⟩ := h_29.resolve_left (fun z => by obtain ⟨fp, _, z2, _⟩ := z; exact c_32 z2)
        rw [b1, bnd_r] at F
        refine e_aload_n C d_Re_takePost_37 rfl ?_
        refine e_geto (o2 := 4) C fl_Re_14 (by decide) rfl rfl rfl d_Re_takePost_38 ?_
        refine e_dup C d_Re_takePost_41 rfl ?_
        refine e_geti C fl_Re_105 (by decide) rfl rfl d_Re_takePost_42 (fun r_42 => ?_)
        try simp only [RZ_3, RZ_4, RZ_16, RZ_w3, RZ_w4, RZ_w16, wr_so, cu_s, cu_f, ne_eq, Nat.reduceEqDiff, not_false_eq_true] at r_42 ⊢
        refine e_dup_x1 C d_Re_takePost_45 rfl rfl ?_
        refine e_iconst C d_Re_takePost_46 ?_
        refine e_iadd C d_Re_takePost_47 ?_
        refine e_puti C fp_Re_105 (by decide) rfl rfl (by omega) d_Re_takePost_48 ?_
        try simp only [RZ_3, RZ_4, RZ_16, RZ_w3, RZ_w4, RZ_w16, wr_so, cu_s, cu_f, ne_eq, Nat.reduceEqDiff, not_false_eq_true]
        refine e_istore_n C d_Re_takePost_51 (by decide) rfl ?_
        refine e_aload_n C d_Re_takePost_52 rfl ?_
        refine e_geta C fl_Re_36 (by decide) rfl rfl d_Re_takePost_53 ?_
        refine e_iload_n C d_Re_takePost_56 rfl ?_
        refine e_aload_n C d_Re_takePost_57 rfl ?_
        refine e_getl C fl_Re_114 (by decide) rfl rfl d_Re_takePost_58 (fun r_58 => ?_)
        try simp only [RZ_3, RZ_4, RZ_16, RZ_w3, RZ_w4, RZ_w16, wr_so, cu_s, cu_f, ne_eq, Nat.reduceEqDiff, not_false_eq_true] at r_58 ⊢
        refine e_last (n := 8) C (by decide) rfl (by decide) rfl rfl (by decide) (by omega) (by omega) (by have := r_58; exact this) d_Re_takePost_61 ?_
        try simp only [RZ_3, RZ_4, RZ_16, RZ_w3, RZ_w4, RZ_w16, wr_so, cu_s, cu_f, ne_eq, Nat.reduceEqDiff, not_false_eq_true]
        refine e_aload_n C d_Re_takePost_62 rfl ?_
        refine e_sipush C d_Re_takePost_63 (by decide) ?_
        refine e_callIV C ok_Re_takeInt lk_Re_118 (o := 3) (by decide) rfl [_] rfl rfl (Nat.le_of_ble_eq_true rfl) (by decide) (Nat.le_of_ble_eq_true rfl) d_Re_takePost_66 (k_Re_takeInt (x := postX T x (t + 1) (P 3 0)) (h1.go (x' := cu X2 5 (P 3 0) (X2 14 0)) b3 (by omega) (by rw [cu_f (by decide)]; exact b7)) (by rw [b8]; unfold postX; exact (b6.wb).wg (by decide) (by decide) (by decide) (by decide) (by decide)) (by omega)) (fun v_66 u_66 q_66 h_66 => ?_)
        refine e_if_ne C 74 d_Re_takePost_69 (by decide) (by omega) (fun c_69 => ?_) (fun c_69 => ?_)
        · obtain ⟨x3, X3, d1, d2, d3, d4, rfl, d6, d7, d8⟩ := h_66.resolve_left (fun z => by obtain ⟨fp, _, z2, _⟩ := z; exact c_69 z2)
          rw [d1, bnd_r] at F
          have hv3 := h.1.2.2.2.1 _ d4
          refine e_aload_n C d_Re_takePost_74 rfl ?_
          refine e_geto (o2 := 16) C fl_Re_21 (by decide) rfl rfl rfl d_Re_takePost_75 ?_
          refine e_geta C fl_Re_121 (by decide) rfl rfl d_Re_takePost_78 ?_
          refine e_iload_n C d_Re_takePost_81 rfl ?_
          refine e_aload_n C d_Re_takePost_82 rfl ?_
          refine e_geti C fl_Re_124 (by decide) rfl rfl d_Re_takePost_83 (fun r_83 => ?_)
          try simp only [RZ_3, RZ_4, RZ_16, RZ_w3, RZ_w4, RZ_w16, wr_so, cu_s, cu_f, ne_eq, Nat.reduceEqDiff, not_false_eq_true] at r_83 ⊢
          rw [d8] at r_83 ⊢
          refine e_iast (n := 8) C (by decide) rfl (by decide) rfl rfl (by decide) (by omega) (by omega) (by omega) d_Re_takePost_86 ?_
          try simp only [RZ_3, RZ_4, RZ_16, RZ_w3, RZ_w4, RZ_w16, wr_so, cu_s, cu_f, ne_eq, Nat.reduceEqDiff, not_false_eq_true]
          refine e_aload_n C d_Re_takePost_87 rfl ?_
          refine e_sipush C d_Re_takePost_88 (by decide) ?_
          refine e_callIV C ok_Re_takeInt lk_Re_118 (o := 3) (by decide) rfl [_] rfl rfl (Nat.le_of_ble_eq_true rfl) (by decide) (Nat.le_of_ble_eq_true rfl) d_Re_takePost_91 (k_Re_takeInt (x := x3) (t := t + 1 + 1 + 1) ⟨h.1, h.2.1, d7, by have := h.2.2.2.1; omega, Or.inr (by rw [Int.add_sub_cancel]; omega)⟩ d6 (by omega)) (fun v_91 u_91 q_91 h_91 => ?_)
          refine e_if_ne C 99 d_Re_takePost_94 (by decide) (by omega) (fun c_94 => ?_) (fun c_94 => ?_)
          · obtain ⟨x4, X4, e1, e2, e3, e4, rfl, e6, e7, e8⟩ := h_91.resolve_left (fun z => by obtain ⟨fp, _, z2, _⟩ := z; exact c_94 z2)
            rw [e1, bnd_r] at F
            have hv4 := h.1.2.2.2.1 _ e4
            refine e_aload_n C d_Re_takePost_99 rfl ?_
            refine e_geto (o2 := 16) C fl_Re_21 (by decide) rfl rfl rfl d_Re_takePost_100 ?_
            refine e_geta C fl_Re_127 (by decide) rfl rfl d_Re_takePost_103 ?_
            refine e_iload_n C d_Re_takePost_106 rfl ?_
            refine e_aload_n C d_Re_takePost_107 rfl ?_
            refine e_geti C fl_Re_124 (by decide) rfl rfl d_Re_takePost_108 (fun r_108 => ?_)
            try simp only [RZ_3, RZ_4, RZ_16, RZ_w3, RZ_w4, RZ_w16, wr_so, cu_s, cu_f, ne_eq, Nat.reduceEqDiff, not_false_eq_true] at r_108 ⊢
            rw [e8] at r_108 ⊢
            refine e_iast (n := 8) C (by decide) rfl (by decide) rfl rfl (by decide) (by omega) (by omega) (by omega) d_Re_takePost_111 ?_
            try simp only [RZ_3, RZ_4, RZ_16, RZ_w3, RZ_w4, RZ_w16, wr_so, cu_s, cu_f, ne_eq, Nat.reduceEqDiff, not_false_eq_true]
            refine e_aload_n C d_Re_takePost_112 rfl ?_
            refine e_bipush C d_Re_takePost_113 (by decide) ?_
            refine e_callIV C ok_Re_takeInt lk_Re_118 (o := 3) (by decide) rfl [_] rfl rfl (Nat.le_of_ble_eq_true rfl) (by decide) (Nat.le_of_ble_eq_true rfl) d_Re_takePost_115 (k_Re_takeInt (x := x4) (t := t + 1 + 1 + 1 + 1) ⟨h.1, h.2.1, e7, by have := h.2.2.2.1; omega, Or.inr (by rw [Int.add_sub_cancel]; omega)⟩ e6 (by omega)) (fun v_115 u_115 q_115 h_115 => ?_)
            refine e_if_ne C 123 d_Re_takePost_118 (by decide) (by omega) (fun c_118 => ?_) (fun c_118 => ?_)
            · obtain ⟨x5, X5, f1, f2, f3, f4, rfl, f6, f7, f8⟩ := h_115.resolve_left (fun z => by obtain ⟨fp, _, z2, _⟩ := z; exact c_118 z2)
              rw [f1, bnd_r] at F
              have hv5 := h.1.2.2.2.1 _ f4
              refine e_aload_n C d_Re_takePost_123 rfl ?_
              refine e_geto (o2 := 4) C fl_Re_14 (by decide) rfl rfl rfl d_Re_takePost_124 ?_
              refine e_geta C fl_Re_130 (by decide) rfl rfl d_Re_takePost_127 ?_
              refine e_iload_n C d_Re_takePost_130 rfl ?_
              refine e_aload_n C d_Re_takePost_131 rfl ?_
              refine e_geti C fl_Re_124 (by decide) rfl rfl d_Re_takePost_132 (fun r_132 => ?_)
              try simp only [RZ_3, RZ_4, RZ_16, RZ_w3, RZ_w4, RZ_w16, wr_so, cu_s, cu_f, ne_eq, Nat.reduceEqDiff, not_false_eq_true] at r_132 ⊢
              rw [f8] at r_132 ⊢
              refine e_iast (n := 8) C (by decide) rfl (by decide) rfl rfl (by decide) (by omega) (by omega) (by omega) d_Re_takePost_135 ?_
              try simp only [RZ_3, RZ_4, RZ_16, RZ_w3, RZ_w4, RZ_w16, wr_so, cu_s, cu_f, ne_eq, Nat.reduceEqDiff, not_false_eq_true]
              refine e_aload_n C d_Re_takePost_136 rfl ?_
              refine e_bipush C d_Re_takePost_137 (by decide) ?_
              refine e_callIV C ok_Re_take lk_Re_108 (o := 3) (by decide) rfl [_] rfl rfl (Nat.le_of_ble_eq_true rfl) (by decide) (Nat.le_of_ble_eq_true rfl) d_Re_takePost_139 (k_Re_take (t := t + 1 + 1 + 1 + 1 + 1) ⟨h.1, h.2.1, f7, by have := h.2.2.2.1; omega, Or.inr (by rw [Int.add_sub_cancel]; omega)⟩ (by omega)) (fun v_139 u_139 q_139 h_139 => ?_)
              refine e_zret C F rfl d_Re_takePost_142 (by rcases h_139 with ⟨_, _, z, _⟩ | ⟨_, z, _⟩ <;> omega) ?_
              rcases h_139 with ⟨fp, g1, g2, g3⟩ | ⟨g1, g2, g3, g4, g5⟩
              · rw [g1, bnd_l]; exact ⟨g2, g3.fz (by rw [cu_f (by decide), cu_f (by decide)]; exact hP1) ((hc.w0 (by omega) hv3).w0 (by omega) hv4)⟩
              · rw [g1, bnd_r]; exact ⟨g2, _, g5, f6.wu (by decide) (by decide) (by decide) (by decide) (by decide), cu_s _ _ _ _⟩
            · obtain ⟨fp, f1, f2, f3⟩ := h_115.resolve_right (fun z => by obtain ⟨_, _, _, z2, _⟩ := z; omega)
              rw [f1, bnd_l] at F
              refine e_iconst C d_Re_takePost_121 ?_
              refine e_zret C F rfl d_Re_takePost_122 (by omega) ?_
              exact ⟨rfl, f3.fz (by rw [cu_f (by decide)]; exact hP1) ((hc.w0 (by omega) hv3).w0 (by omega) hv4)⟩
          · obtain ⟨fp, e1, e2, e3⟩ := h_91.resolve_right (fun z => by obtain ⟨_, _, _, z2, _⟩ := z; omega)
            rw [e1, bnd_l] at F
            refine e_iconst C d_Re_takePost_97 ?_
            refine e_zret C F rfl d_Re_takePost_98 (by omega) ?_
            exact ⟨rfl, e3.fz (by rw [cu_f (by decide)]; exact hP1) (hc.w0 (by omega) hv3)⟩
        · obtain ⟨fp, d1, d2, d3⟩ := h_66.resolve_right (fun z => by obtain ⟨_, _, _, z2, _⟩ := z; omega)
          rw [d1, bnd_l] at F
          refine e_iconst C d_Re_takePost_72 ?_
          refine e_zret C F rfl d_Re_takePost_73 (by omega) ?_
          exact ⟨rfl, d3.fz (by rw [cu_f (by decide)]; exact hP1) hc⟩
      · obtain ⟨fp, b1, b2, b3⟩ := h_29.resolve_right (fun z => by obtain ⟨_, _, z2, _⟩ := z; omega)
        rw [b1, bnd_l] at F
        refine e_iconst C d_Re_takePost_35 ?_
        refine e_zret C F rfl d_Re_takePost_36 (by omega) ?_
        exact ⟨rfl, b3.fz hP1 hc⟩
  · rw [if_pos (by omega)] at F
    refine e_aload_n C d_Re_takePost_12 rfl ?_
    refine e_iconst C d_Re_takePost_13 ?_
    refine e_callIV C ok_Re_refuse lk_Re_101 (o := 3) (by decide) rfl [_] rfl rfl (Nat.le_of_ble_eq_true rfl) (by decide) (Nat.le_of_ble_eq_true rfl) d_Re_takePost_14 (k_Re_refuse h (by omega)) (fun v_14 u_14 q_14 h_14 => ?_)
    obtain ⟨rfl, rfl⟩ := h_14
    refine e_zret C F rfl d_Re_takePost_17 (by omega) ?_
    exact ⟨rfl, _, P, l, c, rfl, by rw [cu_f (by decide), cu_s], cu_s _ _ _ _, hP1, hc⟩
theorem l_Re_postNamed {g : Mach} {Q : Int → St → Prop} (C : Cx M_Re_postNamed g) (F : FinI M_Re_postNamed g Q) {a : Int} (ha : R64 a) (h3 : 0 ≤ P 3 0 ∧ P 3 0 ≤ 8) :
    ∀ (n : Nat) (i : Int), 0 ≤ i → i + n = P 3 0 → Q (fnd (fun p => X 5 p == a) n i) (RZ σ X P l c) → Ev g 2 [some (.inr (.inr (3, 0))), some (.inr (.inl a)), none, some (.inl i)] [] (RZ σ X P l c) := by
  intro n
  induction n with
  | zero =>
    intro i h0 h1 hQ
    refine e_iload_n C d_Re_postNamed_2 rfl ?_
    refine e_aload_n C d_Re_postNamed_3 rfl ?_
    refine e_geto (o2 := 4) C fl_Re_14 (by decide) rfl rfl rfl d_Re_postNamed_4 ?_
    refine e_geti C fl_Re_105 (by decide) rfl rfl d_Re_postNamed_7 (fun r_7 => ?_)
    try simp only [RZ_3, RZ_4] at r_7 ⊢
    refine e_icmp_ge C 32 d_Re_postNamed_10 (by decide) (by omega) (by omega) (fun c_10 => ?_) (fun c_10 => ?_)
    · refine e_bipush C d_Re_postNamed_32 (by decide) ?_
      refine e_iret C F rfl d_Re_postNamed_34 (by omega) ?_
      exact hQ
    · exact absurd h1 (by omega)
  | succ n ih =>
    intro i h0 h1 hQ
    unfold fnd at hQ
    refine e_iload_n C d_Re_postNamed_2 rfl ?_
    refine e_aload_n C d_Re_postNamed_3 rfl ?_
    refine e_geto (o2 := 4) C fl_Re_14 (by decide) rfl rfl rfl d_Re_postNamed_4 ?_
    refine e_geti C fl_Re_105 (by decide) rfl rfl d_Re_postNamed_7 (fun r_7 => ?_)
    try simp only [RZ_3, RZ_4] at r_7 ⊢
    refine e_icmp_ge C 32 d_Re_postNamed_10 (by decide) (by omega) (by omega) (fun c_10 => ?_) (fun c_10 => ?_)
    · exact absurd h1 (by omega)
    · refine e_aload_n C d_Re_postNamed_13 rfl ?_
      refine e_geta C fl_Re_36 (by decide) rfl rfl d_Re_postNamed_14 ?_
      refine e_iload_n C d_Re_postNamed_17 rfl ?_
      refine e_lald (n := 8) C (by decide) rfl (by decide) rfl rfl (by decide) (by omega) (by omega) d_Re_postNamed_18 (fun r_18 => ?_)
      try simp only [RZ_3, RZ_4] at r_18 ⊢
      refine e_lload_n C d_Re_postNamed_19 rfl ?_
      refine e_lcmp C d_Re_postNamed_20 r_18 ha ?_
      refine e_if_ne C 26 d_Re_postNamed_21 (by decide) (z_cmp_r _ _) (fun c_21 => ?_) (fun c_21 => ?_)
      · have e : ¬ X 5 i = a := fun z => c_21 (z_cmp_eq.mpr z)
        rw [if_neg (fun z => e (eq_of_beq z))] at hQ
        refine e_iinc C d_Re_postNamed_26 rfl (by decide) rfl ?_
        refine e_goto C 2 d_Re_postNamed_29 (by decide) ?_
        exact ih (i + 1) (by omega) (by omega) hQ
      · have e := z_cmp_eq.mp c_21
        rw [if_pos (beq_iff_eq.mpr e)] at hQ
        refine e_iload_n C d_Re_postNamed_24 rfl ?_
        refine e_iret C F rfl d_Re_postNamed_25 (by omega) ?_
        exact hQ
theorem k_Re_postNamed {a : Int} (ha : R64 a) (h3 : 0 ≤ P 3 0 ∧ P 3 0 ≤ 8) : CtI M_Re_postNamed [.inr (.inr (3, 0)), .inr (.inl a)] (RZ σ X P l c) (fun r u => r = pnm X (P 3 0) a ∧ u = RZ σ X P l c) := by
  intro g C F
  refine e_iconst C d_Re_postNamed_0 ?_
  refine e_istore_n C d_Re_postNamed_1 (by decide) rfl ?_
  exact l_Re_postNamed C F ha h3 (P 3 0).toNat 0 (by omega) (by omega) ⟨rfl, rfl⟩
set_option maxHeartbeats 1000000 in
theorem k_Re_takePostOf {gd : Int} (h : TH T σ X t) (hx : XZ X x) (hg : 0 ≤ gd ∧ gd < 12) (h3 : 0 ≤ P 3 0 ∧ P 3 0 ≤ 8) (hP1 : P 1 0 = 0) (hc : RdC c) : CtI M_Re_takePostOf [.inr (.inr (3, 0)), .inl gd] (RZ σ X P l c) (fun r u => (∃ fp, pMu T 130 t = .inl fp ∧ r = 0 ∧ FZ σ fp u) ∨ (pMu T 130 t = .inr (t + 1) ∧ r = 1 ∧ t < 400 ∧ T.1 t = 130 ∧ ∃ X', u = RZ σ X' P l (atC T x P c t gd) ∧ XZ X' (atX T x P c t) ∧ X' 11 0 = t + 1)) := by
  intro g C F
  have e := h.2.2.1
  have h0 := h.2.2.2.1
  have e61 := h.tok.2.1
  have hp := h.1.p t
  refine e_aload_n C d_Re_takePostOf_0 rfl ?_
  refine e_geto (o2 := 6) C fl_Re_28 (by decide) rfl rfl rfl d_Re_takePostOf_1 ?_
  refine e_geta C fl_Re_143 (by decide) rfl rfl d_Re_takePostOf_4 ?_
  refine e_aload_n C d_Re_takePostOf_7 rfl ?_
  refine e_geti C fl_Re_60 (by decide) rfl rfl d_Re_takePostOf_8 (fun r_8 => ?_)
  try simp only [RZ_3, RZ_6, RZ_16, e, e61] at r_8 ⊢
  refine e_iald (n := 402) C (by decide) rfl (by decide) rfl rfl (by decide) (by omega) (by omega) d_Re_takePostOf_11 (fun r_11 => ?_)
  try simp only [RZ_3, RZ_6, RZ_16, e, e61] at r_11 ⊢
  refine e_istore_n C d_Re_takePostOf_12 (by decide) rfl ?_
  refine e_aload_n C d_Re_takePostOf_13 rfl ?_
  refine e_geto (o2 := 6) C fl_Re_28 (by decide) rfl rfl rfl d_Re_takePostOf_14 ?_
  refine e_geta C fl_Re_146 (by decide) rfl rfl d_Re_takePostOf_17 ?_
  refine e_aload_n C d_Re_takePostOf_20 rfl ?_
  refine e_geti C fl_Re_60 (by decide) rfl rfl d_Re_takePostOf_21 (fun r_21 => ?_)
  try simp only [RZ_3, RZ_6, RZ_16, e, e61] at r_21 ⊢
  refine e_lald (n := 402) C (by decide) rfl (by decide) rfl rfl (by decide) (by omega) (by omega) d_Re_takePostOf_24 (fun r_24 => ?_)
  try simp only [RZ_3, RZ_6, RZ_16, e, e61] at r_24 ⊢
  refine e_lstore_n C d_Re_takePostOf_25 (by decide) rfl ?_
  refine e_aload_n C d_Re_takePostOf_26 rfl ?_
  refine e_sipush C d_Re_takePostOf_27 (by decide) ?_
  refine e_callIV C ok_Re_take lk_Re_108 (o := 3) (by decide) rfl [_] rfl rfl (Nat.le_of_ble_eq_true rfl) (by decide) (Nat.le_of_ble_eq_true rfl) d_Re_takePostOf_30 (k_Re_take h (by omega)) (fun v_30 u_30 q_30 h_30 => ?_)
  refine e_if_ne C 38 d_Re_takePostOf_33 (by decide) (by omega) (fun c_33 => ?_) (fun c_33 => ?_)
  · obtain ⟨a1, a2, a3, a4, rfl⟩ := h_30.resolve_left (fun z => by obtain ⟨fp, _, z2, _⟩ := z; exact c_33 z2)
    rw [a1] at F
    have e63 := h.tok.2.2.2 a4
    rw [e63] at r_24 ⊢
    have hx1 : XZ (cu X 11 0 (t + 1)) x := hx.wu (by decide) (by decide) (by decide) (by decide) (by decide)
    refine e_aload_n C d_Re_takePostOf_38 rfl ?_
    refine e_lload_n C d_Re_takePostOf_39 rfl ?_
    refine e_callIV C ok_Re_postNamed lk_Re_147 (o := 3) (by decide) rfl [_] rfl rfl (Nat.le_of_ble_eq_true rfl) (by decide) (Nat.le_of_ble_eq_true rfl) d_Re_takePostOf_40 (k_Re_postNamed r_24 h3) (fun v_40 u_40 q_40 h_40 => ?_)
    obtain ⟨h_40, rfl⟩ := h_40
    have epn : pnm (cu X 11 0 (t + 1)) (P 3 0) (T.2.2.2.1 t) = pnm x (P 3 0) (T.2.2.2.1 t) := by unfold pnm; rw [hx1.2.1]
    rw [epn] at h_40
    subst h_40
    have hpr : pnm x (P 3 0) (T.2.2.2.1 t) = -2 ∨ (0 ≤ pnm x (P 3 0) (T.2.2.2.1 t) ∧ pnm x (P 3 0) (T.2.2.2.1 t) < 8) := by
      unfold pnm
      rcases fnd_some (q := fun p => x 5 p == T.2.2.2.1 t) (P 3 0).toNat 0 (by omega) with z | z
      · exact Or.inl z.1
      · exact Or.inr (by omega)
    unfold atC atX at F
    refine e_istore C d_Re_takePostOf_43 (by decide) rfl ?_
    refine e_iload C d_Re_takePostOf_45 rfl ?_
    refine e_bipush C d_Re_takePostOf_47 (by decide) ?_
    refine e_icmp_ne C 61 d_Re_takePostOf_49 (by decide) (by omega) (by omega) (fun c_49 => ?_) (fun c_49 => ?_)
    · rw [if_neg c_49, if_neg c_49] at F
      refine e_aload_n C d_Re_takePostOf_61 rfl ?_
      refine e_geto (o2 := 16) C fl_Re_21 (by decide) rfl rfl rfl d_Re_takePostOf_62 ?_
      refine e_geta C fl_Re_155 (by decide) rfl rfl d_Re_takePostOf_65 ?_
      refine e_iload C d_Re_takePostOf_68 rfl ?_
      refine e_iald (n := 8) C (by decide) rfl (by decide) rfl rfl (by decide) (by omega) (by omega) d_Re_takePostOf_70 (fun r_70 => ?_)
      try simp only [RZ_3, RZ_6, RZ_16, e, e61] at r_70 ⊢
      refine e_bipush C d_Re_takePostOf_71 (by decide) ?_
      refine e_icmp_eq C 85 d_Re_takePostOf_73 (by decide) (by omega) (by omega) (fun c_73 => ?_) (fun c_73 => ?_)
      · rw [if_pos c_73, if_pos c_73] at F
        refine e_aload_n C d_Re_takePostOf_85 rfl ?_
        refine e_geto (o2 := 16) C fl_Re_21 (by decide) rfl rfl rfl d_Re_takePostOf_86 ?_
        refine e_iload_n C d_Re_takePostOf_89 rfl ?_
        refine e_iload C d_Re_takePostOf_90 rfl ?_
        refine e_callVV C ok_Ca_stand lk_Re_158 (o := 16) (by decide) rfl [_, _] rfl rfl (Nat.le_of_ble_eq_true rfl) (by decide) (Nat.le_of_ble_eq_true rfl) d_Re_takePostOf_92 (k_Ca_stand (by decide) hg (by omega)) (fun u_92 h_92 => ?_)
        subst h_92
        rw [RZ_w16, RZ_16]
        refine e_iconst C d_Re_takePostOf_95 ?_
        refine e_zret C F rfl d_Re_takePostOf_96 (by omega) ?_
        first | exact Or.inr ⟨rfl, rfl, a3, a4, _, rfl, hx1.note, by rw [noteX_f (by decide) (by decide), cu_s]⟩ | exact Or.inr ⟨rfl, rfl, a3, a4, _, rfl, hx1, cu_s _ _ _ _⟩
      · rw [if_neg c_73, if_neg c_73] at F
        refine e_aload_n C d_Re_takePostOf_76 rfl ?_
        refine e_iconst C d_Re_takePostOf_77 ?_
        refine e_iload_n C d_Re_takePostOf_78 rfl ?_
        refine e_callVV C ok_Re_note lk_Re_151 (o := 3) (by decide) rfl [_, _] rfl rfl (Nat.le_of_ble_eq_true rfl) (by decide) (Nat.le_of_ble_eq_true rfl) d_Re_takePostOf_79 (k_Re_note (by omega) (by omega)) (fun u_79 h_79 => ?_)
        subst h_79
        refine e_goto C 95 d_Re_takePostOf_82 (by decide) ?_
        refine e_iconst C d_Re_takePostOf_95 ?_
        refine e_zret C F rfl d_Re_takePostOf_96 (by omega) ?_
        first | exact Or.inr ⟨rfl, rfl, a3, a4, _, rfl, hx1.note, by rw [noteX_f (by decide) (by decide), cu_s]⟩ | exact Or.inr ⟨rfl, rfl, a3, a4, _, rfl, hx1, cu_s _ _ _ _⟩
    · rw [if_pos c_49, if_pos c_49] at F
      refine e_aload_n C d_Re_takePostOf_52 rfl ?_
      refine e_iconst C d_Re_takePostOf_53 ?_
      refine e_iload_n C d_Re_takePostOf_54 rfl ?_
      refine e_callVV C ok_Re_note lk_Re_151 (o := 3) (by decide) rfl [_, _] rfl rfl (Nat.le_of_ble_eq_true rfl) (by decide) (Nat.le_of_ble_eq_true rfl) d_Re_takePostOf_55 (k_Re_note (by omega) (by omega)) (fun u_55 h_55 => ?_)
      subst h_55
      refine e_goto C 95 d_Re_takePostOf_58 (by decide) ?_
      refine e_iconst C d_Re_takePostOf_95 ?_
      refine e_zret C F rfl d_Re_takePostOf_96 (by omega) ?_
      first | exact Or.inr ⟨rfl, rfl, a3, a4, _, rfl, hx1.note, by rw [noteX_f (by decide) (by decide), cu_s]⟩ | exact Or.inr ⟨rfl, rfl, a3, a4, _, rfl, hx1, cu_s _ _ _ _⟩
  · obtain ⟨fp, a1, a2, a3⟩ := h_30.resolve_right (fun z => by have := z.2.1; omega)
    rw [a1] at F
    refine e_iconst C d_Re_takePostOf_36 ?_
    refine e_zret C F rfl d_Re_takePostOf_37 (by omega) ?_
    exact Or.inl ⟨fp, rfl, rfl, a3.fz hP1 hc⟩
theorem atC_rd {gd : Int} (hc : RdC c) : RdC (atC T x P c t gd) := by
  unfold atC
  split
  · exact hc
  · split
    · exact hc.st
    · exact hc
theorem nameX_5 {s : Int} (T : Tab) (x : Cs) (t : Int) : nameX T x t s 5 = x 5 := by
  unfold nameX twx
  rw [cf_f (by decide), cf_f (by decide), cf_f (by decide), cf_f (by decide)]
  split
  · rfl
  · exact noteX_f (by decide) (by decide)
set_option maxHeartbeats 2000000 in
theorem k_Re_takeGuard (h : TH T σ X t) (hx : XZ X x) (hk : T.1 t = 138) (h3 : 0 ≤ P 3 0 ∧ P 3 0 ≤ 8) (h4 : 0 ≤ P 4 0 ∧ P 4 0 ≤ 12) (h10 : 0 ≤ x 10 0 ∧ x 10 0 < 20 ∨ 12 ≤ P 4 0) (hP1 : P 1 0 = 0) (hc : RdC c) (h11 : 0 ≤ c 11 0) : CtI M_Re_takeGuard [.inr (.inr (3, 0))] (RZ σ X P l c) (fun r u => telQ σ l (zGuard T t x P c) r u) := by
  intro g C F
  unfold zGuard at F
  refine e_aload_n C d_Re_takeGuard_0 rfl ?_
  refine e_geto (o2 := 4) C fl_Re_14 (by decide) rfl rfl rfl d_Re_takeGuard_1 ?_
  refine e_geti C fl_Re_133 (by decide) rfl rfl d_Re_takeGuard_4 (fun r_4 => ?_)
  try simp only [RZ_3, RZ_4, RZ_16, RZ_w3, RZ_w4, RZ_w16, wr_so, cu_s, cu_f, ne_eq, Nat.reduceEqDiff, not_false_eq_true] at r_4 ⊢
  refine e_bipush C d_Re_takeGuard_7 (by decide) ?_
  refine e_icmp_lt C 18 d_Re_takeGuard_9 (by decide) (by omega) (by omega) (fun c_9 => ?_) (fun c_9 => ?_)
  · rw [if_neg (by omega), ← pMu_go hk] at F
    refine e_aload_n C d_Re_takeGuard_18 rfl ?_
    refine e_sipush C d_Re_takeGuard_19 (by decide) ?_
    refine e_callIV C ok_Re_take lk_Re_108 (o := 3) (by decide) rfl [_] rfl rfl (Nat.le_of_ble_eq_true rfl) (by decide) (Nat.le_of_ble_eq_true rfl) d_Re_takeGuard_22 (k_Re_take h (by omega)) (fun v_22 u_22 q_22 h_22 => ?_)
    refine e_if_eq C 35 d_Re_takeGuard_25 (by decide) (by omega) (fun c_25 => ?_) (fun c_25 => ?_)
    · obtain ⟨fp, a1, a2, a3⟩ := h_22.resolve_right (fun z => by have := z.2.1; omega)
      rw [a1, bnd_l] at F
      refine e_iconst C d_Re_takeGuard_35 ?_
      refine e_zret C F rfl d_Re_takeGuard_36 (by omega) ?_
      exact ⟨rfl, a3.fz hP1 hc⟩
    · obtain ⟨a1, a2, a3, a4, rfl⟩ := h_22.resolve_left (fun z => by obtain ⟨fp, _, z2, _⟩ := z; exact c_25 z2)
      rw [a1, bnd_r] at F
      have h1 := h.go (x' := cu X 11 0 (t + 1)) a3 (by omega) (cu_s _ _ _ _)
      have hx1 : XZ (cu X 11 0 (t + 1)) x := hx.wu (by decide) (by decide) (by decide) (by decide) (by decide)
      refine e_aload_n C d_Re_takeGuard_28 rfl ?_
      refine e_callIV C ok_Re_takeNewName lk_Re_111 (o := 3) (by decide) rfl [] rfl rfl (Nat.le_of_ble_eq_true rfl) (by decide) (Nat.le_of_ble_eq_true rfl) d_Re_takeGuard_29 (k_Re_takeNewName (s := -1) h1 hx1 (by omega)) (fun v_29 u_29 q_29 h_29 => ?_)
      refine e_if_ne C 37 d_Re_takeGuard_32 (by decide) (by omega) (fun c_32 => ?_) (fun c_32 => ?_)
      · obtain ⟨X2, b1, b2, b3, b4, rfl, b6, b7, b8⟩ := h_29.resolve_left (fun z => by obtain ⟨fp, _, z2, _⟩ := z; exact c_32 z2)
        rw [b1, bnd_r] at F
        have h2 : TH T σ X2 (t + 1 + 1) := h1.go b3 (by omega) b7
        have hP2 : cu P 4 0 (P 4 0 + 1) 1 0 = 0 := by rw [cu_f (by decide)]; exact hP1
        have h3' : 0 ≤ cu P 4 0 (P 4 0 + 1) 3 0 ∧ cu P 4 0 (P 4 0 + 1) 3 0 ≤ 8 := by rw [cu_f (by decide)]; exact h3
        have hkr := h.1.k (t + 1 + 1)
        refine e_aload_n C d_Re_takeGuard_37 rfl ?_
        refine e_geto (o2 := 4) C fl_Re_14 (by decide) rfl rfl rfl d_Re_takeGuard_38 ?_
        refine e_dup C d_Re_takeGuard_41 rfl ?_
        refine e_geti C fl_Re_133 (by decide) rfl rfl d_Re_takeGuard_42 (fun r_42 => ?_)
        try simp only [RZ_3, RZ_4, RZ_16, RZ_w3, RZ_w4, RZ_w16, wr_so, cu_s, cu_f, ne_eq, Nat.reduceEqDiff, not_false_eq_true] at r_42 ⊢
        refine e_dup_x1 C d_Re_takeGuard_45 rfl rfl ?_
        refine e_iconst C d_Re_takeGuard_46 ?_
        refine e_iadd C d_Re_takeGuard_47 ?_
        refine e_puti C fp_Re_133 (by decide) rfl rfl (by omega) d_Re_takeGuard_48 ?_
        try simp only [RZ_3, RZ_4, RZ_16, RZ_w3, RZ_w4, RZ_w16, wr_so, cu_s, cu_f, ne_eq, Nat.reduceEqDiff, not_false_eq_true]
        refine e_istore_n C d_Re_takeGuard_51 (by decide) rfl ?_
        refine e_aload_n C d_Re_takeGuard_52 rfl ?_
        refine e_callIV C ok_Re_kind lk_Re_72 (o := 3) (by decide) rfl [] rfl rfl (Nat.le_of_ble_eq_true rfl) (by decide) (Nat.le_of_ble_eq_true rfl) d_Re_takeGuard_53 (k_Re_kind h2) (fun v_53 u_53 q_53 h_53 => ?_)
        obtain ⟨rfl, rfl⟩ := h_53
        refine e_sipush C d_Re_takeGuard_56 (by decide) ?_
        refine e_icmp_eq C 77 d_Re_takeGuard_59 (by decide) (by omega) (by omega) (fun c_59 => ?_) (fun c_59 => ?_)
        · rw [if_pos c_59] at F
          refine e_aload_n C d_Re_takeGuard_77 rfl ?_
          refine e_sipush C d_Re_takeGuard_78 (by decide) ?_
          refine e_callIV C ok_Re_take lk_Re_108 (o := 3) (by decide) rfl [_] rfl rfl (Nat.le_of_ble_eq_true rfl) (by decide) (Nat.le_of_ble_eq_true rfl) d_Re_takeGuard_81 (k_Re_take h2 (by omega)) (fun v_81 u_81 q_81 h_81 => ?_)
          refine e_if_eq C 108 d_Re_takeGuard_84 (by decide) (by omega) (fun c_84 => ?_) (fun c_84 => ?_)
          · obtain ⟨fp, d1, d2, d3⟩ := h_81.resolve_right (fun z => by have := z.2.1; omega)
            rw [← pMu_go c_59, d1, bnd_l] at F
            refine e_iconst C d_Re_takeGuard_108 ?_
            refine e_zret C F rfl d_Re_takeGuard_109 (by omega) ?_
            exact ⟨rfl, d3.fz hP2 hc⟩
          · obtain ⟨d1, d2, d3, d4, rfl⟩ := h_81.resolve_left (fun z => by obtain ⟨fp, _, z2, _⟩ := z; exact c_84 z2)
            rw [← pMu_go c_59, d1, bnd_r] at F
            refine e_aload_n C d_Re_takeGuard_87 rfl ?_
            refine e_iload_n C d_Re_takeGuard_88 rfl ?_
            refine e_callIV C ok_Re_takePostOf lk_Re_140 (o := 3) (by decide) rfl [_] rfl rfl (Nat.le_of_ble_eq_true rfl) (by decide) (Nat.le_of_ble_eq_true rfl) d_Re_takeGuard_89 (k_Re_takePostOf (h2.go (x' := cu X2 11 0 (t + 1 + 1 + 1)) d3 (by omega) (cu_s _ _ _ _)) (x := nameX T x (t + 1) (-1)) (b6.wu (by decide) (by decide) (by decide) (by decide) (by decide)) (by omega) h3' hP2 hc) (fun v_89 u_89 q_89 h_89 => ?_)
            refine e_if_eq C 108 d_Re_takeGuard_92 (by decide) (by omega) (fun c_92 => ?_) (fun c_92 => ?_)
            · obtain ⟨fp, e1, e2, e3⟩ := h_89.resolve_right (fun z => by have := z.2.1; omega)
              rw [e1, bnd_l] at F
              refine e_iconst C d_Re_takeGuard_108 ?_
              refine e_zret C F rfl d_Re_takeGuard_109 (by omega) ?_
              exact ⟨rfl, e3⟩
            · obtain ⟨e1, e2, e3, e4, X5, rfl, e6, e7⟩ := h_89.resolve_left (fun z => by obtain ⟨fp, _, z2, _⟩ := z; exact c_92 z2)
              rw [e1, bnd_r] at F
              have eC : atC T (nameX T x (t + 1) (-1)) (cu P 4 0 (P 4 0 + 1)) c (t + 1 + 1 + 1) (P 4 0) = atC T (nameX T x (t + 1) (-1)) P c (t + 1 + 1 + 1) (P 4 0) := by unfold atC; rw [cu_f (by decide)]
              have eX : atX T (nameX T x (t + 1) (-1)) (cu P 4 0 (P 4 0 + 1)) c (t + 1 + 1 + 1) = atX T (nameX T x (t + 1) (-1)) P c (t + 1 + 1 + 1) := by unfold atX; rw [cu_f (by decide)]
              rw [eX] at e6
              rw [eC]
              refine e_aload_n C d_Re_takeGuard_95 rfl ?_
              refine e_bipush C d_Re_takeGuard_96 (by decide) ?_
              refine e_callIV C ok_Re_take lk_Re_108 (o := 3) (by decide) rfl [_] rfl rfl (Nat.le_of_ble_eq_true rfl) (by decide) (Nat.le_of_ble_eq_true rfl) d_Re_takeGuard_98 (k_Re_take (t := t + 1 + 1 + 1 + 1) ⟨h.1, h.2.1, e7, by have := h.2.2.2.1; omega, Or.inr (by rw [Int.add_sub_cancel]; omega)⟩ (by omega)) (fun v_98 u_98 q_98 h_98 => ?_)
              refine e_if_eq C 108 d_Re_takeGuard_101 (by decide) (by omega) (fun c_101 => ?_) (fun c_101 => ?_)
              · obtain ⟨fp, g1, g2, g3⟩ := h_98.resolve_right (fun z => by have := z.2.1; omega)
                rw [g1, bnd_l] at F
                refine e_iconst C d_Re_takeGuard_108 ?_
                refine e_zret C F rfl d_Re_takeGuard_109 (by omega) ?_
                exact ⟨rfl, g3.fz hP2 (atC_rd hc)⟩
              · obtain ⟨g1, g2, g3, g4, rfl⟩ := h_98.resolve_left (fun z => by obtain ⟨fp, _, z2, _⟩ := z; exact c_101 z2)
                rw [g1, bnd_r] at F
                refine e_iconst C d_Re_takeGuard_104 ?_
                refine e_goto C 109 d_Re_takeGuard_105 (by decide) ?_
                refine e_zret C F rfl d_Re_takeGuard_109 (by omega) ?_
                exact ⟨rfl, _, rfl, e6.wu (by decide) (by decide) (by decide) (by decide) (by decide), cu_s _ _ _ _⟩
        · rw [if_neg c_59] at F
          refine e_aload_n C d_Re_takeGuard_62 rfl ?_
          refine e_geto (o2 := 16) C fl_Re_21 (by decide) rfl rfl rfl d_Re_takeGuard_63 ?_
          refine e_iload_n C d_Re_takeGuard_66 rfl ?_
          refine e_callVV C ok_Ca_lieBehindAll lk_Re_136 (o := 16) (by decide) rfl [_] rfl rfl (Nat.le_of_ble_eq_true rfl) (by decide) (Nat.le_of_ble_eq_true rfl) d_Re_takeGuard_67 (k_Ca_lieBehindAll (by decide) (by omega) (by rw [RZ_16]; exact h11)) (fun u_67 h_67 => ?_)
          subst h_67
          rw [RZ_16, RZ_w16]
          refine e_aload_n C d_Re_takeGuard_70 rfl ?_
          refine e_bipush C d_Re_takeGuard_71 (by decide) ?_
          refine e_callIV C ok_Re_take lk_Re_108 (o := 3) (by decide) rfl [_] rfl rfl (Nat.le_of_ble_eq_true rfl) (by decide) (Nat.le_of_ble_eq_true rfl) d_Re_takeGuard_73 (k_Re_take h2 (by omega)) (fun v_73 u_73 q_73 h_73 => ?_)
          refine e_zret C F rfl d_Re_takeGuard_76 (by rcases h_73 with ⟨_, _, z, _⟩ | ⟨_, z, _⟩ <;> omega) ?_
          rcases h_73 with ⟨fp, g1, g2, g3⟩ | ⟨g1, g2, g3, g4, g5⟩
          · rw [g1, bnd_l]; exact ⟨g2, g3.fz hP2 hc.li⟩
          · rw [g1, bnd_r]; exact ⟨g2, _, g5, b6.wu (by decide) (by decide) (by decide) (by decide) (by decide), cu_s _ _ _ _⟩
      · obtain ⟨fp, b1, b2, b3⟩ := h_29.resolve_right (fun z => by obtain ⟨_, _, z2, _⟩ := z; omega)
        rw [b1, bnd_l] at F
        refine e_iconst C d_Re_takeGuard_35 ?_
        refine e_zret C F rfl d_Re_takeGuard_36 (by omega) ?_
        exact ⟨rfl, b3.fz hP1 hc⟩
  · rw [if_pos (by omega)] at F
    refine e_aload_n C d_Re_takeGuard_12 rfl ?_
    refine e_iconst C d_Re_takeGuard_13 ?_
    refine e_callIV C ok_Re_refuse lk_Re_101 (o := 3) (by decide) rfl [_] rfl rfl (Nat.le_of_ble_eq_true rfl) (by decide) (Nat.le_of_ble_eq_true rfl) d_Re_takeGuard_14 (k_Re_refuse h (by omega)) (fun v_14 u_14 q_14 h_14 => ?_)
    obtain ⟨rfl, rfl⟩ := h_14
    refine e_zret C F rfl d_Re_takeGuard_17 (by omega) ?_
    exact ⟨rfl, _, P, l, c, rfl, by rw [cu_f (by decide), cu_s], cu_s _ _ _ _, hP1, hc⟩
def tel3 (σ : St) (l c : Cs) (res : (Int × Int) ⊕ (Int × Cs × Cs)) (r : Int) (u : St) : Prop := match res with
  | .inl fp => r = 0 ∧ FZ σ fp u
  | .inr p => r = 1 ∧ ∃ X', u = RZ σ X' p.2.2 l c ∧ XZ X' p.2.1 ∧ X' 11 0 = p.1
theorem k_Re_takeSleep (h : TH T σ X t) (hx : XZ X x) (hk : T.1 t = 145) (hP1 : P 1 0 = 0) (hc : RdC c) : CtI M_Re_takeSleep [.inr (.inr (3, 0))] (RZ σ X P l c) (fun r u => tel3 σ l c (zSleep T t x P) r u) := by
  intro g C F
  unfold zSleep at F
  rw [← pMu_go hk] at F
  refine e_aload_n C d_Re_takeSleep_0 rfl ?_
  refine e_sipush C d_Re_takeSleep_1 (by decide) ?_
  refine e_callIV C ok_Re_take lk_Re_108 (o := 3) (by decide) rfl [_] rfl rfl (Nat.le_of_ble_eq_true rfl) (by decide) (Nat.le_of_ble_eq_true rfl) d_Re_takeSleep_4 (k_Re_take h (by omega)) (fun v_4 u_4 q_4 h_4 => ?_)
  refine e_if_eq C 20 d_Re_takeSleep_7 (by decide) (by omega) (fun c_7 => ?_) (fun c_7 => ?_)
  · obtain ⟨fp, a1, a2, a3⟩ := h_4.resolve_right (fun z => by have := z.2.1; omega)
    rw [a1, bnd_l] at F
    refine e_iconst C d_Re_takeSleep_20 ?_
    refine e_zret C F rfl d_Re_takeSleep_21 (by omega) ?_
    exact ⟨rfl, a3.fz hP1 hc⟩
  · obtain ⟨a1, a2, a3, a4, rfl⟩ := h_4.resolve_left (fun z => by obtain ⟨fp, _, z2, _⟩ := z; exact c_7 z2)
    rw [a1, bnd_r] at F
    have h1 := h.go (x' := cu X 11 0 (t + 1)) a3 (by omega) (cu_s _ _ _ _)
    have hx1 : XZ (cu X 11 0 (t + 1)) x := hx.wu (by decide) (by decide) (by decide) (by decide) (by decide)
    refine e_aload_n C d_Re_takeSleep_10 rfl ?_
    refine e_sipush C d_Re_takeSleep_11 (by decide) ?_
    refine e_callIV C ok_Re_takeInt lk_Re_118 (o := 3) (by decide) rfl [_] rfl rfl (Nat.le_of_ble_eq_true rfl) (by decide) (Nat.le_of_ble_eq_true rfl) d_Re_takeSleep_14 (k_Re_takeInt (x := x) h1 hx1 (by omega)) (fun v_14 u_14 q_14 h_14 => ?_)
    refine e_if_ne C 22 d_Re_takeSleep_17 (by decide) (by omega) (fun c_17 => ?_) (fun c_17 => ?_)
    · obtain ⟨x3, X3, d1, d2, d3, d4, rfl, d6, d7, d8⟩ := h_14.resolve_left (fun z => by obtain ⟨fp, _, z2, _⟩ := z; exact c_17 z2)
      rw [d1, bnd_r] at F
      have hv3 := h.1.2.2.2.1 _ d4
      refine e_aload_n C d_Re_takeSleep_22 rfl ?_
      refine e_geto (o2 := 4) C fl_Re_14 (by decide) rfl rfl rfl d_Re_takeSleep_23 ?_
      refine e_aload_n C d_Re_takeSleep_26 rfl ?_
      refine e_geti C fl_Re_124 (by decide) rfl rfl d_Re_takeSleep_27 (fun r_27 => ?_)
      try simp only [RZ_3, RZ_4, RZ_w3, RZ_w4, wr_so, cu_s, cu_f, ne_eq, Nat.reduceEqDiff, not_false_eq_true] at r_27 ⊢
      rw [d8] at r_27 ⊢
      refine e_puti C fp_Re_167 (by decide) rfl rfl (by omega) d_Re_takeSleep_30 ?_
      try simp only [RZ_3, RZ_4, RZ_w3, RZ_w4, wr_so, cu_s, cu_f, ne_eq, Nat.reduceEqDiff, not_false_eq_true]
      refine e_aload_n C d_Re_takeSleep_33 rfl ?_
      refine e_bipush C d_Re_takeSleep_34 (by decide) ?_
      refine e_callIV C ok_Re_take lk_Re_108 (o := 3) (by decide) rfl [_] rfl rfl (Nat.le_of_ble_eq_true rfl) (by decide) (Nat.le_of_ble_eq_true rfl) d_Re_takeSleep_36 (k_Re_take (h1.go d3 (by omega) d7) (by omega)) (fun v_36 u_36 q_36 h_36 => ?_)
      refine e_zret C F rfl d_Re_takeSleep_39 (by rcases h_36 with ⟨_, _, z, _⟩ | ⟨_, z, _⟩ <;> omega) ?_
      rcases h_36 with ⟨fp, g1, g2, g3⟩ | ⟨g1, g2, g3, g4, g5⟩
      · rw [g1, bnd_l]; exact ⟨g2, g3.fz (by rw [cu_f (by decide)]; exact hP1) hc⟩
      · rw [g1, bnd_r]; exact ⟨g2, _, g5, d6.wu (by decide) (by decide) (by decide) (by decide) (by decide), cu_s _ _ _ _⟩
    · obtain ⟨fp, d1, d2, d3⟩ := h_14.resolve_right (fun z => by obtain ⟨_, _, _, z2, _⟩ := z; omega)
      rw [d1, bnd_l] at F
      refine e_iconst C d_Re_takeSleep_20 ?_
      refine e_zret C F rfl d_Re_takeSleep_21 (by omega) ?_
      exact ⟨rfl, d3.fz hP1 hc⟩
theorem l_Re_takeDamp {g : Mach} {Q : Int → St → Prop} (C : Cx M_Re_takeDamp g) (F : FinI M_Re_takeDamp g Q) (hT : TF T) (hTC : TC T (σ 6)) (hc : RdC c) :
    ∀ (n : Nat) (i t : Int) (X x P : Cs), 0 ≤ i → i + n = 25 → TH T σ X t → XZ X x → P 1 0 = 0 → P 5 0 = i → (∀ r u, tel3 σ l c (zD T n i t x P) r u → Q r u) → Ev g 22 [some (.inr (.inr (3, 0))), some (.inl i)] [] (RZ σ X P l c) := by
  intro n
  induction n with
  | zero =>
    intro i t X x P h0 h1 h hx hP1 hP5 hQ
    refine e_iload_n C d_Re_takeDamp_22 rfl ?_
    refine e_bipush C d_Re_takeDamp_23 (by decide) ?_
    refine e_icmp_gt C 99 d_Re_takeDamp_25 (by decide) (by omega) (by omega) (fun c_25 => ?_) (fun c_25 => ?_)
    · refine e_aload_n C d_Re_takeDamp_99 rfl ?_
      refine e_bipush C d_Re_takeDamp_100 (by decide) ?_
      refine e_callIV C ok_Re_take lk_Re_108 (o := 3) (by decide) rfl [_] rfl rfl (Nat.le_of_ble_eq_true rfl) (by decide) (Nat.le_of_ble_eq_true rfl) d_Re_takeDamp_102 (k_Re_take h (by omega)) (fun v_102 u_102 q_102 h_102 => ?_)
      refine e_zret C F rfl d_Re_takeDamp_105 (by rcases h_102 with ⟨_, _, z, _⟩ | ⟨_, z, _⟩ <;> omega) ?_
      refine hQ _ _ ?_
      unfold zD
      rcases h_102 with ⟨fp, g1, g2, g3⟩ | ⟨g1, g2, g3, g4, g5⟩
      · rw [g1, bnd_l]; exact ⟨g2, g3.fz hP1 hc⟩
      · rw [g1, bnd_r]; exact ⟨g2, _, g5, hx.wu (by decide) (by decide) (by decide) (by decide) (by decide), cu_s _ _ _ _⟩
    · exact absurd h1 (by omega)
  | succ n ih =>
    intro i t X x P h0 h1 h hx hP1 hP5 hQ
    have hkr := h.1.k t
    unfold zD at hQ
    refine e_iload_n C d_Re_takeDamp_22 rfl ?_
    refine e_bipush C d_Re_takeDamp_23 (by decide) ?_
    refine e_icmp_gt C 99 d_Re_takeDamp_25 (by decide) (by omega) (by omega) (fun c_25 => ?_) (fun c_25 => ?_)
    · exact absurd h1 (by omega)
    · refine e_aload_n C d_Re_takeDamp_28 rfl ?_
      refine e_callIV C ok_Re_kind lk_Re_72 (o := 3) (by decide) rfl [] rfl rfl (Nat.le_of_ble_eq_true rfl) (by decide) (Nat.le_of_ble_eq_true rfl) d_Re_takeDamp_29 (k_Re_kind h) (fun v_29 u_29 q_29 h_29 => ?_)
      obtain ⟨rfl, rfl⟩ := h_29
      refine e_sipush C d_Re_takeDamp_32 (by decide) ?_
      refine e_icmp_ne C 99 d_Re_takeDamp_35 (by decide) (by omega) (by omega) (fun c_35 => ?_) (fun c_35 => ?_)
      · rw [if_neg c_35] at hQ
        refine e_aload_n C d_Re_takeDamp_99 rfl ?_
        refine e_bipush C d_Re_takeDamp_100 (by decide) ?_
        refine e_callIV C ok_Re_take lk_Re_108 (o := 3) (by decide) rfl [_] rfl rfl (Nat.le_of_ble_eq_true rfl) (by decide) (Nat.le_of_ble_eq_true rfl) d_Re_takeDamp_102 (k_Re_take h (by omega)) (fun v_102 u_102 q_102 h_102 => ?_)
        refine e_zret C F rfl d_Re_takeDamp_105 (by rcases h_102 with ⟨_, _, z, _⟩ | ⟨_, z, _⟩ <;> omega) ?_
        refine hQ _ _ ?_
        rcases h_102 with ⟨fp, g1, g2, g3⟩ | ⟨g1, g2, g3, g4, g5⟩
        · rw [g1, bnd_l]; exact ⟨g2, g3.fz hP1 hc⟩
        · rw [g1, bnd_r]; exact ⟨g2, _, g5, hx.wu (by decide) (by decide) (by decide) (by decide) (by decide), cu_s _ _ _ _⟩
      · rw [if_pos c_35] at hQ
        refine e_iload_n C d_Re_takeDamp_38 rfl ?_
        refine e_bipush C d_Re_takeDamp_39 (by decide) ?_
        refine e_icmp_ne C 50 d_Re_takeDamp_41 (by decide) (by omega) (by omega) (fun c_41 => ?_) (fun c_41 => ?_)
        · rw [if_neg c_41] at hQ
          refine e_aload_n C d_Re_takeDamp_50 rfl ?_
          refine e_bipush C d_Re_takeDamp_51 (by decide) ?_
          refine e_callIV C ok_Re_takeInt lk_Re_118 (o := 3) (by decide) rfl [_] rfl rfl (Nat.le_of_ble_eq_true rfl) (by decide) (Nat.le_of_ble_eq_true rfl) d_Re_takeDamp_53 (k_Re_takeInt (x := x) h hx (by omega)) (fun v_53 u_53 q_53 h_53 => ?_)
          refine e_if_ne C 61 d_Re_takeDamp_56 (by decide) (by omega) (fun c_56 => ?_) (fun c_56 => ?_)
          · obtain ⟨x3, X3, d1, d2, d3, d4, rfl, d6, d7, d8⟩ := h_53.resolve_left (fun z => by obtain ⟨fp, _, z2, _⟩ := z; exact c_56 z2)
            rw [d1, bnd_r] at hQ
            have hv3 := h.1.2.2.2.1 _ d4
            refine e_aload_n C d_Re_takeDamp_61 rfl ?_
            refine e_geto (o2 := 4) C fl_Re_14 (by decide) rfl rfl rfl d_Re_takeDamp_62 ?_
            refine e_dup C d_Re_takeDamp_65 rfl ?_
            refine e_geti C fl_Re_161 (by decide) rfl rfl d_Re_takeDamp_66 (fun r_66 => ?_)
            try simp only [RZ_3, RZ_4, RZ_w3, RZ_w4, wr_so, hP5, cu_s, cu_f, ne_eq, Nat.reduceEqDiff, not_false_eq_true] at r_66 ⊢
            refine e_iconst C d_Re_takeDamp_69 ?_
            refine e_iadd C d_Re_takeDamp_70 ?_
            refine e_puti C fp_Re_161 (by decide) rfl rfl (by omega) d_Re_takeDamp_71 ?_
            try simp only [RZ_3, RZ_4, RZ_w3, RZ_w4, wr_so, hP5, cu_s, cu_f, ne_eq, Nat.reduceEqDiff, not_false_eq_true]
            refine e_aload_n C d_Re_takeDamp_74 rfl ?_
            refine e_geto (o2 := 4) C fl_Re_14 (by decide) rfl rfl rfl d_Re_takeDamp_75 ?_
            refine e_geta C fl_Re_164 (by decide) rfl rfl d_Re_takeDamp_78 ?_
            refine e_aload_n C d_Re_takeDamp_81 rfl ?_
            refine e_geto (o2 := 4) C fl_Re_14 (by decide) rfl rfl rfl d_Re_takeDamp_82 ?_
            refine e_geti C fl_Re_161 (by decide) rfl rfl d_Re_takeDamp_85 (fun r_85 => ?_)
            try simp only [RZ_3, RZ_4, RZ_w3, RZ_w4, wr_so, hP5, cu_s, cu_f, ne_eq, Nat.reduceEqDiff, not_false_eq_true] at r_85 ⊢
            refine e_aload_n C d_Re_takeDamp_88 rfl ?_
            refine e_geti C fl_Re_124 (by decide) rfl rfl d_Re_takeDamp_89 (fun r_89 => ?_)
            try simp only [RZ_3, RZ_4, RZ_w3, RZ_w4, wr_so, hP5, cu_s, cu_f, ne_eq, Nat.reduceEqDiff, not_false_eq_true] at r_89 ⊢
            rw [d8] at r_89 ⊢
            refine e_iast (n := 25) C (by decide) rfl (by decide) rfl rfl (by decide) (by omega) (by omega) (by omega) d_Re_takeDamp_92 ?_
            try simp only [RZ_3, RZ_4, RZ_w3, RZ_w4, wr_so, hP5, cu_s, cu_f, ne_eq, Nat.reduceEqDiff, not_false_eq_true]
            refine e_iinc C d_Re_takeDamp_93 rfl (by decide) rfl ?_
            refine e_goto C 22 d_Re_takeDamp_96 (by decide) ?_
            exact ih (i + 1) (t + 1) X3 x3 _ (by omega) (by omega) (h.go d3 (by omega) d7) d6 (by rw [cu_k (by omega), cu_f (by decide)]; exact hP1) (by rw [cu_f (by decide), cu_s]) hQ
          · obtain ⟨fp, d1, d2, d3⟩ := h_53.resolve_right (fun z => by obtain ⟨_, _, _, z2, _⟩ := z; omega)
            rw [d1, bnd_l] at hQ
            refine e_iconst C d_Re_takeDamp_59 ?_
            refine e_zret C F rfl d_Re_takeDamp_60 (by omega) ?_
            exact hQ _ _ ⟨rfl, d3.fz hP1 hc⟩
        · rw [if_pos c_41] at hQ
          refine e_aload_n C d_Re_takeDamp_44 rfl ?_
          refine e_iconst C d_Re_takeDamp_45 ?_
          refine e_callIV C ok_Re_refuse lk_Re_101 (o := 3) (by decide) rfl [_] rfl rfl (Nat.le_of_ble_eq_true rfl) (by decide) (Nat.le_of_ble_eq_true rfl) d_Re_takeDamp_46 (k_Re_refuse h (by omega)) (fun v_46 u_46 q_46 h_46 => ?_)
          obtain ⟨rfl, rfl⟩ := h_46
          refine e_zret C F rfl d_Re_takeDamp_49 (by omega) ?_
          exact hQ _ _ ⟨rfl, _, P, l, c, rfl, by rw [cu_f (by decide), cu_s], cu_s _ _ _ _, hP1, hc⟩
theorem k_Re_takeDamp (h : TH T σ X t) (hx : XZ X x) (hk : T.1 t = 144) (hP1 : P 1 0 = 0) (hc : RdC c) : CtI M_Re_takeDamp [.inr (.inr (3, 0))] (RZ σ X P l c) (fun r u => tel3 σ l c (zDamp T t x P) r u) := by
  intro g C F
  unfold zDamp at F
  rw [← pMu_go hk] at F
  refine e_aload_n C d_Re_takeDamp_0 rfl ?_
  refine e_sipush C d_Re_takeDamp_1 (by decide) ?_
  refine e_callIV C ok_Re_take lk_Re_108 (o := 3) (by decide) rfl [_] rfl rfl (Nat.le_of_ble_eq_true rfl) (by decide) (Nat.le_of_ble_eq_true rfl) d_Re_takeDamp_4 (k_Re_take h (by omega)) (fun v_4 u_4 q_4 h_4 => ?_)
  refine e_if_ne C 12 d_Re_takeDamp_7 (by decide) (by omega) (fun c_7 => ?_) (fun c_7 => ?_)
  · obtain ⟨a1, a2, a3, a4, rfl⟩ := h_4.resolve_left (fun z => by obtain ⟨fp, _, z2, _⟩ := z; exact c_7 z2)
    rw [a1, bnd_r] at F
    have h1 := h.go (x' := cu X 11 0 (t + 1)) a3 (by omega) (cu_s _ _ _ _)
    have hx1 : XZ (cu X 11 0 (t + 1)) x := hx.wu (by decide) (by decide) (by decide) (by decide) (by decide)
    refine e_aload_n C d_Re_takeDamp_12 rfl ?_
    refine e_geto (o2 := 4) C fl_Re_14 (by decide) rfl rfl rfl d_Re_takeDamp_13 ?_
    refine e_iconst C d_Re_takeDamp_16 ?_
    refine e_puti C fp_Re_161 (by decide) rfl rfl (by omega) d_Re_takeDamp_17 ?_
    try simp only [RZ_3, RZ_4, RZ_w3, RZ_w4, wr_so, cu_s, cu_f, ne_eq, Nat.reduceEqDiff, not_false_eq_true]
    refine e_iconst C d_Re_takeDamp_20 ?_
    refine e_istore_n C d_Re_takeDamp_21 (by decide) rfl ?_
    exact l_Re_takeDamp C F h.1 h.2.1 hc 25 0 (t + 1) _ x _ (by omega) (by omega) h1 hx1 (by rw [cu_f (by decide)]; exact hP1) (cu_s _ _ _ _) (fun r u z => z)
  · obtain ⟨fp, a1, a2, a3⟩ := h_4.resolve_right (fun z => by have := z.2.1; omega)
    rw [a1, bnd_l] at F
    refine e_iconst C d_Re_takeDamp_10 ?_
    refine e_zret C F rfl d_Re_takeDamp_11 (by omega) ?_
    exact ⟨rfl, a3.fz hP1 hc⟩
end RT2
