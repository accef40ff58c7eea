/-! the class's calls that do a thing -/
theorem s_Sg_isPost {S : SS} {n : Int} {σ : St} {p : Int} (h : IVc S n σ) (hp : R32 p) : CtI M_Sg_isPost [.inr (.inr (0, 0)), .inl p] σ (fun r u => r = (if 0 ≤ p ∧ p < sP S 3 0 then 1 else 0) ∧ u = σ) := by
  have := k_Sg_isPost (σ := σ) hp
  rwa [h.e7] at this
theorem s_Sg_isGuard {S : SS} {n : Int} {σ : St} {p : Int} (h : IVc S n σ) (hp : R32 p) : CtI M_Sg_isGuard [.inr (.inr (0, 0)), .inl p] σ (fun r u => r = (if 0 ≤ p ∧ p < sP S 4 0 then 1 else 0) ∧ u = σ) := by
  have := k_Sg_isGuard (σ := σ) hp
  rwa [h.e7] at this
theorem s_Sg_beginThing {S : SS} {n : Int} {σ : St} (h : IVc S n σ) (hp : PI S n) : CtV M_Sg_beginThing [.inr (.inr (0, 0))] σ (fun u => u = bgT σ) := k_Sg_beginThing h.hi.2.1 (by rw [h.hi.1]; exact hp.hz)
abbrev PC (S : SS) (n : Int) (σ u : St) : Prop := u 1 = σ 1 ∧ IVc S (n + 1) u
theorem IVc.same {S : SS} {n : Int} {σ : St} (h : IVc S n σ) : PC S n σ σ := ⟨rfl, h.next⟩
theorem K_Sg_run {σ : St} {S : SS} {n k : Int} (hp : PI S n) (h : IVc S n σ) (r1 : R32 k) : CtI M_Sg_run [.inr (.inr (0, 0)), .inl k] σ (fun r u => r = rvRun S k ∧ PC (nxRun S k) n σ u) := by
  intro g C F
  have hn := hp.n
  have hPl := h.pl
  have e7 := h.e7
  have e12 := h.y.1.1.2.2.2.2
  unfold rvRun nxRun at F
  refine e_iload_n C d_Sg_run_0 rfl ?_
  refine e_if_lt C 11 d_Sg_run_1 (by decide) (by omega) (fun c_1 => ?_) (fun c_1 => ?_)
  · rw [if_neg (by omega), if_neg (by omega)] at F
    refine e_iconst C d_Sg_run_11 ?_
    refine e_iret C F rfl d_Sg_run_12 (by omega) ?_
    exact ⟨rfl, h.same⟩
  · refine e_iload_n C d_Sg_run_4 rfl ?_
    refine e_sipush C d_Sg_run_5 (by decide) ?_
    refine e_icmp_le C 13 d_Sg_run_8 (by decide) (by omega) (by omega) (fun c_8 => ?_) (fun c_8 => ?_)
    · rw [if_pos (by omega)] at F
      refine e_iload_n C d_Sg_run_13 rfl ?_
      refine e_if_le C 33 d_Sg_run_14 (by decide) (by omega) (fun c_14 => ?_) (fun c_14 => ?_)
      · rw [if_pos (by omega), if_neg (by omega)] at F
        have hrd : σ 18 12 0 = sY S 12 0 := e12.symm
        refine e_aload_n C d_Sg_run_33 rfl ?_
        refine e_geto (o2 := 18) C fl_Sg_37 (by decide) rfl rfl rfl d_Sg_run_34 ?_
        refine e_geti C fl_Sg_145 (by decide) rfl rfl d_Sg_run_37 (fun r_37 => ?_)
        rw [hrd] at r_37 ⊢
        refine e_iret C F rfl d_Sg_run_40 (by omega) ?_
        first | exact ⟨rfl, h.same⟩ | (refine ⟨rfl, ?_, h.upT hp hl' ⟨by rw [← e7]; exact hS, hK.mono (by omega)⟩⟩; show so (so (bgT σ) 8 l') 18 c' 1 = σ 1; rw [so_ne (by decide), so_ne (by decide)]; exact bgT_1 σ)
      · rw [if_neg (by omega), if_pos (by omega)] at F
        refine e_aload_n C d_Sg_run_17 rfl ?_
        refine e_callVV C ok_Sg_beginThing lk_Sg_177 (o := 0) (by decide) rfl [] rfl rfl (Nat.le_of_ble_eq_true rfl) (by decide) (Nat.le_of_ble_eq_true rfl) d_Sg_run_18 (s_Sg_beginThing h hp) (fun u_18 h_18 => ?_)
        subst h_18
        rw [← SF_id (bgT σ) 18 (by decide)]
        refine e_aload_n C d_Sg_run_21 rfl ?_
        refine e_geto (o2 := 18) C fl_Sg_37 (by decide) rfl rfl rfl d_Sg_run_22 ?_
        refine e_aload_n C d_Sg_run_25 rfl ?_
        refine e_geto (o2 := 7) C fl_Sg_26 (by decide) rfl rfl rfl d_Sg_run_26 ?_
        refine e_iload_n C d_Sg_run_29 rfl ?_
        refine e_callVV C ok_Ca_passMany lk_Sg_180 (o := 18) (by decide) rfl [_, _] rfl rfl (Nat.le_of_ble_eq_true rfl) (by decide) (Nat.le_of_ble_eq_true rfl) d_Sg_run_30 (s_Ca_passMany (φ := sF S) (B := 20000 * n) (by decide) (by rw [bgT_7, bgT_8]; exact hPl) (by rw [bgT_18]; exact h.y.2) (by omega) (by omega)) (fun u_30 h_30 => ?_)
        obtain ⟨l', hl', rfl⟩ := h_30
        rw [bgT_8] at hl'
        have hS := many_sim hPl k.toNat k (20000 * n) (σ 18) (sY S) h.y.2 (by omega) (by omega) (by omega) (by rw [e7]; exact h.y.1)
        have hK := CK_many (z := σ 8 0 0) hPl k.toNat k (20000 * n) (σ 18) h.y.2 (by omega) (by omega)
        rw [bgT_7, bgT_8, bgT_18]
        generalize c_many (sF S) (σ 7) (σ 8 0 0) k.toNat k (σ 18) = c' at hS hK ⊢
        have hrd : so (so (bgT σ) 8 l') 18 c' 18 12 0 = mits (sF S) (sP S) k.toNat (sY S) 12 0 := by
          rw [so_at, ← e7]; exact hS.1.2.2.2.2.symm
        refine e_aload_n C d_Sg_run_33 rfl ?_
        refine e_geto (o2 := 18) C fl_Sg_37 (by decide) rfl rfl rfl d_Sg_run_34 ?_
        refine e_geti C fl_Sg_145 (by decide) rfl rfl d_Sg_run_37 (fun r_37 => ?_)
        rw [hrd] at r_37 ⊢
        refine e_iret C F rfl d_Sg_run_40 (by omega) ?_
        first | exact ⟨rfl, h.same⟩ | (refine ⟨rfl, ?_, h.upT hp hl' ⟨by rw [← e7]; exact hS, hK.mono (by omega)⟩⟩; show so (so (bgT σ) 8 l') 18 c' 1 = σ 1; rw [so_ne (by decide), so_ne (by decide)]; exact bgT_1 σ)
    · rw [if_neg (by omega), if_neg (by omega)] at F
      refine e_iconst C d_Sg_run_11 ?_
      refine e_iret C F rfl d_Sg_run_12 (by omega) ?_
      exact ⟨rfl, h.same⟩
theorem K_Sg_turn {σ : St} {S : SS} {n p : Int} (hp : PI S n) (h : IVc S n σ) (r1 : R32 p) : CtI M_Sg_turn [.inr (.inr (0, 0)), .inl p] σ (fun r u => r = rvPo S p ∧ PC (nxTurn S p) n σ u) := by
  intro g C F
  have hN := h.1.2.1
  unfold rvPo nxTurn at F
  refine e_aload_n C d_Sg_turn_0 rfl ?_
  refine e_iload_n C d_Sg_turn_1 rfl ?_
  refine e_callIV C ok_Sg_isPost lk_Sg_126 (o := 0) (by decide) rfl [_] rfl rfl (Nat.le_of_ble_eq_true rfl) (by decide) (Nat.le_of_ble_eq_true rfl) d_Sg_turn_2 (s_Sg_isPost h r1) (fun v_2 u_2 q_2 h_2 => ?_)
  obtain ⟨rfl, rfl⟩ := h_2
  refine e_if_ne C 10 d_Sg_turn_5 (by decide) (by split <;> omega) (fun c_5 => ?_) (fun c_5 => ?_)
  · have hv := po_t c_5
    rw [if_pos hv, if_pos hv] at F
    refine e_aload_n C d_Sg_turn_10 rfl ?_
    refine e_callVV C ok_Sg_beginThing lk_Sg_177 (o := 0) (by decide) rfl [] rfl rfl (Nat.le_of_ble_eq_true rfl) (by decide) (Nat.le_of_ble_eq_true rfl) d_Sg_turn_11 (s_Sg_beginThing h hp) (fun u_11 h_11 => ?_)
    subst h_11
    refine e_aload_n C d_Sg_turn_14 rfl ?_
    refine e_geto (o2 := 18) C fl_Sg_37 (by decide) rfl rfl rfl d_Sg_turn_15 ?_
    refine e_iload_n C d_Sg_turn_18 rfl ?_
    refine e_callVV C ok_Ca_exchange lk_Sg_184 (o := 18) (by decide) rfl [_] rfl rfl (Nat.le_of_ble_eq_true rfl) (by decide) (Nat.le_of_ble_eq_true rfl) d_Sg_turn_19 (k_Ca_exchange (by decide) (by omega)) (fun u_19 h_19 => ?_)
    subst h_19
    refine e_iconst C d_Sg_turn_22 ?_
    refine e_zret C F rfl d_Sg_turn_23 (by omega) ?_
    rw [bgT_18]; exact ⟨rfl, h.up0 hp ⟨exch_sim h.y.1 hv, (CK_exch h.y.2 (by omega)).mono (by omega)⟩⟩
  · have hv := po_f c_5
    rw [if_neg hv, if_neg hv] at F
    refine e_iconst C d_Sg_turn_8 ?_
    refine e_zret C F rfl d_Sg_turn_9 (by omega) ?_
    exact ⟨rfl, h.same⟩
theorem K_Sg_shake {σ : St} {S : SS} {n p k : Int} (hp : PI S n) (h : IVc S n σ) (r1 : R32 p) (r2 : R32 k) : CtI M_Sg_shake [.inr (.inr (0, 0)), .inl p, .inl k] σ (fun r u => r = rvShake S p k ∧ PC (nxShake S p k) n σ u) := by
  intro g C F
  have hN := h.1.2.1
  unfold rvShake nxShake at F
  refine e_aload_n C d_Sg_shake_0 rfl ?_
  refine e_iload_n C d_Sg_shake_1 rfl ?_
  refine e_callIV C ok_Sg_isPost lk_Sg_126 (o := 0) (by decide) rfl [_] rfl rfl (Nat.le_of_ble_eq_true rfl) (by decide) (Nat.le_of_ble_eq_true rfl) d_Sg_shake_2 (s_Sg_isPost h r1) (fun v_2 u_2 q_2 h_2 => ?_)
  obtain ⟨rfl, rfl⟩ := h_2
  refine e_if_eq C 12 d_Sg_shake_5 (by decide) (by split <;> omega) (fun c_5 => ?_) (fun c_5 => ?_)
  · have hv := po_f c_5
    rw [if_neg (show ¬ ((0 ≤ p ∧ p < sP S 3 0) ∧ 0 ≤ k) from fun z => hv z.1), if_neg (show ¬ ((0 ≤ p ∧ p < sP S 3 0) ∧ 0 ≤ k) from fun z => hv z.1)] at F
    refine e_iconst C d_Sg_shake_12 ?_
    refine e_iret C F rfl d_Sg_shake_13 (by omega) ?_
    exact ⟨rfl, h.same⟩
  · have hv := po_t c_5
    refine e_iload_n C d_Sg_shake_8 rfl ?_
    refine e_if_ge C 14 d_Sg_shake_9 (by decide) (by omega) (fun c_9 => ?_) (fun c_9 => ?_)
    · rw [if_pos (show (0 ≤ p ∧ p < sP S 3 0) ∧ 0 ≤ k by omega), if_pos (show (0 ≤ p ∧ p < sP S 3 0) ∧ 0 ≤ k by omega)] at F
      have hq := h.y.2.2.1 p hv.1 (by omega)
      have e1 := h.y.1.1.1 1 p (by decide) hv.1 hv.2
      refine e_aload_n C d_Sg_shake_14 rfl ?_
      refine e_callVV C ok_Sg_beginThing lk_Sg_177 (o := 0) (by decide) rfl [] rfl rfl (Nat.le_of_ble_eq_true rfl) (by decide) (Nat.le_of_ble_eq_true rfl) d_Sg_shake_15 (s_Sg_beginThing h hp) (fun u_15 h_15 => ?_)
      subst h_15
      refine e_iload_n C d_Sg_shake_18 rfl ?_
      refine e_aload_n C d_Sg_shake_19 rfl ?_
      refine e_geto (o2 := 18) C fl_Sg_37 (by decide) rfl rfl rfl d_Sg_shake_20 ?_
      refine e_geta C fl_Sg_133 (by decide) rfl rfl d_Sg_shake_23 ?_
      refine e_iload_n C d_Sg_shake_26 rfl ?_
      refine e_iald (n := 8) C (by decide) rfl (by decide) rfl rfl (by decide) (by omega) (by omega) d_Sg_shake_27 (fun r_27 => ?_)
      try simp only [so_at, so_so, wr_so, bgT_18, cu_s, cu_f, ne_eq, Nat.reduceEqDiff, not_false_eq_true] at r_27 ⊢
      refine e_mmin C lk_Sg_187 d_Sg_shake_28 (by decide) (Nat.le_of_ble_eq_true rfl) (by omega) (by omega) ?_
      refine e_istore_n C d_Sg_shake_31 (by decide) rfl ?_
      refine e_aload_n C d_Sg_shake_32 rfl ?_
      refine e_geto (o2 := 18) C fl_Sg_37 (by decide) rfl rfl rfl d_Sg_shake_33 ?_
      refine e_geta C fl_Sg_133 (by decide) rfl rfl d_Sg_shake_36 ?_
      refine e_iload_n C d_Sg_shake_39 rfl ?_
      refine e_dup2 C d_Sg_shake_40 rfl rfl ?_
      refine e_iald (n := 8) C (by decide) rfl (by decide) rfl rfl (by decide) (by omega) (by omega) d_Sg_shake_41 (fun r_41 => ?_)
      try simp only [so_at, so_so, wr_so, bgT_18, cu_s, cu_f, ne_eq, Nat.reduceEqDiff, not_false_eq_true] at r_41 ⊢
      refine e_iload_n C d_Sg_shake_42 rfl ?_
      refine e_isub C d_Sg_shake_43 ?_
      refine e_iast (n := 8) C (by decide) rfl (by decide) rfl rfl (by decide) (by omega) (by omega) (by omega) d_Sg_shake_44 ?_
      try simp only [so_at, so_so, wr_so, bgT_18, cu_s, cu_f, ne_eq, Nat.reduceEqDiff, not_false_eq_true]
      refine e_aload_n C d_Sg_shake_45 rfl ?_
      refine e_geto (o2 := 18) C fl_Sg_37 (by decide) rfl rfl rfl d_Sg_shake_46 ?_
      refine e_geta C fl_Sg_129 (by decide) rfl rfl d_Sg_shake_49 ?_
      refine e_iload_n C d_Sg_shake_52 rfl ?_
      refine e_dup2 C d_Sg_shake_53 rfl rfl ?_
      refine e_iald (n := 8) C (by decide) rfl (by decide) rfl rfl (by decide) (by omega) (by omega) d_Sg_shake_54 (fun r_54 => ?_)
      try simp only [so_at, so_so, wr_so, bgT_18, cu_s, cu_f, ne_eq, Nat.reduceEqDiff, not_false_eq_true] at r_54 ⊢
      refine e_iload_n C d_Sg_shake_55 rfl ?_
      refine e_iadd C d_Sg_shake_56 ?_
      refine e_iast (n := 8) C (by decide) rfl (by decide) rfl rfl (by decide) (by omega) (by omega) (by omega) d_Sg_shake_57 ?_
      try simp only [so_at, so_so, wr_so, bgT_18, cu_s, cu_f, ne_eq, Nat.reduceEqDiff, not_false_eq_true]
      refine e_iload_n C d_Sg_shake_58 rfl ?_
      refine e_iret C F rfl d_Sg_shake_59 (by omega) ?_
      rw [e1]; exact ⟨rfl, h.up0 hp ⟨shY_sim h.y.1 hv, (CK_sh (k := k) h.y.2 (by omega) (by omega)).mono (by omega)⟩⟩
    · rw [if_neg (show ¬ ((0 ≤ p ∧ p < sP S 3 0) ∧ 0 ≤ k) by omega), if_neg (show ¬ ((0 ≤ p ∧ p < sP S 3 0) ∧ 0 ≤ k) by omega)] at F
      refine e_iconst C d_Sg_shake_12 ?_
      refine e_iret C F rfl d_Sg_shake_13 (by omega) ?_
      exact ⟨rfl, h.same⟩
theorem K_Sg_dry {σ : St} {S : SS} {n p b : Int} (hp : PI S n) (h : IVc S n σ) (r1 : R32 p) (r2 : b = 0 ∨ b = 1) : CtI M_Sg_dry [.inr (.inr (0, 0)), .inl p, .inl b] σ (fun r u => r = rvPo S p ∧ PC (nxDry S p b) n σ u) := by
  intro g C F
  have hN := h.1.2.1
  unfold rvPo nxDry at F
  refine e_aload_n C d_Sg_dry_0 rfl ?_
  refine e_iload_n C d_Sg_dry_1 rfl ?_
  refine e_callIV C ok_Sg_isPost lk_Sg_126 (o := 0) (by decide) rfl [_] rfl rfl (Nat.le_of_ble_eq_true rfl) (by decide) (Nat.le_of_ble_eq_true rfl) d_Sg_dry_2 (s_Sg_isPost h r1) (fun v_2 u_2 q_2 h_2 => ?_)
  obtain ⟨rfl, rfl⟩ := h_2
  refine e_if_ne C 10 d_Sg_dry_5 (by decide) (by split <;> omega) (fun c_5 => ?_) (fun c_5 => ?_)
  · have hv := po_t c_5
    rw [if_pos hv, if_pos hv] at F
    refine e_aload_n C d_Sg_dry_10 rfl ?_
    refine e_callVV C ok_Sg_beginThing lk_Sg_177 (o := 0) (by decide) rfl [] rfl rfl (Nat.le_of_ble_eq_true rfl) (by decide) (Nat.le_of_ble_eq_true rfl) d_Sg_dry_11 (s_Sg_beginThing h hp) (fun u_11 h_11 => ?_)
    subst h_11
    refine e_aload_n C d_Sg_dry_14 rfl ?_
    refine e_geto (o2 := 18) C fl_Sg_37 (by decide) rfl rfl rfl d_Sg_dry_15 ?_
    refine e_geta C fl_Sg_139 (by decide) rfl rfl d_Sg_dry_18 ?_
    refine e_iload_n C d_Sg_dry_21 rfl ?_
    refine e_iload_n C d_Sg_dry_22 rfl ?_
    refine e_zast (n := 8) C (by decide) rfl (by decide) rfl rfl (by decide) (by omega) (by omega) r2 d_Sg_dry_23 ?_
    try simp only [so_at, so_so, wr_so, bgT_18]
    refine e_iconst C d_Sg_dry_24 ?_
    refine e_zret C F rfl d_Sg_dry_25 (by omega) ?_
    exact ⟨rfl, h.up0 hp ⟨cu3_sim h.y.1, (CK_cu h.y.2 (by omega)).mono (by omega)⟩⟩
  · have hv := po_f c_5
    rw [if_neg hv, if_neg hv] at F
    refine e_iconst C d_Sg_dry_8 ?_
    refine e_zret C F rfl d_Sg_dry_9 (by omega) ?_
    exact ⟨rfl, h.same⟩
theorem z_cmp_lt {x y : Int} : z_cmp x y < 0 ↔ x < y := by unfold z_cmp; split <;> (try split) <;> omega
theorem z_cmp_le {x y : Int} : z_cmp x y ≤ 0 ↔ x ≤ y := by unfold z_cmp; split <;> (try split) <;> omega
theorem z_cmp_r (x y : Int) : R32 (z_cmp x y) := by unfold z_cmp; split <;> (try split) <;> omega
theorem K_Sg_pinch {σ : St} {S : SS} {n p k : Int} (hp : PI S n) (h : IVc S n σ) (r1 : R32 p) (r2 : R32 k) : CtI M_Sg_pinch [.inr (.inr (0, 0)), .inl p, .inl k] σ (fun r u => r = rvPinch S p k ∧ PC (nxPinch S p k) n σ u) := by
  intro g C F
  have hN := h.1.2.1
  have hn := hp.n
  unfold rvPinch nxPinch at F
  refine e_aload_n C d_Sg_pinch_0 rfl ?_
  refine e_iload_n C d_Sg_pinch_1 rfl ?_
  refine e_callIV C ok_Sg_isPost lk_Sg_126 (o := 0) (by decide) rfl [_] rfl rfl (Nat.le_of_ble_eq_true rfl) (by decide) (Nat.le_of_ble_eq_true rfl) d_Sg_pinch_2 (s_Sg_isPost h r1) (fun v_2 u_2 q_2 h_2 => ?_)
  obtain ⟨rfl, rfl⟩ := h_2
  refine e_if_ne C 10 d_Sg_pinch_5 (by decide) (by split <;> omega) (fun c_5 => ?_) (fun c_5 => ?_)
  · have hv := po_t c_5
    have hq := h.y.2.2.1 p hv.1 (by omega)
    have e0 := h.y.1.1.1 0 p (by decide) hv.1 hv.2
    have e1 := h.y.1.1.1 1 p (by decide) hv.1 hv.2
    have e5 := h.y.1.1.1 5 p (by decide) hv.1 hv.2
    have hy := hp.y.2.1 p hv.1 hv.2
    refine e_aload_n C d_Sg_pinch_10 rfl ?_
    refine e_geto (o2 := 18) C fl_Sg_37 (by decide) rfl rfl rfl d_Sg_pinch_11 ?_
    refine e_geta C fl_Sg_129 (by decide) rfl rfl d_Sg_pinch_14 ?_
    refine e_iload_n C d_Sg_pinch_17 rfl ?_
    refine e_iald (n := 8) C (by decide) rfl (by decide) rfl rfl (by decide) (by omega) (by omega) d_Sg_pinch_18 (fun r_18 => ?_)
    try simp only [so_at, so_so, wr_so, bgT_18, cu_s, cu_f, ne_eq, Nat.reduceEqDiff, not_false_eq_true] at r_18 ⊢
    refine e_i2l C d_Sg_pinch_19 (by omega) ?_
    refine e_iload_n C d_Sg_pinch_20 rfl ?_
    refine e_i2l C d_Sg_pinch_21 (by omega) ?_
    refine e_ladd C d_Sg_pinch_22 ?_
    refine e_lstore_n C d_Sg_pinch_23 (by decide) rfl ?_
    refine e_lload_n C d_Sg_pinch_24 rfl ?_
    refine e_lconst (z := 0) C d_Sg_pinch_25 (by decide) ?_
    refine e_lcmp C d_Sg_pinch_26 (by omega) (by omega) ?_
    refine e_if_lt C 38 d_Sg_pinch_27 (by decide) (z_cmp_r _ _) (fun c_27 => ?_) (fun c_27 => ?_)
    · rw [z_cmp_lt] at c_27
      rw [if_neg (show ¬ ((0 ≤ p ∧ p < sP S 3 0) ∧ 0 ≤ sY S 0 p + k ∧ sY S 0 p + k ≤ 9999) by omega), if_neg (show ¬ ((0 ≤ p ∧ p < sP S 3 0) ∧ 0 ≤ sY S 0 p + k ∧ sY S 0 p + k ≤ 9999) by omega)] at F
      refine e_iconst C d_Sg_pinch_38 ?_
      refine e_iret C F rfl d_Sg_pinch_39 (by omega) ?_
      exact ⟨rfl, h.same⟩
    · rw [z_cmp_lt] at c_27
      refine e_lload_n C d_Sg_pinch_30 rfl ?_
      refine e_ldc2 C w_l193 d_Sg_pinch_31 ?_
      refine e_lcmp C d_Sg_pinch_34 (by omega) (by omega) ?_
      refine e_if_le C 40 d_Sg_pinch_35 (by decide) (z_cmp_r _ _) (fun c_35 => ?_) (fun c_35 => ?_)
      · rw [z_cmp_le] at c_35
        rw [if_pos (show (0 ≤ p ∧ p < sP S 3 0) ∧ 0 ≤ sY S 0 p + k ∧ sY S 0 p + k ≤ 9999 by omega), if_pos (show (0 ≤ p ∧ p < sP S 3 0) ∧ 0 ≤ sY S 0 p + k ∧ sY S 0 p + k ≤ 9999 by omega)] at F
        refine e_aload_n C d_Sg_pinch_40 rfl ?_
        refine e_callVV C ok_Sg_beginThing lk_Sg_177 (o := 0) (by decide) rfl [] rfl rfl (Nat.le_of_ble_eq_true rfl) (by decide) (Nat.le_of_ble_eq_true rfl) d_Sg_pinch_41 (s_Sg_beginThing h hp) (fun u_41 h_41 => ?_)
        subst h_41
        refine e_aload_n C d_Sg_pinch_44 rfl ?_
        refine e_geto (o2 := 18) C fl_Sg_37 (by decide) rfl rfl rfl d_Sg_pinch_45 ?_
        refine e_geta C fl_Sg_129 (by decide) rfl rfl d_Sg_pinch_48 ?_
        refine e_iload_n C d_Sg_pinch_51 rfl ?_
        refine e_dup2 C d_Sg_pinch_52 rfl rfl ?_
        refine e_iald (n := 8) C (by decide) rfl (by decide) rfl rfl (by decide) (by omega) (by omega) d_Sg_pinch_53 (fun r_53 => ?_)
        try simp only [so_at, so_so, wr_so, bgT_18, cu_s, cu_f, ne_eq, Nat.reduceEqDiff, not_false_eq_true] at r_53 ⊢
        refine e_iload_n C d_Sg_pinch_54 rfl ?_
        refine e_iadd C d_Sg_pinch_55 ?_
        refine e_iast (n := 8) C (by decide) rfl (by decide) rfl rfl (by decide) (by omega) (by omega) (by omega) d_Sg_pinch_56 ?_
        try simp only [so_at, so_so, wr_so, bgT_18, cu_s, cu_f, ne_eq, Nat.reduceEqDiff, not_false_eq_true]
        refine e_aload_n C d_Sg_pinch_57 rfl ?_
        refine e_geto (o2 := 18) C fl_Sg_37 (by decide) rfl rfl rfl d_Sg_pinch_58 ?_
        refine e_geta C fl_Sg_156 (by decide) rfl rfl d_Sg_pinch_61 ?_
        refine e_iload_n C d_Sg_pinch_64 rfl ?_
        refine e_dup2 C d_Sg_pinch_65 rfl rfl ?_
        refine e_iald (n := 8) C (by decide) rfl (by decide) rfl rfl (by decide) (by omega) (by omega) d_Sg_pinch_66 (fun r_66 => ?_)
        try simp only [so_at, so_so, wr_so, bgT_18, cu_s, cu_f, ne_eq, Nat.reduceEqDiff, not_false_eq_true] at r_66 ⊢
        refine e_iload_n C d_Sg_pinch_67 rfl ?_
        refine e_iadd C d_Sg_pinch_68 ?_
        refine e_iast (n := 8) C (by decide) rfl (by decide) rfl rfl (by decide) (by omega) (by omega) (by omega) d_Sg_pinch_69 ?_
        try simp only [so_at, so_so, wr_so, bgT_18, cu_s, cu_f, ne_eq, Nat.reduceEqDiff, not_false_eq_true]
        refine e_aload_n C d_Sg_pinch_70 rfl ?_
        refine e_geto (o2 := 18) C fl_Sg_37 (by decide) rfl rfl rfl d_Sg_pinch_71 ?_
        refine e_geta C fl_Sg_129 (by decide) rfl rfl d_Sg_pinch_74 ?_
        refine e_iload_n C d_Sg_pinch_77 rfl ?_
        refine e_iald (n := 8) C (by decide) rfl (by decide) rfl rfl (by decide) (by omega) (by omega) d_Sg_pinch_78 (fun r_78 => ?_)
        try simp only [so_at, so_so, wr_so, bgT_18, cu_s, cu_f, ne_eq, Nat.reduceEqDiff, not_false_eq_true] at r_78 ⊢
        refine e_iret C F rfl d_Sg_pinch_79 (by omega) ?_
        refine ⟨by omega, h.up0 hp ⟨piY_sim h.y.1 hv, (CK_pi (k := k) h.y.2 (fun _ _ => by omega)).mono (by omega)⟩⟩
      · rw [z_cmp_le] at c_35
        rw [if_neg (show ¬ ((0 ≤ p ∧ p < sP S 3 0) ∧ 0 ≤ sY S 0 p + k ∧ sY S 0 p + k ≤ 9999) by omega), if_neg (show ¬ ((0 ≤ p ∧ p < sP S 3 0) ∧ 0 ≤ sY S 0 p + k ∧ sY S 0 p + k ≤ 9999) by omega)] at F
        refine e_iconst C d_Sg_pinch_38 ?_
        refine e_iret C F rfl d_Sg_pinch_39 (by omega) ?_
        exact ⟨rfl, h.same⟩
  · have hv := po_f c_5
    rw [if_neg (fun z => hv z.1), if_neg (fun z => hv z.1)] at F
    refine e_iconst C d_Sg_pinch_8 ?_
    refine e_iret C F rfl d_Sg_pinch_9 (by omega) ?_
    exact ⟨rfl, h.same⟩
theorem bed_iff {P c y : Cs} {a : Int} (h : SIM P c y) (ha : 0 ≤ a ∧ a < P 4 0) : c 6 a = -2 ↔ bdf y a ≠ -2 := by
  have hb := bdf_r (y := y) (a := a) (by rw [h.1.2.2.2.1]; exact h.2.1.1)
  constructor
  · intro z
    rcases h.2.2.2.2.2 a ha.1 ha.2 with ⟨_, k, k0, k1, k2⟩ | ⟨w1, _⟩
    · intro e
      unfold bdf at e
      rcases fnd_some (q := fun p => y 10 p == a) (y 11 0).toNat 0 (by omega) with ⟨_, q⟩ | ⟨q, _⟩
      · have := q k k0 (by rw [h.1.2.2.2.1]; omega)
        rw [h.1.2.2.1 k k0 k1, k2] at this
        simp at this
      · omega
    · omega
  · intro z
    have hk : 0 ≤ bdf y a ∧ bdf y a < y 11 0 ∧ y 10 (bdf y a) = a := by omega
    rw [h.1.2.2.2.1] at hk
    have := (h.2.2.1 (bdf y a) hk.1 hk.2.1).2.2
    rw [← h.1.2.2.1 _ hk.1 hk.2.1, hk.2.2] at this
    exact this
set_option maxHeartbeats 1000000 in
theorem K_Sg_send {σ : St} {S : SS} {n a p : Int} (hp : PI S n) (h : IVc S n σ) (r1 : R32 a) (r2 : R32 p) : CtI M_Sg_send [.inr (.inr (0, 0)), .inl a, .inl p] σ (fun r u => r = rvSend S a p ∧ PC (nxSend S a p) n σ u) := by
  intro g C F
  have hN := h.1.2.1
  have hG := h.1.2.2.1
  have hn := hp.n
  have hL := h.y.1.2.1
  have hno : ¬ okSend S a p → 0 = rvSend S a p ∧ PC (nxSend S a p) n σ σ := by
    intro z
    unfold rvSend nxSend
    rw [if_neg z, if_neg z]
    exact ⟨rfl, h.same⟩
  have hyes : okSend S a p → rvSend S a p = 1 ∧ nxSend S a p = upS S (mstand (c_up (sY S) (bdf (sY S) a)) a p) := by
    intro z
    unfold rvSend nxSend
    rw [if_pos z, if_pos z]
    exact ⟨rfl, rfl⟩
  refine e_aload_n C d_Sg_send_0 rfl ?_
  refine e_iload_n C d_Sg_send_1 rfl ?_
  refine e_callIV C ok_Sg_isGuard lk_Sg_159 (o := 0) (by decide) rfl [_] rfl rfl (Nat.le_of_ble_eq_true rfl) (by decide) (Nat.le_of_ble_eq_true rfl) d_Sg_send_2 (s_Sg_isGuard h r1) (fun v_2 u_2 q_2 h_2 => ?_)
  obtain ⟨rfl, rfl⟩ := h_2
  refine e_if_eq C 16 d_Sg_send_5 (by decide) (by split <;> omega) (fun c_5 => ?_) (fun c_5 => ?_)
  · have hv0 : ¬ okSend S a p := fun z => po_f c_5 z.1
    refine e_iconst C d_Sg_send_16 ?_
    refine e_zret C F rfl d_Sg_send_17 (by omega) ?_
    exact hno hv0
  · have hv := po_t c_5
    refine e_aload_n C d_Sg_send_8 rfl ?_
    refine e_iload_n C d_Sg_send_9 rfl ?_
    refine e_callIV C ok_Sg_isPost lk_Sg_126 (o := 0) (by decide) rfl [_] rfl rfl (Nat.le_of_ble_eq_true rfl) (by decide) (Nat.le_of_ble_eq_true rfl) d_Sg_send_10 (s_Sg_isPost h r2) (fun v_10 u_10 q_10 h_10 => ?_)
    obtain ⟨rfl, rfl⟩ := h_10
    refine e_if_ne C 18 d_Sg_send_13 (by decide) (by split <;> omega) (fun c_13 => ?_) (fun c_13 => ?_)
    · have hv2 := po_t c_13
      have hbi := bed_iff h.y.1 hv
      have e2 := h.y.1.1.1 2 p (by decide) hv2.1 hv2.2
      refine e_aload_n C d_Sg_send_18 rfl ?_
      refine e_geto (o2 := 18) C fl_Sg_37 (by decide) rfl rfl rfl d_Sg_send_19 ?_
      refine e_geta C fl_Sg_162 (by decide) rfl rfl d_Sg_send_22 ?_
      refine e_iload_n C d_Sg_send_25 rfl ?_
      refine e_iald (n := 12) C (by decide) rfl (by decide) rfl rfl (by decide) (by omega) (by omega) d_Sg_send_26 (fun r_26 => ?_)
      refine e_bipush C d_Sg_send_27 (by decide) ?_
      refine e_icmp_ne C 46 d_Sg_send_29 (by decide) (by omega) (by omega) (fun c_29 => ?_) (fun c_29 => ?_)
      · have hv0 : ¬ okSend S a p := fun z => c_29 (hbi.mpr z.2.2.2)
        refine e_iconst C d_Sg_send_46 ?_
        refine e_zret C F rfl d_Sg_send_47 (by omega) ?_
        exact hno hv0
      · refine e_aload_n C d_Sg_send_32 rfl ?_
        refine e_geto (o2 := 18) C fl_Sg_37 (by decide) rfl rfl rfl d_Sg_send_33 ?_
        refine e_geta C fl_Sg_136 (by decide) rfl rfl d_Sg_send_36 ?_
        refine e_iload_n C d_Sg_send_39 rfl ?_
        refine e_iald (n := 8) C (by decide) rfl (by decide) rfl rfl (by decide) (by omega) (by omega) d_Sg_send_40 (fun r_40 => ?_)
        refine e_bipush C d_Sg_send_41 (by decide) ?_
        refine e_icmp_eq C 48 d_Sg_send_43 (by decide) (by omega) (by omega) (fun c_43 => ?_) (fun c_43 => ?_)
        · have hok : okSend S a p := ⟨hv, hv2, by omega, hbi.mp c_29⟩
          have hbe := bdf_eq (a := a) h.y.1
          have hbr := bdf_r (y := sY S) (a := a) (by rw [h.y.1.1.2.2.2.1]; omega)
          have e11 := h.y.1.1.2.2.2.1
          have hk : 0 ≤ bdf (sY S) a ∧ bdf (sY S) a < sY S 11 0 ∧ sY S 10 (bdf (sY S) a) = a := by have := hok.2.2.2; omega
          have e10 := h.y.1.1.2.2.1 _ hk.1 (by omega)
          refine e_aload_n C d_Sg_send_48 rfl ?_
          refine e_callVV C ok_Sg_beginThing lk_Sg_177 (o := 0) (by decide) rfl [] rfl rfl (Nat.le_of_ble_eq_true rfl) (by decide) (Nat.le_of_ble_eq_true rfl) d_Sg_send_49 (s_Sg_beginThing h hp) (fun u_49 h_49 => ?_)
          subst h_49
          refine e_aload_n C d_Sg_send_52 rfl ?_
          refine e_geto (o2 := 18) C fl_Sg_37 (by decide) rfl rfl rfl d_Sg_send_53 ?_
          refine e_aload_n C d_Sg_send_56 rfl ?_
          refine e_geto (o2 := 18) C fl_Sg_37 (by decide) rfl rfl rfl d_Sg_send_57 ?_
          refine e_iload_n C d_Sg_send_60 rfl ?_
          refine e_callIV C ok_Ca_placeInBed lk_Sg_171 (o := 18) (by decide) rfl [_] rfl rfl (Nat.le_of_ble_eq_true rfl) (by decide) (Nat.le_of_ble_eq_true rfl) d_Sg_send_61 (k_Ca_placeInBed (by decide) r1 (by rw [bgT_18]; omega)) (fun v_61 u_61 q_61 h_61 => ?_)
          obtain ⟨rfl, rfl⟩ := h_61
          rw [bgT_18, ← hbe] at q_61
          rw [bgT_18, ← hbe]
          refine e_callIV C ok_Ca_leaveBed lk_Sg_195 (o := 18) (by decide) rfl [_] rfl rfl (Nat.le_of_ble_eq_true rfl) (by decide) (Nat.le_of_ble_eq_true rfl) d_Sg_send_64 (k_Ca_leaveBed (by decide) (by rw [bgT_18]; omega) hk.1 (by rw [bgT_18]; omega)) (fun v_64 u_64 q_64 h_64 => ?_)
          obtain ⟨h_64, rfl⟩ := h_64
          refine e_pop C d_Sg_send_67 rfl ?_
          refine e_aload_n C d_Sg_send_68 rfl ?_
          refine e_geto (o2 := 18) C fl_Sg_37 (by decide) rfl rfl rfl d_Sg_send_69 ?_
          refine e_iload_n C d_Sg_send_72 rfl ?_
          refine e_iload_n C d_Sg_send_73 rfl ?_
          refine e_callVV C ok_Ca_stand lk_Sg_198 (o := 18) (by decide) rfl [_, _] rfl rfl (Nat.le_of_ble_eq_true rfl) (by decide) (Nat.le_of_ble_eq_true rfl) d_Sg_send_74 (k_Ca_stand (by decide) (by omega) (by omega)) (fun u_74 h_74 => ?_)
          subst h_74
          refine e_iconst C d_Sg_send_77 ?_
          refine e_zret C F rfl d_Sg_send_78 (by omega) ?_
          rw [(hyes hok).1, (hyes hok).2]
          rw [so_so, so_at, bgT_18]
          have hS := send_sim (k := bdf (sY S) a) h.y.1 hv2 (by omega) (by omega)
          have hK := CK_send (p := p) (k := bdf (sY S) a) h.y.2 (by omega) (by omega)
          rw [← e10, hk.2.2] at hS hK
          exact ⟨rfl, h.up0 hp ⟨hS, hK.mono (by omega)⟩⟩
        · have hv0 : ¬ okSend S a p := fun z => c_43 (by have := z.2.2.1; omega)
          refine e_iconst C d_Sg_send_46 ?_
          refine e_zret C F rfl d_Sg_send_47 (by omega) ?_
          exact hno hv0
    · have hv0 : ¬ okSend S a p := fun z => po_f c_13 z.2.1
      refine e_iconst C d_Sg_send_16 ?_
      refine e_zret C F rfl d_Sg_send_17 (by omega) ?_
      exact hno hv0
/-! undone, held, restored -/
def ntC (σ : St) : St := so (so σ 11 (cu (cu (cu (σ 11) 6 0 0) 7 0 0) 8 0 0)) 12 (cu (σ 12) 2 0 0)
theorem ntC_o {σ : St} {o : Nat} (h11 : o ≠ 11) (h12 : o ≠ 12) : ntC σ o = σ o := by unfold ntC; rw [so_ne h12, so_ne h11]
theorem ntC_DI (S : SS) (σ : St) : DI S (ntC σ 11) := by
  unfold ntC
  rw [so_ne (by decide), so_at]
  exact no_DI _ (by rw [cu_f (by decide), cu_f (by decide), cu_s]) (by rw [cu_f (by decide), cu_s]) (cu_s _ _ _ _)
theorem ntC_gI (φ : Phi) (P y : Cs) (σ : St) : gI φ P y (ntC σ 12) := by
  unfold ntC
  rw [so_at]
  exact fun z => absurd (cu_s _ _ _ _) z
theorem k_Sg_noteC {σ : St} : CtV M_Sg_noteChange [.inr (.inr (0, 0))] σ (fun u => u = ntC σ) := k_Sg_noteChange
theorem K_Sg_undo {σ : St} {S : SS} {n : Int} (hp : PI S n) (h : IVc S n σ) : CtI M_Sg_undo [.inr (.inr (0, 0))] σ (fun r u => r = rvUndo S ∧ PC (nxUndo S) n σ u) := by
  intro g C F
  have hN := h.1.2.1
  have hG := h.1.2.2.1
  have hz := hp.hz
  obtain ⟨h0, h2, h3⟩ := h.hi
  unfold rvUndo nxUndo at F
  refine e_aload_n C d_Sg_undo_0 rfl ?_
  refine e_geto (o2 := 9) C fl_Sg_43 (by decide) rfl rfl rfl d_Sg_undo_1 ?_
  refine e_aload_n C d_Sg_undo_4 rfl ?_
  refine e_geto (o2 := 18) C fl_Sg_37 (by decide) rfl rfl rfl d_Sg_undo_5 ?_
  refine e_callIV C ok_Hi_giveBack lk_Sg_202 (o := 9) (by decide) rfl [_] rfl rfl (Nat.le_of_ble_eq_true rfl) (by decide) (Nat.le_of_ble_eq_true rfl) d_Sg_undo_8 (k_Hi_giveBack h2 (by omega)) (fun v_8 u_8 q_8 h_8 => ?_)
  refine e_if_ne C 16 d_Sg_undo_11 (by decide) (by omega) (fun c_11 => ?_) (fun c_11 => ?_)
  · have h8 : 0 < σ 9 0 0 ∧ u_8 = so (so σ 9 (h_back (σ 9))) 18 (c_copy (σ 18) (σ (32 + ((σ 9 2 0 + 39) % 40).toNat))) := by rcases h_8 with ⟨a, b, c⟩ | ⟨a, b, c⟩; omega; exact ⟨a, c⟩
    obtain ⟨h81, rfl⟩ := h8
    rw [if_neg (by omega), if_neg (by omega)] at F
    refine e_aload_n C d_Sg_undo_16 rfl ?_
    refine e_callVV C ok_Sg_noteChange lk_Sg_123 (o := 0) (by decide) rfl [] rfl rfl (Nat.le_of_ble_eq_true rfl) (by decide) (Nat.le_of_ble_eq_true rfl) d_Sg_undo_17 (k_Sg_noteC) (fun u_17 h_17 => ?_)
    subst h_17
    refine e_iconst C d_Sg_undo_20 ?_
    refine e_zret C F rfl d_Sg_undo_21 (by omega) ?_
    have eo : ∀ o, o ≠ 11 → o ≠ 12 → o ≠ 18 → o ≠ 9 → ntC (so (so σ 9 (h_back (σ 9))) 18 (c_copy (σ 18) (σ (32 + ((σ 9 2 0 + 39) % 40).toNat)))) o = σ o := fun o a b c d => by rw [ntC_o a b, so_ne c, so_ne d]
    have e9 : ntC (so (so σ 9 (h_back (σ 9))) 18 (c_copy (σ 18) (σ (32 + ((σ 9 2 0 + 39) % 40).toNat)))) 9 = h_back (σ 9) := by rw [ntC_o (by decide) (by decide), so_ne (by decide), so_at]
    have e18 : ntC (so (so σ 9 (h_back (σ 9))) 18 (c_copy (σ 18) (σ (32 + ((σ 9 2 0 + 39) % 40).toNat)))) 18 = c_copy (σ 18) (σ (32 + ((σ 9 2 0 + 39) % 40).toNat)) := by rw [ntC_o (by decide) (by decide), so_at]
    have hd : ∀ S, DI S (ntC (so (so σ 9 (h_back (σ 9))) 18 (c_copy (σ 18) (σ (32 + ((σ 9 2 0 + 39) % 40).toNat)))) 11) := fun S => ntC_DI S _
    have hgm : ∀ φ P y, gI φ P y (ntC (so (so σ 9 (h_back (σ 9))) 18 (c_copy (σ 18) (σ (32 + ((σ 9 2 0 + 39) % 40).toNat)))) 12) := fun φ P y => ntC_gI φ P y _
    generalize ntC (so (so σ 9 (h_back (σ 9))) 18 (c_copy (σ 18) (σ (32 + ((σ 9 2 0 + 39) % 40).toNat)))) = u at eo e9 e18 hd hgm ⊢
    have b0 : h_back (σ 9) 0 0 = σ 9 0 0 - 1 := by unfold h_back; rw [cu_f (by decide), cu_s]
    have b2 : h_back (σ 9) 2 0 = (σ 9 2 0 + 39) % 40 := by unfold h_back; rw [cu_s]
    refine ⟨rfl, eo 1 (by decide) (by decide) (by decide) (by decide), ⟨?_, ?_⟩, ⟨?_, ?_⟩, ⟨?_, ?_, fun j a b => ?_⟩, fun s a b => ?_, hd _, hgm _ _ _, ?_, ?_, ?_, ?_⟩
    · rw [eo 7 (by decide) (by decide) (by decide) (by decide)]; exact h.e7
    · rw [eo 8 (by decide) (by decide) (by decide) (by decide)]; exact h.1.2
    · rw [e18]
      have := h3 0 (by omega) (by omega)
      rw [Int.sub_zero] at this
      exact (CB_copy hN.2 hG.2 this).mono
    · rw [eo 17 (by decide) (by decide) (by decide) (by decide)]; exact h.b.mono
    · rw [e9, b0, h0]; rfl
    · rw [e9, b2]; omega
    · have b : j < sHz S - 1 := b
      rw [e9, b2, eo _ (by omega) (by omega) (by omega) (by omega)]
      show CB (sP S) (n + 1) _ (sHn S (j + 1))
      have := h3 (j + 1) (by omega) (by omega)
      rw [show (σ 9 2 0 + 39 - (j + 1)) % 40 = ((σ 9 2 0 + 39) % 40 + 39 - j) % 40 by omega] at this
      exact this.mono
    · rw [eo 0 (by decide) (by decide) (by decide) (by decide), eo _ (by omega) (by omega) (by omega) (by omega)]
      exact ⟨(h.ki s a b).1, fun z => ((h.ki s a b).2 z).mono⟩
    · rw [eo 13 (by decide) (by decide) (by decide) (by decide)]; exact h.ru
    · rw [eo 2 (by decide) (by decide) (by decide) (by decide)]; exact h.ta
    · rw [eo 0 (by decide) (by decide) (by decide) (by decide)]; exact h.fp
    · unfold RdI; rw [eo 4 (by decide) (by decide) (by decide) (by decide), eo 16 (by decide) (by decide) (by decide) (by decide)]; exact h.rd
  · have h8 : σ 9 0 0 = 0 ∧ u_8 = σ := by rcases h_8 with ⟨a, b, c⟩ | ⟨a, b, c⟩; exact ⟨a, c⟩; omega
    obtain ⟨h81, rfl⟩ := h8
    rw [if_pos (by omega), if_pos (by omega)] at F
    refine e_iconst C d_Sg_undo_14 ?_
    refine e_zret C F rfl d_Sg_undo_15 (by omega) ?_
    exact ⟨rfl, h.same⟩
theorem K_Sg_hold {σ : St} {S : SS} {n s : Int} (hp : PI S n) (h : IVc S n σ) (r1 : R32 s) : CtI M_Sg_hold [.inr (.inr (0, 0)), .inl s] σ (fun r u => r = rvHold s ∧ PC (nxHold S s) n σ u) := by
  intro g C F
  have hN := h.1.2.1
  have hG := h.1.2.2.1
  unfold rvHold nxHold at F
  obtain ⟨o, ho⟩ : ∃ o, 23 + s.toNat = o := ⟨_, rfl⟩
  refine e_iload_n C d_Sg_hold_0 rfl ?_
  refine e_if_lt C 9 d_Sg_hold_1 (by decide) (by omega) (fun c_1 => ?_) (fun c_1 => ?_)
  · rw [if_neg (by omega), if_neg (by omega)] at F
    refine e_iconst C d_Sg_hold_9 ?_
    refine e_zret C F rfl d_Sg_hold_10 (by omega) ?_
    exact ⟨rfl, h.same⟩
  · refine e_iload_n C d_Sg_hold_4 rfl ?_
    refine e_iconst C d_Sg_hold_5 ?_
    refine e_icmp_lt C 11 d_Sg_hold_6 (by decide) (by omega) (by omega) (fun c_6 => ?_) (fun c_6 => ?_)
    · rw [if_pos (by omega), if_pos (by omega)] at F
      have h_o : o ∈ objs := by rw [← ho]; exact cas_obj (slot_cas (i := s) (by omega))
      have c_o : cls o = 0 := by rw [← ho]; exact cas_cls (slot_cas (i := s) (by omega))
      refine e_aload_n C d_Sg_hold_11 rfl ?_
      refine e_geta C fl_Sg_47 (by decide) rfl rfl d_Sg_hold_12 ?_
      refine e_iload_n C d_Sg_hold_15 rfl ?_
      refine e_aald (n := 3) (o2 := o) C (by decide) rfl (by decide) rfl rfl (by decide) (by omega) (by omega) ho d_Sg_hold_16 ?_
      refine e_aload_n C d_Sg_hold_17 rfl ?_
      refine e_geto (o2 := 18) C fl_Sg_37 (by decide) rfl rfl rfl d_Sg_hold_18 ?_
      refine e_callVV C ok_Ca_copyFrom lk_Sg_116 (o := o) h_o (by rw [c_o]; rfl) [_] rfl rfl (Nat.le_of_ble_eq_true rfl) (by decide) (Nat.le_of_ble_eq_true rfl) d_Sg_hold_21 (k_Ca_copyFrom (by rw [← ho]; exact slot_cas (i := s) (by omega)) (by decide) (by omega)) (fun u_21 h_21 => ?_)
      subst h_21
      refine e_aload_n C d_Sg_hold_24 rfl ?_
      refine e_geta C fl_Sg_51 (by decide) rfl rfl d_Sg_hold_25 ?_
      refine e_iload_n C d_Sg_hold_28 rfl ?_
      refine e_iconst C d_Sg_hold_29 ?_
      refine e_zast (n := 3) C (by decide) rfl (by decide) rfl rfl (by decide) (by omega) (by omega) (by omega) d_Sg_hold_30 ?_
      try simp only [so_at, so_so, wr_so]
      refine e_iconst C d_Sg_hold_31 ?_
      refine e_zret C F rfl d_Sg_hold_32 (by omega) ?_
      have e0 : so (so σ o (c_copy (σ o) (σ 18))) 0 (cu (so σ o (c_copy (σ o) (σ 18)) 0) 7 s 1) 0 = cu (σ 0) 7 s 1 := by rw [so_at, so_ne (by omega)]
      have eo : ∀ q, q ≠ 0 → q ≠ o → so (so σ o (c_copy (σ o) (σ 18))) 0 (cu (so σ o (c_copy (σ o) (σ 18)) 0) 7 s 1) q = σ q := fun q a b => by rw [so_ne a, so_ne b]
      have ek : so (so σ o (c_copy (σ o) (σ 18))) 0 (cu (so σ o (c_copy (σ o) (σ 18)) 0) 7 s 1) o = c_copy (σ o) (σ 18) := by rw [so_ne (by omega), so_at]
      generalize so (so σ o (c_copy (σ o) (σ 18))) 0 (cu (so σ o (c_copy (σ o) (σ 18)) 0) 7 s 1) = u at e0 eo ek ⊢
      have ob : 23 ≤ o ∧ o < 26 := by omega
      refine ⟨rfl, eo 1 (by decide) (by omega), ⟨?_, ?_⟩, ⟨?_, ?_⟩, ⟨?_, ?_, fun j a b => ?_⟩, fun q a b => ?_, ?_, ?_, ?_, ?_, ?_, ?_⟩
      · rw [eo 7 (by decide) (by omega)]; exact h.e7
      · rw [eo 8 (by decide) (by omega)]; exact h.1.2
      · rw [eo 18 (by decide) (by omega)]; exact h.y.mono
      · rw [eo 17 (by decide) (by omega)]; exact h.b.mono
      · rw [eo 9 (by decide) (by omega)]; exact h.hi.1
      · rw [eo 9 (by decide) (by omega)]; exact h.hi.2.1
      · rw [eo 9 (by decide) (by omega), eo _ (by omega) (by omega)]; exact (h.hi.2.2 j a b).mono
      · rw [e0]
        show cu (σ 0) 7 s 1 7 q = (if q = s then 1 else sKf S q) ∧ ((if q = s then 1 else sKf S q) ≠ 0 → CB (sP S) (n + 1) (u (23 + q.toNat)) (if q = s then sY S else sKs S q))
        by_cases z : q = s
        · subst z
          rw [cu_s, if_pos rfl, if_pos rfl, ho, ek]
          exact ⟨rfl, fun _ => (CB_copy hN.2 hG.2 h.y).mono⟩
        · rw [cu_k z, if_neg z, if_neg z, eo _ (by omega) (by omega)]
          exact ⟨(h.ki q a b).1, fun w => ((h.ki q a b).2 w).mono⟩
      · rw [eo 11 (by decide) (by omega)]; exact h.di
      · rw [eo 12 (by decide) (by omega)]; exact h.ga
      · rw [eo 13 (by decide) (by omega)]; exact h.ru
      · rw [eo 2 (by decide) (by omega)]; exact h.ta
      · rw [e0, cu_f (by decide)]; exact h.fp
      · unfold RdI; rw [eo 4 (by decide) (by omega), eo 16 (by decide) (by omega)]; exact h.rd
    · rw [if_neg (by omega), if_neg (by omega)] at F
      refine e_iconst C d_Sg_hold_9 ?_
      refine e_zret C F rfl d_Sg_hold_10 (by omega) ?_
      exact ⟨rfl, h.same⟩
theorem K_Sg_restore {σ : St} {S : SS} {n s : Int} (hp : PI S n) (h : IVc S n σ) (r1 : R32 s) : CtI M_Sg_restore [.inr (.inr (0, 0)), .inl s] σ (fun r u => r = rvRe S s ∧ PC (nxRe S s) n σ u) := by
  intro g C F
  have hN := h.1.2.1
  have hG := h.1.2.2.1
  have hno : ¬ okRe S s → 0 = rvRe S s ∧ PC (nxRe S s) n σ σ := by
    intro z
    unfold rvRe nxRe
    rw [if_neg z, if_neg z]
    exact ⟨rfl, h.same⟩
  obtain ⟨o, ho⟩ : ∃ o, 23 + s.toNat = o := ⟨_, rfl⟩
  refine e_iload_n C d_Sg_restore_0 rfl ?_
  refine e_if_lt C 18 d_Sg_restore_1 (by decide) (by omega) (fun c_1 => ?_) (fun c_1 => ?_)
  · have hv0 : ¬ okRe S s := fun z => by have := z.1; omega
    refine e_iconst C d_Sg_restore_18 ?_
    refine e_zret C F rfl d_Sg_restore_19 (by omega) ?_
    exact hno hv0
  · refine e_iload_n C d_Sg_restore_4 rfl ?_
    refine e_iconst C d_Sg_restore_5 ?_
    refine e_icmp_ge C 18 d_Sg_restore_6 (by decide) (by omega) (by omega) (fun c_6 => ?_) (fun c_6 => ?_)
    · have hv0 : ¬ okRe S s := fun z => by have := z.1; omega
      refine e_iconst C d_Sg_restore_18 ?_
      refine e_zret C F rfl d_Sg_restore_19 (by omega) ?_
      exact hno hv0
    · have h4 := h.ki s (by omega) (by omega)
      refine e_aload_n C d_Sg_restore_9 rfl ?_
      refine e_geta C fl_Sg_51 (by decide) rfl rfl d_Sg_restore_10 ?_
      refine e_iload_n C d_Sg_restore_13 rfl ?_
      refine e_zald (n := 3) C (by decide) rfl (by decide) rfl rfl (by decide) (by omega) (by omega) d_Sg_restore_14 (fun r_14 => ?_)
      refine e_if_ne C 20 d_Sg_restore_15 (by decide) (by omega) (fun c_15 => ?_) (fun c_15 => ?_)
      · have hok : okRe S s := ⟨by omega, by omega⟩
        unfold rvRe nxRe at F
        rw [if_pos hok, if_pos hok] at F
        have h_o : o ∈ objs := by rw [← ho]; exact cas_obj (slot_cas (i := s) (by omega))
        have c_o : cls o = 0 := by rw [← ho]; exact cas_cls (slot_cas (i := s) (by omega))
        refine e_aload_n C d_Sg_restore_20 rfl ?_
        refine e_geto (o2 := 18) C fl_Sg_37 (by decide) rfl rfl rfl d_Sg_restore_21 ?_
        refine e_aload_n C d_Sg_restore_24 rfl ?_
        refine e_geta C fl_Sg_47 (by decide) rfl rfl d_Sg_restore_25 ?_
        refine e_iload_n C d_Sg_restore_28 rfl ?_
        refine e_aald (n := 3) (o2 := o) C (by decide) rfl (by decide) rfl rfl (by decide) (by omega) (by omega) ho d_Sg_restore_29 ?_
        refine e_callVV C ok_Ca_copyFrom lk_Sg_116 (o := 18) (by decide) rfl [_] rfl rfl (Nat.le_of_ble_eq_true rfl) (by decide) (Nat.le_of_ble_eq_true rfl) d_Sg_restore_30 (k_Ca_copyFrom (by decide) (by rw [← ho]; exact slot_cas (i := s) (by omega)) (by omega)) (fun u_30 h_30 => ?_)
        subst h_30
        refine e_aload_n C d_Sg_restore_33 rfl ?_
        refine e_geto (o2 := 9) C fl_Sg_43 (by decide) rfl rfl rfl d_Sg_restore_34 ?_
        refine e_iconst C d_Sg_restore_37 ?_
        refine e_puti C fp_Sg_119 (by decide) rfl rfl (by omega) d_Sg_restore_38 ?_
        rw [wr_so, so_ne (show 9 ≠ 18 by decide)]
        refine e_aload_n C d_Sg_restore_41 rfl ?_
        refine e_callVV C ok_Sg_noteChange lk_Sg_123 (o := 0) (by decide) rfl [] rfl rfl (Nat.le_of_ble_eq_true rfl) (by decide) (Nat.le_of_ble_eq_true rfl) d_Sg_restore_42 (k_Sg_noteC) (fun u_42 h_42 => ?_)
        subst h_42
        refine e_iconst C d_Sg_restore_45 ?_
        refine e_zret C F rfl d_Sg_restore_46 (by omega) ?_
        have eo : ∀ q, q ≠ 11 → q ≠ 12 → q ≠ 9 → q ≠ 18 → ntC (so (so σ 18 (c_copy (σ 18) (σ o))) 9 (cu (σ 9) 0 0 0)) q = σ q := fun q a b c d => by rw [ntC_o a b, so_ne c, so_ne d]
        have e9 : ntC (so (so σ 18 (c_copy (σ 18) (σ o))) 9 (cu (σ 9) 0 0 0)) 9 = cu (σ 9) 0 0 0 := by rw [ntC_o (by decide) (by decide), so_at]
        have e18 : ntC (so (so σ 18 (c_copy (σ 18) (σ o))) 9 (cu (σ 9) 0 0 0)) 18 = c_copy (σ 18) (σ o) := by rw [ntC_o (by decide) (by decide), so_ne (by decide), so_at]
        have hd : ∀ S, DI S (ntC (so (so σ 18 (c_copy (σ 18) (σ o))) 9 (cu (σ 9) 0 0 0)) 11) := fun S => ntC_DI S _
        have hgm : ∀ φ P y, gI φ P y (ntC (so (so σ 18 (c_copy (σ 18) (σ o))) 9 (cu (σ 9) 0 0 0)) 12) := fun φ P y => ntC_gI φ P y _
        generalize ntC (so (so σ 18 (c_copy (σ 18) (σ o))) 9 (cu (σ 9) 0 0 0)) = u at eo e9 e18 hd hgm ⊢
        refine ⟨rfl, eo 1 (by decide) (by decide) (by decide) (by decide), ⟨?_, ?_⟩, ⟨?_, ?_⟩, ⟨?_, ?_, fun j a b => ?_⟩, fun q a b => ?_, hd _, hgm _ _ _, ?_, ?_, ?_, ?_⟩
        · rw [eo 7 (by decide) (by decide) (by decide) (by decide)]; exact h.e7
        · rw [eo 8 (by decide) (by decide) (by decide) (by decide)]; exact h.1.2
        · rw [e18]
          have := h4.2 hok.2
          rw [ho] at this
          exact (CB_copy hN.2 hG.2 this).mono
        · rw [eo 17 (by decide) (by decide) (by decide) (by decide)]; exact h.b.mono
        · rw [e9, cu_s]; rfl
        · rw [e9, cu_f (by decide)]; exact h.hi.2.1
        · have b : j < 0 := b
          omega
        · rw [eo 0 (by decide) (by decide) (by decide) (by decide), eo _ (by omega) (by omega) (by omega) (by omega)]
          exact ⟨(h.ki q a b).1, fun z => ((h.ki q a b).2 z).mono⟩
        · rw [eo 13 (by decide) (by decide) (by decide) (by decide)]; exact h.ru
        · rw [eo 2 (by decide) (by decide) (by decide) (by decide)]; exact h.ta
        · rw [eo 0 (by decide) (by decide) (by decide) (by decide)]; exact h.fp
        · unfold RdI; rw [eo 4 (by decide) (by decide) (by decide) (by decide), eo 16 (by decide) (by decide) (by decide) (by decide)]; exact h.rd
      · have hv0 : ¬ okRe S s := fun z => z.2 (by omega)
        refine e_iconst C d_Sg_restore_18 ?_
        refine e_zret C F rfl d_Sg_restore_19 (by omega) ?_
        exact hno hv0
