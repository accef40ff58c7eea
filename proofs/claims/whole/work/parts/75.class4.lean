/-! the class's calls that ask, on -/
theorem K_Sg_never {σ : St} {S : SS} {n k : Int} (hp : PI S n) (h : IVc S n σ) (r1 : R32 k) : CtI M_Sg_never [.inr (.inr (0, 0)), .inl k] σ (fun r u => r = rvNever S k ∧ PC S n σ u) := by
  intro g C F
  have hPl := h.pl
  have e7 := h.e7
  have hN := h.1.2.1
  have hG := h.1.2.2.1
  have hn := hp.n
  unfold rvNever at F
  refine e_iload_n C d_Sg_never_0 rfl ?_
  refine e_iconst C d_Sg_never_1 ?_
  refine e_icmp_lt C 12 d_Sg_never_2 (by decide) (by omega) (by omega) (fun c_2 => ?_) (fun c_2 => ?_)
  · rw [if_neg (by omega)] at F
    refine e_iconst C d_Sg_never_12 ?_
    refine e_iret C F rfl d_Sg_never_13 (by omega) ?_
    exact ⟨rfl, h.same⟩
  · refine e_iload_n C d_Sg_never_5 rfl ?_
    refine e_sipush C d_Sg_never_6 (by decide) ?_
    refine e_icmp_le C 14 d_Sg_never_9 (by decide) (by omega) (by omega) (fun c_9 => ?_) (fun c_9 => ?_)
    · rw [if_pos (by omega)] at F
      rw [← SF_id σ 19 (by decide)]
      refine e_aload_n C d_Sg_never_14 rfl ?_
      refine e_geto (o2 := 10) C fl_Sg_58 (by decide) rfl rfl rfl d_Sg_never_15 ?_
      refine e_aload_n C d_Sg_never_18 rfl ?_
      refine e_geto (o2 := 7) C fl_Sg_26 (by decide) rfl rfl rfl d_Sg_never_19 ?_
      refine e_aload_n C d_Sg_never_22 rfl ?_
      refine e_geto (o2 := 18) C fl_Sg_37 (by decide) rfl rfl rfl d_Sg_never_23 ?_
      refine e_iload_n C d_Sg_never_26 rfl ?_
      refine e_callVV C ok_Ou_goThrough lk_Sg_247 (o := 10) (by decide) rfl [_, _, _] rfl rfl (Nat.le_of_ble_eq_true rfl) (by decide) (Nat.le_of_ble_eq_true rfl) d_Sg_never_27 (k_Ou_goThrough (φ := sF S) (B := 20000 * n) hPl h.y.2 (by omega) (by omega)) (fun u_27 h_27 => ?_)
      obtain ⟨l', hl', rfl⟩ := h_27
      have hS := many_sim hPl k.toNat k (20000 * n) _ (sY S) (CK_copy (c := σ 19) h.y.2) (by omega) (by omega) (by omega) (copy_sim (by rw [e7]; exact hN.2) (by rw [e7]; exact hG.2) (by rw [e7]; exact h.y.1))
      generalize c_many (sF S) (σ 7) (σ 8 0 0) k.toNat k (c_copy (σ 19) (σ 18)) = c' at hS ⊢
      have f7 : SF σ 19 l' c' 7 = σ 7 := by unfold SF; rw [so_ne (by decide), so_ne (by decide)]
      have f18 : SF σ 19 l' c' 18 = σ 18 := by unfold SF; rw [so_ne (by decide), so_ne (by decide)]
      have f19 : SF σ 19 l' c' 19 = c' := by unfold SF; rw [so_at]
      rw [e7] at hS
      refine e_aload_n C d_Sg_never_30 rfl ?_
      refine e_geto (o2 := 10) C fl_Sg_58 (by decide) rfl rfl rfl d_Sg_never_31 ?_
      refine e_aload_n C d_Sg_never_34 rfl ?_
      refine e_geto (o2 := 7) C fl_Sg_26 (by decide) rfl rfl rfl d_Sg_never_35 ?_
      refine e_aload_n C d_Sg_never_38 rfl ?_
      refine e_geto (o2 := 18) C fl_Sg_37 (by decide) rfl rfl rfl d_Sg_never_39 ?_
      refine e_callIV C ok_Ou_sleepless lk_Sg_250 (o := 10) (by decide) rfl [_, _] rfl rfl (Nat.le_of_ble_eq_true rfl) (by decide) (Nat.le_of_ble_eq_true rfl) d_Sg_never_42 (k_Ou_sleepless (by rw [f7, e7]; exact hG)) (fun v_42 u_42 q_42 h_42 => ?_)
      obtain ⟨h_42, e_42⟩ := h_42
      rw [e_42]
      rw [f7, f18, f19, e7] at h_42
      refine e_iret C F rfl d_Sg_never_45 (by omega) ?_
      refine ⟨?_, h.sf (by decide) hl'⟩
      rw [h_42]
      refine itr_cong _ _ _ (fun j x a b => ?_)
      unfold nvs
      rw [hS.1.2.1 7 j (by decide) (by decide) a (by omega), h.y.1.1.2.1 7 j (by decide) (by decide) a (by omega)]
    · rw [if_neg (by omega)] at F
      refine e_iconst C d_Sg_never_12 ?_
      refine e_iret C F rfl d_Sg_never_13 (by omega) ?_
      exact ⟨rfl, h.same⟩
theorem spr_cong {P y c : Cs} (hG : 0 ≤ P 4 0) (h : ∀ k, 0 ≤ k → k < P 4 0 → y 7 k = c 7 k) : spr P y = spr P c := by
  unfold spr
  by_cases z : P 4 0 = 0
  · rw [if_pos z, if_pos z]
  · rw [if_neg z, if_neg z]
    have e : itr (sps y) (P 4 0 - 1).toNat 1 (y 7 0, y 7 0) = itr (sps c) (P 4 0 - 1).toNat 1 (c 7 0, c 7 0) := by
      rw [h 0 (by omega) (by omega)]
      refine itr_cong _ _ _ (fun j x a b => ?_)
      unfold sps
      rw [h j (by omega) (by omega)]
    rw [e]
theorem K_Sg_spread {σ : St} {S : SS} {n k : Int} (hp : PI S n) (h : IVc S n σ) (r1 : R32 k) : CtI M_Sg_spread [.inr (.inr (0, 0)), .inl k] σ (fun r u => r = rvSpread S k ∧ PC S n σ u) := by
  intro g C F
  have hPl := h.pl
  have e7 := h.e7
  have hN := h.1.2.1
  have hG := h.1.2.2.1
  have hn := hp.n
  unfold rvSpread at F
  refine e_iload_n C d_Sg_spread_0 rfl ?_
  refine e_if_lt C 11 d_Sg_spread_1 (by decide) (by omega) (fun c_1 => ?_) (fun c_1 => ?_)
  · rw [if_neg (by omega)] at F
    refine e_iconst C d_Sg_spread_11 ?_
    refine e_iret C F rfl d_Sg_spread_12 (by omega) ?_
    exact ⟨rfl, h.same⟩
  · refine e_iload_n C d_Sg_spread_4 rfl ?_
    refine e_sipush C d_Sg_spread_5 (by decide) ?_
    refine e_icmp_le C 13 d_Sg_spread_8 (by decide) (by omega) (by omega) (fun c_8 => ?_) (fun c_8 => ?_)
    · rw [if_pos (by omega)] at F
      rw [← SF_id σ 19 (by decide)]
      refine e_aload_n C d_Sg_spread_13 rfl ?_
      refine e_geto (o2 := 10) C fl_Sg_58 (by decide) rfl rfl rfl d_Sg_spread_14 ?_
      refine e_aload_n C d_Sg_spread_17 rfl ?_
      refine e_geto (o2 := 7) C fl_Sg_26 (by decide) rfl rfl rfl d_Sg_spread_18 ?_
      refine e_aload_n C d_Sg_spread_21 rfl ?_
      refine e_geto (o2 := 18) C fl_Sg_37 (by decide) rfl rfl rfl d_Sg_spread_22 ?_
      refine e_iload_n C d_Sg_spread_25 rfl ?_
      refine e_callVV C ok_Ou_goThrough lk_Sg_247 (o := 10) (by decide) rfl [_, _, _] rfl rfl (Nat.le_of_ble_eq_true rfl) (by decide) (Nat.le_of_ble_eq_true rfl) d_Sg_spread_26 (k_Ou_goThrough (φ := sF S) (B := 20000 * n) hPl h.y.2 (by omega) (by omega)) (fun u_26 h_26 => ?_)
      obtain ⟨l', hl', rfl⟩ := h_26
      have hS := many_sim hPl k.toNat k (20000 * n) _ (sY S) (CK_copy (c := σ 19) h.y.2) (by omega) (by omega) (by omega) (copy_sim (by rw [e7]; exact hN.2) (by rw [e7]; exact hG.2) (by rw [e7]; exact h.y.1))
      generalize c_many (sF S) (σ 7) (σ 8 0 0) k.toNat k (c_copy (σ 19) (σ 18)) = c' at hS ⊢
      have f7 : SF σ 19 l' c' 7 = σ 7 := by unfold SF; rw [so_ne (by decide), so_ne (by decide)]
      have f19 : SF σ 19 l' c' 19 = c' := by unfold SF; rw [so_at]
      rw [e7] at hS
      refine e_aload_n C d_Sg_spread_29 rfl ?_
      refine e_geto (o2 := 10) C fl_Sg_58 (by decide) rfl rfl rfl d_Sg_spread_30 ?_
      refine e_aload_n C d_Sg_spread_33 rfl ?_
      refine e_geto (o2 := 7) C fl_Sg_26 (by decide) rfl rfl rfl d_Sg_spread_34 ?_
      refine e_callIV C ok_Ou_spreadOfSleep lk_Sg_253 (o := 10) (by decide) rfl [_] rfl rfl (Nat.le_of_ble_eq_true rfl) (by decide) (Nat.le_of_ble_eq_true rfl) d_Sg_spread_37 (k_Ou_spreadOfSleep (by rw [f7, e7]; exact hG) (by rw [f7, f19, e7]; intro j a b; rw [← hS.1.2.1 7 j (by decide) (by decide) a b]; have u2 := hp.y.2.2.1 j a b; have u3 := (its_7 h.1.2 k.toNat _ _ hp.y.1 (by omega) j a b).1; omega)) (fun v_37 u_37 q_37 h_37 => ?_)
      obtain ⟨h_37, e_37⟩ := h_37
      rw [e_37]
      rw [f7, f19, e7] at h_37
      refine e_iret C F rfl d_Sg_spread_40 (by omega) ?_
      refine ⟨?_, h.sf (by decide) hl'⟩
      rw [h_37]
      exact spr_cong hG.1 (fun j a b => (hS.1.2.1 7 j (by decide) (by decide) a b).symm)
    · rw [if_neg (by omega)] at F
      refine e_iconst C d_Sg_spread_11 ?_
      refine e_iret C F rfl d_Sg_spread_12 (by omega) ?_
      exact ⟨rfl, h.same⟩
theorem OF_id (σ : St) : OF σ (σ 10) (σ 8) (σ 19) = σ := by unfold OF; rw [so_id, SF_id σ 19 (by decide)]
theorem IVc.of {S : SS} {n : Int} {σ : St} {d' l' c' : Cs} (h : IVc S n σ) (hl : LSm (σ 8) l') : PC S n σ (OF σ d' l' c') := by
  have e : ∀ q, q ≠ 10 → q ≠ 8 → q ≠ 19 → OF σ d' l' c' q = σ q := fun q a b c => OF_o a b c
  refine ⟨e 1 (by decide) (by decide) (by decide), h.keep (fun q hq => ?_) ?_ ?_ ?_ ?_⟩
  · simp only [scr, List.mem_cons, List.not_mem_nil, or_false] at hq
    exact e q (by omega) (by omega) (by omega)
  · show LSm (σ 8) (OF σ d' l' c' 8)
    unfold OF SF
    rw [so_ne (by decide), so_at]
    exact hl
  · rw [e 11 (by decide) (by decide) (by decide)]; exact h.di
  · rw [e 12 (by decide) (by decide) (by decide)]; exact h.ga
  · rw [e 13 (by decide) (by decide) (by decide)]; exact h.ru
theorem K_Sg_shakeWorst {σ : St} {S : SS} {n k w : Int} (hp : PI S n) (h : IVc S n σ) (r1 : R32 k) (r2 : R32 w) : CtI M_Sg_shakeWorst [.inr (.inr (0, 0)), .inl k, .inl w] σ (fun r u => r = rvWorst S k w ∧ PC S n σ u) := by
  intro g C F
  have hPl := h.pl
  have e7 := h.e7
  have hn := hp.n
  have hno : ¬ ((1 ≤ k ∧ k ≤ 1000) ∧ 0 ≤ w ∧ w ≤ 1) → -1 = rvWorst S k w ∧ PC S n σ σ := by
    intro z
    unfold rvWorst
    rw [if_neg z]
    exact ⟨rfl, h.same⟩
  refine e_iload_n C d_Sg_shakeWorst_0 rfl ?_
  refine e_iconst C d_Sg_shakeWorst_1 ?_
  refine e_icmp_lt C 21 d_Sg_shakeWorst_2 (by decide) (by omega) (by omega) (fun c_2 => ?_) (fun c_2 => ?_)
  · have hv0 : ¬ ((1 ≤ k ∧ k ≤ 1000) ∧ 0 ≤ w ∧ w ≤ 1) := by omega
    refine e_iconst C d_Sg_shakeWorst_21 ?_
    refine e_iret C F rfl d_Sg_shakeWorst_22 (by omega) ?_
    exact hno hv0
  · refine e_iload_n C d_Sg_shakeWorst_5 rfl ?_
    refine e_sipush C d_Sg_shakeWorst_6 (by decide) ?_
    refine e_icmp_gt C 21 d_Sg_shakeWorst_9 (by decide) (by omega) (by omega) (fun c_9 => ?_) (fun c_9 => ?_)
    · have hv0 : ¬ ((1 ≤ k ∧ k ≤ 1000) ∧ 0 ≤ w ∧ w ≤ 1) := by omega
      refine e_iconst C d_Sg_shakeWorst_21 ?_
      refine e_iret C F rfl d_Sg_shakeWorst_22 (by omega) ?_
      exact hno hv0
    · refine e_iload_n C d_Sg_shakeWorst_12 rfl ?_
      refine e_if_lt C 21 d_Sg_shakeWorst_13 (by decide) (by omega) (fun c_13 => ?_) (fun c_13 => ?_)
      · have hv0 : ¬ ((1 ≤ k ∧ k ≤ 1000) ∧ 0 ≤ w ∧ w ≤ 1) := by omega
        refine e_iconst C d_Sg_shakeWorst_21 ?_
        refine e_iret C F rfl d_Sg_shakeWorst_22 (by omega) ?_
        exact hno hv0
      · refine e_iload_n C d_Sg_shakeWorst_16 rfl ?_
        refine e_iconst C d_Sg_shakeWorst_17 ?_
        refine e_icmp_le C 23 d_Sg_shakeWorst_18 (by decide) (by omega) (by omega) (fun c_18 => ?_) (fun c_18 => ?_)
        · unfold rvWorst at F
          rw [if_pos (show (1 ≤ k ∧ k ≤ 1000) ∧ 0 ≤ w ∧ w ≤ 1 by omega)] at F
          rw [← OF_id σ]
          refine e_aload_n C d_Sg_shakeWorst_23 rfl ?_
          refine e_geto (o2 := 10) C fl_Sg_58 (by decide) rfl rfl rfl d_Sg_shakeWorst_24 ?_
          refine e_aload_n C d_Sg_shakeWorst_27 rfl ?_
          refine e_geto (o2 := 7) C fl_Sg_26 (by decide) rfl rfl rfl d_Sg_shakeWorst_28 ?_
          refine e_aload_n C d_Sg_shakeWorst_31 rfl ?_
          refine e_geto (o2 := 18) C fl_Sg_37 (by decide) rfl rfl rfl d_Sg_shakeWorst_32 ?_
          refine e_iload_n C d_Sg_shakeWorst_35 rfl ?_
          refine e_callVV C ok_Ou_findWorst lk_Sg_257 (o := 10) (by decide) rfl [_, _, _] rfl rfl (Nat.le_of_ble_eq_true rfl) (by decide) (Nat.le_of_ble_eq_true rfl) d_Sg_shakeWorst_36 (k_Ou_findWorst (φ := sF S) (y := sY S) (B := 20000 * n) hPl (by rw [e7]; exact h.y.1) h.y.2 (by omega) (by omega)) (fun u_36 h_36 => ?_)
          obtain ⟨l', c', hl', rfl⟩ := h_36
          rw [e7]
          refine e_iload_n C d_Sg_shakeWorst_39 rfl ?_
          refine e_if_ne C 53 d_Sg_shakeWorst_40 (by decide) (by omega) (fun c_40 => ?_) (fun c_40 => ?_)
          · rw [if_neg c_40] at F
            refine e_aload_n C d_Sg_shakeWorst_53 rfl ?_
            refine e_geto (o2 := 10) C fl_Sg_58 (by decide) rfl rfl rfl d_Sg_shakeWorst_54 ?_
            refine e_geti C fl_Sg_263 (by decide) rfl rfl d_Sg_shakeWorst_57 (fun r_57 => ?_)
            try simp only [OF_10, cu_s, cu_f, ne_eq, Nat.reduceEqDiff, not_false_eq_true] at r_57 ⊢
            refine e_iret C F rfl d_Sg_shakeWorst_60 (by omega) ?_
            exact ⟨rfl, h.of hl'⟩
          · rw [if_pos c_40] at F
            refine e_aload_n C d_Sg_shakeWorst_43 rfl ?_
            refine e_geto (o2 := 10) C fl_Sg_58 (by decide) rfl rfl rfl d_Sg_shakeWorst_44 ?_
            refine e_geti C fl_Sg_260 (by decide) rfl rfl d_Sg_shakeWorst_47 (fun r_47 => ?_)
            try simp only [OF_10, cu_s, cu_f, ne_eq, Nat.reduceEqDiff, not_false_eq_true] at r_47 ⊢
            refine e_goto C 60 d_Sg_shakeWorst_50 (by decide) ?_
            refine e_iret C F rfl d_Sg_shakeWorst_60 (by omega) ?_
            exact ⟨rfl, h.of hl'⟩
        · have hv0 : ¬ ((1 ≤ k ∧ k ≤ 1000) ∧ 0 ≤ w ∧ w ≤ 1) := by omega
          refine e_iconst C d_Sg_shakeWorst_21 ?_
          refine e_iret C F rfl d_Sg_shakeWorst_22 (by omega) ?_
          exact hno hv0
theorem lgb_eq {P c y : Cs} (h : SIM P c y) (hN : 0 ≤ P 3 0) (hG : 0 ≤ P 4 0) : itr (bstep c) (P 4 0).toNat 0 (-2) = lgb P y := by
  have hh : ∀ (n : Nat) (i b : Int), 0 ≤ i → i + n ≤ P 4 0 → (b = -2 ∨ (0 ≤ b ∧ b < i)) → itr (bstep c) n i b = itr (lgs P y) n i b := by
    intro n
    induction n with
    | zero => intro i b _ _ _; rfl
    | succ n ih =>
      intro i b h0 h1 hb
      have e : bstep c i b = lgs P y i b := by
        unfold bstep lgs
        rw [psf_eq h hN (a := i) ⟨h0, by omega⟩, h.1.2.1 8 i (by decide) (by decide) h0 (by omega)]
        rcases hb with z | z
        · simp only [z, true_or]
        · rw [h.1.2.1 8 b (by decide) (by decide) z.1 (by omega)]
      rw [itr_S, itr_S, e]
      refine ih (i + 1) _ (by omega) (by omega) ?_
      unfold lgs
      split <;> omega
  exact hh _ 0 (-2) (by omega) (by omega) (by omega)
theorem lgb_in {P y : Cs} (hG : 0 ≤ P 4 0) : lgb P y = -2 ∨ (0 ≤ lgb P y ∧ lgb P y < P 4 0) := by
  have hh : ∀ (n : Nat) (i b : Int), 0 ≤ i → i + n ≤ P 4 0 → (b = -2 ∨ (0 ≤ b ∧ b < P 4 0)) → (itr (lgs P y) n i b = -2 ∨ (0 ≤ itr (lgs P y) n i b ∧ itr (lgs P y) n i b < P 4 0)) := by
    intro n
    induction n with
    | zero => intro i b _ _ hb; exact hb
    | succ n ih =>
      intro i b h0 h1 hb
      rw [itr_S]
      refine ih (i + 1) _ (by omega) (by omega) ?_
      unfold lgs
      split <;> omega
  exact hh _ 0 (-2) (by omega) (by omega) (by omega)
theorem K_Sg_longest {σ : St} {S : SS} {n w : Int} (hp : PI S n) (h : IVc S n σ) (r1 : R32 w) : CtI M_Sg_longest [.inr (.inr (0, 0)), .inl w] σ (fun r u => r = rvLong S w ∧ PC S n σ u) := by
  intro g C F
  have hPl := h.pl
  have e7 := h.e7
  have hN := h.1.2.1
  have hG := h.1.2.2.1
  have hn := hp.n
  have hlg := lgb_eq h.y.1 hN.1 hG.1
  have hlr := lgb_in (P := sP S) (y := sY S) hG.1
  unfold rvLong at F
  refine e_iload_n C d_Sg_longest_0 rfl ?_
  refine e_if_eq C 11 d_Sg_longest_1 (by decide) (by omega) (fun c_1 => ?_) (fun c_1 => ?_)
  · rw [if_pos (by omega)] at F
    refine e_aload_n C d_Sg_longest_11 rfl ?_
    refine e_geto (o2 := 18) C fl_Sg_37 (by decide) rfl rfl rfl d_Sg_longest_12 ?_
    refine e_aload_n C d_Sg_longest_15 rfl ?_
    refine e_geto (o2 := 7) C fl_Sg_26 (by decide) rfl rfl rfl d_Sg_longest_16 ?_
    refine e_geti C fl_Sg_241 (by decide) rfl rfl d_Sg_longest_19 (fun r_19 => ?_)
    try simp only [e7] at r_19 ⊢
    refine e_callIV C ok_Ca_longestOnWatch lk_Sg_266 (o := 18) (by decide) rfl [_] rfl rfl (Nat.le_of_ble_eq_true rfl) (by decide) (Nat.le_of_ble_eq_true rfl) d_Sg_longest_22 (k_Ca_longestOnWatch (by decide) hG) (fun v_22 u_22 q_22 h_22 => ?_)
    obtain ⟨rfl, e_22⟩ := h_22
    rw [e_22, hlg]
    generalize lgb (sP S) (sY S) = b at F hlr ⊢
    refine e_istore_n C d_Sg_longest_25 (by decide) rfl ?_
    refine e_iload_n C d_Sg_longest_26 rfl ?_
    refine e_if_eq C 36 d_Sg_longest_27 (by decide) (by omega) (fun c_27 => ?_) (fun c_27 => ?_)
    · rw [if_pos (by omega)] at F
      refine e_iload_n C d_Sg_longest_36 rfl ?_
      refine e_iret C F rfl d_Sg_longest_37 (by omega) ?_
      exact ⟨rfl, h.same⟩
    · refine e_iload_n C d_Sg_longest_30 rfl ?_
      refine e_bipush C d_Sg_longest_31 (by decide) ?_
      refine e_icmp_ne C 38 d_Sg_longest_33 (by decide) (by omega) (by omega) (fun c_33 => ?_) (fun c_33 => ?_)
      · rw [if_neg (by omega)] at F
        rw [← SF_id σ 19 (by decide)]
        refine e_aload_n C d_Sg_longest_38 rfl ?_
        refine e_geto (o2 := 10) C fl_Sg_58 (by decide) rfl rfl rfl d_Sg_longest_39 ?_
        refine e_geto (o2 := 19) C fl_Sg_206 (by decide) rfl rfl rfl d_Sg_longest_42 ?_
        refine e_aload_n C d_Sg_longest_45 rfl ?_
        refine e_geto (o2 := 18) C fl_Sg_37 (by decide) rfl rfl rfl d_Sg_longest_46 ?_
        refine e_callVV C ok_Ca_copyFrom lk_Sg_116 (o := 19) (by decide) rfl [_] rfl rfl (Nat.le_of_ble_eq_true rfl) (by decide) (Nat.le_of_ble_eq_true rfl) d_Sg_longest_49 (s_Ca_copy (by decide) (by decide)) (fun u_49 h_49 => ?_)
        subst h_49
        refine e_aload_n C d_Sg_longest_52 rfl ?_
        refine e_geto (o2 := 10) C fl_Sg_58 (by decide) rfl rfl rfl d_Sg_longest_53 ?_
        refine e_aload_n C d_Sg_longest_56 rfl ?_
        refine e_geto (o2 := 7) C fl_Sg_26 (by decide) rfl rfl rfl d_Sg_longest_57 ?_
        refine e_iload_n C d_Sg_longest_60 rfl ?_
        refine e_sipush C d_Sg_longest_61 (by decide) ?_
        refine e_callIV C ok_Ou_minutesToBed lk_Sg_269 (o := 10) (by decide) rfl [_, _, _] rfl rfl (Nat.le_of_ble_eq_true rfl) (by decide) (Nat.le_of_ble_eq_true rfl) d_Sg_longest_64 (k_Ou_minutesToBed (φ := sF S) (B := 20000 * n) hPl (CK_copy h.y.2) (by omega) (by omega) (by omega)) (fun v_64 u_64 q_64 h_64 => ?_)
        obtain ⟨h_64, l', c', hl', rfl⟩ := h_64
        have e9 : c_copy (σ 19) (σ 18) 9 b = sY S 9 b := by rw [cp_9 (by omega)]; exact (h.y.1.1.2.1 9 b (by decide) (by decide) (by omega) (by omega)).symm
        have hb := bed_eq (m := 2000) (a := b) (b := sY S 9 b) hPl (by rw [e7]; omega) 2001 0 (20000 * n) (c_copy (σ 19) (σ 18)) (sY S) (copy_sim (by rw [e7]; exact hN.2) (by rw [e7]; exact hG.2) (by rw [e7]; exact h.y.1)) (CK_copy h.y.2) (by omega) (by omega) (by omega) (by omega) e9
        rw [e9, show ((2000 : Int) + 1).toNat = 2001 from rfl, hb, e7] at h_64
        refine e_iret C F rfl d_Sg_longest_67 (by omega) ?_
        exact ⟨h_64, h.sf (by decide) hl'⟩
      · rw [if_pos (by omega)] at F
        refine e_iload_n C d_Sg_longest_36 rfl ?_
        refine e_iret C F rfl d_Sg_longest_37 (by omega) ?_
        exact ⟨rfl, h.same⟩
  · refine e_iload_n C d_Sg_longest_4 rfl ?_
    refine e_iconst C d_Sg_longest_5 ?_
    refine e_icmp_eq C 11 d_Sg_longest_6 (by decide) (by omega) (by omega) (fun c_6 => ?_) (fun c_6 => ?_)
    · rw [if_pos (by omega)] at F
      refine e_aload_n C d_Sg_longest_11 rfl ?_
      refine e_geto (o2 := 18) C fl_Sg_37 (by decide) rfl rfl rfl d_Sg_longest_12 ?_
      refine e_aload_n C d_Sg_longest_15 rfl ?_
      refine e_geto (o2 := 7) C fl_Sg_26 (by decide) rfl rfl rfl d_Sg_longest_16 ?_
      refine e_geti C fl_Sg_241 (by decide) rfl rfl d_Sg_longest_19 (fun r_19 => ?_)
      try simp only [e7] at r_19 ⊢
      refine e_callIV C ok_Ca_longestOnWatch lk_Sg_266 (o := 18) (by decide) rfl [_] rfl rfl (Nat.le_of_ble_eq_true rfl) (by decide) (Nat.le_of_ble_eq_true rfl) d_Sg_longest_22 (k_Ca_longestOnWatch (by decide) hG) (fun v_22 u_22 q_22 h_22 => ?_)
      obtain ⟨rfl, e_22⟩ := h_22
      rw [e_22, hlg]
      generalize lgb (sP S) (sY S) = b at F hlr ⊢
      refine e_istore_n C d_Sg_longest_25 (by decide) rfl ?_
      refine e_iload_n C d_Sg_longest_26 rfl ?_
      refine e_if_eq C 36 d_Sg_longest_27 (by decide) (by omega) (fun c_27 => ?_) (fun c_27 => ?_)
      · rw [if_pos (by omega)] at F
        refine e_iload_n C d_Sg_longest_36 rfl ?_
        refine e_iret C F rfl d_Sg_longest_37 (by omega) ?_
        exact ⟨rfl, h.same⟩
      · refine e_iload_n C d_Sg_longest_30 rfl ?_
        refine e_bipush C d_Sg_longest_31 (by decide) ?_
        refine e_icmp_ne C 38 d_Sg_longest_33 (by decide) (by omega) (by omega) (fun c_33 => ?_) (fun c_33 => ?_)
        · rw [if_neg (by omega)] at F
          rw [← SF_id σ 19 (by decide)]
          refine e_aload_n C d_Sg_longest_38 rfl ?_
          refine e_geto (o2 := 10) C fl_Sg_58 (by decide) rfl rfl rfl d_Sg_longest_39 ?_
          refine e_geto (o2 := 19) C fl_Sg_206 (by decide) rfl rfl rfl d_Sg_longest_42 ?_
          refine e_aload_n C d_Sg_longest_45 rfl ?_
          refine e_geto (o2 := 18) C fl_Sg_37 (by decide) rfl rfl rfl d_Sg_longest_46 ?_
          refine e_callVV C ok_Ca_copyFrom lk_Sg_116 (o := 19) (by decide) rfl [_] rfl rfl (Nat.le_of_ble_eq_true rfl) (by decide) (Nat.le_of_ble_eq_true rfl) d_Sg_longest_49 (s_Ca_copy (by decide) (by decide)) (fun u_49 h_49 => ?_)
          subst h_49
          refine e_aload_n C d_Sg_longest_52 rfl ?_
          refine e_geto (o2 := 10) C fl_Sg_58 (by decide) rfl rfl rfl d_Sg_longest_53 ?_
          refine e_aload_n C d_Sg_longest_56 rfl ?_
          refine e_geto (o2 := 7) C fl_Sg_26 (by decide) rfl rfl rfl d_Sg_longest_57 ?_
          refine e_iload_n C d_Sg_longest_60 rfl ?_
          refine e_sipush C d_Sg_longest_61 (by decide) ?_
          refine e_callIV C ok_Ou_minutesToBed lk_Sg_269 (o := 10) (by decide) rfl [_, _, _] rfl rfl (Nat.le_of_ble_eq_true rfl) (by decide) (Nat.le_of_ble_eq_true rfl) d_Sg_longest_64 (k_Ou_minutesToBed (φ := sF S) (B := 20000 * n) hPl (CK_copy h.y.2) (by omega) (by omega) (by omega)) (fun v_64 u_64 q_64 h_64 => ?_)
          obtain ⟨h_64, l', c', hl', rfl⟩ := h_64
          have e9 : c_copy (σ 19) (σ 18) 9 b = sY S 9 b := by rw [cp_9 (by omega)]; exact (h.y.1.1.2.1 9 b (by decide) (by decide) (by omega) (by omega)).symm
          have hb := bed_eq (m := 2000) (a := b) (b := sY S 9 b) hPl (by rw [e7]; omega) 2001 0 (20000 * n) (c_copy (σ 19) (σ 18)) (sY S) (copy_sim (by rw [e7]; exact hN.2) (by rw [e7]; exact hG.2) (by rw [e7]; exact h.y.1)) (CK_copy h.y.2) (by omega) (by omega) (by omega) (by omega) e9
          rw [e9, show ((2000 : Int) + 1).toNat = 2001 from rfl, hb, e7] at h_64
          refine e_iret C F rfl d_Sg_longest_67 (by omega) ?_
          exact ⟨h_64, h.sf (by decide) hl'⟩
        · rw [if_pos (by omega)] at F
          refine e_iload_n C d_Sg_longest_36 rfl ?_
          refine e_iret C F rfl d_Sg_longest_37 (by omega) ?_
          exact ⟨rfl, h.same⟩
    · rw [if_neg (by omega)] at F
      refine e_iconst C d_Sg_longest_9 ?_
      refine e_iret C F rfl d_Sg_longest_10 (by omega) ?_
      exact ⟨rfl, h.same⟩
theorem K_Sg_where {σ : St} {S : SS} {n a k : Int} (hp : PI S n) (h : IVc S n σ) (r1 : R32 a) (r2 : R32 k) : CtI M_Sg_where [.inr (.inr (0, 0)), .inl a, .inl k] σ (fun r u => r = rvWhere S a k ∧ PC S n σ u) := by
  intro g C F
  have hPl := h.pl
  have e7 := h.e7
  have hN := h.1.2.1
  have hG := h.1.2.2.1
  have hn := hp.n
  have hno : ¬ ((0 ≤ a ∧ a < sP S 4 0) ∧ 0 ≤ k ∧ k ≤ 2000) → -1 = rvWhere S a k ∧ PC S n σ σ := by
    intro z
    unfold rvWhere
    rw [if_neg z]
    exact ⟨rfl, h.same⟩
  refine e_aload_n C d_Sg_where_0 rfl ?_
  refine e_iload_n C d_Sg_where_1 rfl ?_
  refine e_callIV C ok_Sg_isGuard lk_Sg_159 (o := 0) (by decide) rfl [_] rfl rfl (Nat.le_of_ble_eq_true rfl) (by decide) (Nat.le_of_ble_eq_true rfl) d_Sg_where_2 (s_Sg_isGuard h r1) (fun v_2 u_2 q_2 h_2 => ?_)
  obtain ⟨rfl, e_2⟩ := h_2
  rw [e_2]
  refine e_if_eq C 19 d_Sg_where_5 (by decide) (by split <;> omega) (fun c_5 => ?_) (fun c_5 => ?_)
  · have hv0 : ¬ ((0 ≤ a ∧ a < sP S 4 0) ∧ 0 ≤ k ∧ k ≤ 2000) := fun z => po_f c_5 z.1
    refine e_iconst C d_Sg_where_19 ?_
    refine e_iret C F rfl d_Sg_where_20 (by omega) ?_
    exact hno hv0
  · have hv := po_t c_5
    refine e_iload_n C d_Sg_where_8 rfl ?_
    refine e_if_lt C 19 d_Sg_where_9 (by decide) (by omega) (fun c_9 => ?_) (fun c_9 => ?_)
    · have hv0 : ¬ ((0 ≤ a ∧ a < sP S 4 0) ∧ 0 ≤ k ∧ k ≤ 2000) := by omega
      refine e_iconst C d_Sg_where_19 ?_
      refine e_iret C F rfl d_Sg_where_20 (by omega) ?_
      exact hno hv0
    · refine e_iload_n C d_Sg_where_12 rfl ?_
      refine e_sipush C d_Sg_where_13 (by decide) ?_
      refine e_icmp_le C 21 d_Sg_where_16 (by decide) (by omega) (by omega) (fun c_16 => ?_) (fun c_16 => ?_)
      · unfold rvWhere at F
        rw [if_pos (show (0 ≤ a ∧ a < sP S 4 0) ∧ 0 ≤ k ∧ k ≤ 2000 by omega)] at F
        rw [← SF_id σ 19 (by decide)]
        refine e_aload_n C d_Sg_where_21 rfl ?_
        refine e_geto (o2 := 10) C fl_Sg_58 (by decide) rfl rfl rfl d_Sg_where_22 ?_
        refine e_aload_n C d_Sg_where_25 rfl ?_
        refine e_geto (o2 := 7) C fl_Sg_26 (by decide) rfl rfl rfl d_Sg_where_26 ?_
        refine e_aload_n C d_Sg_where_29 rfl ?_
        refine e_geto (o2 := 18) C fl_Sg_37 (by decide) rfl rfl rfl d_Sg_where_30 ?_
        refine e_iload_n C d_Sg_where_33 rfl ?_
        refine e_callVV C ok_Ou_goThrough lk_Sg_247 (o := 10) (by decide) rfl [_, _, _] rfl rfl (Nat.le_of_ble_eq_true rfl) (by decide) (Nat.le_of_ble_eq_true rfl) d_Sg_where_34 (k_Ou_goThrough (φ := sF S) (B := 20000 * n) hPl h.y.2 (by omega) (by omega)) (fun u_34 h_34 => ?_)
        obtain ⟨l', hl', rfl⟩ := h_34
        have hS := many_sim hPl k.toNat k (20000 * n) _ (sY S) (CK_copy (c := σ 19) h.y.2) (by omega) (by omega) (by omega) (copy_sim (by rw [e7]; exact hN.2) (by rw [e7]; exact hG.2) (by rw [e7]; exact h.y.1))
        generalize c_many (sF S) (σ 7) (σ 8 0 0) k.toNat k (c_copy (σ 19) (σ 18)) = c' at hS ⊢
        have f19 : SF σ 19 l' c' 19 = c' := by unfold SF; rw [so_at]
        rw [e7] at hS
        refine e_aload_n C d_Sg_where_37 rfl ?_
        refine e_geto (o2 := 10) C fl_Sg_58 (by decide) rfl rfl rfl d_Sg_where_38 ?_
        refine e_geto (o2 := 19) C fl_Sg_206 (by decide) rfl rfl rfl d_Sg_where_41 ?_
        refine e_geta C fl_Sg_162 (by decide) rfl rfl d_Sg_where_44 ?_
        refine e_iload_n C d_Sg_where_47 rfl ?_
        refine e_iald (n := 12) C (by decide) rfl (by decide) rfl rfl (by decide) (by omega) (by omega) d_Sg_where_48 (fun r_48 => ?_)
        refine e_iret C F rfl d_Sg_where_49 (by omega) ?_
        refine ⟨?_, h.sf (by decide) hl'⟩
        rw [f19]
        exact (psf_eq hS hN.1 hv).symm
      · have hv0 : ¬ ((0 ≤ a ∧ a < sP S 4 0) ∧ 0 ≤ k ∧ k ≤ 2000) := by omega
        refine e_iconst C d_Sg_where_19 ?_
        refine e_iret C F rfl d_Sg_where_20 (by omega) ?_
        exact hno hv0
