/-! the class's calls that ask, the rest; the tape -/
theorem GF_id (σ : St) : GF σ (σ 12) (σ 8) (σ 21) = σ := by unfold GF; rw [so_id, SF_id σ 21 (by decide)]
theorem US_id (σ : St) : UFs σ (σ 13) (σ 8) (σ 22) = σ := by unfold UFs; rw [so_id, SF_id σ 22 (by decide)]
theorem IVc.gf {S : SS} {n : Int} {σ : St} {d' l' c' : Cs} (h : IVc S n σ) (hl : LSm (σ 8) l') (hd : gI (sF S) (sP S) (sY S) d') : PC S n σ (GF σ d' l' c') := by
  have e : ∀ q, q ≠ 12 → q ≠ 8 → q ≠ 21 → GF σ d' l' c' q = σ q := fun q a b c => GF_o a b c
  refine ⟨e 1 (by decide) (by decide) (by decide), h.keep (fun q hq => ?_) ?_ ?_ ?_ ?_⟩
  · simp only [scr, List.mem_cons, List.not_mem_nil, or_false] at hq
    exact e q (by omega) (by omega) (by omega)
  · show LSm (σ 8) (GF σ d' l' c' 8)
    unfold GF SF
    rw [so_ne (by decide), so_at]
    exact hl
  · rw [e 11 (by decide) (by decide) (by decide)]; exact h.di
  · rw [GF_12]; exact hd
  · rw [e 13 (by decide) (by decide) (by decide)]; exact h.ru
theorem IVc.us {S : SS} {n : Int} {σ : St} {d' l' c' : Cs} (h : IVc S n σ) (hl : LSm (σ 8) l') (hd : RuI S d') : PC S n σ (UFs σ d' l' c') := by
  have e : ∀ q, q ≠ 13 → q ≠ 8 → q ≠ 22 → UFs σ d' l' c' q = σ q := fun q a b c => US_o a b c
  refine ⟨e 1 (by decide) (by decide) (by decide), h.keep (fun q hq => ?_) ?_ ?_ ?_ ?_⟩
  · simp only [scr, List.mem_cons, List.not_mem_nil, or_false] at hq
    exact e q (by omega) (by omega) (by omega)
  · show LSm (σ 8) (UFs σ d' l' c' 8)
    unfold UFs SF
    rw [so_ne (by decide), so_at]
    exact hl
  · rw [e 11 (by decide) (by decide) (by decide)]; exact h.di
  · rw [e 12 (by decide) (by decide) (by decide)]; exact h.ga
  · rw [US_13]; exact hd
theorem IVc.cks {S : SS} {n : Int} {c y : Cs} (h : CB (sP S) n c y) (hy : CYp (sP S) n y) (hn : 0 ≤ n ∧ n ≤ 600) : CKS (20000 * n) 900000000 (sP S 3 0) c := by
  refine ⟨h.2, fun p a b => ?_⟩
  have h1 := hy.2.1 p a b
  have e0 := h.1.1.1 0 p (by decide) a b
  have e1 := h.1.1.1 1 p (by decide) a b
  omega
theorem K_Sg_rests {σ : St} {S : SS} {n u k i : Int} (hp : PI S n) (h : IVc S n σ) (r1 : R32 u) (r2 : R32 k) (r3 : R32 i) : CtI M_Sg_rests [.inr (.inr (0, 0)), .inl u, .inl k, .inl i] σ (fun r v => r = rvRests S u k i ∧ PC S n σ v) := by
  intro g C F
  have hPl := h.pl
  have e7 := h.e7
  have hn := hp.n
  have hno : ¬ okRests u k i → -1 = rvRests S u k i ∧ PC S n σ σ := by
    intro z
    unfold rvRests
    rw [if_neg z]
    exact ⟨rfl, h.same⟩
  refine e_iload_n C d_Sg_rests_0 rfl ?_
  refine e_iconst C d_Sg_rests_1 ?_
  refine e_icmp_lt C 28 d_Sg_rests_2 (by decide) (by omega) (by omega) (fun c_2 => ?_) (fun c_2 => ?_)
  · have hv0 : ¬ okRests u k i := by omega
    refine e_iconst C d_Sg_rests_28 ?_
    refine e_iret C F rfl d_Sg_rests_29 (by omega) ?_
    exact hno hv0
  · refine e_iload_n C d_Sg_rests_5 rfl ?_
    refine e_bipush C d_Sg_rests_6 (by decide) ?_
    refine e_icmp_gt C 28 d_Sg_rests_8 (by decide) (by omega) (by omega) (fun c_8 => ?_) (fun c_8 => ?_)
    · have hv0 : ¬ okRests u k i := by omega
      refine e_iconst C d_Sg_rests_28 ?_
      refine e_iret C F rfl d_Sg_rests_29 (by omega) ?_
      exact hno hv0
    · refine e_iload_n C d_Sg_rests_11 rfl ?_
      refine e_iconst C d_Sg_rests_12 ?_
      refine e_icmp_lt C 28 d_Sg_rests_13 (by decide) (by omega) (by omega) (fun c_13 => ?_) (fun c_13 => ?_)
      · have hv0 : ¬ okRests u k i := by omega
        refine e_iconst C d_Sg_rests_28 ?_
        refine e_iret C F rfl d_Sg_rests_29 (by omega) ?_
        exact hno hv0
      · refine e_iload_n C d_Sg_rests_16 rfl ?_
        refine e_sipush C d_Sg_rests_17 (by decide) ?_
        refine e_icmp_gt C 28 d_Sg_rests_20 (by decide) (by omega) (by omega) (fun c_20 => ?_) (fun c_20 => ?_)
        · have hv0 : ¬ okRests u k i := by omega
          refine e_iconst C d_Sg_rests_28 ?_
          refine e_iret C F rfl d_Sg_rests_29 (by omega) ?_
          exact hno hv0
        · refine e_iload_n C d_Sg_rests_23 rfl ?_
          refine e_iconst C d_Sg_rests_24 ?_
          refine e_icmp_ge C 30 d_Sg_rests_25 (by decide) (by omega) (by omega) (fun c_25 => ?_) (fun c_25 => ?_)
          · unfold rvRests at F
            rw [if_pos (show okRests u k i by omega)] at F
            rw [← GF_id σ]
            refine e_aload_n C d_Sg_rests_30 rfl ?_
            refine e_geto (o2 := 12) C fl_Sg_72 (by decide) rfl rfl rfl d_Sg_rests_31 ?_
            refine e_aload_n C d_Sg_rests_34 rfl ?_
            refine e_geto (o2 := 7) C fl_Sg_26 (by decide) rfl rfl rfl d_Sg_rests_35 ?_
            refine e_aload_n C d_Sg_rests_38 rfl ?_
            refine e_geto (o2 := 18) C fl_Sg_37 (by decide) rfl rfl rfl d_Sg_rests_39 ?_
            refine e_iload_n C d_Sg_rests_42 rfl ?_
            refine e_iload_n C d_Sg_rests_43 rfl ?_
            refine e_callVV C ok_Ga_findRests lk_Sg_272 (o := 12) (by decide) rfl [_, _, _, _] rfl rfl (Nat.le_of_ble_eq_true rfl) (by decide) (Nat.le_of_ble_eq_true rfl) d_Sg_rests_44 (k_Ga_findRests (φ := sF S) (y := sY S) (B := 20000 * n) (S := 900000000) hPl (by rw [e7]; exact h.y.1) (by rw [e7]; exact IVc.cks h.y hp.y hn) (by omega) (by omega) (by omega) (by omega) (by rw [e7]; exact h.ga)) (fun u_44 h_44 => ?_)
            obtain ⟨d', l', c', hl', rfl, hgi, hd2, rfl, rfl⟩ := h_44
            rw [e7] at hgi
            have hgg := hgi hd2
            have ht := hgg.2 i (by omega)
            rw [← ht] at F
            unfold gtell at F
            refine e_iload_n C d_Sg_rests_47 rfl ?_
            refine e_iconst C d_Sg_rests_48 ?_
            refine e_icmp_ne C 60 d_Sg_rests_49 (by decide) (by omega) (by omega) (fun c_49 => ?_) (fun c_49 => ?_)
            · rw [if_neg c_49] at F
              refine e_iload_n C d_Sg_rests_60 rfl ?_
              refine e_aload_n C d_Sg_rests_61 rfl ?_
              refine e_geto (o2 := 12) C fl_Sg_72 (by decide) rfl rfl rfl d_Sg_rests_62 ?_
              refine e_geti C fl_Sg_276 (by decide) rfl rfl d_Sg_rests_65 (fun r_65 => ?_)
              try simp only [GF_12] at r_65 ⊢
              refine e_icmp_ge C 83 d_Sg_rests_68 (by decide) (by omega) (by omega) (fun c_68 => ?_) (fun c_68 => ?_)
              · rw [if_neg (by omega)] at F
                refine e_iconst C d_Sg_rests_83 ?_
                refine e_iret C F rfl d_Sg_rests_84 (by omega) ?_
                exact ⟨rfl, h.gf hl' hgi⟩
              · rw [if_pos (by omega)] at F
                refine e_aload_n C d_Sg_rests_71 rfl ?_
                refine e_geto (o2 := 12) C fl_Sg_72 (by decide) rfl rfl rfl d_Sg_rests_72 ?_
                refine e_geta C fl_Sg_277 (by decide) rfl rfl d_Sg_rests_75 ?_
                refine e_iload_n C d_Sg_rests_78 rfl ?_
                refine e_iald (n := 256) C (by decide) rfl (by decide) rfl rfl (by decide) (by omega) (by omega) d_Sg_rests_79 (fun r_79 => ?_)
                try simp only [GF_12] at r_79 ⊢
                refine e_goto C 84 d_Sg_rests_80 (by decide) ?_
                refine e_iret C F rfl d_Sg_rests_84 (by omega) ?_
                exact ⟨rfl, h.gf hl' hgi⟩
            · rw [if_pos c_49] at F
              refine e_aload_n C d_Sg_rests_52 rfl ?_
              refine e_geto (o2 := 12) C fl_Sg_72 (by decide) rfl rfl rfl d_Sg_rests_53 ?_
              refine e_geti C fl_Sg_276 (by decide) rfl rfl d_Sg_rests_56 (fun r_56 => ?_)
              try simp only [GF_12] at r_56 ⊢
              refine e_iret C F rfl d_Sg_rests_59 (by omega) ?_
              exact ⟨rfl, h.gf hl' hgi⟩
          · have hv0 : ¬ okRests u k i := by omega
            refine e_iconst C d_Sg_rests_28 ?_
            refine e_iret C F rfl d_Sg_rests_29 (by omega) ?_
            exact hno hv0
theorem tmv_cong {φ : Phi} {P ys : Cs} {tp tm tp' tm' : Int → Int} {most i : Int} {k : Nat} (h1 : ∀ q : Int, 0 ≤ q → q < k → tp' q = tp q) (h2 : ∀ q : Int, 0 ≤ q → q < k → tm' q = tm q) : tmv φ P ys tp' tm' most k i = tmv φ P ys tp tm most k i := by
  have e1 : ∀ t y, duo φ P tp' tm' k t y = duo φ P tp tm k t y := by
    intro t y
    unfold duo
    refine allb_cong _ _ (fun j a b => ?_)
    rw [h1 j a (by omega), h2 j a (by omega)]
  have e2 : ∀ (n : Nat) (t : Int) (y : Cs), mdue φ P tp' tm' k n t y = mdue φ P tp tm k n t y := by
    intro n
    induction n with
    | zero => intro t y; rfl
    | succ n ih => intro t y; rw [mdue_S, mdue_S, e1, ih]
  have e3 : mxm tm' k = mxm tm k := by
    unfold mxm
    refine itr_cong _ _ _ (fun j x a b => ?_)
    unfold mxs
    rw [h2 j a (by omega)]
  have e4 : ∀ p more, isS φ P ys tp' tm' k p more = isS φ P ys tp tm k p more := by
    intro p more
    unfold isS
    rw [e3, e2]
  have e5 : ∀ p, isS φ P ys tp' tm' k p = isS φ P ys tp tm k p := fun p => funext (e4 p)
  unfold tmv
  congr 1
  refine itr_cong _ _ _ (fun j x a b => ?_)
  unfold wys
  rw [e5]
theorem K_Sg_tampered {σ : St} {S : SS} {n most k i : Int} (hp : PI S n) (h : IVc S n σ) (r1 : R32 most) (r2 : R32 k) (r3 : R32 i) : CtI M_Sg_tampered [.inr (.inr (0, 0)), .inl most, .inl k, .inl i] σ (fun r v => r = rvTam S most k i ∧ PC S n σ v) := by
  intro g C F
  have hPl := h.pl
  have e7 := h.e7
  have hn := hp.n
  have htn := hp.tn
  obtain ⟨hr2, hr4, hr5, hrI⟩ := h.ru
  have hno : ¬ okTam S most k i → -1 = rvTam S most k i ∧ PC S n σ σ := by
    intro z
    unfold rvTam
    rw [if_neg z]
    exact ⟨rfl, h.same⟩
  refine e_iload_n C d_Sg_tampered_0 rfl ?_
  refine e_iconst C d_Sg_tampered_1 ?_
  refine e_icmp_lt C 32 d_Sg_tampered_2 (by decide) (by omega) (by omega) (fun c_2 => ?_) (fun c_2 => ?_)
  · have hv0 : ¬ okTam S most k i := by omega
    refine e_iconst C d_Sg_tampered_32 ?_
    refine e_iret C F rfl d_Sg_tampered_33 (by omega) ?_
    exact hno hv0
  · refine e_iload_n C d_Sg_tampered_5 rfl ?_
    refine e_sipush C d_Sg_tampered_6 (by decide) ?_
    refine e_icmp_gt C 32 d_Sg_tampered_9 (by decide) (by omega) (by omega) (fun c_9 => ?_) (fun c_9 => ?_)
    · have hv0 : ¬ okTam S most k i := by omega
      refine e_iconst C d_Sg_tampered_32 ?_
      refine e_iret C F rfl d_Sg_tampered_33 (by omega) ?_
      exact hno hv0
    · refine e_iload_n C d_Sg_tampered_12 rfl ?_
      refine e_if_lt C 32 d_Sg_tampered_13 (by decide) (by omega) (fun c_13 => ?_) (fun c_13 => ?_)
      · have hv0 : ¬ okTam S most k i := by omega
        refine e_iconst C d_Sg_tampered_32 ?_
        refine e_iret C F rfl d_Sg_tampered_33 (by omega) ?_
        exact hno hv0
      · refine e_iload_n C d_Sg_tampered_16 rfl ?_
        refine e_aload_n C d_Sg_tampered_17 rfl ?_
        refine e_geto (o2 := 13) C fl_Sg_79 (by decide) rfl rfl rfl d_Sg_tampered_18 ?_
        refine e_geti C fl_Sg_283 (by decide) rfl rfl d_Sg_tampered_21 (fun r_21 => ?_)
        try simp only [US_13] at r_21 ⊢
        refine e_icmp_gt C 32 d_Sg_tampered_24 (by decide) (by omega) (by omega) (fun c_24 => ?_) (fun c_24 => ?_)
        · have hv0 : ¬ okTam S most k i := by omega
          refine e_iconst C d_Sg_tampered_32 ?_
          refine e_iret C F rfl d_Sg_tampered_33 (by omega) ?_
          exact hno hv0
        · refine e_iload_n C d_Sg_tampered_27 rfl ?_
          refine e_iconst C d_Sg_tampered_28 ?_
          refine e_icmp_ge C 34 d_Sg_tampered_29 (by decide) (by omega) (by omega) (fun c_29 => ?_) (fun c_29 => ?_)
          · unfold rvTam at F
            rw [if_pos (show okTam S most k i by omega)] at F
            rw [← US_id σ]
            refine e_aload_n C d_Sg_tampered_34 rfl ?_
            refine e_geto (o2 := 13) C fl_Sg_79 (by decide) rfl rfl rfl d_Sg_tampered_35 ?_
            refine e_aload_n C d_Sg_tampered_38 rfl ?_
            refine e_geto (o2 := 7) C fl_Sg_26 (by decide) rfl rfl rfl d_Sg_tampered_39 ?_
            refine e_aload_n C d_Sg_tampered_42 rfl ?_
            refine e_geto (o2 := 17) C fl_Sg_33 (by decide) rfl rfl rfl d_Sg_tampered_43 ?_
            refine e_iload_n C d_Sg_tampered_46 rfl ?_
            refine e_iload_n C d_Sg_tampered_47 rfl ?_
            refine e_callVV C ok_Ru_findWays lk_Sg_286 (o := 13) (by decide) rfl [_, _, _, _] rfl rfl (Nat.le_of_ble_eq_true rfl) (by decide) (Nat.le_of_ble_eq_true rfl) d_Sg_tampered_48 (k_Ru_findWays (φ := sF S) (ys := sB S) (B := 20000 * n) (S := 900000000) hPl (by rw [e7]; exact h.b.1) (by rw [e7]; exact IVc.cks h.b hp.b hn) (by omega) (by omega) (by omega) (by omega) (by omega) (by rw [e7, hr2, hr4]; exact fun q a b => (hp.t q a b).1) (by rw [hr2, hr5]; exact fun q a b => (hp.t q a b).2) (by rw [e7]; exact hrI)) (fun u_48 h_48 => ?_)
            obtain ⟨d', l', c', hl', rfl, hgi, ⟨hd7, rfl, rfl⟩, hd2, hd4, hd5⟩ := h_48
            rw [e7] at hgi
            have hgg := hgi hd7
            have ht := hgg.2.2 i (by omega)
            have hru : RuI S d' := ⟨by rw [hd2]; exact hr2, by rw [hd4]; exact hr4, by rw [hd5]; exact hr5, hgi⟩
            rw [hd4, hd5, hr4, hr5] at ht
            rw [← ht] at F
            unfold gtell at F
            refine e_iload_n C d_Sg_tampered_51 rfl ?_
            refine e_iconst C d_Sg_tampered_52 ?_
            refine e_icmp_ne C 64 d_Sg_tampered_53 (by decide) (by omega) (by omega) (fun c_53 => ?_) (fun c_53 => ?_)
            · rw [if_neg c_53] at F
              refine e_iload_n C d_Sg_tampered_64 rfl ?_
              refine e_aload_n C d_Sg_tampered_65 rfl ?_
              refine e_geto (o2 := 13) C fl_Sg_79 (by decide) rfl rfl rfl d_Sg_tampered_66 ?_
              refine e_geti C fl_Sg_289 (by decide) rfl rfl d_Sg_tampered_69 (fun r_69 => ?_)
              try simp only [US_13] at r_69 ⊢
              refine e_icmp_ge C 87 d_Sg_tampered_72 (by decide) (by omega) (by omega) (fun c_72 => ?_) (fun c_72 => ?_)
              · rw [if_neg (by omega)] at F
                refine e_iconst C d_Sg_tampered_87 ?_
                refine e_iret C F rfl d_Sg_tampered_88 (by omega) ?_
                exact ⟨rfl, h.us hl' hru⟩
              · rw [if_pos (by omega)] at F
                refine e_aload_n C d_Sg_tampered_75 rfl ?_
                refine e_geto (o2 := 13) C fl_Sg_79 (by decide) rfl rfl rfl d_Sg_tampered_76 ?_
                refine e_geta C fl_Sg_290 (by decide) rfl rfl d_Sg_tampered_79 ?_
                refine e_iload_n C d_Sg_tampered_82 rfl ?_
                refine e_iald (n := 1601) C (by decide) rfl (by decide) rfl rfl (by decide) (by omega) (by omega) d_Sg_tampered_83 (fun r_83 => ?_)
                try simp only [US_13] at r_83 ⊢
                refine e_goto C 88 d_Sg_tampered_84 (by decide) ?_
                refine e_iret C F rfl d_Sg_tampered_88 (by omega) ?_
                exact ⟨rfl, h.us hl' hru⟩
            · rw [if_pos c_53] at F
              refine e_aload_n C d_Sg_tampered_56 rfl ?_
              refine e_geto (o2 := 13) C fl_Sg_79 (by decide) rfl rfl rfl d_Sg_tampered_57 ?_
              refine e_geti C fl_Sg_289 (by decide) rfl rfl d_Sg_tampered_60 (fun r_60 => ?_)
              try simp only [US_13] at r_60 ⊢
              refine e_iret C F rfl d_Sg_tampered_63 (by omega) ?_
              exact ⟨rfl, h.us hl' hru⟩
          · have hv0 : ¬ okTam S most k i := by omega
            refine e_iconst C d_Sg_tampered_32 ?_
            refine e_iret C F rfl d_Sg_tampered_33 (by omega) ?_
            exact hno hv0
/-- Rumours have changed, nothing else -/
theorem IVc.r13 {S S' : SS} {n : Int} {σ : St} {d' : Cs} (h : IVc S n σ) (e1 : sF S' = sF S) (e2 : sP S' = sP S) (e3 : sY S' = sY S) (e4 : sB S' = sB S) (e5 : sHn S' = sHn S) (e6 : sHz S' = sHz S) (e7 : sKf S' = sKf S) (e8 : sKs S' = sKs S) (e9 : sTb S' = sTb S) (e10 : sTz S' = sTz S) (e11 : sFp S' = sFp S) (hd : RuI S' d') : PC S' n σ (so σ 13 d') := by
  have e : ∀ q, q ≠ 13 → so σ 13 d' q = σ q := fun q a => so_ne a
  refine ⟨e 1 (by decide), ?_⟩
  have h2 := h.next
  unfold IVc HI KI DI TI at h2 ⊢
  rw [e1, e2, e3, e4, e5, e6, e7, e8, e9, e10, e11, e 7 (by decide), e 8 (by decide), e 18 (by decide), e 17 (by decide), e 9 (by decide), e 0 (by decide), e 11 (by decide), e 12 (by decide), so_at, e 2 (by decide)]
  obtain ⟨a1, a2, ⟨a3, a4, a5⟩, a6, a7, a8, a9, a10, a11, a12⟩ := h2
  refine ⟨a1, a2, ⟨a3, a4, fun j a b => ?_⟩, fun s a b => ?_, a7, a8, hd, a10, a11, ?_⟩
  · rw [e _ (by omega)]; exact a5 j a b
  · rw [e _ (by omega)]; exact a6 s a b
  · unfold RdI; rw [e 4 (by decide), e 16 (by decide)]; exact a12
theorem RuI.te {S : SS} {d : Cs} {p t : Int} (h : RuI S d) : RuI (teS S p t) (cu (cu (cu d 4 (sTn S) p) 5 (sTn S) t) 2 0 (sTn S + 1)) := by
  obtain ⟨h2, h4, h5, hI⟩ := h
  refine ⟨cu_s _ _ _ _, ?_, ?_, ?_⟩
  · funext q
    show cu (cu (cu d 4 (sTn S) p) 5 (sTn S) t) 2 0 (sTn S + 1) 4 q = if q = sTn S then p else sTp S q
    rw [cu_f (by decide), cu_f (by decide), cu_if, h4]
    simp only [true_and]
  · funext q
    show cu (cu (cu d 4 (sTn S) p) 5 (sTn S) t) 2 0 (sTn S + 1) 5 q = if q = sTn S then t else sTm S q
    rw [cu_f (by decide), cu_if, cu_f (by decide), h5]
    simp only [true_and]
  · intro z
    have ef : ∀ f k, f ≠ 4 → f ≠ 5 → f ≠ 2 → cu (cu (cu d 4 (sTn S) p) 5 (sTn S) t) 2 0 (sTn S + 1) f k = d f k := fun f k a b c => by rw [cu_f c, cu_f b, cu_f a]
    rw [ef 7 0 (by decide) (by decide) (by decide)] at z
    obtain ⟨i1, i2, i3⟩ := hI z
    rw [ef 1 0 (by decide) (by decide) (by decide), ef 9 0 (by decide) (by decide) (by decide), ef 8 0 (by decide) (by decide) (by decide), cu_s]
    refine ⟨i1, by omega, fun i hi => ?_⟩
    have := i3 i hi
    unfold gtell at this ⊢
    rw [ef 1 0 (by decide) (by decide) (by decide), ef 0 i (by decide) (by decide) (by decide), this]
    refine (tmv_cong (fun q a b => ?_) (fun q a b => ?_)).symm
    · rw [cu_f (by decide), cu_f (by decide), cu_k (by omega)]
    · rw [cu_f (by decide), cu_k (by omega), cu_f (by decide)]
theorem K_Sg_tell {σ : St} {S : SS} {n p t : Int} (hp : PI S n) (h : IVc S n σ) (r1 : R32 p) (r2 : R32 t) : CtI M_Sg_tell [.inr (.inr (0, 0)), .inl p, .inl t] σ (fun r u => r = rvTell S p t ∧ PC (nxTell S p t) n σ u) := by
  intro g C F
  have htn := hp.tn
  obtain ⟨hr2, -⟩ := h.ru
  have hno : ¬ okTell S p t → -1 = rvTell S p t ∧ PC (nxTell S p t) n σ σ := by
    intro z
    unfold rvTell nxTell
    rw [if_neg z, if_neg z]
    exact ⟨rfl, h.same⟩
  have hyes : okTell S p t → rvTell S p t = sTn S ∧ nxTell S p t = teS S p t := by
    intro z
    unfold rvTell nxTell
    rw [if_pos z, if_pos z]
    exact ⟨rfl, rfl⟩
  refine e_aload_n C d_Sg_tell_0 rfl ?_
  refine e_iload_n C d_Sg_tell_1 rfl ?_
  refine e_callIV C ok_Sg_isPost lk_Sg_126 (o := 0) (by decide) rfl [_] rfl rfl (Nat.le_of_ble_eq_true rfl) (by decide) (Nat.le_of_ble_eq_true rfl) d_Sg_tell_2 (s_Sg_isPost h r1) (fun v_2 u_2 q_2 h_2 => ?_)
  obtain ⟨rfl, e_2⟩ := h_2
  rw [e_2]
  refine e_if_eq C 19 d_Sg_tell_5 (by decide) (by split <;> omega) (fun c_5 => ?_) (fun c_5 => ?_)
  · have hv0 : ¬ okTell S p t := fun z => po_f c_5 z.2.1
    refine e_iconst C d_Sg_tell_19 ?_
    refine e_iret C F rfl d_Sg_tell_20 (by omega) ?_
    exact hno hv0
  · have hv := po_t c_5
    refine e_iload_n C d_Sg_tell_8 rfl ?_
    refine e_if_lt C 19 d_Sg_tell_9 (by decide) (by omega) (fun c_9 => ?_) (fun c_9 => ?_)
    · have hv0 : ¬ okTell S p t := fun z => by have := z.2.2; omega
      refine e_iconst C d_Sg_tell_19 ?_
      refine e_iret C F rfl d_Sg_tell_20 (by omega) ?_
      exact hno hv0
    · refine e_iload_n C d_Sg_tell_12 rfl ?_
      refine e_sipush C d_Sg_tell_13 (by decide) ?_
      refine e_icmp_le C 21 d_Sg_tell_16 (by decide) (by omega) (by omega) (fun c_16 => ?_) (fun c_16 => ?_)
      · refine e_aload_n C d_Sg_tell_21 rfl ?_
        refine e_geto (o2 := 13) C fl_Sg_79 (by decide) rfl rfl rfl d_Sg_tell_22 ?_
        refine e_iload_n C d_Sg_tell_25 rfl ?_
        refine e_iload_n C d_Sg_tell_26 rfl ?_
        refine e_callIV C ok_Ru_add lk_Sg_280 (o := 13) (by decide) rfl [_, _] rfl rfl (Nat.le_of_ble_eq_true rfl) (by decide) (Nat.le_of_ble_eq_true rfl) d_Sg_tell_27 (k_Ru_add (by omega) r1 r2) (fun v_27 u_27 q_27 h_27 => ?_)
        refine e_iret C F rfl d_Sg_tell_30 (by omega) ?_
        rcases h_27 with ⟨w1, w2, w3⟩ | ⟨w1, w2, w3⟩
        · rw [w2, w3]; exact hno (fun z => by have := z.1; omega)
        · have hok : okTell S p t := ⟨by omega, hv, by omega, by omega⟩
          rw [w2, w3, (hyes hok).1, (hyes hok).2, hr2]
          exact ⟨rfl, h.r13 rfl rfl rfl rfl rfl rfl rfl rfl rfl rfl rfl h.ru.te⟩
      · have hv0 : ¬ okTell S p t := fun z => by have := z.2.2; omega
        refine e_iconst C d_Sg_tell_19 ?_
        refine e_iret C F rfl d_Sg_tell_20 (by omega) ?_
        exact hno hv0
theorem K_Sg_forget {σ : St} {S : SS} {n : Int} (hp : PI S n) (h : IVc S n σ) : CtI M_Sg_forget [.inr (.inr (0, 0))] σ (fun r u => r = sTn S ∧ PC (foS S) n σ u) := by
  intro g C F
  obtain ⟨hr2, hr4, hr5, -⟩ := h.ru
  refine e_aload_n C d_Sg_forget_0 rfl ?_
  refine e_geto (o2 := 13) C fl_Sg_79 (by decide) rfl rfl rfl d_Sg_forget_1 ?_
  refine e_geti C fl_Sg_283 (by decide) rfl rfl d_Sg_forget_4 (fun r_4 => ?_)
  refine e_istore_n C d_Sg_forget_7 (by decide) rfl ?_
  refine e_aload_n C d_Sg_forget_8 rfl ?_
  refine e_geto (o2 := 13) C fl_Sg_79 (by decide) rfl rfl rfl d_Sg_forget_9 ?_
  refine e_callVV C ok_Ru_clear lk_Sg_120 (o := 13) (by decide) rfl [] rfl rfl (Nat.le_of_ble_eq_true rfl) (by decide) (Nat.le_of_ble_eq_true rfl) d_Sg_forget_12 (k_Ru_clear) (fun u_12 h_12 => ?_)
  subst h_12
  refine e_iload_n C d_Sg_forget_15 rfl ?_
  refine e_iret C F rfl d_Sg_forget_16 (by omega) ?_
  refine ⟨hr2, h.r13 rfl rfl rfl rfl rfl rfl rfl rfl rfl rfl rfl ⟨?_, ?_, ?_, ?_⟩⟩
  · rw [cu_f (by decide), cu_s]; rfl
  · funext q; rw [cu_f (by decide), cu_f (by decide), hr4]; rfl
  · funext q; rw [cu_f (by decide), cu_f (by decide), hr5]; rfl
  · exact fun z => absurd (cu_s _ _ _ _) z
theorem K_Sg_place {σ : St} {S : SS} {n : Int} (h : IVc S n σ) : CtI M_Sg_place [.inr (.inr (0, 0))] σ (fun r u => r = sFp S ∧ PC S n σ u) := by
  intro g C F
  refine e_aload_n C d_Sg_place_0 rfl ?_
  refine e_geti C fl_Sg_83 (by decide) rfl rfl d_Sg_place_1 (fun r_1 => ?_)
  refine e_iret C F rfl d_Sg_place_4 (by omega) ?_
  exact ⟨h.fp, h.same⟩
/-- the tape has changed, nothing else -/
theorem IVc.t2 {S : SS} {n : Int} {σ : St} {d' : Cs} {b : Int → Int} {z : Int} (h : IVc S n σ) (hd : TI (taS S b z) d') : PC (taS S b z) n σ (so σ 2 d') := by
  have e : ∀ q, q ≠ 2 → so σ 2 d' q = σ q := fun q a => so_ne a
  refine ⟨e 1 (by decide), ?_⟩
  have h2 := h.next
  unfold IVc HI KI at h2 ⊢
  rw [e 7 (by decide), e 8 (by decide), e 18 (by decide), e 17 (by decide), e 9 (by decide), e 0 (by decide), e 11 (by decide), e 12 (by decide), so_at, e 13 (by decide)]
  obtain ⟨a1, a2, ⟨a3, a4, a5⟩, a6, a7, a8, a9, a10, a11, a12⟩ := h2
  refine ⟨a1, a2, ⟨a3, a4, fun j a b => ?_⟩, fun s a b => ?_, a7, a8, a9, hd, a11, ?_⟩
  · rw [e _ (by omega)]; exact a5 j a b
  · rw [e _ (by omega)]; exact a6 s a b
  · unfold RdI; rw [e 4 (by decide), e 16 (by decide)]; exact a12
theorem K_Sg_back {σ : St} {S : SS} {n k : Int} (hp : PI S n) (h : IVc S n σ) (r1 : R32 k) : CtI M_Sg_back [.inr (.inr (0, 0)), .inl k] σ (fun r u => r = rvBack S k ∧ PC (nxBack S k) n σ u) := by
  intro g C F
  obtain ⟨e2, e1⟩ := h.ta
  have htz := hp.tz
  unfold rvBack nxBack at F
  refine e_iload_n C d_Sg_back_0 rfl ?_
  refine e_if_lt C 15 d_Sg_back_1 (by decide) (by omega) (fun c_1 => ?_) (fun c_1 => ?_)
  · rw [if_neg (by omega), if_neg (by omega)] at F
    refine e_iconst C d_Sg_back_15 ?_
    refine e_iret C F rfl d_Sg_back_16 (by omega) ?_
    exact ⟨rfl, h.same⟩
  · refine e_iload_n C d_Sg_back_4 rfl ?_
    refine e_aload_n C d_Sg_back_5 rfl ?_
    refine e_geto (o2 := 2) C fl_Sg_10 (by decide) rfl rfl rfl d_Sg_back_6 ?_
    refine e_geti C fl_Sg_95 (by decide) rfl rfl d_Sg_back_9 (fun r_9 => ?_)
    try simp only [so_at, so_so, wr_so, e2, cu_s] at r_9 ⊢
    refine e_icmp_le C 17 d_Sg_back_12 (by decide) (by omega) (by omega) (fun c_12 => ?_) (fun c_12 => ?_)
    · rw [if_pos (by omega), if_pos (by omega)] at F
      refine e_aload_n C d_Sg_back_17 rfl ?_
      refine e_geto (o2 := 2) C fl_Sg_10 (by decide) rfl rfl rfl d_Sg_back_18 ?_
      refine e_dup C d_Sg_back_21 rfl ?_
      refine e_geti C fl_Sg_95 (by decide) rfl rfl d_Sg_back_22 (fun r_22 => ?_)
      try simp only [so_at, so_so, wr_so, e2, cu_s] at r_22 ⊢
      refine e_iload_n C d_Sg_back_25 rfl ?_
      refine e_isub C d_Sg_back_26 ?_
      refine e_puti C fp_Sg_95 (by decide) rfl rfl (by omega) d_Sg_back_27 ?_
      try simp only [so_at, so_so, wr_so, e2, cu_s]
      refine e_aload_n C d_Sg_back_30 rfl ?_
      refine e_geto (o2 := 2) C fl_Sg_10 (by decide) rfl rfl rfl d_Sg_back_31 ?_
      refine e_geti C fl_Sg_95 (by decide) rfl rfl d_Sg_back_34 (fun r_34 => ?_)
      try simp only [so_at, so_so, wr_so, e2, cu_s] at r_34 ⊢
      refine e_iret C F rfl d_Sg_back_37 (by omega) ?_
      refine ⟨rfl, h.t2 ⟨cu_s _ _ _ _, fun i a b => ?_⟩⟩
      have b : i < sTz S - k := b
      rw [cu_f (by decide)]
      exact e1 i a (by omega)
    · rw [if_neg (by omega), if_neg (by omega)] at F
      refine e_iconst C d_Sg_back_15 ?_
      refine e_iret C F rfl d_Sg_back_16 (by omega) ?_
      exact ⟨rfl, h.same⟩
theorem k_Ta_hasRoomFor {σ : St} {k : Int} (hz : 0 ≤ σ 2 1 0 ∧ σ 2 1 0 ≤ 2000) (hk : 0 ≤ k ∧ k ≤ 100) : CtI M_Ta_hasRoomFor [.inr (.inr (2, 0)), .inl k] σ (fun r u => r = (if σ 2 1 0 + k ≤ 2000 then 1 else 0) ∧ u = σ) := by
  intro g C F
  refine e_aload_n C d_Ta_hasRoomFor_0 rfl ?_
  refine e_geti C fl_Ta_13 (by decide) rfl rfl d_Ta_hasRoomFor_1 (fun r_1 => ?_)
  refine e_iload_n C d_Ta_hasRoomFor_4 rfl ?_
  refine e_iadd C d_Ta_hasRoomFor_5 ?_
  refine e_sipush C d_Ta_hasRoomFor_6 (by decide) ?_
  refine e_icmp_gt C 16 d_Ta_hasRoomFor_9 (by decide) (by omega) (by omega) (fun c_9 => ?_) (fun c_9 => ?_)
  · refine e_iconst C d_Ta_hasRoomFor_16 ?_
    refine e_zret C F rfl d_Ta_hasRoomFor_17 (by omega) ?_
    refine ⟨?_, rfl⟩
    first | rw [if_pos (by omega)] | rw [if_neg (by omega)]
  · refine e_iconst C d_Ta_hasRoomFor_12 ?_
    refine e_goto C 17 d_Ta_hasRoomFor_13 (by decide) ?_
    refine e_zret C F rfl d_Ta_hasRoomFor_17 (by omega) ?_
    refine ⟨?_, rfl⟩
    first | rw [if_pos (by omega)] | rw [if_neg (by omega)]
/-- the class's tape -/
def ctp (d : Cs) (b : Int → Int) (z : Int) : Cs := cu (lnm d 0 b) 1 0 z
theorem ctp_2 (m : Cs) (b : Int → Int) (z : Int) : ctp m b z 1 0 = z := cu_s _ _ _ _
theorem ctp_1 (m : Cs) (b : Int → Int) (z : Int) : ctp m b z 0 = b := by unfold ctp; funext q; rw [cu_f (by decide), lnm_s]
theorem ctp_w1 (m : Cs) (b : Int → Int) (z k v : Int) : cu (ctp m b z) 0 k v = ctp m (ua b k v) z := by
  unfold ctp
  rw [cu_comm (by decide), lnm_cu]
theorem ctp_w2 (m : Cs) (b : Int → Int) (z v : Int) : cu (ctp m b z) 1 0 v = ctp m b v := by
  unfold ctp
  funext f k
  simp only [cu_if]
  by_cases q : f = 1 ∧ k = 0
  · rw [if_pos q, if_pos q]
  · rw [if_neg q, if_neg q, if_neg q]
theorem ctp_id (m : Cs) : ctp m (m 0) (m 1 0) = m := by
  unfold ctp
  rw [lnm_id]
  exact cu_2 _ _ _ _ rfl
set_option maxHeartbeats 1000000 in
theorem k_Ta_append {σ : St} {m : Cs} {b : Int → Int} {z w : Int} (hz : 0 ≤ z ∧ z + 4 ≤ 2000) (hw : R32 w) : CtV M_Ta_append [.inr (.inr (2, 0)), .inl w] (so σ 2 (ctp m b z)) (fun u => u = so σ 2 (ctp m (b4 b z w) (z + 4))) := by
  intro g C F
  have one : ∀ (b : Int → Int) (x k : Int), (0 ≤ x ∧ x < 2000) → (0 ≤ k ∧ k ≤ 24) → Ev g 12 [some (.inr (.inr (2, 0))), some (.inl w), some (.inl (k + -8))] [] (so σ 2 (ctp m (ua b x (z_i2b (z_ishr w k))) (x + 1))) → Ev g 12 [some (.inr (.inr (2, 0))), some (.inl w), some (.inl k)] [] (so σ 2 (ctp m b x)) := by
    intro b x k hx hk hE
    refine e_iload_n C d_Ta_append_12 rfl ?_
    refine e_if_lt C 42 d_Ta_append_13 (by decide) (by omega) (fun c_13 => ?_) (fun c_13 => ?_)
    · exact absurd hk.1 (by omega)
    · refine e_aload_n C d_Ta_append_16 rfl ?_
      refine e_geta C fl_Ta_9 (by decide) rfl rfl d_Ta_append_17 ?_
      refine e_aload_n C d_Ta_append_20 rfl ?_
      refine e_dup C d_Ta_append_21 rfl ?_
      refine e_geti C fl_Ta_13 (by decide) rfl rfl d_Ta_append_22 (fun r_22 => ?_)
      try simp only [so_at, so_so, wr_so, ctp_2, ctp_1, ctp_w1, ctp_w2] at r_22 ⊢
      refine e_dup_x1 C d_Ta_append_25 rfl rfl ?_
      refine e_iconst C d_Ta_append_26 ?_
      refine e_iadd C d_Ta_append_27 ?_
      refine e_puti C fp_Ta_13 (by decide) rfl rfl (by omega) d_Ta_append_28 ?_
      try simp only [so_at, so_so, wr_so, ctp_2, ctp_1, ctp_w1, ctp_w2]
      refine e_iload_n C d_Ta_append_31 rfl ?_
      refine e_iload_n C d_Ta_append_32 rfl ?_
      refine e_ishr C d_Ta_append_33 ?_
      refine e_i2b C d_Ta_append_34 ?_
      refine e_bast (n := 2000) C (by decide) rfl (by decide) rfl rfl (by decide) (by omega) (by omega) (z_i2b_r _) d_Ta_append_35 ?_
      try simp only [so_at, so_so, wr_so, ctp_2, ctp_1, ctp_w1, ctp_w2]
      refine e_iinc C d_Ta_append_36 rfl (by decide) rfl ?_
      refine e_goto C 12 d_Ta_append_39 (by decide) ?_
      exact hE
  refine e_aload_n C d_Ta_append_0 rfl ?_
  refine e_iconst C d_Ta_append_1 ?_
  refine e_callIV C ok_Ta_hasRoomFor lk_Ta_17 (o := 2) (by decide) rfl [_] rfl rfl (Nat.le_of_ble_eq_true rfl) (by decide) (Nat.le_of_ble_eq_true rfl) d_Ta_append_2 (k_Ta_hasRoomFor (by rw [so_at, ctp_2]; omega) (by omega)) (fun v_2 u_2 q_2 h_2 => ?_)
  obtain ⟨h_2, e_2⟩ := h_2
  rw [e_2]
  rw [so_at, ctp_2, if_pos (by omega)] at h_2
  refine e_if_ne C 9 d_Ta_append_5 (by decide) (by omega) (fun c_5 => ?_) (fun c_5 => ?_)
  · refine e_bipush C d_Ta_append_9 (by decide) ?_
    refine e_istore_n C d_Ta_append_11 (by decide) rfl ?_
    refine one b z 24 (by omega) (by omega) ?_
    refine one _ (z + 1) 16 (by omega) (by omega) ?_
    rw [show z + 1 + 1 = z + 2 by omega]
    refine one _ (z + 2) 8 (by omega) (by omega) ?_
    rw [show z + 2 + 1 = z + 3 by omega]
    refine one _ (z + 3) 0 (by omega) (by omega) ?_
    rw [show z + 3 + 1 = z + 4 by omega]
    have e : b4 b z w = ua (ua (ua (ua b z (z_i2b (z_ishr w 24))) (z + 1) (z_i2b (z_ishr w 16))) (z + 2) (z_i2b (z_ishr w 8))) (z + 3) (z_i2b (z_ishr w 0)) := rfl
    rw [← e]
    refine e_iload_n C d_Ta_append_12 rfl ?_
    refine e_if_lt C 42 d_Ta_append_13 (by decide) (by omega) (fun c_13 => ?_) (fun c_13 => ?_)
    · refine e_vret C F rfl d_Ta_append_42 ?_
      rfl
    · exact absurd c_13 (by decide)
  · exact absurd c_5 (by omega)
theorem K_Sg_feed {σ : St} {S : SS} {n a b c d e : Int} (hp : PI S n) (h : IVc S n σ) (r1 : R32 a) (r2 : R32 b) (r3 : R32 c) (r4 : R32 d) (r5 : R32 e) : CtI M_Sg_feed [.inr (.inr (0, 0)), .inl a, .inl b, .inl c, .inl d, .inl e] σ (fun r u => r = rvFeed S ∧ PC (nxFeed S a b c d e) n σ u) := by
  intro g C F
  obtain ⟨e2, e1⟩ := h.ta
  have htz := hp.tz
  unfold rvFeed nxFeed at F
  refine e_aload_n C d_Sg_feed_0 rfl ?_
  refine e_geto (o2 := 2) C fl_Sg_10 (by decide) rfl rfl rfl d_Sg_feed_1 ?_
  refine e_bipush C d_Sg_feed_4 (by decide) ?_
  refine e_callIV C ok_Ta_hasRoomFor lk_Sg_87 (o := 2) (by decide) rfl [_] rfl rfl (Nat.le_of_ble_eq_true rfl) (by decide) (Nat.le_of_ble_eq_true rfl) d_Sg_feed_6 (k_Ta_hasRoomFor (by omega) (by omega)) (fun v_6 u_6 q_6 h_6 => ?_)
  obtain ⟨rfl, e_6⟩ := h_6
  rw [e_6, e2]
  refine e_if_ne C 14 d_Sg_feed_9 (by decide) (by split <;> omega) (fun c_9 => ?_) (fun c_9 => ?_)
  · have hv : sTz S + 20 ≤ 2000 := Decidable.byContradiction fun z => by rw [if_neg z] at c_9; omega
    rw [if_pos hv, if_pos hv] at F
    rw [← so_id σ 2, ← ctp_id (σ 2), e2]
    refine e_aload_n C d_Sg_feed_14 rfl ?_
    refine e_geto (o2 := 2) C fl_Sg_10 (by decide) rfl rfl rfl d_Sg_feed_15 ?_
    refine e_iload_n C d_Sg_feed_18 rfl ?_
    refine e_callVV C ok_Ta_append lk_Sg_91 (o := 2) (by decide) rfl [_] rfl rfl (Nat.le_of_ble_eq_true rfl) (by decide) (Nat.le_of_ble_eq_true rfl) d_Sg_feed_19 (k_Ta_append (by omega) r1) (fun u_19 h_19 => ?_)
    subst h_19
    refine e_aload_n C d_Sg_feed_22 rfl ?_
    refine e_geto (o2 := 2) C fl_Sg_10 (by decide) rfl rfl rfl d_Sg_feed_23 ?_
    refine e_iload_n C d_Sg_feed_26 rfl ?_
    refine e_callVV C ok_Ta_append lk_Sg_91 (o := 2) (by decide) rfl [_] rfl rfl (Nat.le_of_ble_eq_true rfl) (by decide) (Nat.le_of_ble_eq_true rfl) d_Sg_feed_27 (k_Ta_append (by omega) r2) (fun u_27 h_27 => ?_)
    subst h_27
    rw [show sTz S + 4 + 4 = sTz S + 8 by omega]
    refine e_aload_n C d_Sg_feed_30 rfl ?_
    refine e_geto (o2 := 2) C fl_Sg_10 (by decide) rfl rfl rfl d_Sg_feed_31 ?_
    refine e_iload_n C d_Sg_feed_34 rfl ?_
    refine e_callVV C ok_Ta_append lk_Sg_91 (o := 2) (by decide) rfl [_] rfl rfl (Nat.le_of_ble_eq_true rfl) (by decide) (Nat.le_of_ble_eq_true rfl) d_Sg_feed_35 (k_Ta_append (by omega) r3) (fun u_35 h_35 => ?_)
    subst h_35
    rw [show sTz S + 8 + 4 = sTz S + 12 by omega]
    refine e_aload_n C d_Sg_feed_38 rfl ?_
    refine e_geto (o2 := 2) C fl_Sg_10 (by decide) rfl rfl rfl d_Sg_feed_39 ?_
    refine e_iload C d_Sg_feed_42 rfl ?_
    refine e_callVV C ok_Ta_append lk_Sg_91 (o := 2) (by decide) rfl [_] rfl rfl (Nat.le_of_ble_eq_true rfl) (by decide) (Nat.le_of_ble_eq_true rfl) d_Sg_feed_44 (k_Ta_append (by omega) r4) (fun u_44 h_44 => ?_)
    subst h_44
    rw [show sTz S + 12 + 4 = sTz S + 16 by omega]
    refine e_aload_n C d_Sg_feed_47 rfl ?_
    refine e_geto (o2 := 2) C fl_Sg_10 (by decide) rfl rfl rfl d_Sg_feed_48 ?_
    refine e_iload C d_Sg_feed_51 rfl ?_
    refine e_callVV C ok_Ta_append lk_Sg_91 (o := 2) (by decide) rfl [_] rfl rfl (Nat.le_of_ble_eq_true rfl) (by decide) (Nat.le_of_ble_eq_true rfl) d_Sg_feed_53 (k_Ta_append (by omega) r5) (fun u_53 h_53 => ?_)
    subst h_53
    rw [show sTz S + 16 + 4 = sTz S + 20 by omega]
    refine e_aload_n C d_Sg_feed_56 rfl ?_
    refine e_geto (o2 := 2) C fl_Sg_10 (by decide) rfl rfl rfl d_Sg_feed_57 ?_
    refine e_geti C fl_Sg_95 (by decide) rfl rfl d_Sg_feed_60 (fun r_60 => ?_)
    try simp only [so_at, ctp_2] at r_60 ⊢
    refine e_iret C F rfl d_Sg_feed_63 (by omega) ?_
    refine ⟨rfl, h.t2 ⟨ctp_2 _ _ _, ?_⟩⟩
    rw [ctp_1]
    exact fd5_cong e1
  · have hv : ¬ (sTz S + 20 ≤ 2000) := fun z => by rw [if_pos z] at c_9; omega
    rw [if_neg hv, if_neg hv] at F
    refine e_iconst C d_Sg_feed_12 ?_
    refine e_iret C F rfl d_Sg_feed_13 (by omega) ?_
    exact ⟨rfl, h.same⟩
theorem l_Ca_grains2 {g : Mach} {Q : Int → St → Prop} (C : Cx M_Ca_grains g) (F : FinI M_Ca_grains g Q) {σ : St} {o : Nat} {N : Int} (hc : o ∈ castles) (hN : 0 ≤ N ∧ N ≤ 8) (hs : ∀ k, 0 ≤ k → k < N → 0 ≤ σ o 0 k + σ o 1 k ∧ σ o 0 k + σ o 1 k ≤ 100000000) :
    ∀ (n : Nat) (i w : Int), 0 ≤ i → i + n = N → 0 ≤ w → w ≤ 100000000 * i → Q (itr (nstep (σ o)) n i w) σ → Ev g 4 [some (.inr (.inr (o, 0))), some (.inl N), some (.inl w), some (.inl i)] [] σ := by
  have h_o := cas_obj hc
  have c_o := cas_cls hc
  intro n
  induction n with
  | zero =>
    intro i w h0 h1 hw hw2 hQ
    refine e_iload_n C d_Ca_grains_4 rfl ?_
    refine e_iload_n C d_Ca_grains_5 rfl ?_
    refine e_icmp_ge C 31 d_Ca_grains_6 (by decide) (by omega) (by omega) (fun c_6 => ?_) (fun c_6 => ?_)
    · refine e_iload_n C d_Ca_grains_31 rfl ?_
      refine e_iret C F rfl d_Ca_grains_32 (by omega) ?_
      exact hQ
    · exact absurd h1 (by omega)
  | succ n ih =>
    intro i w h0 h1 hw hw2 hQ
    have hsi := hs i h0 (by omega)
    rw [itr_S] at hQ
    refine e_iload_n C d_Ca_grains_4 rfl ?_
    refine e_iload_n C d_Ca_grains_5 rfl ?_
    refine e_icmp_ge C 31 d_Ca_grains_6 (by decide) (by omega) (by omega) (fun c_6 => ?_) (fun c_6 => ?_)
    · exact absurd h1 (by omega)
    · refine e_iload_n C d_Ca_grains_9 rfl ?_
      refine e_aload_n C d_Ca_grains_10 rfl ?_
      refine e_geta C fl_Ca_9 h_o c_o rfl d_Ca_grains_11 ?_
      refine e_iload_n C d_Ca_grains_14 rfl ?_
      refine e_iald (n := 8) C h_o c_o (by decide) rfl rfl (by decide) (by omega) (by omega) d_Ca_grains_15 (fun r_15 => ?_)
      refine e_aload_n C d_Ca_grains_16 rfl ?_
      refine e_geta C fl_Ca_15 h_o c_o rfl d_Ca_grains_17 ?_
      refine e_iload_n C d_Ca_grains_20 rfl ?_
      refine e_iald (n := 8) C h_o c_o (by decide) rfl rfl (by decide) (by omega) (by omega) d_Ca_grains_21 (fun r_21 => ?_)
      refine e_iadd C d_Ca_grains_22 ?_
      refine e_iadd C d_Ca_grains_23 ?_
      refine e_istore_n C d_Ca_grains_24 (by decide) rfl ?_
      refine e_iinc C d_Ca_grains_25 rfl (by decide) rfl ?_
      refine e_goto C 4 d_Ca_grains_28 (by decide) ?_
      exact ih (i + 1) _ (by omega) (by omega) (by omega) (by omega) hQ
theorem k_Ca_grains2 {σ : St} {o : Nat} {N : Int} (hc : o ∈ castles) (hN : 0 ≤ N ∧ N ≤ 8) (hs : ∀ k, 0 ≤ k → k < N → 0 ≤ σ o 0 k + σ o 1 k ∧ σ o 0 k + σ o 1 k ≤ 100000000) : CtI M_Ca_grains [.inr (.inr (o, 0)), .inl N] σ (fun r u => r = itr (nstep (σ o)) N.toNat 0 0 ∧ u = σ) := by
  intro g C F
  have h_o := cas_obj hc
  have c_o := cas_cls hc
  refine e_iconst C d_Ca_grains_0 ?_
  refine e_istore_n C d_Ca_grains_1 (by decide) rfl ?_
  refine e_iconst C d_Ca_grains_2 ?_
  refine e_istore_n C d_Ca_grains_3 (by decide) rfl ?_
  exact l_Ca_grains2 C F hc hN hs N.toNat 0 0 (by omega) (by omega) (by omega) (by omega) ⟨rfl, rfl⟩
theorem k_Sg_slotsHeld {σ : St} (h : ∀ s, 0 ≤ s → s < 3 → σ 0 7 s = 0 ∨ σ 0 7 s = 1) : CtI M_Sg_slotsHeld [.inr (.inr (0, 0))] σ (fun r u => r = σ 0 7 0 + σ 0 7 1 + σ 0 7 2 ∧ u = σ) := by
  intro g C F
  have h0 := h 0 (by decide) (by decide)
  have h1 := h 1 (by decide) (by decide)
  have h2 := h 2 (by decide) (by decide)
  have one : ∀ (i w : Int), (0 ≤ i ∧ i < 3) → (0 ≤ w ∧ w ≤ 10) → (σ 0 7 i = 0 ∨ σ 0 7 i = 1) → Ev g 4 [some (.inr (.inr (0, 0))), some (.inl (w + σ 0 7 i)), some (.inl (i + 1))] [] σ → Ev g 4 [some (.inr (.inr (0, 0))), some (.inl w), some (.inl i)] [] σ := by
    intro i w hi hw hz hE
    refine e_iload_n C d_Sg_slotsHeld_4 rfl ?_
    refine e_iconst C d_Sg_slotsHeld_5 ?_
    refine e_icmp_ge C 32 d_Sg_slotsHeld_6 (by decide) (by omega) (by omega) (fun c_6 => ?_) (fun c_6 => ?_)
    · exact absurd hi.2 (by omega)
    · refine e_iload_n C d_Sg_slotsHeld_9 rfl ?_
      refine e_aload_n C d_Sg_slotsHeld_10 rfl ?_
      refine e_geta C fl_Sg_51 (by decide) rfl rfl d_Sg_slotsHeld_11 ?_
      refine e_iload_n C d_Sg_slotsHeld_14 rfl ?_
      refine e_zald (n := 3) C (by decide) rfl (by decide) rfl rfl (by decide) (by omega) (by omega) d_Sg_slotsHeld_15 (fun r_15 => ?_)
      refine e_if_eq C 23 d_Sg_slotsHeld_16 (by decide) (by omega) (fun c_16 => ?_) (fun c_16 => ?_)
      · rw [c_16] at hE
        refine e_iconst C d_Sg_slotsHeld_23 ?_
        refine e_iadd C d_Sg_slotsHeld_24 ?_
        refine e_istore_n C d_Sg_slotsHeld_25 (by decide) rfl ?_
        refine e_iinc C d_Sg_slotsHeld_26 rfl (by decide) rfl ?_
        refine e_goto C 4 d_Sg_slotsHeld_29 (by decide) ?_
        exact hE
      · rw [show σ 0 7 i = 1 by omega] at hE
        refine e_iconst C d_Sg_slotsHeld_19 ?_
        refine e_goto C 24 d_Sg_slotsHeld_20 (by decide) ?_
        refine e_iadd C d_Sg_slotsHeld_24 ?_
        refine e_istore_n C d_Sg_slotsHeld_25 (by decide) rfl ?_
        refine e_iinc C d_Sg_slotsHeld_26 rfl (by decide) rfl ?_
        refine e_goto C 4 d_Sg_slotsHeld_29 (by decide) ?_
        exact hE
  refine e_iconst C d_Sg_slotsHeld_0 ?_
  refine e_istore_n C d_Sg_slotsHeld_1 (by decide) rfl ?_
  refine e_iconst C d_Sg_slotsHeld_2 ?_
  refine e_istore_n C d_Sg_slotsHeld_3 (by decide) rfl ?_
  refine one 0 0 (by omega) (by omega) h0 ?_
  rw [show (0 : Int) + 1 = 1 from rfl]
  refine one 1 _ (by omega) (by omega) h1 ?_
  rw [show (1 : Int) + 1 = 2 from rfl]
  refine one 2 _ (by omega) (by omega) h2 ?_
  refine e_iload_n C d_Sg_slotsHeld_4 rfl ?_
  refine e_iconst C d_Sg_slotsHeld_5 ?_
  refine e_icmp_ge C 32 d_Sg_slotsHeld_6 (by decide) (by omega) (by omega) (fun c_6 => ?_) (fun c_6 => ?_)
  · refine e_iload_n C d_Sg_slotsHeld_32 rfl ?_
    refine e_iret C F rfl d_Sg_slotsHeld_33 (by omega) ?_
    exact ⟨by omega, rfl⟩
  · exact absurd c_6 (by decide)
set_option maxHeartbeats 1000000 in
theorem K_Sg_count {σ : St} {S : SS} {n w : Int} (hp : PI S n) (h : IVc S n σ) (r1 : R32 w) : CtI M_Sg_count [.inr (.inr (0, 0)), .inl w] σ (fun r u => r = rvCount S w ∧ PC S n σ u) := by
  intro g C F
  have e7 := h.e7
  have hN := h.1.2.1
  have hG := h.1.2.2.1
  have hn := hp.n
  have e12 := h.y.1.1.2.2.2.2
  have e11 := h.y.1.1.2.2.2.1
  have k0 := h.ki 0 (by decide) (by decide)
  have k1 := h.ki 1 (by decide) (by decide)
  have k2 := h.ki 2 (by decide) (by decide)
  unfold rvCount at F
  refine e_iload_n C d_Sg_count_0 rfl ?_
  by_cases s_1 : w < 0 ∨ 12 < w
  · refine e_tableOut C 187 d_Sg_count_1 (by omega) (by omega) (by decide) ?_
    refine e_iconst C d_Sg_count_187 ?_
    refine e_iret C F rfl d_Sg_count_188 (by omega) ?_
    rw [if_neg (by omega), if_neg (by omega), if_neg (by omega), if_neg (by omega), if_neg (by omega), if_neg (by omega), if_neg (by omega), if_neg (by omega), if_neg (by omega), if_neg (by omega), if_neg (by omega), if_neg (by omega), if_neg (by omega)]; exact ⟨rfl, h.same⟩
  · rcases (show w = 0 ∨ w = 1 ∨ w = 2 ∨ w = 3 ∨ w = 4 ∨ w = 5 ∨ w = 6 ∨ w = 7 ∨ w = 8 ∨ w = 9 ∨ w = 10 ∨ w = 11 ∨ w = 12 by omega) with s_1_ | s_1_ | s_1_ | s_1_ | s_1_ | s_1_ | s_1_ | s_1_ | s_1_ | s_1_ | s_1_ | s_1_ | s_1_
    · refine e_tableIn (off := 67) C 68 d_Sg_count_1 (by omega) (by omega) (by omega) (by rw [s_1_]; rfl) (by decide) ?_
      refine e_aload_n C d_Sg_count_68 rfl ?_
      refine e_geto (o2 := 7) C fl_Sg_26 (by decide) rfl rfl rfl d_Sg_count_69 ?_
      refine e_geti C fl_Sg_244 (by decide) rfl rfl d_Sg_count_72 (fun r_72 => ?_)
      try simp only [e7] at r_72 ⊢
      refine e_iret C F rfl d_Sg_count_75 (by omega) ?_
      rw [if_pos s_1_]; exact ⟨rfl, h.same⟩
    · refine e_tableIn (off := 75) C 76 d_Sg_count_1 (by omega) (by omega) (by omega) (by rw [s_1_]; rfl) (by decide) ?_
      refine e_aload_n C d_Sg_count_76 rfl ?_
      refine e_geto (o2 := 7) C fl_Sg_26 (by decide) rfl rfl rfl d_Sg_count_77 ?_
      refine e_geti C fl_Sg_241 (by decide) rfl rfl d_Sg_count_80 (fun r_80 => ?_)
      try simp only [e7] at r_80 ⊢
      refine e_iret C F rfl d_Sg_count_83 (by omega) ?_
      rw [if_neg (by omega), if_pos s_1_]; exact ⟨rfl, h.same⟩
    · refine e_tableIn (off := 83) C 84 d_Sg_count_1 (by omega) (by omega) (by omega) (by rw [s_1_]; rfl) (by decide) ?_
      refine e_aload_n C d_Sg_count_84 rfl ?_
      refine e_geto (o2 := 18) C fl_Sg_37 (by decide) rfl rfl rfl d_Sg_count_85 ?_
      refine e_geti C fl_Sg_145 (by decide) rfl rfl d_Sg_count_88 (fun r_88 => ?_)
      try simp only [e7] at r_88 ⊢
      refine e_iret C F rfl d_Sg_count_91 (by omega) ?_
      rw [if_neg (by omega), if_neg (by omega), if_pos s_1_]; exact ⟨e12.symm, h.same⟩
    · refine e_tableIn (off := 91) C 92 d_Sg_count_1 (by omega) (by omega) (by omega) (by rw [s_1_]; rfl) (by decide) ?_
      refine e_aload_n C d_Sg_count_92 rfl ?_
      refine e_geto (o2 := 18) C fl_Sg_37 (by decide) rfl rfl rfl d_Sg_count_93 ?_
      refine e_geti C fl_Sg_293 (by decide) rfl rfl d_Sg_count_96 (fun r_96 => ?_)
      try simp only [e7] at r_96 ⊢
      refine e_iret C F rfl d_Sg_count_99 (by omega) ?_
      rw [if_neg (by omega), if_neg (by omega), if_neg (by omega), if_pos s_1_]; exact ⟨e11.symm, h.same⟩
    · refine e_tableIn (off := 99) C 100 d_Sg_count_1 (by omega) (by omega) (by omega) (by rw [s_1_]; rfl) (by decide) ?_
      refine e_aload_n C d_Sg_count_100 rfl ?_
      refine e_geto (o2 := 18) C fl_Sg_37 (by decide) rfl rfl rfl d_Sg_count_101 ?_
      refine e_aload_n C d_Sg_count_104 rfl ?_
      refine e_geto (o2 := 7) C fl_Sg_26 (by decide) rfl rfl rfl d_Sg_count_105 ?_
      refine e_geti C fl_Sg_244 (by decide) rfl rfl d_Sg_count_108 (fun r_108 => ?_)
      try simp only [e7] at r_108 ⊢
      refine e_callIV C ok_Ca_emptyPosts lk_Sg_296 (o := 18) (by decide) rfl [_] rfl rfl (Nat.le_of_ble_eq_true rfl) (by decide) (Nat.le_of_ble_eq_true rfl) d_Sg_count_111 (k_Ca_emptyPosts (by decide) hN) (fun v_111 u_111 q_111 h_111 => ?_)
      obtain ⟨h_111, rfl⟩ := h_111
      refine e_iret C F rfl d_Sg_count_114 (by omega) ?_
      rw [if_neg (by omega), if_neg (by omega), if_neg (by omega), if_neg (by omega), if_pos s_1_]; exact ⟨h_111.trans (est_eq h.y.1 hN.1).symm, h.same⟩
    · refine e_tableIn (off := 114) C 115 d_Sg_count_1 (by omega) (by omega) (by omega) (by rw [s_1_]; rfl) (by decide) ?_
      refine e_aload_n C d_Sg_count_115 rfl ?_
      refine e_geto (o2 := 7) C fl_Sg_26 (by decide) rfl rfl rfl d_Sg_count_116 ?_
      refine e_geti C fl_Sg_299 (by decide) rfl rfl d_Sg_count_119 (fun r_119 => ?_)
      try simp only [e7] at r_119 ⊢
      refine e_iret C F rfl d_Sg_count_122 (by omega) ?_
      rw [if_neg (by omega), if_neg (by omega), if_neg (by omega), if_neg (by omega), if_neg (by omega), if_pos s_1_]; exact ⟨rfl, h.same⟩
    · refine e_tableIn (off := 122) C 123 d_Sg_count_1 (by omega) (by omega) (by omega) (by rw [s_1_]; rfl) (by decide) ?_
      refine e_aload_n C d_Sg_count_123 rfl ?_
      refine e_geto (o2 := 7) C fl_Sg_26 (by decide) rfl rfl rfl d_Sg_count_124 ?_
      refine e_geti C fl_Sg_302 (by decide) rfl rfl d_Sg_count_127 (fun r_127 => ?_)
      try simp only [e7] at r_127 ⊢
      refine e_iret C F rfl d_Sg_count_130 (by omega) ?_
      rw [if_neg (by omega), if_neg (by omega), if_neg (by omega), if_neg (by omega), if_neg (by omega), if_neg (by omega), if_pos s_1_]; exact ⟨rfl, h.same⟩
    · refine e_tableIn (off := 130) C 131 d_Sg_count_1 (by omega) (by omega) (by omega) (by rw [s_1_]; rfl) (by decide) ?_
      refine e_aload_n C d_Sg_count_131 rfl ?_
      refine e_geto (o2 := 18) C fl_Sg_37 (by decide) rfl rfl rfl d_Sg_count_132 ?_
      refine e_aload_n C d_Sg_count_135 rfl ?_
      refine e_geto (o2 := 7) C fl_Sg_26 (by decide) rfl rfl rfl d_Sg_count_136 ?_
      refine e_geti C fl_Sg_244 (by decide) rfl rfl d_Sg_count_139 (fun r_139 => ?_)
      try simp only [e7] at r_139 ⊢
      refine e_callIV C ok_Ca_grains lk_Sg_305 (o := 18) (by decide) rfl [_] rfl rfl (Nat.le_of_ble_eq_true rfl) (by decide) (Nat.le_of_ble_eq_true rfl) d_Sg_count_142 (k_Ca_grains2 (by decide) hN (fun q a b => by have u1 := hp.y.2.1 q a b; have u2 := h.y.1.1.1 0 q (by decide) a b; have u3 := h.y.1.1.1 1 q (by decide) a b; have u4 := h.y.2.2.1 q a (by omega); omega)) (fun v_142 u_142 q_142 h_142 => ?_)
      obtain ⟨h_142, rfl⟩ := h_142
      refine e_iret C F rfl d_Sg_count_145 (by omega) ?_
      rw [if_neg (by omega), if_neg (by omega), if_neg (by omega), if_neg (by omega), if_neg (by omega), if_neg (by omega), if_neg (by omega), if_pos s_1_]
      refine ⟨?_, h.same⟩
      rw [h_142]
      refine itr_cong _ _ _ (fun q x a b => ?_)
      unfold nstep
      rw [h.y.1.1.1 0 q (by decide) a (by omega), h.y.1.1.1 1 q (by decide) a (by omega)]
    · refine e_tableIn (off := 145) C 146 d_Sg_count_1 (by omega) (by omega) (by omega) (by rw [s_1_]; rfl) (by decide) ?_
      refine e_aload_n C d_Sg_count_146 rfl ?_
      refine e_geto (o2 := 2) C fl_Sg_10 (by decide) rfl rfl rfl d_Sg_count_147 ?_
      refine e_geti C fl_Sg_95 (by decide) rfl rfl d_Sg_count_150 (fun r_150 => ?_)
      try simp only [e7] at r_150 ⊢
      refine e_iret C F rfl d_Sg_count_153 (by omega) ?_
      rw [if_neg (by omega), if_neg (by omega), if_neg (by omega), if_neg (by omega), if_neg (by omega), if_neg (by omega), if_neg (by omega), if_neg (by omega), if_pos s_1_]; exact ⟨h.ta.1, h.same⟩
    · refine e_tableIn (off := 153) C 154 d_Sg_count_1 (by omega) (by omega) (by omega) (by rw [s_1_]; rfl) (by decide) ?_
      refine e_aload_n C d_Sg_count_154 rfl ?_
      refine e_geto (o2 := 9) C fl_Sg_43 (by decide) rfl rfl rfl d_Sg_count_155 ?_
      refine e_geti C fl_Sg_119 (by decide) rfl rfl d_Sg_count_158 (fun r_158 => ?_)
      try simp only [e7] at r_158 ⊢
      refine e_iret C F rfl d_Sg_count_161 (by omega) ?_
      rw [if_neg (by omega), if_neg (by omega), if_neg (by omega), if_neg (by omega), if_neg (by omega), if_neg (by omega), if_neg (by omega), if_neg (by omega), if_neg (by omega), if_pos s_1_]; exact ⟨h.hi.1, h.same⟩
    · refine e_tableIn (off := 161) C 162 d_Sg_count_1 (by omega) (by omega) (by omega) (by rw [s_1_]; rfl) (by decide) ?_
      refine e_aload_n C d_Sg_count_162 rfl ?_
      refine e_geto (o2 := 13) C fl_Sg_79 (by decide) rfl rfl rfl d_Sg_count_163 ?_
      refine e_geti C fl_Sg_283 (by decide) rfl rfl d_Sg_count_166 (fun r_166 => ?_)
      try simp only [e7] at r_166 ⊢
      refine e_iret C F rfl d_Sg_count_169 (by omega) ?_
      rw [if_neg (by omega), if_neg (by omega), if_neg (by omega), if_neg (by omega), if_neg (by omega), if_neg (by omega), if_neg (by omega), if_neg (by omega), if_neg (by omega), if_neg (by omega), if_pos s_1_]; exact ⟨h.ru.1, h.same⟩
    · refine e_tableIn (off := 169) C 170 d_Sg_count_1 (by omega) (by omega) (by omega) (by rw [s_1_]; rfl) (by decide) ?_
      refine e_aload_n C d_Sg_count_170 rfl ?_
      refine e_callIV C ok_Sg_slotsHeld lk_Sg_308 (o := 0) (by decide) rfl [] rfl rfl (Nat.le_of_ble_eq_true rfl) (by decide) (Nat.le_of_ble_eq_true rfl) d_Sg_count_171 (k_Sg_slotsHeld (fun s a b => by rw [(h.ki s a b).1]; exact (hp.k s a b).1)) (fun v_171 u_171 q_171 h_171 => ?_)
      obtain ⟨h_171, rfl⟩ := h_171
      refine e_iret C F rfl d_Sg_count_174 (by omega) ?_
      rw [if_neg (by omega), if_neg (by omega), if_neg (by omega), if_neg (by omega), if_neg (by omega), if_neg (by omega), if_neg (by omega), if_neg (by omega), if_neg (by omega), if_neg (by omega), if_neg (by omega), if_pos s_1_]
      refine ⟨?_, h.same⟩
      rw [h_171, k0.1, k1.1, k2.1]
    · refine e_tableIn (off := 174) C 175 d_Sg_count_1 (by omega) (by omega) (by omega) (by rw [s_1_]; rfl) (by decide) ?_
      refine e_aload_n C d_Sg_count_175 rfl ?_
      refine e_geto (o2 := 18) C fl_Sg_37 (by decide) rfl rfl rfl d_Sg_count_176 ?_
      refine e_aload_n C d_Sg_count_179 rfl ?_
      refine e_geto (o2 := 7) C fl_Sg_26 (by decide) rfl rfl rfl d_Sg_count_180 ?_
      refine e_callIV C ok_Ca_guardsWhoSlept lk_Sg_312 (o := 18) (by decide) rfl [_] rfl rfl (Nat.le_of_ble_eq_true rfl) (by decide) (Nat.le_of_ble_eq_true rfl) d_Sg_count_183 (k_Ca_guardsWhoSlept (by decide) (by rw [e7]; exact hG)) (fun v_183 u_183 q_183 h_183 => ?_)
      obtain ⟨h_183, rfl⟩ := h_183
      rw [e7] at h_183
      refine e_iret C F rfl d_Sg_count_186 (by omega) ?_
      rw [if_neg (by omega), if_neg (by omega), if_neg (by omega), if_neg (by omega), if_neg (by omega), if_neg (by omega), if_neg (by omega), if_neg (by omega), if_neg (by omega), if_neg (by omega), if_neg (by omega), if_neg (by omega), if_pos s_1_]
      refine ⟨?_, h.same⟩
      rw [h_183]
      unfold c_slepts
      refine itr_cong _ _ _ (fun q x a b => ?_)
      unfold gstep
      rw [h.y.1.1.2.1 7 q (by decide) (by decide) a (by omega)]
