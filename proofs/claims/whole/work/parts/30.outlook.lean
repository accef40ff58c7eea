/-! History and Outlook -/
theorem kept_cas {i : Int} (h : 0 ≤ i ∧ i < 40) : 32 + i.toNat ∈ castles := List.mem_append_right _ (List.mem_range'_1.mpr ⟨by omega, by omega⟩)
theorem slot_cas {i : Int} (h : 0 ≤ i ∧ i < 3) : 23 + i.toNat ∈ castles := List.mem_append_left _ (List.mem_range'_1.mpr ⟨by omega, by omega⟩)
def h_keep (h : Cs) : Cs := cu (cu h 2 0 ((h 2 0 + 1) % 40)) 0 0 (min (h 0 0 + 1) 40)
theorem k_Hi_keep {σ : St} (hn : 0 ≤ σ 9 2 0 ∧ σ 9 2 0 < 40) (hs : 0 ≤ σ 9 0 0 ∧ σ 9 0 0 ≤ 40) : CtV M_Hi_keep [.inr (.inr (9, 0)), .inr (.inr (18, 0))] σ (fun u => u = so (so σ (32 + (σ 9 2 0).toNat) (c_copy (σ (32 + (σ 9 2 0).toNat)) (σ 18))) 9 (h_keep (σ 9))) := by
  intro g C F
  obtain ⟨q, hq⟩ : ∃ q : Nat, 32 + (σ 9 2 0).toNat = q := ⟨_, rfl⟩
  have hqc : q ∈ castles := by rw [← hq]; exact kept_cas hn
  have h_q := cas_obj hqc
  have c_q := cas_cls hqc
  have q9 : 9 ≠ q := cas_ne hqc (by decide)
  rw [hq] at F
  refine e_aload_n C d_Hi_keep_0 rfl ?_
  refine e_geta C fl_Hi_11 (by decide) rfl rfl d_Hi_keep_1 ?_
  refine e_aload_n C d_Hi_keep_4 rfl ?_
  refine e_geti C fl_Hi_16 (by decide) rfl rfl d_Hi_keep_5 (fun r_5 => ?_)
  try simp only [so_at, so_ne q9, so_ne, so_so, wr_so, cu_f, cu_s, ne_eq, Nat.reduceEqDiff, not_false_eq_true] at r_5 ⊢
  refine e_aald (n := 40) (o2 := q) C (by decide) rfl (by decide) rfl rfl (by decide) (by omega) (by omega) hq d_Hi_keep_8 ?_
  refine e_aload_n C d_Hi_keep_9 rfl ?_
  refine e_callVV C ok_Ca_copyFrom lk_Hi_20 (o := q) h_q (by rw [c_q]; rfl) [_] rfl rfl (Nat.le_of_ble_eq_true rfl) (by decide) (Nat.le_of_ble_eq_true rfl) d_Hi_keep_10 (k_Ca_copyFrom hqc (by decide) (by omega)) (fun u_10 h_10 => ?_)
  subst h_10
  refine e_aload_n C d_Hi_keep_13 rfl ?_
  refine e_aload_n C d_Hi_keep_14 rfl ?_
  refine e_geti C fl_Hi_16 (by decide) rfl rfl d_Hi_keep_15 (fun r_15 => ?_)
  try simp only [so_at, so_ne q9, so_ne, so_so, wr_so, cu_f, cu_s, ne_eq, Nat.reduceEqDiff, not_false_eq_true] at r_15 ⊢
  refine e_iconst C d_Hi_keep_18 ?_
  refine e_iadd C d_Hi_keep_19 ?_
  refine e_bipush C d_Hi_keep_20 (by decide) ?_
  refine e_irem C d_Hi_keep_22 (by omega) (by omega) (by omega) ?_
  rw [Int.tmod_eq_emod_of_nonneg (by omega)]
  have b1 := Int.emod_nonneg (σ 9 2 0 + 1) (b := 40) (by omega)
  have b2 := Int.emod_lt_of_pos (σ 9 2 0 + 1) (show (0 : Int) < 40 by omega)
  refine e_puti C fp_Hi_16 (by decide) rfl rfl (by omega) d_Hi_keep_23 ?_
  try simp only [so_at, so_ne q9, so_ne, so_so, wr_so, cu_f, cu_s, ne_eq, Nat.reduceEqDiff, not_false_eq_true]
  refine e_aload_n C d_Hi_keep_26 rfl ?_
  refine e_aload_n C d_Hi_keep_27 rfl ?_
  refine e_geti C fl_Hi_24 (by decide) rfl rfl d_Hi_keep_28 (fun r_28 => ?_)
  try simp only [so_at, so_ne q9, so_ne, so_so, wr_so, cu_f, cu_s, ne_eq, Nat.reduceEqDiff, not_false_eq_true] at r_28 ⊢
  refine e_iconst C d_Hi_keep_31 ?_
  refine e_iadd C d_Hi_keep_32 ?_
  refine e_bipush C d_Hi_keep_33 (by decide) ?_
  refine e_mmin C lk_Hi_27 d_Hi_keep_35 (by decide) (Nat.le_of_ble_eq_true rfl) (by omega) (by omega) ?_
  refine e_puti C fp_Hi_24 (by decide) rfl rfl (by omega) d_Hi_keep_38 ?_
  try simp only [so_at, so_ne q9, so_ne, so_so, wr_so, cu_f, cu_s, ne_eq, Nat.reduceEqDiff, not_false_eq_true]
  refine e_vret C F rfl d_Hi_keep_41 ?_
  rfl
def h_back (h : Cs) : Cs := cu (cu h 0 0 (h 0 0 - 1)) 2 0 ((h 2 0 + 39) % 40)
theorem k_Hi_giveBack {σ : St} (hn : 0 ≤ σ 9 2 0 ∧ σ 9 2 0 < 40) (hs : 0 ≤ σ 9 0 0 ∧ σ 9 0 0 ≤ 40) : CtI M_Hi_giveBack [.inr (.inr (9, 0)), .inr (.inr (18, 0))] σ (fun r u => (σ 9 0 0 = 0 ∧ r = 0 ∧ u = σ) ∨ (0 < σ 9 0 0 ∧ r = 1 ∧ u = so (so σ 9 (h_back (σ 9))) 18 (c_copy (σ 18) (σ (32 + ((σ 9 2 0 + 39) % 40).toNat))))) := by
  intro g C F
  have b1 := Int.emod_nonneg (σ 9 2 0 + 39) (b := 40) (by omega)
  have b2 := Int.emod_lt_of_pos (σ 9 2 0 + 39) (show (0 : Int) < 40 by omega)
  obtain ⟨q, hq⟩ : ∃ q : Nat, 32 + ((σ 9 2 0 + 39) % 40).toNat = q := ⟨_, rfl⟩
  have hqc : q ∈ castles := by rw [← hq]; exact kept_cas ⟨b1, b2⟩
  have h_q := cas_obj hqc
  have c_q := cas_cls hqc
  have q9 : q ≠ 9 := (cas_ne hqc (by decide)).symm
  rw [hq] at F
  refine e_aload_n C d_Hi_giveBack_0 rfl ?_
  refine e_geti C fl_Hi_24 (by decide) rfl rfl d_Hi_giveBack_1 (fun r_1 => ?_)
  try simp only [so_at, so_ne, so_so, wr_so, cu_f, cu_s, ne_eq, Nat.reduceEqDiff, not_false_eq_true] at r_1 ⊢
  refine e_if_ne C 9 d_Hi_giveBack_4 (by decide) (by omega) (fun c_4 => ?_) (fun c_4 => ?_)
  · refine e_aload_n C d_Hi_giveBack_9 rfl ?_
    refine e_dup C d_Hi_giveBack_10 rfl ?_
    refine e_geti C fl_Hi_24 (by decide) rfl rfl d_Hi_giveBack_11 (fun r_11 => ?_)
    try simp only [so_at, so_ne, so_so, wr_so, cu_f, cu_s, ne_eq, Nat.reduceEqDiff, not_false_eq_true] at r_11 ⊢
    refine e_iconst C d_Hi_giveBack_14 ?_
    refine e_isub C d_Hi_giveBack_15 ?_
    refine e_puti C fp_Hi_24 (by decide) rfl rfl (by omega) d_Hi_giveBack_16 ?_
    try simp only [so_at, so_ne, so_so, wr_so, cu_f, cu_s, ne_eq, Nat.reduceEqDiff, not_false_eq_true]
    refine e_aload_n C d_Hi_giveBack_19 rfl ?_
    refine e_aload_n C d_Hi_giveBack_20 rfl ?_
    refine e_geti C fl_Hi_16 (by decide) rfl rfl d_Hi_giveBack_21 (fun r_21 => ?_)
    try simp only [so_at, so_ne, so_so, wr_so, cu_f, cu_s, ne_eq, Nat.reduceEqDiff, not_false_eq_true] at r_21 ⊢
    refine e_bipush C d_Hi_giveBack_24 (by decide) ?_
    refine e_iadd C d_Hi_giveBack_26 ?_
    refine e_iconst C d_Hi_giveBack_27 ?_
    refine e_isub C d_Hi_giveBack_28 ?_
    rw [show σ 9 2 0 + 40 - 1 = σ 9 2 0 + 39 by omega]
    refine e_bipush C d_Hi_giveBack_29 (by decide) ?_
    refine e_irem C d_Hi_giveBack_31 (by omega) (by omega) (by omega) ?_
    rw [Int.tmod_eq_emod_of_nonneg (by omega)]
    refine e_puti C fp_Hi_16 (by decide) rfl rfl (by omega) d_Hi_giveBack_32 ?_
    try simp only [so_at, so_ne, so_so, wr_so, cu_f, cu_s, ne_eq, Nat.reduceEqDiff, not_false_eq_true]
    refine e_aload_n C d_Hi_giveBack_35 rfl ?_
    refine e_aload_n C d_Hi_giveBack_36 rfl ?_
    refine e_geta C fl_Hi_11 (by decide) rfl rfl d_Hi_giveBack_37 ?_
    refine e_aload_n C d_Hi_giveBack_40 rfl ?_
    refine e_geti C fl_Hi_16 (by decide) rfl rfl d_Hi_giveBack_41 (fun r_41 => ?_)
    try simp only [so_at, so_ne, so_so, wr_so, cu_f, cu_s, ne_eq, Nat.reduceEqDiff, not_false_eq_true] at r_41 ⊢
    refine e_aald (n := 40) (o2 := q) C (by decide) rfl (by decide) rfl rfl (by decide) (by omega) (by omega) hq d_Hi_giveBack_44 ?_
    refine e_callVV C ok_Ca_copyFrom lk_Hi_20 (o := 18) (by decide) rfl [_] rfl rfl (Nat.le_of_ble_eq_true rfl) (by decide) (Nat.le_of_ble_eq_true rfl) d_Hi_giveBack_45 (k_Ca_copyFrom (by decide) hqc (by omega)) (fun u_45 h_45 => ?_)
    subst h_45
    refine e_iconst C d_Hi_giveBack_48 ?_
    refine e_zret C F rfl d_Hi_giveBack_49 (by omega) ?_
    refine Or.inr ⟨by omega, rfl, ?_⟩
    rw [so_ne q9, so_ne (show (18 : Nat) ≠ 9 by decide)]
    rfl
  · refine e_iconst C d_Hi_giveBack_7 ?_
    refine e_zret C F rfl d_Hi_giveBack_8 (by omega) ?_
    exact Or.inl ⟨c_4, rfl, rfl⟩
/-- the store with the law's scratch numbers and a castle gone through -/
abbrev SF (σ : St) (o : Nat) (l c : Cs) : St := so (so σ 8 l) o c
theorem SF_id (σ : St) (o : Nat) (h : o ≠ 8) : SF σ o (σ 8) (σ o) = σ := by
  unfold SF
  rw [so_id]
  exact so_id σ o
theorem s_Ca_copy {σ : St} {o : Nat} {l c : Cs} (hc : o ∈ castles) (h18 : o ≠ 18) : CtV M_Ca_copyFrom [.inr (.inr (o, 0)), .inr (.inr (18, 0))] (SF σ o l c) (fun u => u = SF σ o l (c_copy c (σ 18))) := by
  have := k_Ca_copyFrom (σ := SF σ o l c) (o := o) (o1 := 18) hc (by decide) (by omega)
  simpa only [so_at, so_so, so_ne (show 18 ≠ o from fun z => h18 z.symm), so_ne (show (18 : Nat) ≠ 8 by decide)] using this
theorem k_Ou_goThrough {σ : St} {φ : Phi} {n B : Int} {l c : Cs} (hPl : PlanOk (σ 7) l φ) (hK : CK B (σ 18)) (hB : 0 ≤ B ∧ B < 800000000) (hn : 0 ≤ n ∧ n ≤ 10000) : CtV M_Ou_goThrough [.inr (.inr (10, 0)), .inr (.inr (7, 0)), .inr (.inr (18, 0)), .inl n] (SF σ 19 l c) (fun u => ∃ l', LSm l l' ∧ u = SF σ 19 l' (c_many φ (σ 7) (l 0 0) n.toNat n (c_copy c (σ 18)))) := by
  intro g C F
  refine e_aload_n C d_Ou_goThrough_0 rfl ?_
  refine e_geto (o2 := 19) C fl_Ou_12 (by decide) rfl rfl rfl d_Ou_goThrough_1 ?_
  refine e_aload_n C d_Ou_goThrough_4 rfl ?_
  refine e_callVV C ok_Ca_copyFrom lk_Ou_18 (o := 19) (by decide) rfl [_] rfl rfl (Nat.le_of_ble_eq_true rfl) (by decide) (Nat.le_of_ble_eq_true rfl) d_Ou_goThrough_5 (s_Ca_copy (by decide) (by decide)) (fun u_5 h_5 => ?_)
  subst h_5
  refine e_aload_n C d_Ou_goThrough_8 rfl ?_
  refine e_geto (o2 := 19) C fl_Ou_12 (by decide) rfl rfl rfl d_Ou_goThrough_9 ?_
  refine e_aload_n C d_Ou_goThrough_12 rfl ?_
  refine e_iload_n C d_Ou_goThrough_13 rfl ?_
  refine e_callVV C ok_Ca_passMany lk_Ou_22 (o := 19) (by decide) rfl [_, _] rfl rfl (Nat.le_of_ble_eq_true rfl) (by decide) (Nat.le_of_ble_eq_true rfl) d_Ou_goThrough_14 (s_Ca_passMany (by decide) hPl (CK_copy hK) hB hn) (fun u_14 h_14 => ?_)
  obtain ⟨l1, hl1, rfl⟩ := h_14
  refine e_vret C F rfl d_Ou_goThrough_17 ?_
  exact ⟨l1, hl1, rfl⟩
/-- one glass alone, a minute -/
def g_min (φ : Phi) (P c : Cs) (p : Int) : Cs := cu (c_down c p (flw φ P c p (pl_hour P (c 12 0)))) 12 0 (c 12 0 + 1)
def g_out (φ : Phi) (P : Cs) (p : Int) : Nat → Int → Cs → Int
  | 0, _, _ => -2
  | n + 1, i, c => if c 0 p = 0 then i else g_out φ P p n (i + 1) (g_min φ P c p)
theorem CK_gmin {φ : Phi} {P c : Cs} {p B : Int} (h : CK B c) (hp : 0 ≤ p ∧ p < 8) : CK (B + 1) (g_min φ P c p) := by
  have h0 := (h.2.1 p hp.1 hp.2).1
  have hd := CK_down h hp (flw_in (φ := φ) (P := P) (h := pl_hour P (c 12 0)) h0)
  have hd1 := hd.mono (show B ≤ B + 1 by omega)
  have h3 := h.2.2.2
  unfold g_min
  refine ⟨CI_cu hd.1 (by decide) (by decide) (by decide), fun q h1 h2 => ?_, fun k h1 h2 => ?_, ?_⟩
  · rw [cu_f (by decide), cu_f (by decide), cu_f (by decide)]; exact hd1.2.1 q h1 h2
  · rw [cu_f (by decide), cu_f (by decide), cu_f (by decide)]; exact hd1.2.2.1 k h1 h2
  · rw [cu_s]; omega
theorem l_Ou_minutesToOut {g : Mach} {Q : Int → St → Prop} (C : Cx M_Ou_minutesToOut g) (F : FinI M_Ou_minutesToOut g Q) {σ : St} {φ : Phi} {p m : Int} (hm : 0 ≤ m ∧ m ≤ 10000) (hp : 0 ≤ p ∧ p < σ 7 3 0) :
    ∀ (n : Nat) (i B : Int) (l c : Cs), PlanOk (σ 7) l φ → CK B c → 0 ≤ B → B + n < 900000000 → 0 ≤ i → i + n = m + 1 → (∀ l' c', LSm l l' → Q (g_out φ (σ 7) p n i c) (SF σ 19 l' c')) → Ev g 3 [some (.inr (.inr (10, 0))), some (.inr (.inr (7, 0))), some (.inl p), some (.inl m), some (.inl i)] [] (SF σ 19 l c) := by
  intro n
  induction n with
  | zero =>
    intro i B l c hPl hK hB hb h0 h1 hQ
    refine e_iload C d_Ou_minutesToOut_3 rfl ?_
    refine e_iload_n C d_Ou_minutesToOut_5 rfl ?_
    refine e_icmp_gt C 71 d_Ou_minutesToOut_6 (by decide) (by omega) (by omega) (fun c_6 => ?_) (fun c_6 => ?_)
    · refine e_bipush C d_Ou_minutesToOut_71 (by decide) ?_
      refine e_iret C F rfl d_Ou_minutesToOut_73 (by omega) ?_
      exact hQ l c (LSm.rf l)
    · exact absurd h1 (by omega)
  | succ n ih =>
    intro i B l c hPl hK hB hb h0 h1 hQ
    have hN := hPl.1
    have hKp := hK.2.1 p hp.1 (by omega)
    have hK3 := hK.2.2.2
    have hfi := flw_in (φ := φ) (P := σ 7) (h := pl_hour (σ 7) (c 12 0)) hKp.1
    unfold g_out at hQ
    refine e_iload C d_Ou_minutesToOut_3 rfl ?_
    refine e_iload_n C d_Ou_minutesToOut_5 rfl ?_
    refine e_icmp_gt C 71 d_Ou_minutesToOut_6 (by decide) (by omega) (by omega) (fun c_6 => ?_) (fun c_6 => ?_)
    · exact absurd h1 (by omega)
    · refine e_aload_n C d_Ou_minutesToOut_9 rfl ?_
      refine e_geto (o2 := 19) C fl_Ou_12 (by decide) rfl rfl rfl d_Ou_minutesToOut_10 ?_
      refine e_geta C fl_Ou_26 (by decide) rfl rfl d_Ou_minutesToOut_13 ?_
      refine e_iload_n C d_Ou_minutesToOut_16 rfl ?_
      refine e_iald (n := 8) C (by decide) rfl (by decide) rfl rfl (by decide) (by omega) (by omega) d_Ou_minutesToOut_17 (fun r_17 => ?_)
      try simp only [so_at, so_ne, so_so, wr_so, c_down_f, ne_eq, Nat.reduceEqDiff, not_false_eq_true] at r_17 ⊢
      refine e_if_ne C 24 d_Ou_minutesToOut_18 (by decide) (by omega) (fun c_18 => ?_) (fun c_18 => ?_)
      · rw [if_neg c_18] at hQ
        refine e_aload_n C d_Ou_minutesToOut_24 rfl ?_
        refine e_geto (o2 := 19) C fl_Ou_12 (by decide) rfl rfl rfl d_Ou_minutesToOut_25 ?_
        refine e_iload_n C d_Ou_minutesToOut_28 rfl ?_
        refine e_aload_n C d_Ou_minutesToOut_29 rfl ?_
        refine e_aload_n C d_Ou_minutesToOut_30 rfl ?_
        refine e_geto (o2 := 19) C fl_Ou_12 (by decide) rfl rfl rfl d_Ou_minutesToOut_31 ?_
        refine e_iload_n C d_Ou_minutesToOut_34 rfl ?_
        refine e_aload_n C d_Ou_minutesToOut_35 rfl ?_
        refine e_aload_n C d_Ou_minutesToOut_36 rfl ?_
        refine e_geto (o2 := 19) C fl_Ou_12 (by decide) rfl rfl rfl d_Ou_minutesToOut_37 ?_
        refine e_geti C fl_Ou_30 (by decide) rfl rfl d_Ou_minutesToOut_40 (fun r_40 => ?_)
        try simp only [so_at, so_ne, so_so, wr_so, c_down_f, ne_eq, Nat.reduceEqDiff, not_false_eq_true] at r_40 ⊢
        refine e_callIV C ok_Pl_hourOf lk_Ou_34 (o := 7) (by decide) rfl [_] rfl rfl (Nat.le_of_ble_eq_true rfl) (by decide) (Nat.le_of_ble_eq_true rfl) d_Ou_minutesToOut_43 (s_Pl_hourOf hK3.1 (by omega) hPl.2.2.1.2) (fun v_43 u_43 q_43 h_43 => ?_)
        obtain ⟨rfl, rfl⟩ := h_43
        have e7 : SF σ 19 l c 7 = σ 7 := by unfold SF; rw [so_ne (by decide), so_ne (by decide)]
        rw [e7]
        refine e_callIV C ok_Pl_flow lk_Ou_40 (o := 7) (by decide) rfl [_, _, _] rfl rfl (Nat.le_of_ble_eq_true rfl) (by decide) (Nat.le_of_ble_eq_true rfl) d_Ou_minutesToOut_46 (s_Pl_flow (by decide) hPl hp (pl_hour_in hPl hK3.1)) (fun v_46 u_46 q_46 h_46 => ?_)
        obtain ⟨rfl, l1, hl1, rfl⟩ := h_46
        refine e_callVV C ok_Ca_runDown lk_Ou_44 (o := 19) (by decide) rfl [_, _] rfl rfl (Nat.le_of_ble_eq_true rfl) (by decide) (Nat.le_of_ble_eq_true rfl) d_Ou_minutesToOut_49 (s_Ca_runDown (by decide) (by omega) (by omega) (by omega)) (fun u_49 h_49 => ?_)
        subst h_49
        refine e_aload_n C d_Ou_minutesToOut_52 rfl ?_
        refine e_geto (o2 := 19) C fl_Ou_12 (by decide) rfl rfl rfl d_Ou_minutesToOut_53 ?_
        refine e_dup C d_Ou_minutesToOut_56 rfl ?_
        refine e_geti C fl_Ou_30 (by decide) rfl rfl d_Ou_minutesToOut_57 (fun r_57 => ?_)
        try simp only [so_at, so_ne, so_so, wr_so, c_down_f, ne_eq, Nat.reduceEqDiff, not_false_eq_true] at r_57 ⊢
        refine e_iconst C d_Ou_minutesToOut_60 ?_
        refine e_iadd C d_Ou_minutesToOut_61 ?_
        refine e_puti C fp_Ou_30 (by decide) rfl rfl (by omega) d_Ou_minutesToOut_62 ?_
        try simp only [so_at, so_ne, so_so, wr_so, c_down_f, ne_eq, Nat.reduceEqDiff, not_false_eq_true]
        refine e_iinc C d_Ou_minutesToOut_65 rfl (by decide) rfl ?_
        refine e_goto C 3 d_Ou_minutesToOut_68 (by decide) ?_
        exact ih (i + 1) (B + 1) l1 _ (hPl.same hl1) (CK_gmin hK (by omega)) (by omega) (by omega) (by omega) (by omega) (fun l' c' hl' => hQ l' c' (hl1.tr hl'))
      · rw [if_pos c_18] at hQ
        refine e_iload C d_Ou_minutesToOut_21 rfl ?_
        refine e_iret C F rfl d_Ou_minutesToOut_23 (by omega) ?_
        exact hQ l c (LSm.rf l)
theorem k_Ou_minutesToOut {σ : St} {φ : Phi} {p m B : Int} {l c : Cs} (hPl : PlanOk (σ 7) l φ) (hK : CK B c) (hB : 0 ≤ B ∧ B < 800000000) (hm : 0 ≤ m ∧ m ≤ 10000) (hp : 0 ≤ p ∧ p < σ 7 3 0) : CtI M_Ou_minutesToOut [.inr (.inr (10, 0)), .inr (.inr (7, 0)), .inl p, .inl m] (SF σ 19 l c) (fun r u => r = g_out φ (σ 7) p (m + 1).toNat 0 c ∧ ∃ l' c', LSm l l' ∧ u = SF σ 19 l' c') := by
  intro g C F
  refine e_iconst C d_Ou_minutesToOut_0 ?_
  refine e_istore C d_Ou_minutesToOut_1 (by decide) rfl ?_
  exact l_Ou_minutesToOut C F hm hp (m + 1).toNat 0 B l c hPl hK hB.1 (by omega) (by omega) (by omega) (fun l' c' hl' => ⟨rfl, l', c', hl', rfl⟩)
/-- minutes until a guard goes to bed -/
def g_bed (φ : Phi) (P : Cs) (z m a b : Int) : Nat → Int → Cs → Int
  | 0, _, _ => -2
  | n + 1, i, c => if m ≤ i then -2 else if c_pass φ P z c (m - i) 9 a = b then g_bed φ P z m a b n (i + max 1 (c_some φ P z c (m - i))) (c_pass φ P z c (m - i)) else i + max 1 (c_some φ P z c (m - i))
theorem l_Ou_minutesToBed {g : Mach} {Q : Int → St → Prop} (C : Cx M_Ou_minutesToBed g) (F : FinI M_Ou_minutesToBed g Q) {σ : St} {φ : Phi} {a b m : Int} (hm : 0 ≤ m ∧ m ≤ 10000) (ha : 0 ≤ a ∧ a < 12) (hb : R32 b) :
    ∀ (n : Nat) (i B : Int) (l c : Cs), PlanOk (σ 7) l φ → CK B c → 0 ≤ B → B + 10 * (m - i) < 900000000 → 0 ≤ i → m < i + n → i ≤ m → (∀ l' c', LSm l l' → Q (g_bed φ (σ 7) (l 0 0) m a b n i c) (SF σ 19 l' c')) → Ev g 14 [some (.inr (.inr (10, 0))), some (.inr (.inr (7, 0))), some (.inl a), some (.inl m), some (.inl b), some (.inl i)] [] (SF σ 19 l c) := by
  intro n
  induction n with
  | zero => intro i B l c hPl hK hB hb h0 h1 h2; omega
  | succ n ih =>
    intro i B l c hPl hK hB hb h0 h1 h2 hQ
    unfold g_bed at hQ
    refine e_iload C d_Ou_minutesToBed_14 rfl ?_
    refine e_iload_n C d_Ou_minutesToBed_16 rfl ?_
    refine e_icmp_ge C 58 d_Ou_minutesToBed_17 (by decide) (by omega) (by omega) (fun c_17 => ?_) (fun c_17 => ?_)
    · rw [if_pos (by omega)] at hQ
      refine e_bipush C d_Ou_minutesToBed_58 (by decide) ?_
      refine e_iret C F rfl d_Ou_minutesToBed_60 (by omega) ?_
      exact hQ l c (LSm.rf l)
    · rw [if_neg (by omega)] at hQ
      have hs := c_some_in (z := l 0 0) (most := m - i) hPl hK (by omega)
      have hq := c_q_in (z := l 0 0) (most := m - i) hPl hK (by omega)
      have hqs : c_q φ (σ 7) (l 0 0) c (m - i) ≤ c_some φ (σ 7) (l 0 0) c (m - i) := by unfold c_some; omega
      have hKp := CK_pass (z := l 0 0) (most := m - i) hPl hK hB (by omega)
      refine e_iload C d_Ou_minutesToBed_20 rfl ?_
      refine e_iconst C d_Ou_minutesToBed_22 ?_
      refine e_aload_n C d_Ou_minutesToBed_23 rfl ?_
      refine e_geto (o2 := 19) C fl_Ou_12 (by decide) rfl rfl rfl d_Ou_minutesToBed_24 ?_
      refine e_aload_n C d_Ou_minutesToBed_27 rfl ?_
      refine e_iload_n C d_Ou_minutesToBed_28 rfl ?_
      refine e_iload C d_Ou_minutesToBed_29 rfl ?_
      refine e_isub C d_Ou_minutesToBed_31 ?_
      refine e_callIV C ok_Ca_passSome lk_Ou_51 (o := 19) (by decide) rfl [_, _] rfl rfl (Nat.le_of_ble_eq_true rfl) (by decide) (Nat.le_of_ble_eq_true rfl) d_Ou_minutesToBed_32 (s_Ca_passSome (by decide) hPl hK (by omega) (by omega)) (fun v_32 u_32 q_32 h_32 => ?_)
      obtain ⟨rfl, l1, hl1, rfl⟩ := h_32
      refine e_mmax C lk_Ou_55 d_Ou_minutesToBed_35 (by decide) (Nat.le_of_ble_eq_true rfl) (by omega) (by omega) ?_
      refine e_iadd C d_Ou_minutesToBed_38 ?_
      refine e_istore C d_Ou_minutesToBed_39 (by decide) rfl ?_
      refine e_aload_n C d_Ou_minutesToBed_41 rfl ?_
      refine e_geto (o2 := 19) C fl_Ou_12 (by decide) rfl rfl rfl d_Ou_minutesToBed_42 ?_
      refine e_geta C fl_Ou_48 (by decide) rfl rfl d_Ou_minutesToBed_45 ?_
      refine e_iload_n C d_Ou_minutesToBed_48 rfl ?_
      refine e_iald (n := 12) C (by decide) rfl (by decide) rfl rfl (by decide) (by omega) (by omega) d_Ou_minutesToBed_49 (fun r_49 => ?_)
      try simp only [so_at, so_ne, ne_eq, Nat.reduceEqDiff, not_false_eq_true] at r_49 ⊢
      refine e_iload C d_Ou_minutesToBed_50 rfl ?_
      refine e_icmp_eq C 14 d_Ou_minutesToBed_52 (by decide) (by omega) (by omega) (fun c_52 => ?_) (fun c_52 => ?_)
      · rw [if_pos c_52] at hQ
        refine ih _ _ l1 _ (hPl.same hl1) hKp (by omega) (by omega) (by omega) (by omega) (by omega) (fun l' c' hl' => ?_)
        rw [hl1.1 0 (by decide)]
        exact hQ l' c' (hl1.tr hl')
      · rw [if_neg c_52] at hQ
        refine e_iload C d_Ou_minutesToBed_55 rfl ?_
        refine e_iret C F rfl d_Ou_minutesToBed_57 (by omega) ?_
        exact hQ l1 _ hl1
theorem k_Ou_minutesToBed {σ : St} {φ : Phi} {a m B : Int} {l c : Cs} (hPl : PlanOk (σ 7) l φ) (hK : CK B c) (hB : 0 ≤ B ∧ B < 700000000) (hm : 0 ≤ m ∧ m ≤ 10000) (ha : 0 ≤ a ∧ a < 12) : CtI M_Ou_minutesToBed [.inr (.inr (10, 0)), .inr (.inr (7, 0)), .inl a, .inl m] (SF σ 19 l c) (fun r u => r = g_bed φ (σ 7) (l 0 0) m a (c 9 a) (m + 1).toNat 0 c ∧ ∃ l' c', LSm l l' ∧ u = SF σ 19 l' c') := by
  intro g C F
  refine e_aload_n C d_Ou_minutesToBed_0 rfl ?_
  refine e_geto (o2 := 19) C fl_Ou_12 (by decide) rfl rfl rfl d_Ou_minutesToBed_1 ?_
  refine e_geta C fl_Ou_48 (by decide) rfl rfl d_Ou_minutesToBed_4 ?_
  refine e_iload_n C d_Ou_minutesToBed_7 rfl ?_
  refine e_iald (n := 12) C (by decide) rfl (by decide) rfl rfl (by decide) (by omega) (by omega) d_Ou_minutesToBed_8 (fun r_8 => ?_)
  try simp only [so_at, so_ne, ne_eq, Nat.reduceEqDiff, not_false_eq_true] at r_8 ⊢
  refine e_istore C d_Ou_minutesToBed_9 (by decide) rfl ?_
  refine e_iconst C d_Ou_minutesToBed_11 ?_
  refine e_istore C d_Ou_minutesToBed_12 (by decide) rfl ?_
  exact l_Ou_minutesToBed C F hm ha r_8 (m + 1).toNat 0 B l c hPl hK hB.1 (by omega) (by omega) (by omega) (by omega) (fun l' c' hl' => ⟨rfl, l', c', hl', rfl⟩)
