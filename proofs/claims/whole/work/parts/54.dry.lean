/-! Dryings -/
theorem pass_7 {φ : Phi} {P l c : Cs} {z most B : Int} (hP : PlanOk P l φ) (hK : CK B c) (hm : 1 ≤ most) (k : Int) : c 7 k ≤ c_pass φ P z c most 7 k := by
  have hq := c_q_in (z := z) hP hK hm
  have e : (cu (c_sand (P 3 0) (c_some φ P z c most) (c_fl c (P 3 0) (c_fls φ P c))) 13 0 0) 7 k = c 7 k := by
    rw [cu_f (by decide)]
    unfold c_sand
    rw [sand_7, c_fl_f (by decide)]
  have h1 : c 7 k ≤ (if 0 < c_q φ P z c most then c_count (cu (c_sand (P 3 0) (c_some φ P z c most) (c_fl c (P 3 0) (c_fls φ P c))) 13 0 0) (P 4 0) (c_q φ P z c most) else cu (c_sand (P 3 0) (c_some φ P z c most) (c_fl c (P 3 0) (c_fls φ P c))) 13 0 0) 7 k := by
    split
    · have := (cnt_7 (cu (c_sand (P 3 0) (c_some φ P z c most) (c_fl c (P 3 0) (c_fls φ P c))) 13 0 0) (P 4 0) (c_q φ P z c most) k hq.1).1
      omega
    · omega
  unfold c_pass c_end
  split
  · have := (cnt_7 (c_fill (P 3 0) (c_relAll (P 3 0) (if 0 < c_q φ P z c most then c_count (cu (c_sand (P 3 0) (c_some φ P z c most) (c_fl c (P 3 0) (c_fls φ P c))) 13 0 0) (P 4 0) (c_q φ P z c most) else cu (c_sand (P 3 0) (c_some φ P z c most) (c_fl c (P 3 0) (c_fls φ P c))) 13 0 0))) (P 4 0) 1 k (by omega)).1
    unfold c_fill c_relAll at this ⊢
    rw [filN_7, relN_7] at this
    omega
  · exact h1
theorem s_Ca_sleepWanted {σ : St} {o : Nat} {l c : Cs} (hc : o ∈ castles) (hG : 0 ≤ σ 7 4 0 ∧ σ 7 4 0 ≤ 12) (hS : 0 ≤ σ 7 6 0 ∧ σ 7 6 0 ≤ 9999) (h7 : ∀ k, 0 ≤ k → k < σ 7 4 0 → 0 ≤ c 7 k) : CtI M_Ca_sleepWanted [.inr (.inr (o, 0)), .inr (.inr (7, 0))] (SF σ o l c) (fun r u => r = c_want (σ 7) c ∧ u = SF σ o l c) := by
  have h7o := cas_ne (n := 7) hc (by decide)
  have e : SF σ o l c 7 = σ 7 := by unfold SF; rw [so_ne h7o, so_ne (by decide)]
  have eo : SF σ o l c o = c := so_at _ _ _
  have := k_Ca_sleepWanted (σ := SF σ o l c) (o := o) hc (by rw [e]; exact hG) (by rw [e]; exact hS) (by rw [e, eo]; exact h7)
  rw [e, eo] at this
  exact this
theorem l_Dr_soonest {g : Mach} {Q : Int → St → Prop} (C : Cx M_Dr_soonest g) (F : FinI M_Dr_soonest g Q) {σ : St} {φ : Phi} {m : Int} (hm : -1 ≤ m ∧ m ≤ 3000) :
    ∀ (n : Nat) (i B : Int) (l c : Cs), PlanOk (σ 7) l φ → CK B c → (∀ k, 0 ≤ k → k < σ 7 4 0 → 0 ≤ c 7 k) → 0 ≤ B → B + 10 * (m - i) < 800000000 → 0 ≤ i → m + 1 - i < n → i ≤ 20000 → (∀ l' c', LSm l l' → Q (g_soon φ (σ 7) (l 0 0) m n i c) (SF σ 20 l' c')) → Ev g 2 [some (.inr (.inr (11, 0))), some (.inr (.inr (7, 0))), some (.inl m), some (.inl i), none] [] (SF σ 20 l c) := by
  intro n
  induction n with
  | zero =>
    intro i B l c hPl hK h7 hB hb h0 h1 h2 hQ
    unfold g_soon at hQ
    refine e_iload_n C d_Dr_soonest_2 rfl ?_
    refine e_iload_n C d_Dr_soonest_3 rfl ?_
    refine e_icmp_gt C 55 d_Dr_soonest_4 (by decide) (by omega) (by omega) (fun c_4 => ?_) (fun c_4 => ?_)
    · refine e_bipush C d_Dr_soonest_55 (by decide) ?_
      refine e_iret C F rfl d_Dr_soonest_57 (by omega) ?_
      exact hQ l c (LSm.rf l)
    · exact absurd h1 (by omega)
  | succ n ih =>
    intro i B l c hPl hK h7 hB hb h0 h1 h2 hQ
    have hG := hPl.2.1
    have hS := hPl.2.2.2.1
    unfold g_soon at hQ
    have hw := want_facts (P := σ 7) (c := c) hG.1
    refine e_iload_n C d_Dr_soonest_2 rfl ?_
    refine e_iload_n C d_Dr_soonest_3 rfl ?_
    refine e_icmp_gt C 55 d_Dr_soonest_4 (by decide) (by omega) (by omega) (fun c_4 => ?_) (fun c_4 => ?_)
    · rw [if_pos (by omega)] at hQ
      refine e_bipush C d_Dr_soonest_55 (by decide) ?_
      refine e_iret C F rfl d_Dr_soonest_57 (by omega) ?_
      exact hQ l c (LSm.rf l)
    · rw [if_neg (by omega)] at hQ
      refine e_aload_n C d_Dr_soonest_7 rfl ?_
      refine e_geto (o2 := 20) C fl_Dr_12 (by decide) rfl rfl rfl d_Dr_soonest_8 ?_
      refine e_aload_n C d_Dr_soonest_11 rfl ?_
      refine e_callIV C ok_Ca_sleepWanted lk_Dr_76 (o := 20) (by decide) rfl [_] rfl rfl (Nat.le_of_ble_eq_true rfl) (by decide) (Nat.le_of_ble_eq_true rfl) d_Dr_soonest_12 (s_Ca_sleepWanted (by decide) hG hS h7) (fun v_12 u_12 q_12 h_12 => ?_)
      obtain ⟨rfl, rfl⟩ := h_12
      refine e_istore C d_Dr_soonest_15 (by decide) rfl ?_
      refine e_iload C d_Dr_soonest_17 rfl ?_
      refine e_if_ne C 24 d_Dr_soonest_19 (by decide) (by omega) (fun c_19 => ?_) (fun c_19 => ?_)
      · rw [if_neg c_19] at hQ
        refine e_iload C d_Dr_soonest_24 rfl ?_
        refine e_iload_n C d_Dr_soonest_26 rfl ?_
        refine e_iload_n C d_Dr_soonest_27 rfl ?_
        refine e_isub C d_Dr_soonest_28 ?_
        refine e_icmp_le C 35 d_Dr_soonest_29 (by decide) (by omega) (by omega) (fun c_29 => ?_) (fun c_29 => ?_)
        · rw [if_neg (by omega)] at hQ
          have hs := c_some_in (z := l 0 0) (most := c_want (σ 7) c) hPl hK (by omega)
          have hq := c_q_in (z := l 0 0) (most := c_want (σ 7) c) hPl hK (by omega)
          have hqs : c_q φ (σ 7) (l 0 0) c (c_want (σ 7) c) ≤ c_some φ (σ 7) (l 0 0) c (c_want (σ 7) c) := by unfold c_some; omega
          have hKp := CK_pass (z := l 0 0) (most := c_want (σ 7) c) hPl hK hB (by omega)
          refine e_iload_n C d_Dr_soonest_35 rfl ?_
          refine e_iconst C d_Dr_soonest_36 ?_
          refine e_aload_n C d_Dr_soonest_37 rfl ?_
          refine e_geto (o2 := 20) C fl_Dr_12 (by decide) rfl rfl rfl d_Dr_soonest_38 ?_
          refine e_aload_n C d_Dr_soonest_41 rfl ?_
          refine e_iload C d_Dr_soonest_42 rfl ?_
          refine e_callIV C ok_Ca_passSome lk_Dr_80 (o := 20) (by decide) rfl [_, _] rfl rfl (Nat.le_of_ble_eq_true rfl) (by decide) (Nat.le_of_ble_eq_true rfl) d_Dr_soonest_44 (s_Ca_passSome (by decide) hPl hK (by omega) (by omega)) (fun v_44 u_44 q_44 h_44 => ?_)
          obtain ⟨rfl, l1, hl1, rfl⟩ := h_44
          refine e_mmax C lk_Dr_83 d_Dr_soonest_47 (by decide) (Nat.le_of_ble_eq_true rfl) (by omega) (by omega) ?_
          refine e_iadd C d_Dr_soonest_50 ?_
          refine e_istore_n C d_Dr_soonest_51 (by decide) rfl ?_
          refine e_goto C 2 d_Dr_soonest_52 (by decide) ?_
          refine e_drop 4 ?_
          refine ih _ _ l1 _ (hPl.same hl1) hKp (fun k a b => Int.le_trans (h7 k a b) (pass_7 hPl hK (by omega) k)) (by omega) (by omega) (by omega) (by omega) (by omega) (fun l' c' hl' => ?_)
          rw [hl1.1 0 (by decide)]
          exact hQ l' c' (hl1.tr hl')
        · rw [if_pos (by omega)] at hQ
          refine e_bipush C d_Dr_soonest_32 (by decide) ?_
          refine e_iret C F rfl d_Dr_soonest_34 (by omega) ?_
          exact hQ l c (LSm.rf l)
      · rw [if_pos c_19] at hQ
        refine e_iload_n C d_Dr_soonest_22 rfl ?_
        refine e_iret C F rfl d_Dr_soonest_23 (by omega) ?_
        exact hQ l c (LSm.rf l)
theorem k_Dr_soonest {σ : St} {φ : Phi} {m B : Int} {l c y : Cs} (hPl : PlanOk (σ 7) l φ) (hS : SIM (σ 7) c y) (hK : CK B c) (h7 : ∀ k, 0 ≤ k → k < σ 7 4 0 → 0 ≤ y 7 k) (hB : 0 ≤ B ∧ B < 700000000) (hm : -1 ≤ m ∧ m ≤ 3000) : CtI M_Dr_soonest [.inr (.inr (11, 0)), .inr (.inr (7, 0)), .inl m] (SF σ 20 l c) (fun r u => r = mso φ (σ 7) (m + 1).toNat 0 y ∧ ∃ l' c', LSm l l' ∧ u = SF σ 20 l' c') := by
  intro g C F
  have e := soon_eq (most := m) hPl (m + 2).toNat 0 B c y hS hK hB.1 (by omega) (by omega)
  rw [show m + 1 - 0 = m + 1 by omega] at e
  refine e_iconst C d_Dr_soonest_0 ?_
  refine e_istore_n C d_Dr_soonest_1 (by decide) rfl ?_
  exact l_Dr_soonest C F hm (m + 2).toNat 0 B l c hPl hK (fun k a b => by rw [← hS.1.2.1 7 k (by decide) (by decide) a b]; exact h7 k a b) hB.1 (by omega) (by omega) (by omega) (by omega) (fun l' c' hl' => ⟨e, l', c', hl', rfl⟩)
theorem k_Dr_most {σ : St} {x : Int} (hx : R32 x) (h2 : x = -2 ∨ 0 ≤ x) : CtI M_Dr_mostThatIsSooner [.inl x] σ (fun r u => r = (if x = -2 then 3000 else x - 1) ∧ u = σ) := by
  intro g C F
  refine e_iload_n C d_Dr_mostThatIsSooner_0 rfl ?_
  refine e_bipush C d_Dr_mostThatIsSooner_1 (by decide) ?_
  refine e_icmp_ne C 12 d_Dr_mostThatIsSooner_3 (by decide) (by omega) (by omega) (fun c_3 => ?_) (fun c_3 => ?_)
  · refine e_iload_n C d_Dr_mostThatIsSooner_12 rfl ?_
    refine e_iconst C d_Dr_mostThatIsSooner_13 ?_
    refine e_isub C d_Dr_mostThatIsSooner_14 ?_
    refine e_iret C F rfl d_Dr_mostThatIsSooner_15 (by omega) ?_
    refine ⟨?_, rfl⟩
    first | rw [if_pos (by omega)] | rw [if_neg (by omega)]
  · refine e_sipush C d_Dr_mostThatIsSooner_6 (by decide) ?_
    refine e_goto C 15 d_Dr_mostThatIsSooner_9 (by decide) ?_
    refine e_iret C F rfl d_Dr_mostThatIsSooner_15 (by omega) ?_
    refine ⟨?_, rfl⟩
    first | rw [if_pos (by omega)] | rw [if_neg (by omega)]
/-- fewer looks find what more looks find, if it comes in time -/
theorem mso_ge {φ : Phi} {P : Cs} : ∀ (n : Nat) (k : Int) (y : Cs), mso φ P n k y = -2 ∨ (k ≤ mso φ P n k y ∧ mso φ P n k y < k + n)
  | 0, _, _ => Or.inl rfl
  | n + 1, k, y => by
    rw [mso_S]
    split
    · right; omega
    · rcases mso_ge (φ := φ) (P := P) n (k + 1) (mmin φ P y) with z | z
      · exact Or.inl z
      · right; omega
theorem mso_cut {φ : Phi} {P : Cs} : ∀ (n m : Nat) (k : Int) (y : Cs), 0 ≤ k → mso φ P n k y = if mso φ P (n + m) k y < k + n then mso φ P (n + m) k y else -2
  | 0, m, k, y, hk => by
    rcases mso_ge (φ := φ) (P := P) (0 + m) k y with z | z
    · rw [z]; split <;> rfl
    · rw [if_neg (by omega)]; rfl
  | n + 1, m, k, y, hk => by
    rw [show n + 1 + m = (n + m) + 1 by omega, mso_S, mso_S]
    split
    · rw [if_pos (by omega)]
    · rw [mso_cut n m (k + 1) (mmin φ P y) (by omega)]
      have : k + 1 + (n : Int) = k + ((n + 1 : Nat) : Int) := by omega
      rw [this]
/-- as the reference has it: 5000 where all don't sleep in time -/
def msb (φ : Phi) (P y : Cs) : Int := if mso φ P 3001 0 y = -2 then 5000 else mso φ P 3001 0 y
def dst (φ : Phi) (P y : Cs) (p : Int) (b : Int × Int) : Int × Int := if y 3 p = 1 then b else if b.2 ≤ msb φ P (cu y 3 p 1) then b else (p, msb φ P (cu y 3 p 1))
def orn (v : Int) : Int := if v = 5000 then -2 else v
theorem msb_in (φ : Phi) (P y : Cs) : 0 ≤ msb φ P y ∧ (msb φ P y ≤ 3000 ∨ msb φ P y = 5000) := by
  unfold msb
  rcases mso_ge (φ := φ) (P := P) 3001 0 y with z | z
  · rw [if_pos z]; omega
  · rw [if_neg (by omega)]; omega
theorem soon_msb {φ : Phi} {P y : Cs} {least : Int} (hl : 0 ≤ least ∧ (least ≤ 3000 ∨ least = 5000)) : mso φ P ((if orn least = -2 then 3000 else orn least - 1) + 1).toNat 0 y = if msb φ P y < least then msb φ P y else -2 := by
  unfold orn
  by_cases z : least = 5000
  · rw [if_pos z, if_pos rfl]
    unfold msb
    rcases mso_ge (φ := φ) (P := P) 3001 0 y with q | q
    · have : mso φ P (3000 + 1 : Int).toNat 0 y = mso φ P 3001 0 y := rfl
      rw [this, if_pos q, if_neg (by omega), q]
    · have : mso φ P (3000 + 1 : Int).toNat 0 y = mso φ P 3001 0 y := rfl
      rw [this, if_neg (show ¬ mso φ P 3001 0 y = -2 by omega), if_pos (by omega)]
  · rw [if_neg z, if_neg (by omega), show least - 1 + 1 = least by omega]
    have := mso_cut (φ := φ) (P := P) least.toNat (3001 - least.toNat) 0 y (by omega)
    rw [show least.toNat + (3001 - least.toNat) = 3001 by omega] at this
    rw [this]
    unfold msb
    rcases mso_ge (φ := φ) (P := P) 3001 0 y with q | q
    · rw [q, if_pos rfl, if_neg (show ¬ (5000 : Int) < least by omega)]
      split <;> rfl
    · rw [if_neg (show ¬ mso φ P 3001 0 y = -2 by omega)]
      by_cases w : mso φ P 3001 0 y < least
      · rw [if_pos w, if_pos (by omega)]
      · rw [if_neg w, if_neg (by omega)]
/-- the store with Dryings' own fields -/
abbrev DF (σ : St) (d l c : Cs) : St := SF (so σ 11 d) 20 l c
theorem DF_w (σ : St) (d d' l c : Cs) : so (DF σ d l c) 11 d' = DF σ d' l c := by
  funext o
  unfold DF SF so
  by_cases h : o = 11
  · subst h; simp
  · simp [h]
theorem DF_11 (σ : St) (d l c : Cs) : DF σ d l c 11 = d := by unfold DF SF; rw [so_ne (by decide), so_ne (by decide), so_at]
theorem DF_o {σ : St} {d l c : Cs} {o : Nat} (h11 : o ≠ 11) (h8 : o ≠ 8) (h20 : o ≠ 20) : DF σ d l c o = σ o := by unfold DF SF; rw [so_ne h20, so_ne h8, so_ne h11]
theorem D_7 (σ : St) (d : Cs) : so σ 11 d 7 = σ 7 := so_ne (by decide)
theorem D_18 (σ : St) (d : Cs) : so σ 11 d 18 = σ 18 := so_ne (by decide)
theorem cu3_sim {P c y : Cs} {p v : Int} (h : SIM P c y) : SIM P (cu c 3 p v) (cu y 3 p v) := by
  refine ⟨⟨fun f q a b d => ?_, fun f k a b d e => ?_, fun k a b => ?_, ?_, ?_⟩, PW_cong (fun k => cu_f (by decide)) (fun k => cu_f (by decide)) (fun k => cu_f (by decide)) (cu_f (by decide)) h.2⟩
  · rw [cu_if, cu_if, h.1.1 f q a b d]
  · rw [cu_f (by omega), cu_f (by omega)]; exact h.1.2.1 f k a b d e
  · rw [cu_f (by decide)] at b; rw [cu_f (by decide), cu_f (by decide)]; exact h.1.2.2.1 k a b
  · rw [cu_f (by decide), cu_f (by decide)]; exact h.1.2.2.2.1
  · rw [cu_f (by decide), cu_f (by decide)]; exact h.1.2.2.2.2
theorem mso_R {φ : Phi} {P y : Cs} {n : Nat} (hn : n ≤ 5000) : R32 (mso φ P n 0 y) := by
  rcases mso_ge (φ := φ) (P := P) n 0 y with z | z
  · rw [z]; omega
  · omega
theorem k_Dr_asItIs {σ : St} {φ : Phi} {B : Int} {d l c y : Cs} (hPl : PlanOk (σ 7) l φ) (hS : SIM (σ 7) (σ 18) y) (hK : CK B (σ 18)) (h7 : ∀ k, 0 ≤ k → k < σ 7 4 0 → 0 ≤ y 7 k) (hB : 0 ≤ B ∧ B < 700000000) (hd : d 6 0 ≠ 0 → d 5 0 = mso φ (σ 7) 3001 0 y) : CtI M_Dr_asItIs [.inr (.inr (11, 0)), .inr (.inr (7, 0)), .inr (.inr (18, 0))] (DF σ d l c) (fun r u => r = mso φ (σ 7) 3001 0 y ∧ ∃ d' l' c', LSm l l' ∧ u = DF σ d' l' c' ∧ (d' 6 0 ≠ 0 → d' 5 0 = mso φ (σ 7) 3001 0 y) ∧ ∀ f, f ≠ 5 → f ≠ 6 → d' f = d f) := by
  intro g C F
  have hN := hPl.1
  have hG := hPl.2.1
  refine e_aload_n C d_Dr_asItIs_0 rfl ?_
  refine e_getz C fl_Dr_18 (by decide) rfl rfl d_Dr_asItIs_1 (fun r_1 => ?_)
  try simp only [wr_so, DF_11, DF_w, so_so, cu_s, cu_f, ne_eq, Nat.reduceEqDiff, not_false_eq_true] at r_1 ⊢
  refine e_if_ne C 32 d_Dr_asItIs_4 (by decide) (by omega) (fun c_4 => ?_) (fun c_4 => ?_)
  · have e5 := hd c_4
    refine e_aload_n C d_Dr_asItIs_32 rfl ?_
    refine e_geti C fl_Dr_36 (by decide) rfl rfl d_Dr_asItIs_33 (fun r_33 => ?_)
    try simp only [wr_so, DF_11, DF_w, so_so, cu_s, cu_f, ne_eq, Nat.reduceEqDiff, not_false_eq_true] at r_33 ⊢
    refine e_iret C F rfl d_Dr_asItIs_36 (by first | omega | exact mso_R (by decide)) ?_
    first
      | exact ⟨e5, d, l, c, LSm.rf l, rfl, hd, fun _ _ _ => rfl⟩
      | exact ⟨rfl, _, l1, c1, hl1, rfl, fun _ => by rw [cu_f (by decide), cu_s], fun f f5 f6 => funext fun k => by rw [cu_f f6, cu_f f5]⟩
  · refine e_aload_n C d_Dr_asItIs_7 rfl ?_
    refine e_geto (o2 := 20) C fl_Dr_12 (by decide) rfl rfl rfl d_Dr_asItIs_8 ?_
    refine e_aload_n C d_Dr_asItIs_11 rfl ?_
    refine e_callVV C ok_Ca_copyFrom lk_Dr_28 (o := 20) (by decide) rfl [_] rfl rfl (Nat.le_of_ble_eq_true rfl) (by decide) (Nat.le_of_ble_eq_true rfl) d_Dr_asItIs_12 (s_Ca_copy (by decide) (by decide)) (fun u_12 h_12 => ?_)
    subst h_12
    refine e_aload_n C d_Dr_asItIs_15 rfl ?_
    refine e_aload_n C d_Dr_asItIs_16 rfl ?_
    refine e_aload_n C d_Dr_asItIs_17 rfl ?_
    refine e_sipush C d_Dr_asItIs_18 (by decide) ?_
    refine e_callIV C ok_Dr_soonest lk_Dr_32 (o := 11) (by decide) rfl [_, _] rfl rfl (Nat.le_of_ble_eq_true rfl) (by decide) (Nat.le_of_ble_eq_true rfl) d_Dr_asItIs_21 (k_Dr_soonest (σ := so σ 11 d) (by rw [D_7]; exact hPl) (by rw [D_7, D_18]; exact copy_sim hN.2 hG.2 hS) (by rw [D_18]; exact CK_copy hK) (by rw [D_7]; exact h7) hB (by omega)) (fun v_21 u_21 q_21 h_21 => ?_)
    obtain ⟨h_21, l1, c1, hl1, rfl⟩ := h_21
    rw [D_7] at h_21
    have h21 : v_21 = mso φ (σ 7) 3001 0 y := h_21
    subst h21
    refine e_puti C fp_Dr_36 (by decide) rfl rfl (mso_R (by decide)) d_Dr_asItIs_24 ?_
    try simp only [wr_so, DF_11, DF_w, so_so, cu_s, cu_f, ne_eq, Nat.reduceEqDiff, not_false_eq_true]
    refine e_aload_n C d_Dr_asItIs_27 rfl ?_
    refine e_iconst C d_Dr_asItIs_28 ?_
    refine e_putz C fp_Dr_18 (by decide) rfl rfl (by omega) d_Dr_asItIs_29 ?_
    try simp only [wr_so, DF_11, DF_w, so_so, cu_s, cu_f, ne_eq, Nat.reduceEqDiff, not_false_eq_true]
    refine e_aload_n C d_Dr_asItIs_32 rfl ?_
    refine e_geti C fl_Dr_36 (by decide) rfl rfl d_Dr_asItIs_33 (fun r_33 => ?_)
    try simp only [wr_so, DF_11, DF_w, so_so, cu_s, cu_f, ne_eq, Nat.reduceEqDiff, not_false_eq_true] at r_33 ⊢
    refine e_iret C F rfl d_Dr_asItIs_36 (by first | omega | exact mso_R (by decide)) ?_
    first
      | exact ⟨e5, d, l, c, LSm.rf l, rfl, hd, fun _ _ _ => rfl⟩
      | exact ⟨rfl, _, l1, c1, hl1, rfl, fun _ => by rw [cu_f (by decide), cu_s], fun f f5 f6 => funext fun k => by rw [cu_f f6, cu_f f5]⟩
theorem cu_4 (d : Cs) (a b p q : Int) (f g : Nat) (hfg : f ≠ g) : cu (cu (cu (cu d f 0 a) g 0 b) f 0 p) g 0 q = cu (cu d f 0 p) g 0 q := by
  funext f' k
  simp only [cu_if]
  by_cases z1 : f' = g ∧ k = 0
  · simp [z1]
  · by_cases z0 : f' = f ∧ k = 0
    · simp [z0]
    · simp only [if_neg z0, if_neg z1]
theorem k_Dr_tryOne {σ : St} {φ : Phi} {B p : Int} {d l c y : Cs} {b : Int × Int} (hPl : PlanOk (σ 7) l φ) (hS : SIM (σ 7) (σ 18) y) (hK : CK B (σ 18)) (h7 : ∀ k, 0 ≤ k → k < σ 7 4 0 → 0 ≤ y 7 k) (hB : 0 ≤ B ∧ B < 700000000) (hp : 0 ≤ p ∧ p < σ 7 3 0) (hb : 0 ≤ b.2 ∧ (b.2 ≤ 3000 ∨ b.2 = 5000)) (h3 : y 3 p ≠ 1) : CtV M_Dr_tryOne [.inr (.inr (11, 0)), .inr (.inr (7, 0)), .inr (.inr (18, 0)), .inl p] (DF σ (cu (cu d 0 0 b.1) 1 0 (orn b.2)) l c) (fun u => ∃ l' c', LSm l l' ∧ u = DF σ (cu (cu d 0 0 (dst φ (σ 7) y p b).1) 1 0 (orn (dst φ (σ 7) y p b).2)) l' c') := by
  intro g C F
  have hN := hPl.1
  have hG := hPl.2.1
  have ho : orn b.2 = -2 ∨ (0 ≤ orn b.2 ∧ orn b.2 ≤ 3000) := by unfold orn; split <;> omega
  have hm := msb_in φ (σ 7) (cu y 3 p 1)
  have hc3 : ∀ c0, SIM (σ 7) (cu (c_copy c0 (σ 18)) 3 p 1) (cu y 3 p 1) := fun c0 => cu3_sim (copy_sim hN.2 hG.2 hS)
  refine e_aload_n C d_Dr_tryOne_0 rfl ?_
  refine e_geto (o2 := 20) C fl_Dr_12 (by decide) rfl rfl rfl d_Dr_tryOne_1 ?_
  refine e_aload_n C d_Dr_tryOne_4 rfl ?_
  refine e_callVV C ok_Ca_copyFrom lk_Dr_28 (o := 20) (by decide) rfl [_] rfl rfl (Nat.le_of_ble_eq_true rfl) (by decide) (Nat.le_of_ble_eq_true rfl) d_Dr_tryOne_5 (s_Ca_copy (by decide) (by decide)) (fun u_5 h_5 => ?_)
  subst h_5
  rw [D_18]
  refine e_aload_n C d_Dr_tryOne_8 rfl ?_
  refine e_geto (o2 := 20) C fl_Dr_12 (by decide) rfl rfl rfl d_Dr_tryOne_9 ?_
  refine e_geta C fl_Dr_54 (by decide) rfl rfl d_Dr_tryOne_12 ?_
  refine e_iload_n C d_Dr_tryOne_15 rfl ?_
  refine e_iconst C d_Dr_tryOne_16 ?_
  refine e_zast (n := 8) C (by decide) rfl (by decide) rfl rfl (by decide) (by omega) (by omega) (by omega) d_Dr_tryOne_17 ?_
  try simp only [wr_so, DF_11, DF_w, so_at, so_so, cu_s, cu_f, ne_eq, Nat.reduceEqDiff, not_false_eq_true]
  refine e_aload_n C d_Dr_tryOne_18 rfl ?_
  refine e_aload_n C d_Dr_tryOne_19 rfl ?_
  refine e_aload_n C d_Dr_tryOne_20 rfl ?_
  refine e_geti C fl_Dr_43 (by decide) rfl rfl d_Dr_tryOne_21 (fun r_21 => ?_)
  try simp only [wr_so, DF_11, DF_w, so_at, so_so, cu_s, cu_f, ne_eq, Nat.reduceEqDiff, not_false_eq_true] at r_21 ⊢
  refine e_callIS C ok_Dr_mostThatIsSooner lk_Dr_62 [_] rfl rfl (Nat.le_of_ble_eq_true rfl) (by decide) (Nat.le_of_ble_eq_true rfl) d_Dr_tryOne_24 (k_Dr_most (by omega) (by omega)) (fun v_24 u_24 q_24 h_24 => ?_)
  obtain ⟨rfl, rfl⟩ := h_24
  refine e_callIV C ok_Dr_soonest lk_Dr_32 (o := 11) (by decide) rfl [_, _] rfl rfl (Nat.le_of_ble_eq_true rfl) (by decide) (Nat.le_of_ble_eq_true rfl) d_Dr_tryOne_27 (k_Dr_soonest (σ := so σ 11 (cu (cu d 0 0 b.1) 1 0 (orn b.2))) (y := cu y 3 p 1) (by rw [D_7]; exact hPl) (by rw [D_7]; exact hc3 c) (CK_cu (CK_copy hK) (by decide)) (by rw [D_7]; intro k a b; rw [cu_f (by decide)]; exact h7 k a b) hB (by split <;> omega)) (fun v_27 u_27 q_27 h_27 => ?_)
  obtain ⟨h_27, l1, c1, hl1, rfl⟩ := h_27
  rw [D_7, soon_msb hb] at h_27
  refine e_istore C d_Dr_tryOne_30 (by decide) rfl ?_
  refine e_iload C d_Dr_tryOne_32 rfl ?_
  refine e_bipush C d_Dr_tryOne_34 (by decide) ?_
  refine e_icmp_eq C 50 d_Dr_tryOne_36 (by decide) (by omega) (by omega) (fun c_36 => ?_) (fun c_36 => ?_)
  · have hge : b.2 ≤ msb φ (σ 7) (cu y 3 p 1) := by split at h_27 <;> omega
    have ed : dst φ (σ 7) y p b = b := by unfold dst; rw [if_neg h3, if_pos hge]
    refine e_vret C F rfl d_Dr_tryOne_50 ?_
    rw [ed]
    first
      | exact ⟨l1, c1, hl1, rfl⟩
      | (refine ⟨l1, c1, hl1, ?_⟩
         have eo : orn (msb φ (σ 7) (cu y 3 p 1)) = msb φ (σ 7) (cu y 3 p 1) := by unfold orn; rw [if_neg (by omega)]
         dsimp only
         rw [eo, cu_4 _ _ _ _ _ 0 1 (by decide)])
  · have hlt : msb φ (σ 7) (cu y 3 p 1) < b.2 := by split at h_27 <;> omega
    rw [if_pos hlt] at h_27
    subst h_27
    have ed : dst φ (σ 7) y p b = (p, msb φ (σ 7) (cu y 3 p 1)) := by unfold dst; rw [if_neg h3, if_neg (by omega)]
    refine e_aload_n C d_Dr_tryOne_39 rfl ?_
    refine e_iload_n C d_Dr_tryOne_40 rfl ?_
    refine e_puti C fp_Dr_40 (by decide) rfl rfl (by omega) d_Dr_tryOne_41 ?_
    try simp only [wr_so, DF_11, DF_w, so_at, so_so, cu_s, cu_f, ne_eq, Nat.reduceEqDiff, not_false_eq_true]
    refine e_aload_n C d_Dr_tryOne_44 rfl ?_
    refine e_iload C d_Dr_tryOne_45 rfl ?_
    refine e_puti C fp_Dr_43 (by decide) rfl rfl (by omega) d_Dr_tryOne_47 ?_
    try simp only [wr_so, DF_11, DF_w, so_at, so_so, cu_s, cu_f, ne_eq, Nat.reduceEqDiff, not_false_eq_true]
    refine e_vret C F rfl d_Dr_tryOne_50 ?_
    rw [ed]
    first
      | exact ⟨l1, c1, hl1, rfl⟩
      | (refine ⟨l1, c1, hl1, ?_⟩
         have eo : orn (msb φ (σ 7) (cu y 3 p 1)) = msb φ (σ 7) (cu y 3 p 1) := by unfold orn; rw [if_neg (by omega)]
         dsimp only
         rw [eo, cu_4 _ _ _ _ _ 0 1 (by decide)])
def dF (φ : Phi) (P y : Cs) : Int × Int := itr (dst φ P y) (P 3 0).toNat 0 (-2, msb φ P y)
theorem dst_in {φ : Phi} {P y : Cs} {p : Int} {b : Int × Int} (hb : 0 ≤ b.2 ∧ (b.2 ≤ 3000 ∨ b.2 = 5000)) : 0 ≤ (dst φ P y p b).2 ∧ ((dst φ P y p b).2 ≤ 3000 ∨ (dst φ P y p b).2 = 5000) := by
  have := msb_in φ P (cu y 3 p 1)
  unfold dst
  split
  · exact hb
  · split
    · exact hb
    · exact this
theorem dst_id {φ : Phi} {P y : Cs} (h : ∀ y p v, msb φ P (cu y 3 p v) = msb φ P y) {b : Int × Int} (hb : b.2 ≤ msb φ P y) (p : Int) : dst φ P y p b = b := by
  unfold dst
  split
  · rfl
  · rw [if_pos (by rw [h]; exact hb)]
theorem cu_2 (d : Cs) (f : Nat) (k v : Int) (h : d f k = v) : cu d f k v = d := by
  funext f' k'
  rw [cu_if]
  split
  · rename_i z; rw [z.1, z.2, h]
  · rfl
theorem l_Dr_findFirst {g : Mach} {Q : St → Prop} (C : Cx M_Dr_findFirst g) (F : FinV M_Dr_findFirst g Q) {σ : St} {φ : Phi} {B x : Int} {d y : Cs} (hS : SIM (σ 7) (σ 18) y) (hK : CK B (σ 18)) (h7 : ∀ k, 0 ≤ k → k < σ 7 4 0 → 0 ≤ y 7 k) (hB : 0 ≤ B ∧ B < 700000000) (hU : σ 7 7 0 = 0 → ∀ y p v, msb φ (σ 7) (cu y 3 p v) = msb φ (σ 7) y) :
    ∀ (n : Nat) (i : Int) (l c : Cs) (b : Int × Int), PlanOk (σ 7) l φ → 0 ≤ i → i + n = σ 7 3 0 → (0 ≤ b.2 ∧ (b.2 ≤ 3000 ∨ b.2 = 5000)) → b.2 ≤ msb φ (σ 7) y → (∀ l' c', LSm l l' → Q (DF σ (cu (cu (cu d 0 0 (itr (dst φ (σ 7) y) n i b).1) 1 0 (orn (itr (dst φ (σ 7) y) n i b).2)) 7 0 1) l' c')) → Ev g 22 [some (.inr (.inr (11, 0))), some (.inr (.inr (7, 0))), some (.inr (.inr (18, 0))), some (.inl x), some (.inl i)] [] (DF σ (cu (cu d 0 0 b.1) 1 0 (orn b.2)) l c) := by
  intro n
  induction n with
  | zero =>
    intro i l c b hPl h0 h1 hb hb2 hQ
    have hN := hPl.1
    have e7 : DF σ (cu (cu d 0 0 b.1) 1 0 (orn b.2)) l c 7 = σ 7 := DF_o (by decide) (by decide) (by decide)
    refine e_iload C d_Dr_findFirst_22 rfl ?_
    refine e_aload_n C d_Dr_findFirst_24 rfl ?_
    refine e_geti C fl_Dr_46 (by decide) rfl rfl d_Dr_findFirst_25 (fun r_25 => ?_)
    try simp only [wr_so, DF_11, DF_w, e7] at r_25 ⊢
    refine e_icmp_ge C 62 d_Dr_findFirst_28 (by decide) (by omega) (by omega) (fun c_28 => ?_) (fun c_28 => ?_)
    · refine e_aload_n C d_Dr_findFirst_62 rfl ?_
      refine e_iconst C d_Dr_findFirst_63 ?_
      refine e_putz C fp_Dr_22 (by decide) rfl rfl (by omega) d_Dr_findFirst_64 ?_
      try simp only [wr_so, DF_11, DF_w, e7]
      refine e_vret C F rfl d_Dr_findFirst_67 ?_
      exact hQ l c (LSm.rf l)
    · exact absurd h1 (by omega)
  | succ n ih =>
    intro i l c b hPl h0 h1 hb hb2 hQ
    have hN := hPl.1
    have e7 : DF σ (cu (cu d 0 0 b.1) 1 0 (orn b.2)) l c 7 = σ 7 := DF_o (by decide) (by decide) (by decide)
    have e18 : DF σ (cu (cu d 0 0 b.1) 1 0 (orn b.2)) l c 18 = σ 18 := DF_o (by decide) (by decide) (by decide)
    have e3 := hS.1.1 3 i (by decide) h0 (by omega)
    have hds := dst_in (φ := φ) (P := σ 7) (y := y) (p := i) hb
    have hd2 : (dst φ (σ 7) y i b).2 ≤ msb φ (σ 7) y := by
      unfold dst
      split
      · exact hb2
      · split
        · exact hb2
        · dsimp only; omega
    refine e_iload C d_Dr_findFirst_22 rfl ?_
    refine e_aload_n C d_Dr_findFirst_24 rfl ?_
    refine e_geti C fl_Dr_46 (by decide) rfl rfl d_Dr_findFirst_25 (fun r_25 => ?_)
    try simp only [wr_so, DF_11, DF_w, e7, e18] at r_25 ⊢
    refine e_icmp_ge C 62 d_Dr_findFirst_28 (by decide) (by omega) (by omega) (fun c_28 => ?_) (fun c_28 => ?_)
    · exact absurd h1 (by omega)
    · refine e_aload_n C d_Dr_findFirst_31 rfl ?_
      refine e_getz C fl_Dr_51 (by decide) rfl rfl d_Dr_findFirst_32 (fun r_32 => ?_)
      try simp only [wr_so, DF_11, DF_w, e7, e18] at r_32 ⊢
      refine e_if_eq C 62 d_Dr_findFirst_35 (by decide) (by omega) (fun c_35 => ?_) (fun c_35 => ?_)
      · have ei : itr (dst φ (σ 7) y) (n + 1) i b = b := itr_id (n + 1) i (fun p _ _ => dst_id (hU c_35) hb2 p)
        rw [ei] at hQ
        refine e_aload_n C d_Dr_findFirst_62 rfl ?_
        refine e_iconst C d_Dr_findFirst_63 ?_
        refine e_putz C fp_Dr_22 (by decide) rfl rfl (by omega) d_Dr_findFirst_64 ?_
        try simp only [wr_so, DF_11, DF_w, e7, e18]
        refine e_vret C F rfl d_Dr_findFirst_67 ?_
        exact hQ l c (LSm.rf l)
      · refine e_aload_n C d_Dr_findFirst_38 rfl ?_
        refine e_geta C fl_Dr_54 (by decide) rfl rfl d_Dr_findFirst_39 ?_
        refine e_iload C d_Dr_findFirst_42 rfl ?_
        refine e_zald (n := 8) C (by decide) rfl (by decide) rfl rfl (by decide) (by omega) (by omega) d_Dr_findFirst_44 (fun r_44 => ?_)
        try simp only [wr_so, DF_11, DF_w, e7, e18] at r_44 ⊢
        refine e_if_ne C 56 d_Dr_findFirst_45 (by decide) (by omega) (fun c_45 => ?_) (fun c_45 => ?_)
        · have ed : dst φ (σ 7) y i b = b := by unfold dst; rw [if_pos (by omega)]
          rw [itr_S, ed] at hQ
          refine e_iinc C d_Dr_findFirst_56 rfl (by decide) rfl ?_
          refine e_goto C 22 d_Dr_findFirst_59 (by decide) ?_
          first
            | exact ih (i + 1) l c b hPl (by omega) (by omega) hb hb2 hQ
            | exact ih (i + 1) l1 c1 _ (hPl.same hl1) (by omega) (by omega) hds hd2 (fun l' c' hl' => hQ l' c' (hl1.tr hl'))
        · rw [itr_S] at hQ
          refine e_aload_n C d_Dr_findFirst_48 rfl ?_
          refine e_aload_n C d_Dr_findFirst_49 rfl ?_
          refine e_aload_n C d_Dr_findFirst_50 rfl ?_
          refine e_iload C d_Dr_findFirst_51 rfl ?_
          refine e_callVV C ok_Dr_tryOne lk_Dr_58 (o := 11) (by decide) rfl [_, _, _] rfl rfl (Nat.le_of_ble_eq_true rfl) (by decide) (Nat.le_of_ble_eq_true rfl) d_Dr_findFirst_53 (k_Dr_tryOne hPl hS hK h7 hB (by omega) hb (by omega)) (fun u_53 h_53 => ?_)
          obtain ⟨l1, c1, hl1, rfl⟩ := h_53
          refine e_iinc C d_Dr_findFirst_56 rfl (by decide) rfl ?_
          refine e_goto C 22 d_Dr_findFirst_59 (by decide) ?_
          first
            | exact ih (i + 1) l c b hPl (by omega) (by omega) hb hb2 hQ
            | exact ih (i + 1) l1 c1 _ (hPl.same hl1) (by omega) (by omega) hds hd2 (fun l' c' hl' => hQ l' c' (hl1.tr hl'))
def dFi (φ : Phi) (P y d : Cs) : Prop := d 7 0 ≠ 0 → d 0 0 = (dF φ P y).1 ∧ d 1 0 = orn (dF φ P y).2
theorem k_Dr_findFirst {σ : St} {φ : Phi} {B : Int} {d l c y : Cs} (hPl : PlanOk (σ 7) l φ) (hS : SIM (σ 7) (σ 18) y) (hK : CK B (σ 18)) (h7 : ∀ k, 0 ≤ k → k < σ 7 4 0 → 0 ≤ y 7 k) (hB : 0 ≤ B ∧ B < 700000000) (hU : σ 7 7 0 = 0 → ∀ y p v, msb φ (σ 7) (cu y 3 p v) = msb φ (σ 7) y) (hd : dFi φ (σ 7) y d) : CtV M_Dr_findFirst [.inr (.inr (11, 0)), .inr (.inr (7, 0)), .inr (.inr (18, 0)), .inl (mso φ (σ 7) 3001 0 y)] (DF σ d l c) (fun u => ∃ d' l' c', LSm l l' ∧ u = DF σ d' l' c' ∧ (d' 7 0 ≠ 0 ∧ dFi φ (σ 7) y d') ∧ ∀ f, f ≠ 0 → f ≠ 1 → f ≠ 7 → d' f = d f) := by
  intro g C F
  have hN := hPl.1
  have hR := mso_R (φ := φ) (P := σ 7) (y := y) (n := 3001) (by decide)
  have eo : mso φ (σ 7) 3001 0 y = orn (msb φ (σ 7) y) := by
    unfold orn msb
    by_cases z : mso φ (σ 7) 3001 0 y = -2
    · rw [if_pos z, if_pos rfl, z]
    · have := mso_ge (φ := φ) (P := σ 7) 3001 0 y
      rw [if_neg z, if_neg (by omega)]
  refine e_aload_n C d_Dr_findFirst_0 rfl ?_
  refine e_getz C fl_Dr_22 (by decide) rfl rfl d_Dr_findFirst_1 (fun r_1 => ?_)
  try simp only [wr_so, DF_11, DF_w, so_so, cu_s, cu_f, ne_eq, Nat.reduceEqDiff, not_false_eq_true] at r_1 ⊢
  refine e_if_eq C 8 d_Dr_findFirst_4 (by decide) (by omega) (fun c_4 => ?_) (fun c_4 => ?_)
  · refine e_aload_n C d_Dr_findFirst_8 rfl ?_
    refine e_bipush C d_Dr_findFirst_9 (by decide) ?_
    refine e_puti C fp_Dr_40 (by decide) rfl rfl (by omega) d_Dr_findFirst_11 ?_
    try simp only [wr_so, DF_11, DF_w, so_so, cu_s, cu_f, ne_eq, Nat.reduceEqDiff, not_false_eq_true]
    refine e_aload_n C d_Dr_findFirst_14 rfl ?_
    refine e_iload_n C d_Dr_findFirst_15 rfl ?_
    refine e_puti C fp_Dr_43 (by decide) rfl rfl (by omega) d_Dr_findFirst_16 ?_
    try simp only [wr_so, DF_11, DF_w, so_so, cu_s, cu_f, ne_eq, Nat.reduceEqDiff, not_false_eq_true]
    refine e_iconst C d_Dr_findFirst_19 ?_
    refine e_istore C d_Dr_findFirst_20 (by decide) rfl ?_
    rw [eo]
    refine l_Dr_findFirst C F hS hK h7 hB hU (σ 7 3 0).toNat 0 l c (-2, msb φ (σ 7) y) hPl (by omega) (by omega) (msb_in _ _ _) (Int.le_refl _) (fun l' c' hl' => ⟨_, l', c', hl', rfl, ⟨by rw [cu_s]; decide, fun _ => ⟨?_, ?_⟩⟩, fun f f0 f1 f7 => funext fun k => ?_⟩)
    · rw [cu_f (by decide), cu_f (by decide), cu_s]; rfl
    · rw [cu_f (by decide), cu_s]; rfl
    · rw [cu_f f7, cu_f f1, cu_f f0]
  · refine e_vret C F rfl d_Dr_findFirst_7 ?_
    exact ⟨d, l, c, LSm.rf l, rfl, ⟨c_4, hd⟩, fun _ _ _ _ => rfl⟩
def dst2 (φ : Phi) (P y : Cs) (p o : Int) (b : Int × Int) : Int × Int := if y 3 p = 1 ∨ y 3 o = 1 then b else if b.2 ≤ msb φ P (cu (cu y 3 p 1) 3 o 1) then b else (10 * p + o, msb φ P (cu (cu y 3 p 1) 3 o 1))
def din (φ : Phi) (P y : Cs) (p : Int) (b : Int × Int) : Int × Int := itr (dst2 φ P y p) (P 3 0 - (p + 1)).toNat (p + 1) b
def dT (φ : Phi) (P y : Cs) : Int × Int := itr (din φ P y) (P 3 0).toNat 0 (-2, 5000)
theorem dst2_in {φ : Phi} {P y : Cs} {p o : Int} {b : Int × Int} (hb : 0 ≤ b.2 ∧ (b.2 ≤ 3000 ∨ b.2 = 5000)) : 0 ≤ (dst2 φ P y p o b).2 ∧ ((dst2 φ P y p o b).2 ≤ 3000 ∨ (dst2 φ P y p o b).2 = 5000) := by
  have := msb_in φ P (cu (cu y 3 p 1) 3 o 1)
  unfold dst2
  split
  · exact hb
  · split
    · exact hb
    · exact this
theorem k_Dr_tryTwo {σ : St} {φ : Phi} {B p o : Int} {d l c y : Cs} {b : Int × Int} (hPl : PlanOk (σ 7) l φ) (hS : SIM (σ 7) (σ 18) y) (hK : CK B (σ 18)) (h7 : ∀ k, 0 ≤ k → k < σ 7 4 0 → 0 ≤ y 7 k) (hB : 0 ≤ B ∧ B < 700000000) (hp : 0 ≤ p ∧ p < σ 7 3 0) (ho : 0 ≤ o ∧ o < σ 7 3 0) (hb : 0 ≤ b.2 ∧ (b.2 ≤ 3000 ∨ b.2 = 5000)) (h3 : ¬ (y 3 p = 1 ∨ y 3 o = 1)) : CtV M_Dr_tryTwo [.inr (.inr (11, 0)), .inr (.inr (7, 0)), .inr (.inr (18, 0)), .inl p, .inl o] (DF σ (cu (cu d 2 0 b.1) 3 0 (orn b.2)) l c) (fun u => ∃ l' c', LSm l l' ∧ u = DF σ (cu (cu d 2 0 (dst2 φ (σ 7) y p o b).1) 3 0 (orn (dst2 φ (σ 7) y p o b).2)) l' c') := by
  intro g C F
  have hN := hPl.1
  have hG := hPl.2.1
  have hor : orn b.2 = -2 ∨ (0 ≤ orn b.2 ∧ orn b.2 ≤ 3000) := by unfold orn; split <;> omega
  have hm := msb_in φ (σ 7) (cu (cu y 3 p 1) 3 o 1)
  have hc3 : ∀ c0, SIM (σ 7) (cu (cu (c_copy c0 (σ 18)) 3 p 1) 3 o 1) (cu (cu y 3 p 1) 3 o 1) := fun c0 => cu3_sim (cu3_sim (copy_sim hN.2 hG.2 hS))
  refine e_aload_n C d_Dr_tryTwo_0 rfl ?_
  refine e_geto (o2 := 20) C fl_Dr_12 (by decide) rfl rfl rfl d_Dr_tryTwo_1 ?_
  refine e_aload_n C d_Dr_tryTwo_4 rfl ?_
  refine e_callVV C ok_Ca_copyFrom lk_Dr_28 (o := 20) (by decide) rfl [_] rfl rfl (Nat.le_of_ble_eq_true rfl) (by decide) (Nat.le_of_ble_eq_true rfl) d_Dr_tryTwo_5 (s_Ca_copy (by decide) (by decide)) (fun u_5 h_5 => ?_)
  subst h_5
  rw [D_18]
  refine e_aload_n C d_Dr_tryTwo_8 rfl ?_
  refine e_geto (o2 := 20) C fl_Dr_12 (by decide) rfl rfl rfl d_Dr_tryTwo_9 ?_
  refine e_geta C fl_Dr_54 (by decide) rfl rfl d_Dr_tryTwo_12 ?_
  refine e_iload_n C d_Dr_tryTwo_15 rfl ?_
  refine e_iconst C d_Dr_tryTwo_16 ?_
  refine e_zast (n := 8) C (by decide) rfl (by decide) rfl rfl (by decide) (by omega) (by omega) (by omega) d_Dr_tryTwo_17 ?_
  try simp only [wr_so, DF_11, DF_w, so_at, so_so, cu_s, cu_f, ne_eq, Nat.reduceEqDiff, not_false_eq_true]
  refine e_aload_n C d_Dr_tryTwo_18 rfl ?_
  refine e_geto (o2 := 20) C fl_Dr_12 (by decide) rfl rfl rfl d_Dr_tryTwo_19 ?_
  refine e_geta C fl_Dr_54 (by decide) rfl rfl d_Dr_tryTwo_22 ?_
  refine e_iload C d_Dr_tryTwo_25 rfl ?_
  refine e_iconst C d_Dr_tryTwo_27 ?_
  refine e_zast (n := 8) C (by decide) rfl (by decide) rfl rfl (by decide) (by omega) (by omega) (by omega) d_Dr_tryTwo_28 ?_
  try simp only [wr_so, DF_11, DF_w, so_at, so_so, cu_s, cu_f, ne_eq, Nat.reduceEqDiff, not_false_eq_true]
  refine e_aload_n C d_Dr_tryTwo_29 rfl ?_
  refine e_aload_n C d_Dr_tryTwo_30 rfl ?_
  refine e_aload_n C d_Dr_tryTwo_31 rfl ?_
  refine e_geti C fl_Dr_69 (by decide) rfl rfl d_Dr_tryTwo_32 (fun r_32 => ?_)
  try simp only [wr_so, DF_11, DF_w, so_at, so_so, cu_s, cu_f, ne_eq, Nat.reduceEqDiff, not_false_eq_true] at r_32 ⊢
  refine e_callIS C ok_Dr_mostThatIsSooner lk_Dr_62 [_] rfl rfl (Nat.le_of_ble_eq_true rfl) (by decide) (Nat.le_of_ble_eq_true rfl) d_Dr_tryTwo_35 (k_Dr_most (by omega) (by omega)) (fun v_35 u_35 q_35 h_35 => ?_)
  obtain ⟨rfl, rfl⟩ := h_35
  refine e_callIV C ok_Dr_soonest lk_Dr_32 (o := 11) (by decide) rfl [_, _] rfl rfl (Nat.le_of_ble_eq_true rfl) (by decide) (Nat.le_of_ble_eq_true rfl) d_Dr_tryTwo_38 (k_Dr_soonest (σ := so σ 11 (cu (cu d 2 0 b.1) 3 0 (orn b.2))) (y := cu (cu y 3 p 1) 3 o 1) (by rw [D_7]; exact hPl) (by rw [D_7]; exact hc3 c) (CK_cu (CK_cu (CK_copy hK) (by decide)) (by decide)) (by rw [D_7]; intro k a b; rw [cu_f (by decide), cu_f (by decide)]; exact h7 k a b) hB (by split <;> omega)) (fun v_38 u_38 q_38 h_38 => ?_)
  obtain ⟨h_38, l1, c1, hl1, rfl⟩ := h_38
  rw [D_7, soon_msb hb] at h_38
  refine e_istore C d_Dr_tryTwo_41 (by decide) rfl ?_
  refine e_iload C d_Dr_tryTwo_43 rfl ?_
  refine e_bipush C d_Dr_tryTwo_45 (by decide) ?_
  refine e_icmp_eq C 67 d_Dr_tryTwo_47 (by decide) (by omega) (by omega) (fun c_47 => ?_) (fun c_47 => ?_)
  · have hge : b.2 ≤ msb φ (σ 7) (cu (cu y 3 p 1) 3 o 1) := by split at h_38 <;> omega
    have ed : dst2 φ (σ 7) y p o b = b := by unfold dst2; rw [if_neg h3, if_pos hge]
    refine e_vret C F rfl d_Dr_tryTwo_67 ?_
    rw [ed]
    first
      | exact ⟨l1, c1, hl1, rfl⟩
      | (refine ⟨l1, c1, hl1, ?_⟩
         have eo : orn (msb φ (σ 7) (cu (cu y 3 p 1) 3 o 1)) = msb φ (σ 7) (cu (cu y 3 p 1) 3 o 1) := by unfold orn; rw [if_neg (by omega)]
         dsimp only
         rw [eo, cu_4 _ _ _ _ _ 2 3 (by decide)])
  · have hlt : msb φ (σ 7) (cu (cu y 3 p 1) 3 o 1) < b.2 := by split at h_38 <;> omega
    rw [if_pos hlt] at h_38
    subst h_38
    have ed : dst2 φ (σ 7) y p o b = (10 * p + o, msb φ (σ 7) (cu (cu y 3 p 1) 3 o 1)) := by unfold dst2; rw [if_neg h3, if_neg (by omega)]
    refine e_aload_n C d_Dr_tryTwo_50 rfl ?_
    refine e_bipush C d_Dr_tryTwo_51 (by decide) ?_
    refine e_iload_n C d_Dr_tryTwo_53 rfl ?_
    refine e_imul C d_Dr_tryTwo_54 ?_
    refine e_iload C d_Dr_tryTwo_55 rfl ?_
    refine e_iadd C d_Dr_tryTwo_57 ?_
    refine e_puti C fp_Dr_66 (by decide) rfl rfl (by omega) d_Dr_tryTwo_58 ?_
    try simp only [wr_so, DF_11, DF_w, so_at, so_so, cu_s, cu_f, ne_eq, Nat.reduceEqDiff, not_false_eq_true]
    refine e_aload_n C d_Dr_tryTwo_61 rfl ?_
    refine e_iload C d_Dr_tryTwo_62 rfl ?_
    refine e_puti C fp_Dr_69 (by decide) rfl rfl (by omega) d_Dr_tryTwo_64 ?_
    try simp only [wr_so, DF_11, DF_w, so_at, so_so, cu_s, cu_f, ne_eq, Nat.reduceEqDiff, not_false_eq_true]
    refine e_vret C F rfl d_Dr_tryTwo_67 ?_
    rw [ed]
    first
      | exact ⟨l1, c1, hl1, rfl⟩
      | (refine ⟨l1, c1, hl1, ?_⟩
         have eo : orn (msb φ (σ 7) (cu (cu y 3 p 1) 3 o 1)) = msb φ (σ 7) (cu (cu y 3 p 1) 3 o 1) := by unfold orn; rw [if_neg (by omega)]
         dsimp only
         rw [eo, cu_4 _ _ _ _ _ 2 3 (by decide)])
def dTi (φ : Phi) (P y d : Cs) : Prop := d 8 0 ≠ 0 → d 2 0 = (dT φ P y).1 ∧ d 3 0 = orn (dT φ P y).2
set_option maxHeartbeats 2000000 in
theorem l_Dr_findTwo2 {g : Mach} (C : Cx M_Dr_findTwo g) {σ : St} {φ : Phi} {B p : Int} {d y : Cs} (hS : SIM (σ 7) (σ 18) y) (hK : CK B (σ 18)) (h7 : ∀ k, 0 ≤ k → k < σ 7 4 0 → 0 ≤ y 7 k) (hB : 0 ≤ B ∧ B < 700000000) (hU : σ 7 7 0 = 0 → ∀ y p v, msb φ (σ 7) (cu y 3 p v) = msb φ (σ 7) y) (hp : 0 ≤ p ∧ p < σ 7 3 0) :
    ∀ (n : Nat) (i t : Int) (l c : Cs) (b : Int × Int), PlanOk (σ 7) l φ → p < i → i + n = σ 7 3 0 → (0 ≤ t ∧ t ≤ 8 * p + i) → (0 ≤ b.2 ∧ (b.2 ≤ 3000 ∨ b.2 = 5000)) → (σ 7 7 0 = 0 → t ≠ 0 → b.2 ≤ msb φ (σ 7) y) → (∀ (l' c' : Cs) (t' : Int), LSm l l' → (0 ≤ t' ∧ t' ≤ 8 * (p + 1)) → (σ 7 7 0 = 0 → t' ≠ 0 → (itr (dst2 φ (σ 7) y p) n i b).2 ≤ msb φ (σ 7) y) → (0 ≤ (itr (dst2 φ (σ 7) y p) n i b).2 ∧ ((itr (dst2 φ (σ 7) y p) n i b).2 ≤ 3000 ∨ (itr (dst2 φ (σ 7) y p) n i b).2 = 5000)) → Ev g 25 [some (.inr (.inr (11, 0))), some (.inr (.inr (7, 0))), some (.inr (.inr (18, 0))), some (.inl t'), some (.inl (p + 1)), none] [] (DF σ (cu (cu d 2 0 (itr (dst2 φ (σ 7) y p) n i b).1) 3 0 (orn (itr (dst2 φ (σ 7) y p) n i b).2)) l' c')) → Ev g 40 [some (.inr (.inr (11, 0))), some (.inr (.inr (7, 0))), some (.inr (.inr (18, 0))), some (.inl t), some (.inl p), some (.inl i)] [] (DF σ (cu (cu d 2 0 b.1) 3 0 (orn b.2)) l c) := by
  intro n
  induction n with
  | zero =>
    intro i t l c b hPl h0 h1 ht hb hu hQ
    have hN := hPl.1
    have e7 : DF σ (cu (cu d 2 0 b.1) 3 0 (orn b.2)) l c 7 = σ 7 := DF_o (by decide) (by decide) (by decide)
    refine e_iload C d_Dr_findTwo_40 rfl ?_
    refine e_aload_n C d_Dr_findTwo_42 rfl ?_
    refine e_geti C fl_Dr_46 (by decide) rfl rfl d_Dr_findTwo_43 (fun r_43 => ?_)
    try simp only [wr_so, DF_11, DF_w, e7] at r_43 ⊢
    refine e_icmp_ge C 99 d_Dr_findTwo_46 (by decide) (by omega) (by omega) (fun c_46 => ?_) (fun c_46 => ?_)
    · refine e_iinc C d_Dr_findTwo_99 rfl (by decide) rfl ?_
      refine e_goto C 25 d_Dr_findTwo_102 (by decide) ?_
      refine e_drop 5 ?_
      exact hQ l c t (LSm.rf l) (by omega) hu hb
    · exact absurd h1 (by omega)
  | succ n ih =>
    intro i t l c b hPl h0 h1 ht hb hu hQ
    have hN := hPl.1
    have e7 : DF σ (cu (cu d 2 0 b.1) 3 0 (orn b.2)) l c 7 = σ 7 := DF_o (by decide) (by decide) (by decide)
    have e18 : DF σ (cu (cu d 2 0 b.1) 3 0 (orn b.2)) l c 18 = σ 18 := DF_o (by decide) (by decide) (by decide)
    have e3 := hS.1.1 3 i (by decide) (by omega) (by omega)
    have e3p := hS.1.1 3 p (by decide) hp.1 hp.2
    have hds := dst2_in (φ := φ) (P := σ 7) (y := y) (p := p) (o := i) hb
    rw [itr_S] at hQ
    refine e_iload C d_Dr_findTwo_40 rfl ?_
    refine e_aload_n C d_Dr_findTwo_42 rfl ?_
    refine e_geti C fl_Dr_46 (by decide) rfl rfl d_Dr_findTwo_43 (fun r_43 => ?_)
    try simp only [wr_so, DF_11, DF_w, e7, e18] at r_43 ⊢
    refine e_icmp_ge C 99 d_Dr_findTwo_46 (by decide) (by omega) (by omega) (fun c_46 => ?_) (fun c_46 => ?_)
    · exact absurd h1 (by omega)
    · refine e_aload_n C d_Dr_findTwo_49 rfl ?_
      refine e_geta C fl_Dr_54 (by decide) rfl rfl d_Dr_findTwo_50 ?_
      refine e_iload C d_Dr_findTwo_53 rfl ?_
      refine e_zald (n := 8) C (by decide) rfl (by decide) rfl rfl (by decide) (by omega) (by omega) d_Dr_findTwo_55 (fun r_55 => ?_)
      try simp only [wr_so, DF_11, DF_w, e7, e18] at r_55 ⊢
      refine e_if_ne C 93 d_Dr_findTwo_56 (by decide) (by omega) (fun c_56 => ?_) (fun c_56 => ?_)
      · have ed : dst2 φ (σ 7) y p i b = b := by unfold dst2; rw [if_pos (by omega)]
        rw [ed] at hQ
        refine e_iinc C d_Dr_findTwo_93 rfl (by decide) rfl ?_
        refine e_goto C 40 d_Dr_findTwo_96 (by decide) ?_
        first
          | exact ih (i + 1) t l c b hPl (by omega) (by omega) (by omega) hb hu hQ
          | exact ih (i + 1) (t + 1) l1 c1 _ (hPl.same hl1) (by omega) (by omega) (by omega) hds hu2 (fun l' c' t' hl' => hQ l' c' t' (hl1.tr hl'))
      · refine e_aload_n C d_Dr_findTwo_59 rfl ?_
        refine e_geta C fl_Dr_54 (by decide) rfl rfl d_Dr_findTwo_60 ?_
        refine e_iload C d_Dr_findTwo_63 rfl ?_
        refine e_zald (n := 8) C (by decide) rfl (by decide) rfl rfl (by decide) (by omega) (by omega) d_Dr_findTwo_65 (fun r_65 => ?_)
        try simp only [wr_so, DF_11, DF_w, e7, e18] at r_65 ⊢
        refine e_if_ne C 93 d_Dr_findTwo_66 (by decide) (by omega) (fun c_66 => ?_) (fun c_66 => ?_)
        · have ed : dst2 φ (σ 7) y p i b = b := by unfold dst2; rw [if_pos (by omega)]
          rw [ed] at hQ
          refine e_iinc C d_Dr_findTwo_93 rfl (by decide) rfl ?_
          refine e_goto C 40 d_Dr_findTwo_96 (by decide) ?_
          first
            | exact ih (i + 1) t l c b hPl (by omega) (by omega) (by omega) hb hu hQ
            | exact ih (i + 1) (t + 1) l1 c1 _ (hPl.same hl1) (by omega) (by omega) (by omega) hds hu2 (fun l' c' t' hl' => hQ l' c' t' (hl1.tr hl'))
        · refine e_iload_n C d_Dr_findTwo_69 rfl ?_
          refine e_if_eq C 80 d_Dr_findTwo_70 (by decide) (by omega) (fun c_70 => ?_) (fun c_70 => ?_)
          · have hu2 : σ 7 7 0 = 0 → t + 1 ≠ 0 → (dst2 φ (σ 7) y p i b).2 ≤ msb φ (σ 7) y := by
                intro q _
                unfold dst2
                rw [if_neg (by omega), hU q, hU q]
                split
                · assumption
                · exact Int.le_refl _
            refine e_aload_n C d_Dr_findTwo_80 rfl ?_
            refine e_aload_n C d_Dr_findTwo_81 rfl ?_
            refine e_aload_n C d_Dr_findTwo_82 rfl ?_
            refine e_iload C d_Dr_findTwo_83 rfl ?_
            refine e_iload C d_Dr_findTwo_85 rfl ?_
            refine e_callVV C ok_Dr_tryTwo lk_Dr_72 (o := 11) (by decide) rfl [_, _, _, _] rfl rfl (Nat.le_of_ble_eq_true rfl) (by decide) (Nat.le_of_ble_eq_true rfl) d_Dr_findTwo_87 (k_Dr_tryTwo hPl hS hK h7 hB hp (by omega) hb (by omega)) (fun u_87 h_87 => ?_)
            obtain ⟨l1, c1, hl1, rfl⟩ := h_87
            refine e_iinc C d_Dr_findTwo_90 rfl (by decide) rfl ?_
            refine e_iinc C d_Dr_findTwo_93 rfl (by decide) rfl ?_
            refine e_goto C 40 d_Dr_findTwo_96 (by decide) ?_
            first
              | exact ih (i + 1) t l c b hPl (by omega) (by omega) (by omega) hb hu hQ
              | exact ih (i + 1) (t + 1) l1 c1 _ (hPl.same hl1) (by omega) (by omega) (by omega) hds hu2 (fun l' c' t' hl' => hQ l' c' t' (hl1.tr hl'))
          · refine e_aload_n C d_Dr_findTwo_73 rfl ?_
            refine e_getz C fl_Dr_51 (by decide) rfl rfl d_Dr_findTwo_74 (fun r_74 => ?_)
            try simp only [wr_so, DF_11, DF_w, e7, e18] at r_74 ⊢
            refine e_if_eq C 93 d_Dr_findTwo_77 (by decide) (by omega) (fun c_77 => ?_) (fun c_77 => ?_)
            · have ed : dst2 φ (σ 7) y p i b = b := by
                  unfold dst2
                  rw [if_neg (by omega), if_pos (by rw [hU c_77, hU c_77]; exact hu c_77 c_70)]
              rw [ed] at hQ
              refine e_iinc C d_Dr_findTwo_93 rfl (by decide) rfl ?_
              refine e_goto C 40 d_Dr_findTwo_96 (by decide) ?_
              first
                | exact ih (i + 1) t l c b hPl (by omega) (by omega) (by omega) hb hu hQ
                | exact ih (i + 1) (t + 1) l1 c1 _ (hPl.same hl1) (by omega) (by omega) (by omega) hds hu2 (fun l' c' t' hl' => hQ l' c' t' (hl1.tr hl'))
            · have hu2 : σ 7 7 0 = 0 → t + 1 ≠ 0 → (dst2 φ (σ 7) y p i b).2 ≤ msb φ (σ 7) y := by
                  intro q _
                  unfold dst2
                  rw [if_neg (by omega), hU q, hU q]
                  split
                  · assumption
                  · exact Int.le_refl _
              refine e_aload_n C d_Dr_findTwo_80 rfl ?_
              refine e_aload_n C d_Dr_findTwo_81 rfl ?_
              refine e_aload_n C d_Dr_findTwo_82 rfl ?_
              refine e_iload C d_Dr_findTwo_83 rfl ?_
              refine e_iload C d_Dr_findTwo_85 rfl ?_
              refine e_callVV C ok_Dr_tryTwo lk_Dr_72 (o := 11) (by decide) rfl [_, _, _, _] rfl rfl (Nat.le_of_ble_eq_true rfl) (by decide) (Nat.le_of_ble_eq_true rfl) d_Dr_findTwo_87 (k_Dr_tryTwo hPl hS hK h7 hB hp (by omega) hb (by omega)) (fun u_87 h_87 => ?_)
              obtain ⟨l1, c1, hl1, rfl⟩ := h_87
              refine e_iinc C d_Dr_findTwo_90 rfl (by decide) rfl ?_
              refine e_iinc C d_Dr_findTwo_93 rfl (by decide) rfl ?_
              refine e_goto C 40 d_Dr_findTwo_96 (by decide) ?_
              first
                | exact ih (i + 1) t l c b hPl (by omega) (by omega) (by omega) hb hu hQ
                | exact ih (i + 1) (t + 1) l1 c1 _ (hPl.same hl1) (by omega) (by omega) (by omega) hds hu2 (fun l' c' t' hl' => hQ l' c' t' (hl1.tr hl'))
set_option maxHeartbeats 2000000 in
theorem l_Dr_findTwo1 {g : Mach} {Q : St → Prop} (C : Cx M_Dr_findTwo g) (F : FinV M_Dr_findTwo g Q) {σ : St} {φ : Phi} {B : Int} {d y : Cs} (hS : SIM (σ 7) (σ 18) y) (hK : CK B (σ 18)) (h7 : ∀ k, 0 ≤ k → k < σ 7 4 0 → 0 ≤ y 7 k) (hB : 0 ≤ B ∧ B < 700000000) (hU : σ 7 7 0 = 0 → ∀ y p v, msb φ (σ 7) (cu y 3 p v) = msb φ (σ 7) y) :
    ∀ (n : Nat) (i t : Int) (l c : Cs) (b : Int × Int), PlanOk (σ 7) l φ → 0 ≤ i → i + n = σ 7 3 0 → (0 ≤ t ∧ t ≤ 8 * i) → (0 ≤ b.2 ∧ (b.2 ≤ 3000 ∨ b.2 = 5000)) → (σ 7 7 0 = 0 → t ≠ 0 → b.2 ≤ msb φ (σ 7) y) → (∀ l' c', LSm l l' → Q (DF σ (cu (cu (cu d 2 0 (itr (din φ (σ 7) y) n i b).1) 3 0 (orn (itr (din φ (σ 7) y) n i b).2)) 8 0 1) l' c')) → Ev g 25 [some (.inr (.inr (11, 0))), some (.inr (.inr (7, 0))), some (.inr (.inr (18, 0))), some (.inl t), some (.inl i), none] [] (DF σ (cu (cu d 2 0 b.1) 3 0 (orn b.2)) l c) := by
  intro n
  induction n with
  | zero =>
    intro i t l c b hPl h0 h1 ht hb hu hQ
    have hN := hPl.1
    have e7 : DF σ (cu (cu d 2 0 b.1) 3 0 (orn b.2)) l c 7 = σ 7 := DF_o (by decide) (by decide) (by decide)
    refine e_iload C d_Dr_findTwo_25 rfl ?_
    refine e_aload_n C d_Dr_findTwo_27 rfl ?_
    refine e_geti C fl_Dr_46 (by decide) rfl rfl d_Dr_findTwo_28 (fun r_28 => ?_)
    try simp only [wr_so, DF_11, DF_w, e7] at r_28 ⊢
    refine e_icmp_ge C 105 d_Dr_findTwo_31 (by decide) (by omega) (by omega) (fun c_31 => ?_) (fun c_31 => ?_)
    · refine e_aload_n C d_Dr_findTwo_105 rfl ?_
      refine e_iconst C d_Dr_findTwo_106 ?_
      refine e_putz C fp_Dr_25 (by decide) rfl rfl (by omega) d_Dr_findTwo_107 ?_
      try simp only [wr_so, DF_11, DF_w, e7]
      refine e_vret C F rfl d_Dr_findTwo_110 ?_
      exact hQ l c (LSm.rf l)
    · exact absurd h1 (by omega)
  | succ n ih =>
    intro i t l c b hPl h0 h1 ht hb hu hQ
    have hN := hPl.1
    have e7 : DF σ (cu (cu d 2 0 b.1) 3 0 (orn b.2)) l c 7 = σ 7 := DF_o (by decide) (by decide) (by decide)
    rw [itr_S] at hQ
    refine e_iload C d_Dr_findTwo_25 rfl ?_
    refine e_aload_n C d_Dr_findTwo_27 rfl ?_
    refine e_geti C fl_Dr_46 (by decide) rfl rfl d_Dr_findTwo_28 (fun r_28 => ?_)
    try simp only [wr_so, DF_11, DF_w, e7] at r_28 ⊢
    refine e_icmp_ge C 105 d_Dr_findTwo_31 (by decide) (by omega) (by omega) (fun c_31 => ?_) (fun c_31 => ?_)
    · exact absurd h1 (by omega)
    · refine e_iload C d_Dr_findTwo_34 rfl ?_
      refine e_iconst C d_Dr_findTwo_36 ?_
      refine e_iadd C d_Dr_findTwo_37 ?_
      refine e_istore C d_Dr_findTwo_38 (by decide) rfl ?_
      refine l_Dr_findTwo2 C hS hK h7 hB hU (p := i) (by omega) (σ 7 3 0 - (i + 1)).toNat (i + 1) t l c b hPl (by omega) (by omega) (by omega) hb hu (fun l1 c1 t1 hl1 ht1 hu1 hb1 => ?_)
      exact ih (i + 1) t1 l1 c1 _ (hPl.same hl1) (by omega) (by omega) (by omega) hb1 hu1 (fun l' c' hl' => hQ l' c' (hl1.tr hl'))
theorem k_Dr_findTwo {σ : St} {φ : Phi} {B : Int} {d l c y : Cs} (hPl : PlanOk (σ 7) l φ) (hS : SIM (σ 7) (σ 18) y) (hK : CK B (σ 18)) (h7 : ∀ k, 0 ≤ k → k < σ 7 4 0 → 0 ≤ y 7 k) (hB : 0 ≤ B ∧ B < 700000000) (hU : σ 7 7 0 = 0 → ∀ y p v, msb φ (σ 7) (cu y 3 p v) = msb φ (σ 7) y) (hd : dTi φ (σ 7) y d) : CtV M_Dr_findTwo [.inr (.inr (11, 0)), .inr (.inr (7, 0)), .inr (.inr (18, 0))] (DF σ d l c) (fun u => ∃ d' l' c', LSm l l' ∧ u = DF σ d' l' c' ∧ (d' 8 0 ≠ 0 ∧ dTi φ (σ 7) y d') ∧ ∀ f, f ≠ 2 → f ≠ 3 → f ≠ 8 → d' f = d f) := by
  intro g C F
  have hN := hPl.1
  refine e_aload_n C d_Dr_findTwo_0 rfl ?_
  refine e_getz C fl_Dr_25 (by decide) rfl rfl d_Dr_findTwo_1 (fun r_1 => ?_)
  try simp only [wr_so, DF_11, DF_w, so_so, cu_s, cu_f, ne_eq, Nat.reduceEqDiff, not_false_eq_true] at r_1 ⊢
  refine e_if_eq C 8 d_Dr_findTwo_4 (by decide) (by omega) (fun c_4 => ?_) (fun c_4 => ?_)
  · refine e_aload_n C d_Dr_findTwo_8 rfl ?_
    refine e_bipush C d_Dr_findTwo_9 (by decide) ?_
    refine e_puti C fp_Dr_66 (by decide) rfl rfl (by omega) d_Dr_findTwo_11 ?_
    try simp only [wr_so, DF_11, DF_w, so_so, cu_s, cu_f, ne_eq, Nat.reduceEqDiff, not_false_eq_true]
    refine e_aload_n C d_Dr_findTwo_14 rfl ?_
    refine e_bipush C d_Dr_findTwo_15 (by decide) ?_
    refine e_puti C fp_Dr_69 (by decide) rfl rfl (by omega) d_Dr_findTwo_17 ?_
    try simp only [wr_so, DF_11, DF_w, so_so, cu_s, cu_f, ne_eq, Nat.reduceEqDiff, not_false_eq_true]
    refine e_iconst C d_Dr_findTwo_20 ?_
    refine e_istore_n C d_Dr_findTwo_21 (by decide) rfl ?_
    refine e_iconst C d_Dr_findTwo_22 ?_
    refine e_istore C d_Dr_findTwo_23 (by decide) rfl ?_
    refine l_Dr_findTwo1 C F hS hK h7 hB hU (σ 7 3 0).toNat 0 0 l c (-2, 5000) hPl (by omega) (by omega) (by omega) (by decide) (fun _ z => absurd rfl z) (fun l' c' hl' => ⟨_, l', c', hl', rfl, ⟨by rw [cu_s]; decide, fun _ => ⟨?_, ?_⟩⟩, fun f f0 f1 f7 => funext fun k => ?_⟩)
    · rw [cu_f (by decide), cu_f (by decide), cu_s]; rfl
    · rw [cu_f (by decide), cu_s]; rfl
    · rw [cu_f f7, cu_f f1, cu_f f0]
  · refine e_vret C F rfl d_Dr_findTwo_7 ?_
    exact ⟨d, l, c, LSm.rf l, rfl, ⟨c_4, hd⟩, fun _ _ _ _ => rfl⟩
theorem k_Dr_forgetFound {σ : St} : CtV M_Dr_forgetFound [.inr (.inr (11, 0))] σ (fun u => u = so σ 11 (cu (cu (cu (σ 11) 6 0 0) 7 0 0) 8 0 0)) := by
  intro g C F
  refine e_aload_n C d_Dr_forgetFound_0 rfl ?_
  refine e_iconst C d_Dr_forgetFound_1 ?_
  refine e_putz C fp_Dr_18 (by decide) rfl rfl (by omega) d_Dr_forgetFound_2 ?_
  refine e_aload_n C d_Dr_forgetFound_5 rfl ?_
  refine e_iconst C d_Dr_forgetFound_6 ?_
  refine e_putz C fp_Dr_22 (by decide) rfl rfl (by omega) d_Dr_forgetFound_7 ?_
  refine e_aload_n C d_Dr_forgetFound_10 rfl ?_
  refine e_iconst C d_Dr_forgetFound_11 ?_
  refine e_putz C fp_Dr_25 (by decide) rfl rfl (by omega) d_Dr_forgetFound_12 ?_
  refine e_vret C F rfl d_Dr_forgetFound_15 ?_
  simp only [wr_so, so_so, so_at]
