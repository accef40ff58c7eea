/-! Castle: many minutes; what is counted -/
def c_many (φ : Phi) (P : Cs) (z : Int) : Nat → Int → Cs → Cs
  | 0, _, c => c
  | k + 1, r, c => if r ≤ 0 then c else c_many φ P z k (r - max 1 (c_some φ P z c r)) (c_pass φ P z c r)
theorem l_Ca_passMany {g : Mach} {Q : St → Prop} (C : Cx M_Ca_passMany g) (F : FinV M_Ca_passMany g Q) {σ : St} {o : Nat} {φ : Phi} {n : Int} (hc : o ∈ castles) (hn : n ≤ 10000) :
    ∀ (k : Nat) (r B : Int) (c l : Cs), PlanOk (σ 7) l φ → CK B c → 0 ≤ B → B + 10 * r < 900000000 → 0 ≤ r → r ≤ k → r ≤ n → (∀ l', LSm l l' → Q (so (so σ 8 l') o (c_many φ (σ 7) (l 0 0) k r c))) → Ev g 2 [some (.inr (.inr (o, 0))), some (.inr (.inr (7, 0))), some (.inl n), some (.inl (n - r))] [] (so (so σ 8 l) o c) := by
  have h_o := cas_obj hc
  have c_o := cas_cls hc
  intro k
  induction k with
  | zero =>
    intro r B c l hPl hK hB hb h0 h1 h2 hQ
    refine e_iload_n C d_Ca_passMany_2 rfl ?_
    refine e_iload_n C d_Ca_passMany_3 rfl ?_
    refine e_icmp_ge C 25 d_Ca_passMany_4 (by decide) (by omega) (by omega) (fun c_4 => ?_) (fun c_4 => ?_)
    · refine e_vret C F rfl d_Ca_passMany_25 ?_
      exact hQ l (LSm.rf l)
    · exact absurd h1 (by omega)
  | succ k ih =>
    intro r B c l hPl hK hB hb h0 h1 h2 hQ
    unfold c_many at hQ
    refine e_iload_n C d_Ca_passMany_2 rfl ?_
    refine e_iload_n C d_Ca_passMany_3 rfl ?_
    refine e_icmp_ge C 25 d_Ca_passMany_4 (by decide) (by omega) (by omega) (fun c_4 => ?_) (fun c_4 => ?_)
    · rw [if_pos (by omega)] at hQ
      refine e_vret C F rfl d_Ca_passMany_25 ?_
      exact hQ l (LSm.rf l)
    · rw [if_neg (by omega)] at hQ
      have hs := c_some_in (z := l 0 0) (most := r) hPl hK (by omega)
      have hq := c_q_in (z := l 0 0) (most := r) hPl hK (by omega)
      have hqs : c_q φ (σ 7) (l 0 0) c r ≤ c_some φ (σ 7) (l 0 0) c r := by unfold c_some; omega
      have hKp := CK_pass (z := l 0 0) (most := r) hPl hK hB (by omega)
      refine e_iload_n C d_Ca_passMany_7 rfl ?_
      refine e_iconst C d_Ca_passMany_8 ?_
      refine e_aload_n C d_Ca_passMany_9 rfl ?_
      refine e_aload_n C d_Ca_passMany_10 rfl ?_
      refine e_iload_n C d_Ca_passMany_11 rfl ?_
      refine e_iload_n C d_Ca_passMany_12 rfl ?_
      refine e_isub C d_Ca_passMany_13 ?_
      rw [show n - (n - r) = r by omega]
      refine e_callIV C ok_Ca_passSome lk_Ca_65 (o := o) h_o (by rw [c_o]; rfl) [_, _] rfl rfl (Nat.le_of_ble_eq_true rfl) (by decide) (Nat.le_of_ble_eq_true rfl) d_Ca_passMany_14 (s_Ca_passSome hc hPl hK (by omega) (by omega)) (fun v_14 u_14 q_14 h_14 => ?_)
      obtain ⟨rfl, l1, hl1, rfl⟩ := h_14
      refine e_mmax C lk_Ca_69 d_Ca_passMany_17 (by decide) (Nat.le_of_ble_eq_true rfl) (by omega) (by omega) ?_
      refine e_iadd C d_Ca_passMany_20 ?_
      refine e_istore_n C d_Ca_passMany_21 (by decide) rfl ?_
      refine e_goto C 2 d_Ca_passMany_22 (by decide) ?_
      rw [show n - r + max 1 (c_some φ (σ 7) (l 0 0) c r) = n - (r - max 1 (c_some φ (σ 7) (l 0 0) c r)) by omega]
      refine ih _ _ _ l1 (hPl.same hl1) hKp (by omega) (by omega) (by omega) (by omega) (by omega) (fun l' hl' => ?_)
      rw [hl1.1 0 (by decide)]
      exact hQ l' (hl1.tr hl')
theorem s_Ca_passMany {σ : St} {o : Nat} {c l : Cs} {φ : Phi} {n B : Int} (hc : o ∈ castles) (hPl : PlanOk (σ 7) l φ) (hK : CK B c) (hB : 0 ≤ B ∧ B < 800000000) (hn : 0 ≤ n ∧ n ≤ 10000) : CtV M_Ca_passMany [.inr (.inr (o, 0)), .inr (.inr (7, 0)), .inl n] (so (so σ 8 l) o c) (fun u => ∃ l', LSm l l' ∧ u = so (so σ 8 l') o (c_many φ (σ 7) (l 0 0) n.toNat n c)) := by
  intro g C F
  have h_o := cas_obj hc
  have c_o := cas_cls hc
  refine e_iconst C d_Ca_passMany_0 ?_
  refine e_istore_n C d_Ca_passMany_1 (by decide) rfl ?_
  have := l_Ca_passMany C F hc hn.2 n.toNat n B c l hPl hK hB.1 (by omega) hn.1 (by omega) (by omega) (fun l' hl' => ⟨l', hl', rfl⟩)
  rw [show n - n = 0 by omega] at this
  exact this
def wstep (P c : Cs) (k w : Int) : Int := max w (P 6 0 - c 7 k)
def c_want (P c : Cs) : Int := itr (wstep P c) (P 4 0).toNat 0 0
theorem l_Ca_sleepWanted {g : Mach} {Q : Int → St → Prop} (C : Cx M_Ca_sleepWanted g) (F : FinI M_Ca_sleepWanted g Q) {σ : St} {o : Nat} (hc : o ∈ castles) (hG : 0 ≤ σ 7 4 0 ∧ σ 7 4 0 ≤ 12) (hS : 0 ≤ σ 7 6 0 ∧ σ 7 6 0 ≤ 9999) (h7 : ∀ k, 0 ≤ k → k < σ 7 4 0 → 0 ≤ σ o 7 k) :
    ∀ (n : Nat) (i w : Int), 0 ≤ i → i + n = σ 7 4 0 → 0 ≤ w → w ≤ 9999 → Q (itr (wstep (σ 7) (σ o)) n i w) σ → Ev g 4 [some (.inr (.inr (o, 0))), some (.inr (.inr (7, 0))), some (.inl w), some (.inl i)] [] σ := by
  have h_o := cas_obj hc
  have c_o := cas_cls hc
  intro n
  induction n with
  | zero =>
    intro i w h0 h1 hw hw2 hQ
    refine e_iload_n C d_Ca_sleepWanted_4 rfl ?_
    refine e_aload_n C d_Ca_sleepWanted_5 rfl ?_
    refine e_geti C fl_Ca_99 (by decide) rfl rfl d_Ca_sleepWanted_6 (fun r_6 => ?_)
    refine e_icmp_ge C 34 d_Ca_sleepWanted_9 (by decide) (by omega) (by omega) (fun c_9 => ?_) (fun c_9 => ?_)
    · refine e_iload_n C d_Ca_sleepWanted_34 rfl ?_
      refine e_iret C F rfl d_Ca_sleepWanted_35 (by omega) ?_
      exact hQ
    · exact absurd h1 (by omega)
  | succ n ih =>
    intro i w h0 h1 hw hw2 hQ
    have h7i := h7 i h0 (by omega)
    refine e_iload_n C d_Ca_sleepWanted_4 rfl ?_
    refine e_aload_n C d_Ca_sleepWanted_5 rfl ?_
    refine e_geti C fl_Ca_99 (by decide) rfl rfl d_Ca_sleepWanted_6 (fun r_6 => ?_)
    refine e_icmp_ge C 34 d_Ca_sleepWanted_9 (by decide) (by omega) (by omega) (fun c_9 => ?_) (fun c_9 => ?_)
    · exact absurd h1 (by omega)
    · refine e_iload_n C d_Ca_sleepWanted_12 rfl ?_
      refine e_aload_n C d_Ca_sleepWanted_13 rfl ?_
      refine e_geti C fl_Ca_152 (by decide) rfl rfl d_Ca_sleepWanted_14 (fun r_14 => ?_)
      refine e_aload_n C d_Ca_sleepWanted_17 rfl ?_
      refine e_geta C fl_Ca_34 h_o c_o rfl d_Ca_sleepWanted_18 ?_
      refine e_iload_n C d_Ca_sleepWanted_21 rfl ?_
      refine e_iald (n := 12) C h_o c_o (by decide) rfl rfl (by decide) (by omega) (by omega) d_Ca_sleepWanted_22 (fun r_22 => ?_)
      refine e_isub C d_Ca_sleepWanted_23 ?_
      refine e_mmax C lk_Ca_69 d_Ca_sleepWanted_24 (by decide) (Nat.le_of_ble_eq_true rfl) (by omega) (by omega) ?_
      refine e_istore_n C d_Ca_sleepWanted_27 (by decide) rfl ?_
      refine e_iinc C d_Ca_sleepWanted_28 rfl (by decide) rfl ?_
      refine e_goto C 4 d_Ca_sleepWanted_31 (by decide) ?_
      exact ih (i + 1) _ (by omega) (by omega) (by omega) (by omega) hQ
theorem k_Ca_sleepWanted {σ : St} {o : Nat} (hc : o ∈ castles) (hG : 0 ≤ σ 7 4 0 ∧ σ 7 4 0 ≤ 12) (hS : 0 ≤ σ 7 6 0 ∧ σ 7 6 0 ≤ 9999) (h7 : ∀ k, 0 ≤ k → k < σ 7 4 0 → 0 ≤ σ o 7 k) : CtI M_Ca_sleepWanted [.inr (.inr (o, 0)), .inr (.inr (7, 0))] σ (fun r u => r = c_want (σ 7) (σ o) ∧ u = σ) := by
  intro g C F
  have h_o := cas_obj hc
  have c_o := cas_cls hc
  refine e_iconst C d_Ca_sleepWanted_0 ?_
  refine e_istore_n C d_Ca_sleepWanted_1 (by decide) rfl ?_
  refine e_iconst C d_Ca_sleepWanted_2 ?_
  refine e_istore_n C d_Ca_sleepWanted_3 (by decide) rfl ?_
  exact l_Ca_sleepWanted C F hc hG hS h7 (σ 7 4 0).toNat 0 0 (by omega) (by omega) (by omega) (by omega) ⟨rfl, rfl⟩
def gstep (P c : Cs) (k n : Int) : Int := n + (if P 6 0 ≤ c 7 k then 1 else 0)
def c_slepts (P c : Cs) : Int := itr (gstep P c) (P 4 0).toNat 0 0
theorem l_Ca_guardsWhoSlept {g : Mach} {Q : Int → St → Prop} (C : Cx M_Ca_guardsWhoSlept g) (F : FinI M_Ca_guardsWhoSlept g Q) {σ : St} {o : Nat} (hc : o ∈ castles) (hG : 0 ≤ σ 7 4 0 ∧ σ 7 4 0 ≤ 12) :
    ∀ (n : Nat) (i w : Int), 0 ≤ i → i + n = σ 7 4 0 → 0 ≤ w → w ≤ i → Q (itr (gstep (σ 7) (σ o)) n i w) σ → Ev g 4 [some (.inr (.inr (o, 0))), some (.inr (.inr (7, 0))), some (.inl w), some (.inl i)] [] σ := by
  have h_o := cas_obj hc
  have c_o := cas_cls hc
  intro n
  induction n with
  | zero =>
    intro i w h0 h1 hw hw2 hQ
    refine e_iload_n C d_Ca_guardsWhoSlept_4 rfl ?_
    refine e_aload_n C d_Ca_guardsWhoSlept_5 rfl ?_
    refine e_geti C fl_Ca_99 (by decide) rfl rfl d_Ca_guardsWhoSlept_6 (fun r_6 => ?_)
    refine e_icmp_ge C 39 d_Ca_guardsWhoSlept_9 (by decide) (by omega) (by omega) (fun c_9 => ?_) (fun c_9 => ?_)
    · refine e_iload_n C d_Ca_guardsWhoSlept_39 rfl ?_
      refine e_iret C F rfl d_Ca_guardsWhoSlept_40 (by omega) ?_
      exact hQ
    · exact absurd h1 (by omega)
  | succ n ih =>
    intro i w h0 h1 hw hw2 hQ
    rw [itr_S] at hQ
    unfold gstep at hQ
    refine e_iload_n C d_Ca_guardsWhoSlept_4 rfl ?_
    refine e_aload_n C d_Ca_guardsWhoSlept_5 rfl ?_
    refine e_geti C fl_Ca_99 (by decide) rfl rfl d_Ca_guardsWhoSlept_6 (fun r_6 => ?_)
    refine e_icmp_ge C 39 d_Ca_guardsWhoSlept_9 (by decide) (by omega) (by omega) (fun c_9 => ?_) (fun c_9 => ?_)
    · exact absurd h1 (by omega)
    · refine e_iload_n C d_Ca_guardsWhoSlept_12 rfl ?_
      refine e_aload_n C d_Ca_guardsWhoSlept_13 rfl ?_
      refine e_geta C fl_Ca_34 h_o c_o rfl d_Ca_guardsWhoSlept_14 ?_
      refine e_iload_n C d_Ca_guardsWhoSlept_17 rfl ?_
      refine e_iald (n := 12) C h_o c_o (by decide) rfl rfl (by decide) (by omega) (by omega) d_Ca_guardsWhoSlept_18 (fun r_18 => ?_)
      refine e_aload_n C d_Ca_guardsWhoSlept_19 rfl ?_
      refine e_geti C fl_Ca_152 (by decide) rfl rfl d_Ca_guardsWhoSlept_20 (fun r_20 => ?_)
      refine e_icmp_lt C 30 d_Ca_guardsWhoSlept_23 (by decide) (by omega) (by omega) (fun c_23 => ?_) (fun c_23 => ?_)
      · rw [if_neg (by omega)] at hQ
        refine e_iconst C d_Ca_guardsWhoSlept_30 ?_
        refine e_iadd C d_Ca_guardsWhoSlept_31 ?_
        refine e_istore_n C d_Ca_guardsWhoSlept_32 (by decide) rfl ?_
        refine e_iinc C d_Ca_guardsWhoSlept_33 rfl (by decide) rfl ?_
        refine e_goto C 4 d_Ca_guardsWhoSlept_36 (by decide) ?_
        exact ih (i + 1) _ (by omega) (by omega) (by omega) (by omega) hQ
      · rw [if_pos (by omega)] at hQ
        refine e_iconst C d_Ca_guardsWhoSlept_26 ?_
        refine e_goto C 31 d_Ca_guardsWhoSlept_27 (by decide) ?_
        refine e_iadd C d_Ca_guardsWhoSlept_31 ?_
        refine e_istore_n C d_Ca_guardsWhoSlept_32 (by decide) rfl ?_
        refine e_iinc C d_Ca_guardsWhoSlept_33 rfl (by decide) rfl ?_
        refine e_goto C 4 d_Ca_guardsWhoSlept_36 (by decide) ?_
        exact ih (i + 1) _ (by omega) (by omega) (by omega) (by omega) hQ
theorem k_Ca_guardsWhoSlept {σ : St} {o : Nat} (hc : o ∈ castles) (hG : 0 ≤ σ 7 4 0 ∧ σ 7 4 0 ≤ 12) : CtI M_Ca_guardsWhoSlept [.inr (.inr (o, 0)), .inr (.inr (7, 0))] σ (fun r u => r = c_slepts (σ 7) (σ o) ∧ u = σ) := by
  intro g C F
  have h_o := cas_obj hc
  have c_o := cas_cls hc
  refine e_iconst C d_Ca_guardsWhoSlept_0 ?_
  refine e_istore_n C d_Ca_guardsWhoSlept_1 (by decide) rfl ?_
  refine e_iconst C d_Ca_guardsWhoSlept_2 ?_
  refine e_istore_n C d_Ca_guardsWhoSlept_3 (by decide) rfl ?_
  exact l_Ca_guardsWhoSlept C F hc hG (σ 7 4 0).toNat 0 0 (by omega) (by omega) (by omega) (by omega) ⟨rfl, rfl⟩
def estep (c : Cs) (k n : Int) : Int := n + (if c 2 k = -2 then 1 else 0)
theorem l_Ca_emptyPosts {g : Mach} {Q : Int → St → Prop} (C : Cx M_Ca_emptyPosts g) (F : FinI M_Ca_emptyPosts g Q) {σ : St} {o : Nat} {N : Int} (hc : o ∈ castles) (hN : 0 ≤ N ∧ N ≤ 8) :
    ∀ (n : Nat) (i w : Int), 0 ≤ i → i + n = N → 0 ≤ w → w ≤ i → Q (itr (estep (σ o)) n i w) σ → Ev g 4 [some (.inr (.inr (o, 0))), some (.inl N), some (.inl w), some (.inl i)] [] σ := by
  have h_o := cas_obj hc
  have c_o := cas_cls hc
  intro n
  induction n with
  | zero =>
    intro i w h0 h1 hw hw2 hQ
    refine e_iload_n C d_Ca_emptyPosts_4 rfl ?_
    refine e_iload_n C d_Ca_emptyPosts_5 rfl ?_
    refine e_icmp_ge C 34 d_Ca_emptyPosts_6 (by decide) (by omega) (by omega) (fun c_6 => ?_) (fun c_6 => ?_)
    · refine e_iload_n C d_Ca_emptyPosts_34 rfl ?_
      refine e_iret C F rfl d_Ca_emptyPosts_35 (by omega) ?_
      exact hQ
    · exact absurd h1 (by omega)
  | succ n ih =>
    intro i w h0 h1 hw hw2 hQ
    rw [itr_S] at hQ
    unfold estep at hQ
    refine e_iload_n C d_Ca_emptyPosts_4 rfl ?_
    refine e_iload_n C d_Ca_emptyPosts_5 rfl ?_
    refine e_icmp_ge C 34 d_Ca_emptyPosts_6 (by decide) (by omega) (by omega) (fun c_6 => ?_) (fun c_6 => ?_)
    · exact absurd h1 (by omega)
    · refine e_iload_n C d_Ca_emptyPosts_9 rfl ?_
      refine e_aload_n C d_Ca_emptyPosts_10 rfl ?_
      refine e_geta C fl_Ca_18 h_o c_o rfl d_Ca_emptyPosts_11 ?_
      refine e_iload_n C d_Ca_emptyPosts_14 rfl ?_
      refine e_iald (n := 8) C h_o c_o (by decide) rfl rfl (by decide) (by omega) (by omega) d_Ca_emptyPosts_15 (fun r_15 => ?_)
      refine e_bipush C d_Ca_emptyPosts_16 (by decide) ?_
      refine e_icmp_ne C 25 d_Ca_emptyPosts_18 (by decide) (by omega) (by omega) (fun c_18 => ?_) (fun c_18 => ?_)
      · rw [if_neg (by omega)] at hQ
        refine e_iconst C d_Ca_emptyPosts_25 ?_
        refine e_iadd C d_Ca_emptyPosts_26 ?_
        refine e_istore_n C d_Ca_emptyPosts_27 (by decide) rfl ?_
        refine e_iinc C d_Ca_emptyPosts_28 rfl (by decide) rfl ?_
        refine e_goto C 4 d_Ca_emptyPosts_31 (by decide) ?_
        exact ih (i + 1) _ (by omega) (by omega) (by omega) (by omega) hQ
      · rw [if_pos (by omega)] at hQ
        refine e_iconst C d_Ca_emptyPosts_21 ?_
        refine e_goto C 26 d_Ca_emptyPosts_22 (by decide) ?_
        refine e_iadd C d_Ca_emptyPosts_26 ?_
        refine e_istore_n C d_Ca_emptyPosts_27 (by decide) rfl ?_
        refine e_iinc C d_Ca_emptyPosts_28 rfl (by decide) rfl ?_
        refine e_goto C 4 d_Ca_emptyPosts_31 (by decide) ?_
        exact ih (i + 1) _ (by omega) (by omega) (by omega) (by omega) hQ
theorem k_Ca_emptyPosts {σ : St} {o : Nat} {N : Int} (hc : o ∈ castles) (hN : 0 ≤ N ∧ N ≤ 8) : CtI M_Ca_emptyPosts [.inr (.inr (o, 0)), .inl N] σ (fun r u => r = itr (estep (σ o)) N.toNat 0 0 ∧ u = σ) := by
  intro g C F
  have h_o := cas_obj hc
  have c_o := cas_cls hc
  refine e_iconst C d_Ca_emptyPosts_0 ?_
  refine e_istore_n C d_Ca_emptyPosts_1 (by decide) rfl ?_
  refine e_iconst C d_Ca_emptyPosts_2 ?_
  refine e_istore_n C d_Ca_emptyPosts_3 (by decide) rfl ?_
  exact l_Ca_emptyPosts C F hc hN N.toNat 0 0 (by omega) (by omega) (by omega) (by omega) ⟨rfl, rfl⟩
def nstep (c : Cs) (k n : Int) : Int := n + (c 0 k + c 1 k)
theorem l_Ca_grains {g : Mach} {Q : Int → St → Prop} (C : Cx M_Ca_grains g) (F : FinI M_Ca_grains g Q) {σ : St} {o : Nat} {N : Int} (hc : o ∈ castles) (hN : 0 ≤ N ∧ N ≤ 8) (hs : ∀ k, 0 ≤ k → k < 8 → 0 ≤ σ o 0 k + σ o 1 k ∧ σ o 0 k + σ o 1 k ≤ 100000000) :
    ∀ (n : Nat) (i w : Int), 0 ≤ i → i + n = N → 0 ≤ w → w ≤ 100000000 * i → Q (itr (nstep (σ o)) n i w) σ → Ev g 4 [some (.inr (.inr (o, 0))), some (.inl N), some (.inl w), some (.inl i)] [] σ := by
  have h_o := cas_obj hc
  have c_o := cas_cls hc
  intro n
  induction n with
  | zero =>
    intro i w h0 h1 hw hw2 hQ
    refine e_iload_n C d_Ca_grains_4 rfl ?_
    refine e_iload_n C d_Ca_grains_5 rfl ?_
    refine e_icmp_ge C 31 d_Ca_grains_6 (by decide) (by omega) (by omega) (fun c_6 => ?_) (fun c_6 => ?_)
    · refine e_iload_n C d_Ca_grains_31 rfl ?_
      refine e_iret C F rfl d_Ca_grains_32 (by omega) ?_
      exact hQ
    · exact absurd h1 (by omega)
  | succ n ih =>
    intro i w h0 h1 hw hw2 hQ
    have hsi := hs i h0 (by omega)
    rw [itr_S] at hQ
    refine e_iload_n C d_Ca_grains_4 rfl ?_
    refine e_iload_n C d_Ca_grains_5 rfl ?_
    refine e_icmp_ge C 31 d_Ca_grains_6 (by decide) (by omega) (by omega) (fun c_6 => ?_) (fun c_6 => ?_)
    · exact absurd h1 (by omega)
    · refine e_iload_n C d_Ca_grains_9 rfl ?_
      refine e_aload_n C d_Ca_grains_10 rfl ?_
      refine e_geta C fl_Ca_9 h_o c_o rfl d_Ca_grains_11 ?_
      refine e_iload_n C d_Ca_grains_14 rfl ?_
      refine e_iald (n := 8) C h_o c_o (by decide) rfl rfl (by decide) (by omega) (by omega) d_Ca_grains_15 (fun r_15 => ?_)
      refine e_aload_n C d_Ca_grains_16 rfl ?_
      refine e_geta C fl_Ca_15 h_o c_o rfl d_Ca_grains_17 ?_
      refine e_iload_n C d_Ca_grains_20 rfl ?_
      refine e_iald (n := 8) C h_o c_o (by decide) rfl rfl (by decide) (by omega) (by omega) d_Ca_grains_21 (fun r_21 => ?_)
      refine e_iadd C d_Ca_grains_22 ?_
      refine e_iadd C d_Ca_grains_23 ?_
      refine e_istore_n C d_Ca_grains_24 (by decide) rfl ?_
      refine e_iinc C d_Ca_grains_25 rfl (by decide) rfl ?_
      refine e_goto C 4 d_Ca_grains_28 (by decide) ?_
      exact ih (i + 1) _ (by omega) (by omega) (by omega) (by omega) hQ
theorem k_Ca_grains {σ : St} {o : Nat} {N : Int} (hc : o ∈ castles) (hN : 0 ≤ N ∧ N ≤ 8) (hs : ∀ k, 0 ≤ k → k < 8 → 0 ≤ σ o 0 k + σ o 1 k ∧ σ o 0 k + σ o 1 k ≤ 100000000) : CtI M_Ca_grains [.inr (.inr (o, 0)), .inl N] σ (fun r u => r = itr (nstep (σ o)) N.toNat 0 0 ∧ u = σ) := by
  intro g C F
  have h_o := cas_obj hc
  have c_o := cas_cls hc
  refine e_iconst C d_Ca_grains_0 ?_
  refine e_istore_n C d_Ca_grains_1 (by decide) rfl ?_
  refine e_iconst C d_Ca_grains_2 ?_
  refine e_istore_n C d_Ca_grains_3 (by decide) rfl ?_
  exact l_Ca_grains C F hc hN hs N.toNat 0 0 (by omega) (by omega) (by omega) (by omega) ⟨rfl, rfl⟩
def bstep (c : Cs) (k b : Int) : Int := if c 6 k ≠ -2 ∧ (b = -2 ∨ c 8 b < c 8 k) then k else b
theorem l_Ca_longestOnWatch {g : Mach} {Q : Int → St → Prop} (C : Cx M_Ca_longestOnWatch g) (F : FinI M_Ca_longestOnWatch g Q) {σ : St} {o : Nat} {G : Int} (hc : o ∈ castles) (hG : 0 ≤ G ∧ G ≤ 12) :
    ∀ (n : Nat) (i b : Int), 0 ≤ i → i + n = G → (b = -2 ∨ (0 ≤ b ∧ b < i)) → Q (itr (bstep (σ o)) n i b) σ → Ev g 5 [some (.inr (.inr (o, 0))), some (.inl G), some (.inl b), some (.inl i)] [] σ := by
  have h_o := cas_obj hc
  have c_o := cas_cls hc
  intro n
  induction n with
  | zero =>
    intro i b h0 h1 hb hQ
    refine e_iload_n C d_Ca_longestOnWatch_5 rfl ?_
    refine e_iload_n C d_Ca_longestOnWatch_6 rfl ?_
    refine e_icmp_ge C 50 d_Ca_longestOnWatch_7 (by decide) (by omega) (by omega) (fun c_7 => ?_) (fun c_7 => ?_)
    · refine e_iload_n C d_Ca_longestOnWatch_50 rfl ?_
      refine e_iret C F rfl d_Ca_longestOnWatch_51 (by omega) ?_
      exact hQ
    · exact absurd h1 (by omega)
  | succ n ih =>
    intro i b h0 h1 hb hQ
    rw [itr_S] at hQ
    unfold bstep at hQ
    refine e_iload_n C d_Ca_longestOnWatch_5 rfl ?_
    refine e_iload_n C d_Ca_longestOnWatch_6 rfl ?_
    refine e_icmp_ge C 50 d_Ca_longestOnWatch_7 (by decide) (by omega) (by omega) (fun c_7 => ?_) (fun c_7 => ?_)
    · exact absurd h1 (by omega)
    · refine e_aload_n C d_Ca_longestOnWatch_10 rfl ?_
      refine e_geta C fl_Ca_31 h_o c_o rfl d_Ca_longestOnWatch_11 ?_
      refine e_iload_n C d_Ca_longestOnWatch_14 rfl ?_
      refine e_iald (n := 12) C h_o c_o (by decide) rfl rfl (by decide) (by omega) (by omega) d_Ca_longestOnWatch_15 (fun r_15 => ?_)
      refine e_bipush C d_Ca_longestOnWatch_16 (by decide) ?_
      refine e_icmp_eq C 44 d_Ca_longestOnWatch_18 (by decide) (by omega) (by omega) (fun c_18 => ?_) (fun c_18 => ?_)
      · refine e_iinc C d_Ca_longestOnWatch_44 rfl (by decide) rfl ?_
        refine e_goto C 5 d_Ca_longestOnWatch_47 (by decide) ?_
        first
          | rw [if_pos (by omega)] at hQ
          | rw [if_neg (by omega)] at hQ
        exact ih (i + 1) _ (by omega) (by omega) (by omega) hQ
      · refine e_iload_n C d_Ca_longestOnWatch_21 rfl ?_
        refine e_bipush C d_Ca_longestOnWatch_22 (by decide) ?_
        refine e_icmp_eq C 42 d_Ca_longestOnWatch_24 (by decide) (by omega) (by omega) (fun c_24 => ?_) (fun c_24 => ?_)
        · refine e_iload_n C d_Ca_longestOnWatch_42 rfl ?_
          refine e_istore_n C d_Ca_longestOnWatch_43 (by decide) rfl ?_
          refine e_iinc C d_Ca_longestOnWatch_44 rfl (by decide) rfl ?_
          refine e_goto C 5 d_Ca_longestOnWatch_47 (by decide) ?_
          first
            | rw [if_pos (by omega)] at hQ
            | rw [if_neg (by omega)] at hQ
          exact ih (i + 1) _ (by omega) (by omega) (by omega) hQ
        · refine e_aload_n C d_Ca_longestOnWatch_27 rfl ?_
          refine e_geta C fl_Ca_37 h_o c_o rfl d_Ca_longestOnWatch_28 ?_
          refine e_iload_n C d_Ca_longestOnWatch_31 rfl ?_
          refine e_iald (n := 12) C h_o c_o (by decide) rfl rfl (by decide) (by omega) (by omega) d_Ca_longestOnWatch_32 (fun r_32 => ?_)
          refine e_aload_n C d_Ca_longestOnWatch_33 rfl ?_
          refine e_geta C fl_Ca_37 h_o c_o rfl d_Ca_longestOnWatch_34 ?_
          refine e_iload_n C d_Ca_longestOnWatch_37 rfl ?_
          refine e_iald (n := 12) C h_o c_o (by decide) rfl rfl (by decide) (by omega) (by omega) d_Ca_longestOnWatch_38 (fun r_38 => ?_)
          refine e_icmp_le C 44 d_Ca_longestOnWatch_39 (by decide) (by omega) (by omega) (fun c_39 => ?_) (fun c_39 => ?_)
          · refine e_iinc C d_Ca_longestOnWatch_44 rfl (by decide) rfl ?_
            refine e_goto C 5 d_Ca_longestOnWatch_47 (by decide) ?_
            first
              | rw [if_pos (by omega)] at hQ
              | rw [if_neg (by omega)] at hQ
            exact ih (i + 1) _ (by omega) (by omega) (by omega) hQ
          · refine e_iload_n C d_Ca_longestOnWatch_42 rfl ?_
            refine e_istore_n C d_Ca_longestOnWatch_43 (by decide) rfl ?_
            refine e_iinc C d_Ca_longestOnWatch_44 rfl (by decide) rfl ?_
            refine e_goto C 5 d_Ca_longestOnWatch_47 (by decide) ?_
            first
              | rw [if_pos (by omega)] at hQ
              | rw [if_neg (by omega)] at hQ
            exact ih (i + 1) _ (by omega) (by omega) (by omega) hQ
theorem k_Ca_longestOnWatch {σ : St} {o : Nat} {G : Int} (hc : o ∈ castles) (hG : 0 ≤ G ∧ G ≤ 12) : CtI M_Ca_longestOnWatch [.inr (.inr (o, 0)), .inl G] σ (fun r u => r = itr (bstep (σ o)) G.toNat 0 (-2) ∧ u = σ) := by
  intro g C F
  have h_o := cas_obj hc
  have c_o := cas_cls hc
  refine e_bipush C d_Ca_longestOnWatch_0 (by decide) ?_
  refine e_istore_n C d_Ca_longestOnWatch_2 (by decide) rfl ?_
  refine e_iconst C d_Ca_longestOnWatch_3 ?_
  refine e_istore_n C d_Ca_longestOnWatch_4 (by decide) rfl ?_
  exact l_Ca_longestOnWatch C F hc hG G.toNat 0 (-2) (by omega) (by omega) (by omega) ⟨rfl, rfl⟩
