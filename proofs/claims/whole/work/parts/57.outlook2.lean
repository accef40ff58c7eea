/-! Outlook, the rest -/
theorem cuf_sim {P c y : Cs} {f : Nat} {p v : Int} (hf : f ≤ 5) (h2 : f ≠ 2) (h : SIM P c y) : SIM P (cu c f p v) (cu y f p v) := by
  refine ⟨⟨fun f' q a b d => ?_, fun f' k a b d e => ?_, fun k a b => ?_, ?_, ?_⟩, PW_cong (fun k => cu_f (by omega)) (fun k => cu_f (by omega)) (fun k => cu_f (by omega)) (cu_f (by omega)) h.2⟩
  · rw [cu_if, cu_if, h.1.1 f' q a b d]
  · rw [cu_f (by omega), cu_f (by omega)]; exact h.1.2.1 f' k a b d e
  · rw [cu_f (by omega)] at b; rw [cu_f (by omega), cu_f (by omega)]; exact h.1.2.2.1 k a b
  · rw [cu_f (by omega), cu_f (by omega)]; exact h.1.2.2.2.1
  · rw [cu_f (by omega), cu_f (by omega)]; exact h.1.2.2.2.2
theorem CK_0 {B : Int} {c : Cs} {p v : Int} (h : CK B c) (hv : 0 ≤ p → p < 8 → 0 ≤ v ∧ v + c 1 p ≤ 1000000000) : CK B (cu c 0 p v) := by
  refine ⟨CI_cu h.1 (by decide) (by decide) (by decide), fun q a b => ?_, fun k a b => ?_, ?_⟩
  · have hq := h.2.1 q a b
    rw [cu_f (f' := 1) (by decide), cu_f (f' := 4) (by decide), cu_if]
    by_cases z : (0 : Nat) = 0 ∧ q = p
    · have hv := hv (by omega) (by omega)
      rw [if_pos z, z.2]
      rw [z.2] at hq
      omega
    · rw [if_neg z]; exact hq
  · rw [cu_f (by decide), cu_f (by decide), cu_f (by decide)]; exact h.2.2.1 k a b
  · rw [cu_f (by decide)]; exact h.2.2.2
theorem CK_exch {B : Int} {c : Cs} {p : Int} (h : CK B c) (hp : 0 ≤ p ∧ p < 8) : CK B (c_exchange c p) := by
  have hpp := h.2.1 p hp.1 hp.2
  unfold c_exchange
  refine ⟨CI_cu (CI_cu h.1 (by decide) (by decide) (by decide)) (by decide) (by decide) (by decide), fun q a b => ?_, fun k a b => ?_, ?_⟩
  · have hq := h.2.1 q a b
    rw [cu_f (f' := 1) (by decide), cu_f (f' := 4) (by decide), cu_f (f' := 4) (by decide)]
    by_cases z : q = p
    · subst z
      rw [cu_s, cu_s]; omega
    · rw [cu_k z, cu_k z, cu_f (by decide)]; exact hq
  · simp only [cu_f, ne_eq, Nat.reduceEqDiff, not_false_eq_true]; exact h.2.2.1 k a b
  · simp only [cu_f, ne_eq, Nat.reduceEqDiff, not_false_eq_true]; exact h.2.2.2
theorem exch_sim {P c y : Cs} {p : Int} (h : SIM P c y) (hp : 0 ≤ p ∧ p < P 3 0) : SIM P (c_exchange c p) (c_exchange y p) := by
  unfold c_exchange
  rw [h.1.1 0 p (by decide) hp.1 hp.2, h.1.1 1 p (by decide) hp.1 hp.2]
  exact cuf_sim (by decide) (by decide) (cuf_sim (by decide) (by decide) h)
theorem k_Ou_isNotOut {σ : St} {φ : Phi} {p gr m B : Int} {l c y : Cs} (hPl : PlanOk (σ 7) l φ) (hS : SIM (σ 7) (σ 18) y) (hK : CK B (σ 18)) (hB : 0 ≤ B ∧ B < 700000000) (hm : 0 ≤ m ∧ m ≤ 10000) (hp : 0 ≤ p ∧ p < σ 7 3 0) (hg : 0 ≤ gr ∧ gr ≤ y 0 p) : CtI M_Ou_isNotOut [.inr (.inr (10, 0)), .inr (.inr (7, 0)), .inr (.inr (18, 0)), .inl p, .inl gr, .inl m] (SF σ 19 l c) (fun r u => r = (if nout φ (σ 7) p m.toNat (cu y 0 p (y 0 p - gr)) = -2 then 1 else 0) ∧ ∃ l' c', LSm l l' ∧ u = SF σ 19 l' c') := by
  intro g C F
  have hN := hPl.1
  have hG := hPl.2.1
  have hcs := copy_sim (c := c) hN.2 hG.2 hS
  have e0 : c_copy c (σ 18) 0 p = y 0 p := (hcs.1.1 0 p (by decide) hp.1 hp.2).symm
  have hKc : CK B (c_copy c (σ 18)) := CK_copy hK
  have hKp := hKc.2.1 p hp.1 (by omega)
  have hs2 := cuf_sim (f := 0) (p := p) (v := y 0 p - gr) (by decide) (by decide) hcs
  have hK2 : CK B (cu (c_copy c (σ 18)) 0 p (y 0 p - gr)) := CK_0 hKc (fun _ _ => by omega)
  have eo := out_eq0 (φ := φ) hp m.toNat (cu (c_copy c (σ 18)) 0 p (y 0 p - gr)) (cu y 0 p (y 0 p - gr)) (hs2.1.1 0 p (by decide) hp.1 hp.2) (hs2.1.1 1 p (by decide) hp.1 hp.2) (hs2.1.1 3 p (by decide) hp.1 hp.2) hs2.1.2.2.2.2 (by rw [cu_s]; omega)
  rw [show m.toNat + 1 = (m + 1).toNat by omega] at eo
  refine e_aload_n C d_Ou_isNotOut_0 rfl ?_
  refine e_geto (o2 := 19) C fl_Ou_12 (by decide) rfl rfl rfl d_Ou_isNotOut_1 ?_
  refine e_aload_n C d_Ou_isNotOut_4 rfl ?_
  refine e_callVV C ok_Ca_copyFrom lk_Ou_18 (o := 19) (by decide) rfl [_] rfl rfl (Nat.le_of_ble_eq_true rfl) (by decide) (Nat.le_of_ble_eq_true rfl) d_Ou_isNotOut_5 (s_Ca_copy (by decide) (by decide)) (fun u_5 h_5 => ?_)
  subst h_5
  refine e_aload_n C d_Ou_isNotOut_8 rfl ?_
  refine e_geto (o2 := 19) C fl_Ou_12 (by decide) rfl rfl rfl d_Ou_isNotOut_9 ?_
  refine e_geta C fl_Ou_26 (by decide) rfl rfl d_Ou_isNotOut_12 ?_
  refine e_iload_n C d_Ou_isNotOut_15 rfl ?_
  refine e_dup2 C d_Ou_isNotOut_16 rfl rfl ?_
  refine e_iald (n := 8) C (by decide) rfl (by decide) rfl rfl (by decide) (by omega) (by omega) d_Ou_isNotOut_17 (fun r_17 => ?_)
  try simp only [wr_so, so_at, so_so] at r_17 ⊢
  rw [e0] at r_17 ⊢
  refine e_iload C d_Ou_isNotOut_18 rfl ?_
  refine e_isub C d_Ou_isNotOut_20 ?_
  refine e_iast (n := 8) C (by decide) rfl (by decide) rfl rfl (by decide) (by omega) (by omega) (by omega) d_Ou_isNotOut_21 ?_
  try simp only [wr_so, so_at, so_so]
  refine e_aload_n C d_Ou_isNotOut_22 rfl ?_
  refine e_aload_n C d_Ou_isNotOut_23 rfl ?_
  refine e_iload_n C d_Ou_isNotOut_24 rfl ?_
  refine e_iload C d_Ou_isNotOut_25 rfl ?_
  refine e_callIV C ok_Ou_minutesToOut lk_Ou_82 (o := 10) (by decide) rfl [_, _, _] rfl rfl (Nat.le_of_ble_eq_true rfl) (by decide) (Nat.le_of_ble_eq_true rfl) d_Ou_isNotOut_27 (k_Ou_minutesToOut hPl hK2 (by omega) hm hp) (fun v_27 u_27 q_27 h_27 => ?_)
  obtain ⟨h_27, l1, c1, hl1, rfl⟩ := h_27
  rw [eo] at h_27
  have hR : R32 v_27 := by
    rw [h_27]
    unfold nout
    have := mou_ge (φ := φ) (P := σ 7) (p := p) m.toNat 1 (cu y 0 p (y 0 p - gr))
    split <;> omega
  refine e_bipush C d_Ou_isNotOut_30 (by decide) ?_
  refine e_icmp_ne C 39 d_Ou_isNotOut_32 (by decide) (by omega) (by omega) (fun c_32 => ?_) (fun c_32 => ?_)
  · refine e_iconst C d_Ou_isNotOut_39 ?_
    refine e_zret C F rfl d_Ou_isNotOut_40 (by omega) ?_
    refine ⟨?_, l1, c1, hl1, rfl⟩
    first | rw [if_pos (by omega)] | rw [if_neg (by omega)]
  · refine e_iconst C d_Ou_isNotOut_35 ?_
    refine e_goto C 40 d_Ou_isNotOut_36 (by decide) ?_
    refine e_zret C F rfl d_Ou_isNotOut_40 (by omega) ?_
    refine ⟨?_, l1, c1, hl1, rfl⟩
    first | rw [if_pos (by omega)] | rw [if_neg (by omega)]
/-- how many grains: the first of them that bring him to bed -/
def brb (φ : Phi) (P y : Cs) (p a : Int) (n : Nat) (gr : Int) : Bool := mbd φ P a (y 9 a) n 0 (cu y 0 p (y 0 p - gr)) != -2
def WV (φ : Phi) (P y : Cs) (p a : Int) (n : Nat) (w : Int) : Prop := w = 1 → ∃ i', 0 ≤ i' ∧ i' ≤ y 0 p ∧ nout φ P p n (cu y 0 p (y 0 p - i')) = -2 ∧ brb φ P y p a n i' = false
theorem WV_0 {φ : Phi} {P y : Cs} {p a w : Int} {n : Nat} (h : w ≠ 1) : WV φ P y p a n w := fun z => absurd z h
theorem WV_1 {φ : Phi} {P y : Cs} {p a w i : Int} {n : Nat} (h0 : 0 ≤ i) (h1 : i ≤ y 0 p) (h2 : nout φ P p n (cu y 0 p (y 0 p - i)) = -2) (h3 : brb φ P y p a n i = false) : WV φ P y p a n w := fun _ => ⟨i, h0, h1, h2, h3⟩
theorem WV_2 {φ : Phi} {P y : Cs} {p a w w' : Int} {n : Nat} (h : WV φ P y p a n w) (hw : w = 1) : WV φ P y p a n w' := fun _ => h hw
set_option maxHeartbeats 2000000 in
theorem l_Ou_fewestGrains {g : Mach} {Q : Int → St → Prop} (C : Cx M_Ou_fewestGrains g) (F : FinI M_Ou_fewestGrains g Q) {σ : St} {φ : Phi} {p a m B : Int} {y : Cs} (hS : SIM (σ 7) (σ 18) y) (hK : CK B (σ 18)) (hB : 0 ≤ B ∧ B < 600000000) (hm : 0 ≤ m ∧ m ≤ 10000) (hp : 0 ≤ p ∧ p < σ 7 3 0) (ha : 0 ≤ a ∧ a < σ 7 4 0) :
    ∀ (n : Nat) (i w : Int) (l c : Cs), PlanOk (σ 7) l φ → 0 ≤ i → i + n = y 0 p + 1 → (w = 0 ∨ w = 1) → WV φ (σ 7) y p a m.toNat w → (∀ l' c', LSm l l' → Q (fnd (brb φ (σ 7) y p a m.toNat) n i) (SF σ 19 l' c')) → Ev g 22 [some (.inr (.inr (10, 0))), some (.inr (.inr (7, 0))), some (.inr (.inr (18, 0))), some (.inl a), some (.inl m), some (.inl p), some (.inl w), some (.inl i), none] [] (SF σ 19 l c) := by
  intro n
  have hKp0 := hK.2.1 p hp.1
  have e0 := hS.1.1 0 p (by decide) hp.1 hp.2
  induction n with
  | zero =>
    intro i w l c hPl h0 h1 hw hw2 hQ
    have hN := hPl.1
    have hKp := hKp0 (by omega)
    refine e_iload C d_Ou_fewestGrains_22 rfl ?_
    refine e_aload_n C d_Ou_fewestGrains_24 rfl ?_
    refine e_geta C fl_Ou_26 (by decide) rfl rfl d_Ou_fewestGrains_25 ?_
    refine e_iload C d_Ou_fewestGrains_28 rfl ?_
    refine e_iald (n := 8) C (by decide) rfl (by decide) rfl rfl (by decide) (by omega) (by omega) d_Ou_fewestGrains_30 (fun r_30 => ?_)
    try simp only [so_ne, ne_eq, Nat.reduceEqDiff, not_false_eq_true] at r_30 ⊢
    refine e_icmp_gt C 141 d_Ou_fewestGrains_31 (by decide) (by omega) (by omega) (fun c_31 => ?_) (fun c_31 => ?_)
    · refine e_bipush C d_Ou_fewestGrains_141 (by decide) ?_
      refine e_iret C F rfl d_Ou_fewestGrains_143 (by omega) ?_
      exact hQ l c (LSm.rf l)
    · exact absurd h1 (by omega)
  | succ n ih =>
    intro i w l c hPl h0 h1 hw hw2 hQ
    have hN := hPl.1
    have hG := hPl.2.1
    have hKp := hKp0 (by omega)
    have hQ1 : brb φ (σ 7) y p a m.toNat i = true → ∀ l' c', LSm l l' → Q i (SF σ 19 l' c') := by
      intro z l' c' hl'
      have := hQ l' c' hl'
      unfold fnd at this
      rw [if_pos z] at this
      exact this
    have hQ2 : brb φ (σ 7) y p a m.toNat i = false → ∀ l' c', LSm l l' → Q (fnd (brb φ (σ 7) y p a m.toNat) n (i + 1)) (SF σ 19 l' c') := by
      intro z l' c' hl'
      have := hQ l' c' hl'
      unfold fnd at this
      rw [if_neg (by rw [z]; decide)] at this
      exact this
    clear hQ
    have hcs : ∀ c0, SIM (σ 7) (c_copy c0 (σ 18)) y := fun c0 => copy_sim hN.2 hG.2 hS
    have hKc : ∀ c0, CK B (c_copy c0 (σ 18)) := fun c0 => CK_copy hK
    have ec : ∀ c0, c_copy c0 (σ 18) 0 p = y 0 p := fun c0 => ((hcs c0).1.1 0 p (by decide) hp.1 hp.2).symm
    have ec1 : ∀ c0, c_copy c0 (σ 18) 1 p = σ 18 1 p := fun c0 => cp_1 ⟨hp.1, by omega⟩
    have hK2 : ∀ c0, CK B (cu (c_copy c0 (σ 18)) 0 p (y 0 p - i)) := fun c0 => CK_0 (hKc c0) (fun _ _ => by rw [ec1]; omega)
    have hs2 : ∀ c0, SIM (σ 7) (cu (c_copy c0 (σ 18)) 0 p (y 0 p - i)) (cu y 0 p (y 0 p - i)) := fun c0 => cuf_sim (by decide) (by decide) (hcs c0)
    have e9 : ∀ c0, cu (c_copy c0 (σ 18)) 0 p (y 0 p - i) 9 a = y 9 a := fun c0 => by rw [cu_f (by decide)]; exact ((hcs c0).1.2.1 9 a (by decide) (by decide) ha.1 ha.2).symm
    -- the last part, for any law of scratch numbers, with what is known of waiting
    have fin : ∀ (wt : Int) (l1 c1 : Cs), LSm l l1 → (wt = 0 ∨ wt = 1) → (wt = 1 → nout φ (σ 7) p m.toNat (cu y 0 p (y 0 p - i)) = -2) → Ev g 79 [some (.inr (.inr (10, 0))), some (.inr (.inr (7, 0))), some (.inr (.inr (18, 0))), some (.inl a), some (.inl m), some (.inl p), some (.inl w), some (.inl i), some (.inl wt)] [] (SF σ 19 l1 c1) := by
      intro wt l1 c1 hl1 hwt hwn
      refine e_aload_n C d_Ou_fewestGrains_79 rfl ?_
      refine e_geto (o2 := 19) C fl_Ou_12 (by decide) rfl rfl rfl d_Ou_fewestGrains_80 ?_
      refine e_aload_n C d_Ou_fewestGrains_83 rfl ?_
      refine e_callVV C ok_Ca_copyFrom lk_Ou_18 (o := 19) (by decide) rfl [_] rfl rfl (Nat.le_of_ble_eq_true rfl) (by decide) (Nat.le_of_ble_eq_true rfl) d_Ou_fewestGrains_84 (s_Ca_copy (by decide) (by decide)) (fun u_84 h_84 => ?_)
      subst h_84
      refine e_aload_n C d_Ou_fewestGrains_87 rfl ?_
      refine e_geto (o2 := 19) C fl_Ou_12 (by decide) rfl rfl rfl d_Ou_fewestGrains_88 ?_
      refine e_geta C fl_Ou_26 (by decide) rfl rfl d_Ou_fewestGrains_91 ?_
      refine e_iload C d_Ou_fewestGrains_94 rfl ?_
      refine e_dup2 C d_Ou_fewestGrains_96 rfl rfl ?_
      refine e_iald (n := 8) C (by decide) rfl (by decide) rfl rfl (by decide) (by omega) (by omega) d_Ou_fewestGrains_97 (fun r_97 => ?_)
      try simp only [wr_so, so_at, so_so] at r_97 ⊢
      rw [ec] at r_97 ⊢
      refine e_iload C d_Ou_fewestGrains_98 rfl ?_
      refine e_isub C d_Ou_fewestGrains_100 ?_
      refine e_iast (n := 8) C (by decide) rfl (by decide) rfl rfl (by decide) (by omega) (by omega) (by omega) d_Ou_fewestGrains_101 ?_
      try simp only [wr_so, so_at, so_so]
      refine e_aload_n C d_Ou_fewestGrains_102 rfl ?_
      refine e_aload_n C d_Ou_fewestGrains_103 rfl ?_
      refine e_iload_n C d_Ou_fewestGrains_104 rfl ?_
      refine e_iload C d_Ou_fewestGrains_105 rfl ?_
      refine e_callIV C ok_Ou_minutesToBed lk_Ou_78 (o := 10) (by decide) rfl [_, _, _] rfl rfl (Nat.le_of_ble_eq_true rfl) (by decide) (Nat.le_of_ble_eq_true rfl) d_Ou_fewestGrains_107 (k_Ou_minutesToBed (hPl.same hl1) (hK2 c1) (by omega) hm (by omega)) (fun v_107 u_107 q_107 h_107 => ?_)
      obtain ⟨h_107, l2, c2, hl2, rfl⟩ := h_107
      have eb := bed_eq (m := m) (a := a) (b := y 9 a) (hPl.same hl1) ha (m + 1).toNat 0 B _ _ (hs2 c1) (hK2 c1) hB.1 (by omega) (by omega) (by omega) (e9 c1)
      rw [e9, eb, show (m - 0).toNat = m.toNat by omega] at h_107
      have hl12 := hl1.tr hl2
      have hR : R32 v_107 := by
        rw [h_107]
        have : ∀ (k : Nat) (j : Int) (z : Cs), mbd φ (σ 7) a (y 9 a) k j z = -2 ∨ (j ≤ mbd φ (σ 7) a (y 9 a) k j z ∧ mbd φ (σ 7) a (y 9 a) k j z ≤ j + k) := by
          intro k
          induction k with
          | zero => intro j z; exact Or.inl rfl
          | succ k ihk =>
            intro j z
            rw [mbd_S]
            split
            · rcases ihk (j + 1) (mmin φ (σ 7) z) with q | q
              · exact Or.inl q
              · right; omega
            · right; omega
        have := this m.toNat 0 (cu y 0 p (y 0 p - i))
        omega
      refine e_bipush C d_Ou_fewestGrains_110 (by decide) ?_
      refine e_icmp_eq C 118 d_Ou_fewestGrains_112 (by decide) (by omega) (by omega) (fun c_112 => ?_) (fun c_112 => ?_)
      · have hbr : brb φ (σ 7) y p a m.toNat i = false := by unfold brb; rw [← h_107]; simpa using c_112
        refine e_iload C d_Ou_fewestGrains_118 rfl ?_
        refine e_if_ne C 128 d_Ou_fewestGrains_120 (by decide) (by omega) (fun c_120 => ?_) (fun c_120 => ?_)
        · refine e_iconst C d_Ou_fewestGrains_128 ?_
          refine e_goto C 133 d_Ou_fewestGrains_129 (by decide) ?_
          refine e_istore C d_Ou_fewestGrains_133 (by decide) rfl ?_
          refine e_iinc C d_Ou_fewestGrains_135 rfl (by decide) rfl ?_
          refine e_goto C 22 d_Ou_fewestGrains_138 (by decide) ?_
          refine e_drop 8 ?_
          refine ih (i + 1) _ l2 c2 (hPl.same hl12) (by omega) (by omega) (by omega) ?_ (fun l' c' hl' => hQ2 hbr l' c' (hl12.tr hl'))
          first
            | exact WV_0 (by omega)
            | exact WV_2 hw2 (by omega)
            | exact WV_1 (by omega) (by omega) (hwn (by omega)) hbr
        · refine e_iload C d_Ou_fewestGrains_123 rfl ?_
          refine e_if_eq C 132 d_Ou_fewestGrains_125 (by decide) (by omega) (fun c_125 => ?_) (fun c_125 => ?_)
          · refine e_iconst C d_Ou_fewestGrains_132 ?_
            refine e_istore C d_Ou_fewestGrains_133 (by decide) rfl ?_
            refine e_iinc C d_Ou_fewestGrains_135 rfl (by decide) rfl ?_
            refine e_goto C 22 d_Ou_fewestGrains_138 (by decide) ?_
            refine e_drop 8 ?_
            refine ih (i + 1) _ l2 c2 (hPl.same hl12) (by omega) (by omega) (by omega) ?_ (fun l' c' hl' => hQ2 hbr l' c' (hl12.tr hl'))
            first
              | exact WV_0 (by omega)
              | exact WV_2 hw2 (by omega)
              | exact WV_1 (by omega) (by omega) (hwn (by omega)) hbr
          · refine e_iconst C d_Ou_fewestGrains_128 ?_
            refine e_goto C 133 d_Ou_fewestGrains_129 (by decide) ?_
            refine e_istore C d_Ou_fewestGrains_133 (by decide) rfl ?_
            refine e_iinc C d_Ou_fewestGrains_135 rfl (by decide) rfl ?_
            refine e_goto C 22 d_Ou_fewestGrains_138 (by decide) ?_
            refine e_drop 8 ?_
            refine ih (i + 1) _ l2 c2 (hPl.same hl12) (by omega) (by omega) (by omega) ?_ (fun l' c' hl' => hQ2 hbr l' c' (hl12.tr hl'))
            first
              | exact WV_0 (by omega)
              | exact WV_2 hw2 (by omega)
              | exact WV_1 (by omega) (by omega) (hwn (by omega)) hbr
      · have hbr : brb φ (σ 7) y p a m.toNat i = true := by unfold brb; rw [← h_107]; simpa using c_112
        refine e_iload C d_Ou_fewestGrains_115 rfl ?_
        refine e_iret C F rfl d_Ou_fewestGrains_117 (by omega) ?_
        exact hQ1 hbr l2 c2 hl12
    refine e_iload C d_Ou_fewestGrains_22 rfl ?_
    refine e_aload_n C d_Ou_fewestGrains_24 rfl ?_
    refine e_geta C fl_Ou_26 (by decide) rfl rfl d_Ou_fewestGrains_25 ?_
    refine e_iload C d_Ou_fewestGrains_28 rfl ?_
    refine e_iald (n := 8) C (by decide) rfl (by decide) rfl rfl (by decide) (by omega) (by omega) d_Ou_fewestGrains_30 (fun r_30 => ?_)
    try simp only [so_ne, so_at, ne_eq, Nat.reduceEqDiff, not_false_eq_true] at r_30 ⊢
    refine e_icmp_gt C 141 d_Ou_fewestGrains_31 (by decide) (by omega) (by omega) (fun c_31 => ?_) (fun c_31 => ?_)
    · exact absurd h1 (by omega)
    · refine e_aload_n C d_Ou_fewestGrains_34 rfl ?_
      refine e_geto (o2 := 8) C fl_Ou_64 (by decide) rfl rfl rfl d_Ou_fewestGrains_35 ?_
      refine e_getz C fl_Ou_68 (by decide) rfl rfl d_Ou_fewestGrains_38 (fun r_38 => ?_)
      try simp only [so_ne, so_at, ne_eq, Nat.reduceEqDiff, not_false_eq_true] at r_38 ⊢
      refine e_if_ne C 63 d_Ou_fewestGrains_41 (by decide) (by omega) (fun c_41 => ?_) (fun c_41 => ?_)
      · refine e_iconst C d_Ou_fewestGrains_63 ?_
        refine e_istore C d_Ou_fewestGrains_64 (by decide) rfl ?_
        refine e_iload C d_Ou_fewestGrains_66 rfl ?_
        refine e_if_eq C 79 d_Ou_fewestGrains_68 (by decide) (by omega) (fun c_68 => ?_) (fun c_68 => ?_)
        · exact fin 0 l c (LSm.rf l) (by omega) (by omega)
        · exact absurd rfl c_68
        skip
      · refine e_aload_n C d_Ou_fewestGrains_44 rfl ?_
        refine e_aload_n C d_Ou_fewestGrains_45 rfl ?_
        refine e_aload_n C d_Ou_fewestGrains_46 rfl ?_
        refine e_iload C d_Ou_fewestGrains_47 rfl ?_
        refine e_iload C d_Ou_fewestGrains_49 rfl ?_
        refine e_iload C d_Ou_fewestGrains_51 rfl ?_
        refine e_callIV C ok_Ou_isNotOut lk_Ou_74 (o := 10) (by decide) rfl [_, _, _, _, _] rfl rfl (Nat.le_of_ble_eq_true rfl) (by decide) (Nat.le_of_ble_eq_true rfl) d_Ou_fewestGrains_53 (k_Ou_isNotOut hPl hS hK (by omega) hm hp (by omega)) (fun v_53 u_53 q_53 h_53 => ?_)
        obtain ⟨h_53, l1, c1, hl1, rfl⟩ := h_53
        refine e_if_eq C 63 d_Ou_fewestGrains_56 (by decide) (by omega) (fun c_56 => ?_) (fun c_56 => ?_)
        · refine e_iconst C d_Ou_fewestGrains_63 ?_
          refine e_istore C d_Ou_fewestGrains_64 (by decide) rfl ?_
          refine e_iload C d_Ou_fewestGrains_66 rfl ?_
          refine e_if_eq C 79 d_Ou_fewestGrains_68 (by decide) (by omega) (fun c_68 => ?_) (fun c_68 => ?_)
          · exact fin 0 l1 c1 hl1 (by omega) (by omega)
          · exact absurd rfl c_68
          skip
        · have hno : nout φ (σ 7) p m.toNat (cu y 0 p (y 0 p - i)) = -2 := by
              by_cases z : nout φ (σ 7) p m.toNat (cu y 0 p (y 0 p - i)) = -2
              · exact z
              · rw [if_neg z] at h_53; exact absurd h_53 c_56
          refine e_iconst C d_Ou_fewestGrains_59 ?_
          refine e_goto C 64 d_Ou_fewestGrains_60 (by decide) ?_
          refine e_istore C d_Ou_fewestGrains_64 (by decide) rfl ?_
          refine e_iload C d_Ou_fewestGrains_66 rfl ?_
          refine e_if_eq C 79 d_Ou_fewestGrains_68 (by decide) (by omega) (fun c_68 => ?_) (fun c_68 => ?_)
          · exact absurd c_68 (by decide)
          · refine e_iload C d_Ou_fewestGrains_71 rfl ?_
            refine e_if_eq C 79 d_Ou_fewestGrains_73 (by decide) (by omega) (fun c_73 => ?_) (fun c_73 => ?_)
            · exact fin 1 l1 c1 hl1 (by omega) (fun _ => hno)
            · obtain ⟨i', j0, j1, j2, j3⟩ := hw2 (show w = 1 by omega)
              have hbr : brb φ (σ 7) y p a m.toNat i = false := by
                have := mbd_alike (φ := φ) (P := σ 7) (y := y) (a := a) (b := y 9 a) hp (show 0 ≤ y 0 p - i' by omega) (show 0 ≤ y 0 p - i by omega) j2 hno
                unfold brb at j3 ⊢
                rw [this]
                exact j3
              refine e_goto C 135 d_Ou_fewestGrains_76 (by decide) ?_
              refine e_iinc C d_Ou_fewestGrains_135 rfl (by decide) rfl ?_
              refine e_goto C 22 d_Ou_fewestGrains_138 (by decide) ?_
              refine e_drop 8 ?_
              exact ih (i + 1) w l1 c1 (hPl.same hl1) (by omega) (by omega) hw hw2 (fun l' c' hl' => hQ2 hbr l' c' (hl1.tr hl'))
