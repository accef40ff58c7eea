/-! Outlook, the rest -/
theorem cuf_sim {P c y : Cs} {f : Nat} {p v : Int} (hf : f ≤ 5) (h2 : f ≠ 2) (h : SIM P c y) : SIM P (cu c f p v) (cu y f p v) := by
  refine ⟨⟨fun f' q a b d => ?_, fun f' k a b d e => ?_, fun k a b => ?_, ?_, ?_⟩, PW_cong (fun k => cu_f (by omega)) (fun k => cu_f (by omega)) (fun k => cu_f (by omega)) (cu_f (by omega)) h.2⟩
  · rw [cu_if, cu_if, h.1.1 f' q a b d]
  · rw [cu_f (by omega), cu_f (by omega)]; exact h.1.2.1 f' k a b d e
  · rw [cu_f (by omega)] at b; rw [cu_f (by omega), cu_f (by omega)]; exact h.1.2.2.1 k a b
  · rw [cu_f (by omega), cu_f (by omega)]; exact h.1.2.2.2.1
  · rw [cu_f (by omega), cu_f (by omega)]; exact h.1.2.2.2.2
theorem CK_0 {B : Int} {c : Cs} {p v : Int} (h : CK B c) (hv : 0 ≤ p → p < 8 → 0 ≤ v ∧ v + c 1 p ≤ 1000000000) : CK B (cu c 0 p v) := by
  refine ⟨CI_cu h.1 (by decide) (by decide) (by decide), fun q a b => ?_, fun k a b => ?_, ?_⟩
  · have hq := h.2.1 q a b
    rw [cu_f (f' := 1) (by decide), cu_f (f' := 4) (by decide), cu_if]
    by_cases z : (0 : Nat) = 0 ∧ q = p
    · have hv := hv (by omega) (by omega)
      rw [if_pos z, z.2]
      rw [z.2] at hq
      omega
    · rw [if_neg z]; exact hq
  · rw [cu_f (by decide), cu_f (by decide), cu_f (by decide)]; exact h.2.2.1 k a b
  · rw [cu_f (by decide)]; exact h.2.2.2
theorem CK_exch {B : Int} {c : Cs} {p : Int} (h : CK B c) (hp : 0 ≤ p ∧ p < 8) : CK B (c_exchange c p) := by
  have hpp := h.2.1 p hp.1 hp.2
  unfold c_exchange
  refine ⟨CI_cu (CI_cu h.1 (by decide) (by decide) (by decide)) (by decide) (by decide) (by decide), fun q a b => ?_, fun k a b => ?_, ?_⟩
  · have hq := h.2.1 q a b
    rw [cu_f (f' := 1) (by decide), cu_f (f' := 4) (by decide), cu_f (f' := 4) (by decide)]
    by_cases z : q = p
    · subst z
      rw [cu_s, cu_s]; omega
    · rw [cu_k z, cu_k z, cu_f (by decide)]; exact hq
  · simp only [cu_f, ne_eq, Nat.reduceEqDiff, not_false_eq_true]; exact h.2.2.1 k a b
  · simp only [cu_f, ne_eq, Nat.reduceEqDiff, not_false_eq_true]; exact h.2.2.2
theorem exch_sim {P c y : Cs} {p : Int} (h : SIM P c y) (hp : 0 ≤ p ∧ p < P 3 0) : SIM P (c_exchange c p) (c_exchange y p) := by
  unfold c_exchange
  rw [h.1.1 0 p (by decide) hp.1 hp.2, h.1.1 1 p (by decide) hp.1 hp.2]
  exact cuf_sim (by decide) (by decide) (cuf_sim (by decide) (by decide) h)
theorem k_Ou_isNotOut {σ : St} {φ : Phi} {p gr m B : Int} {l c y : Cs} (hPl : PlanOk (σ 7) l φ) (hS : SIM (σ 7) (σ 18) y) (hK : CK B (σ 18)) (hB : 0 ≤ B ∧ B < 700000000) (hm : 0 ≤ m ∧ m ≤ 10000) (hp : 0 ≤ p ∧ p < σ 7 3 0) (hg : 0 ≤ gr ∧ gr ≤ y 0 p) : CtI M_Ou_isNotOut [.inr (.inr (10, 0)), .inr (.inr (7, 0)), .inr (.inr (18, 0)), .inl p, .inl gr, .inl m] (SF σ 19 l c) (fun r u => r = (if nout φ (σ 7) p m.toNat (cu y 0 p (y 0 p - gr)) = -2 then 1 else 0) ∧ ∃ l' c', LSm l l' ∧ u = SF σ 19 l' c') := by
  intro g C F
  have hN := hPl.1
  have hG := hPl.2.1
  have hcs := copy_sim (c := c) hN.2 hG.2 hS
  have e0 : c_copy c (σ 18) 0 p = y 0 p := (hcs.1.1 0 p (by decide) hp.1 hp.2).symm
  have hKc : CK B (c_copy c (σ 18)) := CK_copy hK
  have hKp := hKc.2.1 p hp.1 (by omega)
  have hs2 := cuf_sim (f := 0) (p := p) (v := y 0 p - gr) (by decide) (by decide) hcs
  have hK2 : CK B (cu (c_copy c (σ 18)) 0 p (y 0 p - gr)) := CK_0 hKc (fun _ _ => by omega)
  have eo := out_eq0 (φ := φ) hp m.toNat (cu (c_copy c (σ 18)) 0 p (y 0 p - gr)) (cu y 0 p (y 0 p - gr)) (hs2.1.1 0 p (by decide) hp.1 hp.2) (hs2.1.1 1 p (by decide) hp.1 hp.2) (hs2.1.1 3 p (by decide) hp.1 hp.2) hs2.1.2.2.2.2 (by rw [cu_s]; omega)
  rw [show m.toNat + 1 = (m + 1).toNat by omega] at eo
  refine e_aload_n C d_Ou_isNotOut_0 rfl ?_
  refine e_geto (o2 := 19) C fl_Ou_12 (by decide) rfl rfl rfl d_Ou_isNotOut_1 ?_
  refine e_aload_n C d_Ou_isNotOut_4 rfl ?_
  refine e_callVV C ok_Ca_copyFrom lk_Ou_18 (o := 19) (by decide) rfl [_] rfl rfl (Nat.le_of_ble_eq_true rfl) (by decide) (Nat.le_of_ble_eq_true rfl) d_Ou_isNotOut_5 (s_Ca_copy (by decide) (by decide)) (fun u_5 h_5 => ?_)
  subst h_5
  refine e_aload_n C d_Ou_isNotOut_8 rfl ?_
  refine e_geto (o2 := 19) C fl_Ou_12 (by decide) rfl rfl rfl d_Ou_isNotOut_9 ?_
  refine e_geta C fl_Ou_26 (by decide) rfl rfl d_Ou_isNotOut_12 ?_
  refine e_iload_n C d_Ou_isNotOut_15 rfl ?_
  refine e_dup2 C d_Ou_isNotOut_16 rfl rfl ?_
  refine e_iald (n := 8) C (by decide) rfl (by decide) rfl rfl (by decide) (by omega) (by omega) d_Ou_isNotOut_17 (fun r_17 => ?_)
  try simp only [wr_so, so_at, so_so] at r_17 ⊢
  rw [e0] at r_17 ⊢
  refine e_iload C d_Ou_isNotOut_18 rfl ?_
  refine e_isub C d_Ou_isNotOut_20 ?_
  refine e_iast (n := 8) C (by decide) rfl (by decide) rfl rfl (by decide) (by omega) (by omega) (by omega) d_Ou_isNotOut_21 ?_
  try simp only [wr_so, so_at, so_so]
  refine e_aload_n C d_Ou_isNotOut_22 rfl ?_
  refine e_aload_n C d_Ou_isNotOut_23 rfl ?_
  refine e_iload_n C d_Ou_isNotOut_24 rfl ?_
  refine e_iload C d_Ou_isNotOut_25 rfl ?_
  refine e_callIV C ok_Ou_minutesToOut lk_Ou_82 (o := 10) (by decide) rfl [_, _, _] rfl rfl (Nat.le_of_ble_eq_true rfl) (by decide) (Nat.le_of_ble_eq_true rfl) d_Ou_isNotOut_27 (k_Ou_minutesToOut hPl hK2 (by omega) hm hp) (fun v_27 u_27 q_27 h_27 => ?_)
  obtain ⟨h_27, l1, c1, hl1, rfl⟩ := h_27
  rw [eo] at h_27
  have hR : R32 v_27 := by
    rw [h_27]
    unfold nout
    have := mou_ge (φ := φ) (P := σ 7) (p := p) m.toNat 1 (cu y 0 p (y 0 p - gr))
    split <;> omega
  refine e_bipush C d_Ou_isNotOut_30 (by decide) ?_
  refine e_icmp_ne C 39 d_Ou_isNotOut_32 (by decide) (by omega) (by omega) (fun c_32 => ?_) (fun c_32 => ?_)
  · refine e_iconst C d_Ou_isNotOut_39 ?_
    refine e_zret C F rfl d_Ou_isNotOut_40 (by omega) ?_
    refine ⟨?_, l1, c1, hl1, rfl⟩
    first | rw [if_pos (by omega)] | rw [if_neg (by omega)]
  · refine e_iconst C d_Ou_isNotOut_35 ?_
    refine e_goto C 40 d_Ou_isNotOut_36 (by decide) ?_
    refine e_zret C F rfl d_Ou_isNotOut_40 (by omega) ?_
    refine ⟨?_, l1, c1, hl1, rfl⟩
    first | rw [if_pos (by omega)] | rw [if_neg (by omega)]
/-- how many grains: the first of them that bring him to bed -/
def brb (φ : Phi) (P y : Cs) (p a : Int) (n : Nat) (gr : Int) : Bool := mbd φ P a (y 9 a) n 0 (cu y 0 p (y 0 p - gr)) != -2
def WV (φ : Phi) (P y : Cs) (p a : Int) (n : Nat) (w : Int) : Prop := w = 1 → ∃ i', 0 ≤ i' ∧ i' ≤ y 0 p ∧ nout φ P p n (cu y 0 p (y 0 p - i')) = -2 ∧ brb φ P y p a n i' = false
theorem WV_0 {φ : Phi} {P y : Cs} {p a w : Int} {n : Nat} (h : w ≠ 1) : WV φ P y p a n w := fun z => absurd z h
theorem WV_1 {φ : Phi} {P y : Cs} {p a w i : Int} {n : Nat} (h0 : 0 ≤ i) (h1 : i ≤ y 0 p) (h2 : nout φ P p n (cu y 0 p (y 0 p - i)) = -2) (h3 : brb φ P y p a n i = false) : WV φ P y p a n w := fun _ => ⟨i, h0, h1, h2, h3⟩
theorem WV_2 {φ : Phi} {P y : Cs} {p a w w' : Int} {n : Nat} (h : WV φ P y p a n w) (hw : w = 1) : WV φ P y p a n w' := fun _ => h hw
set_option maxHeartbeats 2000000 in
theorem l_Ou_fewestGrains {g : Mach} {Q : Int → St → Prop} (C : Cx M_Ou_fewestGrains g) (F : FinI M_Ou_fewestGrains g Q) {σ : St} {φ : Phi} {p a m B : Int} {y : Cs} (hS : SIM (σ 7) (σ 18) y) (hK : CK B (σ 18)) (hB : 0 ≤ B ∧ B < 600000000) (hm : 0 ≤ m ∧ m ≤ 10000) (hp : 0 ≤ p ∧ p < σ 7 3 0) (ha : 0 ≤ a ∧ a < σ 7 4 0) :
    ∀ (n : Nat) (i w : Int) (l c : Cs), PlanOk (σ 7) l φ → 0 ≤ i → i + n = y 0 p + 1 → (w = 0 ∨ w = 1) → WV φ (σ 7) y p a m.toNat w → (∀ l' c', LSm l l' → Q (fnd (brb φ (σ 7) y p a m.toNat) n i) (SF σ 19 l' c')) → Ev g 22 [some (.inr (.inr (10, 0))), some (.inr (.inr (7, 0))), some (.inr (.inr (18, 0))), some (.inl a), some (.inl m), some (.inl p), some (.inl w), some (.inl i), none] [] (SF σ 19 l c) := by
  intro n
  have hKp0 := hK.2.1 p hp.1
  have e0 := hS.1.1 0 p (by decide) hp.1 hp.2
  induction n with
  | zero =>
    intro i w l c hPl h0 h1 hw hw2 hQ
    have hN := hPl.1
    have hKp := hKp0 (by omega)
    refine e_iload C d_Ou_fewestGrains_22 rfl ?_
    refine e_aload_n C d_Ou_fewestGrains_24 rfl ?_
    refine e_geta C fl_Ou_26 (by decide) rfl rfl d_Ou_fewestGrains_25 ?_
    refine e_iload C d_Ou_fewestGrains_28 rfl ?_
    refine e_iald (n := 8) C (by decide) rfl (by decide) rfl rfl (by decide) (by omega) (by omega) d_Ou_fewestGrains_30 (fun r_30 => ?_)
    try simp only [so_ne, ne_eq, Nat.reduceEqDiff, not_false_eq_true] at r_30 ⊢
    refine e_icmp_gt C 141 d_Ou_fewestGrains_31 (by decide) (by omega) (by omega) (fun c_31 => ?_) (fun c_31 => ?_)
    · refine e_bipush C d_Ou_fewestGrains_141 (by decide) ?_
      refine e_iret C F rfl d_Ou_fewestGrains_143 (by omega) ?_
      exact hQ l c (LSm.rf l)
    · exact absurd h1 (by omega)
  | succ n ih =>
    intro i w l c hPl h0 h1 hw hw2 hQ
    have hN := hPl.1
    have hG := hPl.2.1
    have hKp := hKp0 (by omega)
    have hQ1 : brb φ (σ 7) y p a m.toNat i = true → ∀ l' c', LSm l l' → Q i (SF σ 19 l' c') := by
      intro z l' c' hl'
      have := hQ l' c' hl'
      unfold fnd at this
      rw [if_pos z] at this
      exact this
    have hQ2 : brb φ (σ 7) y p a m.toNat i = false → ∀ l' c', LSm l l' → Q (fnd (brb φ (σ 7) y p a m.toNat) n (i + 1)) (SF σ 19 l' c') := by
      intro z l' c' hl'
      have := hQ l' c' hl'
      unfold fnd at this
      rw [if_neg (by rw [z]; decide)] at this
      exact this
    clear hQ
    have hcs : ∀ c0, SIM (σ 7) (c_copy c0 (σ 18)) y := fun c0 => copy_sim hN.2 hG.2 hS
    have hKc : ∀ c0, CK B (c_copy c0 (σ 18)) := fun c0 => CK_copy hK
    have ec : ∀ c0, c_copy c0 (σ 18) 0 p = y 0 p := fun c0 => ((hcs c0).1.1 0 p (by decide) hp.1 hp.2).symm
    have ec1 : ∀ c0, c_copy c0 (σ 18) 1 p = σ 18 1 p := fun c0 => cp_1 ⟨hp.1, by omega⟩
    have hK2 : ∀ c0, CK B (cu (c_copy c0 (σ 18)) 0 p (y 0 p - i)) := fun c0 => CK_0 (hKc c0) (fun _ _ => by rw [ec1]; omega)
    have hs2 : ∀ c0, SIM (σ 7) (cu (c_copy c0 (σ 18)) 0 p (y 0 p - i)) (cu y 0 p (y 0 p - i)) := fun c0 => cuf_sim (by decide) (by decide) (hcs c0)
    have e9 : ∀ c0, cu (c_copy c0 (σ 18)) 0 p (y 0 p - i) 9 a = y 9 a := fun c0 => by rw [cu_f (by decide)]; exact ((hcs c0).1.2.1 9 a (by decide) (by decide) ha.1 ha.2).symm
    -- the last part, for any law of scratch numbers, with what is known of waiting
    have fin : ∀ (wt : Int) (l1 c1 : Cs), LSm l l1 → (wt = 0 ∨ wt = 1) → (wt = 1 → nout φ (σ 7) p m.toNat (cu y 0 p (y 0 p - i)) = -2) → Ev g 79 [some (.inr (.inr (10, 0))), some (.inr (.inr (7, 0))), some (.inr (.inr (18, 0))), some (.inl a), some (.inl m), some (.inl p), some (.inl w), some (.inl i), some (.inl wt)] [] (SF σ 19 l1 c1) := by
      intro wt l1 c1 hl1 hwt hwn
      refine e_aload_n C d_Ou_fewestGrains_79 rfl ?_
      refine e_geto (o2 := 19) C fl_Ou_12 (by decide) rfl rfl rfl d_Ou_fewestGrains_80 ?_
      refine e_aload_n C d_Ou_fewestGrains_83 rfl ?_
      refine e_callVV C ok_Ca_copyFrom lk_Ou_18 (o := 19) (by decide) rfl [_] rfl rfl (Nat.le_of_ble_eq_true rfl) (by decide) (Nat.le_of_ble_eq_true rfl) d_Ou_fewestGrains_84 (s_Ca_copy (by decide) (by decide)) (fun u_84 h_84 => ?_)
      subst h_84
      refine e_aload_n C d_Ou_fewestGrains_87 rfl ?_
      refine e_geto (o2 := 19) C fl_Ou_12 (by decide) rfl rfl rfl d_Ou_fewestGrains_88 ?_
      refine e_geta C fl_Ou_26 (by decide) rfl rfl d_Ou_fewestGrains_91 ?_
      refine e_iload C d_Ou_fewestGrains_94 rfl ?_
      refine e_dup2 C d_Ou_fewestGrains_96 rfl rfl ?_
      refine e_iald (n := 8) C (by decide) rfl (by decide) rfl rfl (by decide) (by omega) (by omega) d_Ou_fewestGrains_97 (fun r_97 => ?_)
      try simp only [wr_so, so_at, so_so] at r_97 ⊢
      rw [ec] at r_97 ⊢
      refine e_iload C d_Ou_fewestGrains_98 rfl ?_
      refine e_isub C d_Ou_fewestGrains_100 ?_
      refine e_iast (n := 8) C (by decide) rfl (by decide) rfl rfl (by decide) (by omega) (by omega) (by omega) d_Ou_fewestGrains_101 ?_
      try simp only [wr_so, so_at, so_so]
      refine e_aload_n C d_Ou_fewestGrains_102 rfl ?_
      refine e_aload_n C d_Ou_fewestGrains_103 rfl ?_
      refine e_iload_n C d_Ou_fewestGrains_104 rfl ?_
      refine e_iload C d_Ou_fewestGrains_105 rfl ?_
      refine e_callIV C ok_Ou_minutesToBed lk_Ou_78 (o := 10) (by decide) rfl [_, _, _] rfl rfl (Nat.le_of_ble_eq_true rfl) (by decide) (Nat.le_of_ble_eq_true rfl) d_Ou_fewestGrains_107 (k_Ou_minutesToBed (hPl.same hl1) (hK2 c1) (by omega) hm (by omega)) (fun v_107 u_107 q_107 h_107 => ?_)
      obtain ⟨h_107, l2, c2, hl2, rfl⟩ := h_107
      have eb := bed_eq (m := m) (a := a) (b := y 9 a) (hPl.same hl1) ha (m + 1).toNat 0 B _ _ (hs2 c1) (hK2 c1) hB.1 (by omega) (by omega) (by omega) (e9 c1)
      rw [e9, eb, show (m - 0).toNat = m.toNat by omega] at h_107
      have hl12 := hl1.tr hl2
      have hR : R32 v_107 := by
        rw [h_107]
        have : ∀ (k : Nat) (j : Int) (z : Cs), mbd φ (σ 7) a (y 9 a) k j z = -2 ∨ (j ≤ mbd φ (σ 7) a (y 9 a) k j z ∧ mbd φ (σ 7) a (y 9 a) k j z ≤ j + k) := by
          intro k
          induction k with
          | zero => intro j z; exact Or.inl rfl
          | succ k ihk =>
            intro j z
            rw [mbd_S]
            split
            · rcases ihk (j + 1) (mmin φ (σ 7) z) with q | q
              · exact Or.inl q
              · right; omega
            · right; omega
        have := this m.toNat 0 (cu y 0 p (y 0 p - i))
        omega
      refine e_bipush C d_Ou_fewestGrains_110 (by decide) ?_
      refine e_icmp_eq C 118 d_Ou_fewestGrains_112 (by decide) (by omega) (by omega) (fun c_112 => ?_) (fun c_112 => ?_)
      · have hbr : brb φ (σ 7) y p a m.toNat i = false := by unfold brb; rw [← h_107]; simpa using c_112
        refine e_iload C d_Ou_fewestGrains_118 rfl ?_
        refine e_if_ne C 128 d_Ou_fewestGrains_120 (by decide) (by omega) (fun c_120 => ?_) (fun c_120 => ?_)
        · refine e_iconst C d_Ou_fewestGrains_128 ?_
          refine e_goto C 133 d_Ou_fewestGrains_129 (by decide) ?_
          refine e_istore C d_Ou_fewestGrains_133 (by decide) rfl ?_
          refine e_iinc C d_Ou_fewestGrains_135 rfl (by decide) rfl ?_
          refine e_goto C 22 d_Ou_fewestGrains_138 (by decide) ?_
          refine e_drop 8 ?_
          refine ih (i + 1) _ l2 c2 (hPl.same hl12) (by omega) (by omega) (by omega) ?_ (fun l' c' hl' => hQ2 hbr l' c' (hl12.tr hl'))
          first
            | exact WV_0 (by omega)
            | exact WV_2 hw2 (by omega)
            | exact WV_1 (by omega) (by omega) (hwn (by omega)) hbr
        · refine e_iload C d_Ou_fewestGrains_123 rfl ?_
          refine e_if_eq C 132 d_Ou_fewestGrains_125 (by decide) (by omega) (fun c_125 => ?_) (fun c_125 => ?_)
          · refine e_iconst C d_Ou_fewestGrains_132 ?_
            refine e_istore C d_Ou_fewestGrains_133 (by decide) rfl ?_
            refine e_iinc C d_Ou_fewestGrains_135 rfl (by decide) rfl ?_
            refine e_goto C 22 d_Ou_fewestGrains_138 (by decide) ?_
            refine e_drop 8 ?_
            refine ih (i + 1) _ l2 c2 (hPl.same hl12) (by omega) (by omega) (by omega) ?_ (fun l' c' hl' => hQ2 hbr l' c' (hl12.tr hl'))
            first
              | exact WV_0 (by omega)
              | exact WV_2 hw2 (by omega)
              | exact WV_1 (by omega) (by omega) (hwn (by omega)) hbr
          · refine e_iconst C d_Ou_fewestGrains_128 ?_
            refine e_goto C 133 d_Ou_fewestGrains_129 (by decide) ?_
            refine e_istore C d_Ou_fewestGrains_133 (by decide) rfl ?_
            refine e_iinc C d_Ou_fewestGrains_135 rfl (by decide) rfl ?_
            refine e_goto C 22 d_Ou_fewestGrains_138 (by decide) ?_
            refine e_drop 8 ?_
            refine ih (i + 1) _ l2 c2 (hPl.same hl12) (by omega) (by omega) (by omega) ?_ (fun l' c' hl' => hQ2 hbr l' c' (hl12.tr hl'))
            first
              | exact WV_0 (by omega)
              | exact WV_2 hw2 (by omega)
              | exact WV_1 (by omega) (by omega) (hwn (by omega)) hbr
      · have hbr : brb φ (σ 7) y p a m.toNat i = true := by unfold brb; rw [← h_107]; simpa using c_112
        refine e_iload C d_Ou_fewestGrains_115 rfl ?_
        refine e_iret C F rfl d_Ou_fewestGrains_117 (by omega) ?_
        exact hQ1 hbr l2 c2 hl12
    refine e_iload C d_Ou_fewestGrains_22 rfl ?_
    refine e_aload_n C d_Ou_fewestGrains_24 rfl ?_
    refine e_geta C fl_Ou_26 (by decide) rfl rfl d_Ou_fewestGrains_25 ?_
    refine e_iload C d_Ou_fewestGrains_28 rfl ?_
    refine e_iald (n := 8) C (by decide) rfl (by decide) rfl rfl (by decide) (by omega) (by omega) d_Ou_fewestGrains_30 (fun r_30 => ?_)
    try simp only [so_ne, so_at, ne_eq, Nat.reduceEqDiff, not_false_eq_true] at r_30 ⊢
    refine e_icmp_gt C 141 d_Ou_fewestGrains_31 (by decide) (by omega) (by omega) (fun c_31 => ?_) (fun c_31 => ?_)
    · exact absurd h1 (by omega)
    · refine e_aload_n C d_Ou_fewestGrains_34 rfl ?_
      refine e_geto (o2 := 8) C fl_Ou_64 (by decide) rfl rfl rfl d_Ou_fewestGrains_35 ?_
      refine e_getz C fl_Ou_68 (by decide) rfl rfl d_Ou_fewestGrains_38 (fun r_38 => ?_)
      try simp only [so_ne, so_at, ne_eq, Nat.reduceEqDiff, not_false_eq_true] at r_38 ⊢
      refine e_if_ne C 63 d_Ou_fewestGrains_41 (by decide) (by omega) (fun c_41 => ?_) (fun c_41 => ?_)
      · refine e_iconst C d_Ou_fewestGrains_63 ?_
        refine e_istore C d_Ou_fewestGrains_64 (by decide) rfl ?_
        refine e_iload C d_Ou_fewestGrains_66 rfl ?_
        refine e_if_eq C 79 d_Ou_fewestGrains_68 (by decide) (by omega) (fun c_68 => ?_) (fun c_68 => ?_)
        · exact fin 0 l c (LSm.rf l) (by omega) (by omega)
        · exact absurd rfl c_68
        skip
      · refine e_aload_n C d_Ou_fewestGrains_44 rfl ?_
        refine e_aload_n C d_Ou_fewestGrains_45 rfl ?_
        refine e_aload_n C d_Ou_fewestGrains_46 rfl ?_
        refine e_iload C d_Ou_fewestGrains_47 rfl ?_
        refine e_iload C d_Ou_fewestGrains_49 rfl ?_
        refine e_iload C d_Ou_fewestGrains_51 rfl ?_
        refine e_callIV C ok_Ou_isNotOut lk_Ou_74 (o := 10) (by decide) rfl [_, _, _, _, _] rfl rfl (Nat.le_of_ble_eq_true rfl) (by decide) (Nat.le_of_ble_eq_true rfl) d_Ou_fewestGrains_53 (k_Ou_isNotOut hPl hS hK (by omega) hm hp (by omega)) (fun v_53 u_53 q_53 h_53 => ?_)
        obtain ⟨h_53, l1, c1, hl1, rfl⟩ := h_53
        refine e_if_eq C 63 d_Ou_fewestGrains_56 (by decide) (by omega) (fun c_56 => ?_) (fun c_56 => ?_)
        · refine e_iconst C d_Ou_fewestGrains_63 ?_
          refine e_istore C d_Ou_fewestGrains_64 (by decide) rfl ?_
          refine e_iload C d_Ou_fewestGrains_66 rfl ?_
          refine e_if_eq C 79 d_Ou_fewestGrains_68 (by decide) (by omega) (fun c_68 => ?_) (fun c_68 => ?_)
          · exact fin 0 l1 c1 hl1 (by omega) (by omega)
          · exact absurd rfl c_68
          skip
        · have hno : nout φ (σ 7) p m.toNat (cu y 0 p (y 0 p - i)) = -2 := by
              by_cases z : nout φ (σ 7) p m.toNat (cu y 0 p (y 0 p - i)) = -2
              · exact z
              · rw [if_neg z] at h_53; exact absurd h_53 c_56
          refine e_iconst C d_Ou_fewestGrains_59 ?_
          refine e_goto C 64 d_Ou_fewestGrains_60 (by decide) ?_
          refine e_istore C d_Ou_fewestGrains_64 (by decide) rfl ?_
          refine e_iload C d_Ou_fewestGrains_66 rfl ?_
          refine e_if_eq C 79 d_Ou_fewestGrains_68 (by decide) (by omega) (fun c_68 => ?_) (fun c_68 => ?_)
          · exact absurd c_68 (by decide)
          · refine e_iload C d_Ou_fewestGrains_71 rfl ?_
            refine e_if_eq C 79 d_Ou_fewestGrains_73 (by decide) (by omega) (fun c_73 => ?_) (fun c_73 => ?_)
            · exact fin 1 l1 c1 hl1 (by omega) (fun _ => hno)
            · obtain ⟨i', j0, j1, j2, j3⟩ := hw2 (show w = 1 by omega)
              have hbr : brb φ (σ 7) y p a m.toNat i = false := by
                have := mbd_alike (φ := φ) (P := σ 7) (y := y) (a := a) (b := y 9 a) hp (show 0 ≤ y 0 p - i' by omega) (show 0 ≤ y 0 p - i by omega) j2 hno
                unfold brb at j3 ⊢
                rw [this]
                exact j3
              refine e_goto C 135 d_Ou_fewestGrains_76 (by decide) ?_
              refine e_iinc C d_Ou_fewestGrains_135 rfl (by decide) rfl ?_
              refine e_goto C 22 d_Ou_fewestGrains_138 (by decide) ?_
              refine e_drop 8 ?_
              exact ih (i + 1) w l1 c1 (hPl.same hl1) (by omega) (by omega) hw hw2 (fun l' c' hl' => hQ2 hbr l' c' (hl1.tr hl'))
theorem k_Ou_fewestGrains {σ : St} {φ : Phi} {a m B : Int} {l c y : Cs} (hPl : PlanOk (σ 7) l φ) (hS : SIM (σ 7) (σ 18) y) (hK : CK B (σ 18)) (hB : 0 ≤ B ∧ B < 600000000) (hm : 0 ≤ m ∧ m ≤ 10000) (ha : 0 ≤ a ∧ a < σ 7 4 0) (h6 : 0 ≤ σ 18 6 a) : CtI M_Ou_fewestGrains [.inr (.inr (10, 0)), .inr (.inr (7, 0)), .inr (.inr (18, 0)), .inl a, .inl m] (SF σ 19 l c) (fun r u => r = fnd (brb φ (σ 7) y (σ 18 6 a) a m.toNat) (y 0 (σ 18 6 a) + 1).toNat 0 ∧ ∃ l' c', LSm l l' ∧ u = SF σ 19 l' c') := by
  intro g C F
  have hN := hPl.1
  have hG := hPl.2.1
  have hw := hS.2.2.2.2.2 a ha.1 ha.2
  have hp : 0 ≤ σ 18 6 a ∧ σ 18 6 a < σ 7 3 0 := by rcases hw with z | z <;> omega
  have h0 := (hK.2.1 (σ 18 6 a) hp.1 (by omega)).1
  have e0 := hS.1.1 0 (σ 18 6 a) (by decide) hp.1 hp.2
  refine e_aload_n C d_Ou_fewestGrains_0 rfl ?_
  refine e_geta C fl_Ou_61 (by decide) rfl rfl d_Ou_fewestGrains_1 ?_
  refine e_iload_n C d_Ou_fewestGrains_4 rfl ?_
  refine e_iald (n := 12) C (by decide) rfl (by decide) rfl rfl (by decide) (by omega) (by omega) d_Ou_fewestGrains_5 (fun r_5 => ?_)
  try simp only [so_ne, so_at, ne_eq, Nat.reduceEqDiff, not_false_eq_true] at r_5 ⊢
  refine e_istore C d_Ou_fewestGrains_6 (by decide) rfl ?_
  refine e_iload C d_Ou_fewestGrains_8 rfl ?_
  refine e_if_ge C 16 d_Ou_fewestGrains_10 (by decide) (by omega) (fun c_10 => ?_) (fun c_10 => ?_)
  · refine e_iconst C d_Ou_fewestGrains_16 ?_
    refine e_istore C d_Ou_fewestGrains_17 (by decide) rfl ?_
    refine e_iconst C d_Ou_fewestGrains_19 ?_
    refine e_istore C d_Ou_fewestGrains_20 (by decide) rfl ?_
    exact l_Ou_fewestGrains C F hS hK hB hm hp ha _ 0 0 l c hPl (by omega) (by omega) (by omega) (WV_0 (by omega)) (fun l' c' hl' => ⟨rfl, l', c', hl', rfl⟩)
  · exact absurd h6 (by omega)
theorem z_ior_0 {x : Int} (h : R32 x) : z_ior x 0 = x := by
  unfold z_ior
  rw [show Int32.ofInt 0 = 0 from rfl, Int32.or_zero]
  exact r_int h
/-- who hasn't slept -/
def nvs (y y' : Cs) (k b : Int) : Int := if y' 7 k = y 7 k then z_ior b (z_ishl 1 k) else b
theorem l_Ou_sleepless {g : Mach} {Q : Int → St → Prop} (C : Cx M_Ou_sleepless g) (F : FinI M_Ou_sleepless g Q) {σ : St} (hG : 0 ≤ σ 7 4 0 ∧ σ 7 4 0 ≤ 12) :
    ∀ (n : Nat) (i b : Int), 0 ≤ i → i + n = σ 7 4 0 → R32 b → Q (itr (nvs (σ 18) (σ 19)) n i b) σ → Ev g 5 [some (.inr (.inr (10, 0))), some (.inr (.inr (7, 0))), some (.inr (.inr (18, 0))), some (.inl b), some (.inl i)] [] σ := by
  intro n
  induction n with
  | zero =>
    intro i b h0 h1 hb hQ
    refine e_iload C d_Ou_sleepless_5 rfl ?_
    refine e_aload_n C d_Ou_sleepless_7 rfl ?_
    refine e_geti C fl_Ou_85 (by decide) rfl rfl d_Ou_sleepless_8 (fun r_8 => ?_)
    refine e_icmp_ge C 51 d_Ou_sleepless_11 (by decide) (by omega) (by omega) (fun c_11 => ?_) (fun c_11 => ?_)
    · refine e_iload_n C d_Ou_sleepless_51 rfl ?_
      refine e_iret C F rfl d_Ou_sleepless_52 hb ?_
      exact hQ
    · exact absurd h1 (by omega)
  | succ n ih =>
    intro i b h0 h1 hb hQ
    rw [itr_S] at hQ
    unfold nvs at hQ
    refine e_iload C d_Ou_sleepless_5 rfl ?_
    refine e_aload_n C d_Ou_sleepless_7 rfl ?_
    refine e_geti C fl_Ou_85 (by decide) rfl rfl d_Ou_sleepless_8 (fun r_8 => ?_)
    refine e_icmp_ge C 51 d_Ou_sleepless_11 (by decide) (by omega) (by omega) (fun c_11 => ?_) (fun c_11 => ?_)
    · exact absurd h1 (by omega)
    · refine e_iload_n C d_Ou_sleepless_14 rfl ?_
      refine e_aload_n C d_Ou_sleepless_15 rfl ?_
      refine e_geto (o2 := 19) C fl_Ou_12 (by decide) rfl rfl rfl d_Ou_sleepless_16 ?_
      refine e_geta C fl_Ou_88 (by decide) rfl rfl d_Ou_sleepless_19 ?_
      refine e_iload C d_Ou_sleepless_22 rfl ?_
      refine e_iald (n := 12) C (by decide) rfl (by decide) rfl rfl (by decide) (by omega) (by omega) d_Ou_sleepless_24 (fun r_24 => ?_)
      refine e_aload_n C d_Ou_sleepless_25 rfl ?_
      refine e_geta C fl_Ou_88 (by decide) rfl rfl d_Ou_sleepless_26 ?_
      refine e_iload C d_Ou_sleepless_29 rfl ?_
      refine e_iald (n := 12) C (by decide) rfl (by decide) rfl rfl (by decide) (by omega) (by omega) d_Ou_sleepless_31 (fun r_31 => ?_)
      refine e_icmp_ne C 42 d_Ou_sleepless_32 (by decide) (by omega) (by omega) (fun c_32 => ?_) (fun c_32 => ?_)
      · rw [if_neg (by omega)] at hQ
        refine e_iconst C d_Ou_sleepless_42 ?_
        refine e_ior C d_Ou_sleepless_43 ?_
        refine e_istore_n C d_Ou_sleepless_44 (by decide) rfl ?_
        refine e_iinc C d_Ou_sleepless_45 rfl (by decide) rfl ?_
        refine e_goto C 5 d_Ou_sleepless_48 (by decide) ?_
        first
          | exact ih (i + 1) _ (by omega) (by omega) (z_ior_r _ _) hQ
          | (rw [z_ior_0 hb]; exact ih (i + 1) _ (by omega) (by omega) hb hQ)
      · rw [if_pos (by omega)] at hQ
        refine e_iconst C d_Ou_sleepless_35 ?_
        refine e_iload C d_Ou_sleepless_36 rfl ?_
        refine e_ishl C d_Ou_sleepless_38 ?_
        refine e_goto C 43 d_Ou_sleepless_39 (by decide) ?_
        refine e_ior C d_Ou_sleepless_43 ?_
        refine e_istore_n C d_Ou_sleepless_44 (by decide) rfl ?_
        refine e_iinc C d_Ou_sleepless_45 rfl (by decide) rfl ?_
        refine e_goto C 5 d_Ou_sleepless_48 (by decide) ?_
        first
          | exact ih (i + 1) _ (by omega) (by omega) (z_ior_r _ _) hQ
          | (rw [z_ior_0 hb]; exact ih (i + 1) _ (by omega) (by omega) hb hQ)
theorem k_Ou_sleepless {σ : St} (hG : 0 ≤ σ 7 4 0 ∧ σ 7 4 0 ≤ 12) : CtI M_Ou_sleepless [.inr (.inr (10, 0)), .inr (.inr (7, 0)), .inr (.inr (18, 0))] σ (fun r u => r = itr (nvs (σ 18) (σ 19)) (σ 7 4 0).toNat 0 0 ∧ u = σ) := by
  intro g C F
  refine e_iconst C d_Ou_sleepless_0 ?_
  refine e_istore_n C d_Ou_sleepless_1 (by decide) rfl ?_
  refine e_iconst C d_Ou_sleepless_2 ?_
  refine e_istore C d_Ou_sleepless_3 (by decide) rfl ?_
  exact l_Ou_sleepless C F hG _ 0 0 (by omega) (by omega) (by omega) ⟨rfl, rfl⟩
def sps (y : Cs) (k : Int) (b : Int × Int) : Int × Int := (min b.1 (y 7 k), max b.2 (y 7 k))
def spr (P y : Cs) : Int := if P 4 0 = 0 then -2 else (itr (sps y) (P 4 0 - 1).toNat 1 (y 7 0, y 7 0)).2 - (itr (sps y) (P 4 0 - 1).toNat 1 (y 7 0, y 7 0)).1
theorem l_Ou_spreadOfSleep {g : Mach} {Q : Int → St → Prop} (C : Cx M_Ou_spreadOfSleep g) (F : FinI M_Ou_spreadOfSleep g Q) {σ : St} (hG : 0 ≤ σ 7 4 0 ∧ σ 7 4 0 ≤ 12) (h7 : ∀ k, 0 ≤ k → k < σ 7 4 0 → 0 ≤ σ 19 7 k) :
    ∀ (n : Nat) (i : Int) (b : Int × Int), 0 ≤ i → i + n = σ 7 4 0 → (0 ≤ b.1 ∧ b.1 < 2147483648) → (0 ≤ b.2 ∧ b.2 < 2147483648) → Q ((itr (sps (σ 19)) n i b).2 - (itr (sps (σ 19)) n i b).1) σ → Ev g 33 [some (.inr (.inr (10, 0))), some (.inr (.inr (7, 0))), some (.inl b.1), some (.inl b.2), some (.inl i)] [] σ := by
  intro n
  induction n with
  | zero =>
    intro i b h0 h1 hb hb2 hQ
    refine e_iload C d_Ou_spreadOfSleep_33 rfl ?_
    refine e_aload_n C d_Ou_spreadOfSleep_35 rfl ?_
    refine e_geti C fl_Ou_85 (by decide) rfl rfl d_Ou_spreadOfSleep_36 (fun r_36 => ?_)
    refine e_icmp_ge C 78 d_Ou_spreadOfSleep_39 (by decide) (by omega) (by omega) (fun c_39 => ?_) (fun c_39 => ?_)
    · refine e_iload_n C d_Ou_spreadOfSleep_78 rfl ?_
      refine e_iload_n C d_Ou_spreadOfSleep_79 rfl ?_
      refine e_isub C d_Ou_spreadOfSleep_80 ?_
      refine e_iret C F rfl d_Ou_spreadOfSleep_81 (by omega) ?_
      exact hQ
    · exact absurd h1 (by omega)
  | succ n ih =>
    intro i b h0 h1 hb hb2 hQ
    have h7i := h7 i h0 (by omega)
    rw [itr_S] at hQ
    refine e_iload C d_Ou_spreadOfSleep_33 rfl ?_
    refine e_aload_n C d_Ou_spreadOfSleep_35 rfl ?_
    refine e_geti C fl_Ou_85 (by decide) rfl rfl d_Ou_spreadOfSleep_36 (fun r_36 => ?_)
    refine e_icmp_ge C 78 d_Ou_spreadOfSleep_39 (by decide) (by omega) (by omega) (fun c_39 => ?_) (fun c_39 => ?_)
    · exact absurd h1 (by omega)
    · refine e_iload_n C d_Ou_spreadOfSleep_42 rfl ?_
      refine e_aload_n C d_Ou_spreadOfSleep_43 rfl ?_
      refine e_geto (o2 := 19) C fl_Ou_12 (by decide) rfl rfl rfl d_Ou_spreadOfSleep_44 ?_
      refine e_geta C fl_Ou_88 (by decide) rfl rfl d_Ou_spreadOfSleep_47 ?_
      refine e_iload C d_Ou_spreadOfSleep_50 rfl ?_
      refine e_iald (n := 12) C (by decide) rfl (by decide) rfl rfl (by decide) (by omega) (by omega) d_Ou_spreadOfSleep_52 (fun r_52 => ?_)
      refine e_mmin C lk_Ou_91 d_Ou_spreadOfSleep_53 (by decide) (Nat.le_of_ble_eq_true rfl) (by omega) (by omega) ?_
      refine e_istore_n C d_Ou_spreadOfSleep_56 (by decide) rfl ?_
      refine e_iload_n C d_Ou_spreadOfSleep_57 rfl ?_
      refine e_aload_n C d_Ou_spreadOfSleep_58 rfl ?_
      refine e_geto (o2 := 19) C fl_Ou_12 (by decide) rfl rfl rfl d_Ou_spreadOfSleep_59 ?_
      refine e_geta C fl_Ou_88 (by decide) rfl rfl d_Ou_spreadOfSleep_62 ?_
      refine e_iload C d_Ou_spreadOfSleep_65 rfl ?_
      refine e_iald (n := 12) C (by decide) rfl (by decide) rfl rfl (by decide) (by omega) (by omega) d_Ou_spreadOfSleep_67 (fun r_67 => ?_)
      refine e_mmax C lk_Ou_55 d_Ou_spreadOfSleep_68 (by decide) (Nat.le_of_ble_eq_true rfl) (by omega) (by omega) ?_
      refine e_istore_n C d_Ou_spreadOfSleep_71 (by decide) rfl ?_
      refine e_iinc C d_Ou_spreadOfSleep_72 rfl (by decide) rfl ?_
      refine e_goto C 33 d_Ou_spreadOfSleep_75 (by decide) ?_
      exact ih (i + 1) (sps (σ 19) i b) (by omega) (by omega) (by unfold sps; dsimp only; omega) (by unfold sps; dsimp only; omega) hQ
theorem k_Ou_spreadOfSleep {σ : St} (hG : 0 ≤ σ 7 4 0 ∧ σ 7 4 0 ≤ 12) (h7 : ∀ k, 0 ≤ k → k < σ 7 4 0 → 0 ≤ σ 19 7 k) : CtI M_Ou_spreadOfSleep [.inr (.inr (10, 0)), .inr (.inr (7, 0))] σ (fun r u => r = spr (σ 7) (σ 19) ∧ u = σ) := by
  intro g C F
  refine e_aload_n C d_Ou_spreadOfSleep_0 rfl ?_
  refine e_geti C fl_Ou_85 (by decide) rfl rfl d_Ou_spreadOfSleep_1 (fun r_1 => ?_)
  refine e_if_ne C 10 d_Ou_spreadOfSleep_4 (by decide) (by omega) (fun c_4 => ?_) (fun c_4 => ?_)
  · refine e_aload_n C d_Ou_spreadOfSleep_10 rfl ?_
    refine e_geto (o2 := 19) C fl_Ou_12 (by decide) rfl rfl rfl d_Ou_spreadOfSleep_11 ?_
    refine e_geta C fl_Ou_88 (by decide) rfl rfl d_Ou_spreadOfSleep_14 ?_
    refine e_iconst C d_Ou_spreadOfSleep_17 ?_
    refine e_iald (n := 12) C (by decide) rfl (by decide) rfl rfl (by decide) (by omega) (by omega) d_Ou_spreadOfSleep_18 (fun r_18 => ?_)
    refine e_istore_n C d_Ou_spreadOfSleep_19 (by decide) rfl ?_
    refine e_aload_n C d_Ou_spreadOfSleep_20 rfl ?_
    refine e_geto (o2 := 19) C fl_Ou_12 (by decide) rfl rfl rfl d_Ou_spreadOfSleep_21 ?_
    refine e_geta C fl_Ou_88 (by decide) rfl rfl d_Ou_spreadOfSleep_24 ?_
    refine e_iconst C d_Ou_spreadOfSleep_27 ?_
    refine e_iald (n := 12) C (by decide) rfl (by decide) rfl rfl (by decide) (by omega) (by omega) d_Ou_spreadOfSleep_28 (fun r_28 => ?_)
    refine e_istore_n C d_Ou_spreadOfSleep_29 (by decide) rfl ?_
    refine e_iconst C d_Ou_spreadOfSleep_30 ?_
    refine e_istore C d_Ou_spreadOfSleep_31 (by decide) rfl ?_
    have h70 := h7 0 (by omega) (by omega)
    refine l_Ou_spreadOfSleep C F hG h7 (σ 7 4 0 - 1).toNat 1 (σ 19 7 0, σ 19 7 0) (by omega) (by omega) (by dsimp only; omega) (by dsimp only; omega) ⟨?_, rfl⟩
    unfold spr
    rw [if_neg c_4]
  · refine e_bipush C d_Ou_spreadOfSleep_7 (by decide) ?_
    refine e_iret C F rfl d_Ou_spreadOfSleep_9 (by omega) ?_
    exact ⟨by unfold spr; rw [if_pos c_4], rfl⟩
/-- the store with Outlook's own fields -/
abbrev OF (σ : St) (d l c : Cs) : St := SF (so σ 10 d) 19 l c
theorem OF_w (σ : St) (d d' l c : Cs) : so (OF σ d l c) 10 d' = OF σ d' l c := by
  funext o
  unfold OF SF so
  by_cases h : o = 10
  · subst h; simp
  · simp [h]
theorem OF_10 (σ : St) (d l c : Cs) : OF σ d l c 10 = d := by unfold OF SF; rw [so_ne (by decide), so_ne (by decide), so_at]
theorem OF_o {σ : St} {d l c : Cs} {o : Nat} (h11 : o ≠ 10) (h8 : o ≠ 8) (h20 : o ≠ 19) : OF σ d l c o = σ o := by unfold OF SF; rw [so_ne h20, so_ne h8, so_ne h11]
theorem O_7 (σ : St) (d : Cs) : so σ 10 d 7 = σ 7 := so_ne (by decide)
theorem O_18 (σ : St) (d : Cs) : so σ 10 d 18 = σ 18 := so_ne (by decide)
theorem s_Ca_guardsWhoSlept {σ : St} {o : Nat} {l c : Cs} (hc : o ∈ castles) (hG : 0 ≤ σ 7 4 0 ∧ σ 7 4 0 ≤ 12) : CtI M_Ca_guardsWhoSlept [.inr (.inr (o, 0)), .inr (.inr (7, 0))] (SF σ o l c) (fun r u => r = c_slepts (σ 7) c ∧ u = SF σ o l c) := by
  have h7o := cas_ne (n := 7) hc (by decide)
  have e : SF σ o l c 7 = σ 7 := by unfold SF; rw [so_ne h7o, so_ne (by decide)]
  have eo : SF σ o l c o = c := so_at _ _ _
  have := k_Ca_guardsWhoSlept (σ := SF σ o l c) (o := o) hc (by rw [e]; exact hG)
  rw [e, eo] at this
  exact this
def wst (φ : Phi) (P y : Cs) (n : Nat) (p : Int) (b : Int × Int) : Int × Int := if b.1 ≠ -2 ∧ b.2 ≤ c_slepts P (mits φ P n (c_exchange y p)) then b else (p, c_slepts P (mits φ P n (c_exchange y p)))
theorem slepts_in {P c : Cs} (hG : 0 ≤ P 4 0) : 0 ≤ c_slepts P c ∧ c_slepts P c ≤ P 4 0 := by
  have h1 := slp_le (P := P) (c := c) (P 4 0).toNat 0 0
  have h2 : ∀ (n : Nat) (i w : Int), w ≤ itr (gstep P c) n i w := by
    intro n
    induction n with
    | zero => intro i w; exact Int.le_refl w
    | succ n ih =>
      intro i w
      rw [itr_S]
      have := ih (i + 1) (gstep P c i w)
      have h3 : w ≤ gstep P c i w := by unfold gstep; split <;> omega
      omega
  have h3 := h2 (P 4 0).toNat 0 0
  unfold c_slepts
  omega
theorem l_Ou_findWorst {g : Mach} {Q : St → Prop} (C : Cx M_Ou_findWorst g) (F : FinV M_Ou_findWorst g Q) {σ : St} {φ : Phi} {m B : Int} {d y : Cs} (hS : SIM (σ 7) (σ 18) y) (hK : CK B (σ 18)) (hB : 0 ≤ B ∧ B < 600000000) (hm : 0 ≤ m ∧ m ≤ 10000) :
    ∀ (n : Nat) (i : Int) (l c : Cs) (b : Int × Int), PlanOk (σ 7) l φ → 0 ≤ i → i + n = σ 7 3 0 → R32 b.1 → R32 b.2 → (∀ l' c', LSm l l' → Q (OF σ (cu (cu d 1 0 (itr (wst φ (σ 7) y m.toNat) n i b).1) 2 0 (itr (wst φ (σ 7) y m.toNat) n i b).2) l' c')) → Ev g 15 [some (.inr (.inr (10, 0))), some (.inr (.inr (7, 0))), some (.inr (.inr (18, 0))), some (.inl m), some (.inl i), none] [] (OF σ (cu (cu d 1 0 b.1) 2 0 b.2) l c) := by
  intro n
  induction n with
  | zero =>
    intro i l c b hPl h0 h1 hb hb2 hQ
    have hN := hPl.1
    have e7 : OF σ (cu (cu d 1 0 b.1) 2 0 b.2) l c 7 = σ 7 := OF_o (by decide) (by decide) (by decide)
    refine e_iload C d_Ou_findWorst_15 rfl ?_
    refine e_aload_n C d_Ou_findWorst_17 rfl ?_
    refine e_geti C fl_Ou_100 (by decide) rfl rfl d_Ou_findWorst_18 (fun r_18 => ?_)
    try simp only [wr_so, OF_10, OF_w, e7] at r_18 ⊢
    refine e_icmp_ge C 96 d_Ou_findWorst_21 (by decide) (by omega) (by omega) (fun c_21 => ?_) (fun c_21 => ?_)
    · refine e_vret C F rfl d_Ou_findWorst_96 ?_
      exact hQ l c (LSm.rf l)
    · exact absurd h1 (by omega)
  | succ n ih =>
    intro i l c b hPl h0 h1 hb hb2 hQ
    have hN := hPl.1
    have hG := hPl.2.1
    have e7 : OF σ (cu (cu d 1 0 b.1) 2 0 b.2) l c 7 = σ 7 := OF_o (by decide) (by decide) (by decide)
    have hcs := copy_sim (c := c) hN.2 hG.2 hS
    have hes := exch_sim (p := i) hcs (by omega)
    have hKe := CK_exch (p := i) (CK_copy (c := c) hK) (by omega)
    have hms := many_sim hPl m.toNat m B _ _ hKe hB.1 hm.1 (by omega) hes
    have esl : c_slepts (σ 7) (mits φ (σ 7) m.toNat (c_exchange y i)) = c_slepts (σ 7) (c_many φ (σ 7) (l 0 0) m.toNat m (c_exchange (c_copy c (σ 18)) i)) := slepts_cong hG.1 (fun k a b => hms.1.2.1 7 k (by decide) (by decide) a b)
    have hin := slepts_in (P := σ 7) (c := mits φ (σ 7) m.toNat (c_exchange y i)) hG.1
    rw [itr_S] at hQ
    unfold wst at hQ
    refine e_iload C d_Ou_findWorst_15 rfl ?_
    refine e_aload_n C d_Ou_findWorst_17 rfl ?_
    refine e_geti C fl_Ou_100 (by decide) rfl rfl d_Ou_findWorst_18 (fun r_18 => ?_)
    try simp only [wr_so, OF_10, OF_w, so_so, cu_s, cu_f, e7, ne_eq, Nat.reduceEqDiff, not_false_eq_true] at r_18 ⊢
    refine e_icmp_ge C 96 d_Ou_findWorst_21 (by decide) (by omega) (by omega) (fun c_21 => ?_) (fun c_21 => ?_)
    · exact absurd h1 (by omega)
    · refine e_aload_n C d_Ou_findWorst_24 rfl ?_
      refine e_geto (o2 := 19) C fl_Ou_12 (by decide) rfl rfl rfl d_Ou_findWorst_25 ?_
      refine e_aload_n C d_Ou_findWorst_28 rfl ?_
      refine e_callVV C ok_Ca_copyFrom lk_Ou_18 (o := 19) (by decide) rfl [_] rfl rfl (Nat.le_of_ble_eq_true rfl) (by decide) (Nat.le_of_ble_eq_true rfl) d_Ou_findWorst_29 (s_Ca_copy (by decide) (by decide)) (fun u_29 h_29 => ?_)
      subst h_29
      rw [O_18]
      refine e_aload_n C d_Ou_findWorst_32 rfl ?_
      refine e_geto (o2 := 19) C fl_Ou_12 (by decide) rfl rfl rfl d_Ou_findWorst_33 ?_
      refine e_iload C d_Ou_findWorst_36 rfl ?_
      refine e_callVV C ok_Ca_exchange lk_Ou_103 (o := 19) (by decide) rfl [_] rfl rfl (Nat.le_of_ble_eq_true rfl) (by decide) (Nat.le_of_ble_eq_true rfl) d_Ou_findWorst_38 (s_Ca_exchange (by decide) (by omega)) (fun u_38 h_38 => ?_)
      subst h_38
      refine e_aload_n C d_Ou_findWorst_41 rfl ?_
      refine e_geto (o2 := 19) C fl_Ou_12 (by decide) rfl rfl rfl d_Ou_findWorst_42 ?_
      refine e_aload_n C d_Ou_findWorst_45 rfl ?_
      refine e_iload_n C d_Ou_findWorst_46 rfl ?_
      refine e_callVV C ok_Ca_passMany lk_Ou_22 (o := 19) (by decide) rfl [_, _] rfl rfl (Nat.le_of_ble_eq_true rfl) (by decide) (Nat.le_of_ble_eq_true rfl) d_Ou_findWorst_47 (s_Ca_passMany (σ := so σ 10 (cu (cu d 1 0 b.1) 2 0 b.2)) (by decide) (by rw [O_7]; exact hPl) hKe (by omega) hm) (fun u_47 h_47 => ?_)
      obtain ⟨l1, hl1, rfl⟩ := h_47
      rw [O_7]
      refine e_aload_n C d_Ou_findWorst_50 rfl ?_
      refine e_geto (o2 := 19) C fl_Ou_12 (by decide) rfl rfl rfl d_Ou_findWorst_51 ?_
      refine e_aload_n C d_Ou_findWorst_54 rfl ?_
      refine e_callIV C ok_Ca_guardsWhoSlept lk_Ou_107 (o := 19) (by decide) rfl [_] rfl rfl (Nat.le_of_ble_eq_true rfl) (by decide) (Nat.le_of_ble_eq_true rfl) d_Ou_findWorst_55 (s_Ca_guardsWhoSlept (σ := so σ 10 (cu (cu d 1 0 b.1) 2 0 b.2)) (by decide) (by rw [O_7]; exact hG)) (fun v_55 u_55 q_55 h_55 => ?_)
      obtain ⟨h_55, rfl⟩ := h_55
      rw [O_7, ← esl] at h_55
      subst h_55
      refine e_istore C d_Ou_findWorst_58 (by decide) rfl ?_
      refine e_aload_n C d_Ou_findWorst_60 rfl ?_
      refine e_geti C fl_Ou_94 (by decide) rfl rfl d_Ou_findWorst_61 (fun r_61 => ?_)
      try simp only [wr_so, OF_10, OF_w, so_so, cu_s, cu_f, e7, ne_eq, Nat.reduceEqDiff, not_false_eq_true] at r_61 ⊢
      refine e_bipush C d_Ou_findWorst_64 (by decide) ?_
      refine e_icmp_eq C 78 d_Ou_findWorst_66 (by decide) (by omega) (by omega) (fun c_66 => ?_) (fun c_66 => ?_)
      · refine e_aload_n C d_Ou_findWorst_78 rfl ?_
        refine e_iload C d_Ou_findWorst_79 rfl ?_
        refine e_puti C fp_Ou_94 (by decide) rfl rfl (by omega) d_Ou_findWorst_81 ?_
        try simp only [wr_so, OF_10, OF_w, so_so, cu_s, cu_f, e7, ne_eq, Nat.reduceEqDiff, not_false_eq_true]
        refine e_aload_n C d_Ou_findWorst_84 rfl ?_
        refine e_iload C d_Ou_findWorst_85 rfl ?_
        refine e_puti C fp_Ou_97 (by decide) rfl rfl (by omega) d_Ou_findWorst_87 ?_
        try simp only [wr_so, OF_10, OF_w, so_so, cu_s, cu_f, e7, ne_eq, Nat.reduceEqDiff, not_false_eq_true]
        refine e_iinc C d_Ou_findWorst_90 rfl (by decide) rfl ?_
        refine e_goto C 15 d_Ou_findWorst_93 (by decide) ?_
        refine e_drop 5 ?_
        first
          | (rw [if_pos (by omega)] at hQ; exact ih (i + 1) l1 _ b (hPl.same hl1) (by omega) (by omega) hb hb2 (fun l' c' hl' => hQ l' c' (hl1.tr hl')))
          | (rw [if_neg (by omega)] at hQ
             rw [cu_4 _ _ _ _ _ 1 2 (by decide)]
             exact ih (i + 1) l1 _ (i, c_slepts (σ 7) (mits φ (σ 7) m.toNat (c_exchange y i))) (hPl.same hl1) (by omega) (by omega) (by dsimp only; omega) (by dsimp only; omega) (fun l' c' hl' => hQ l' c' (hl1.tr hl')))
      · refine e_iload C d_Ou_findWorst_69 rfl ?_
        refine e_aload_n C d_Ou_findWorst_71 rfl ?_
        refine e_geti C fl_Ou_97 (by decide) rfl rfl d_Ou_findWorst_72 (fun r_72 => ?_)
        try simp only [wr_so, OF_10, OF_w, so_so, cu_s, cu_f, e7, ne_eq, Nat.reduceEqDiff, not_false_eq_true] at r_72 ⊢
        refine e_icmp_ge C 90 d_Ou_findWorst_75 (by decide) (by omega) (by omega) (fun c_75 => ?_) (fun c_75 => ?_)
        · refine e_iinc C d_Ou_findWorst_90 rfl (by decide) rfl ?_
          refine e_goto C 15 d_Ou_findWorst_93 (by decide) ?_
          refine e_drop 5 ?_
          first
            | (rw [if_pos (by omega)] at hQ; exact ih (i + 1) l1 _ b (hPl.same hl1) (by omega) (by omega) hb hb2 (fun l' c' hl' => hQ l' c' (hl1.tr hl')))
            | (rw [if_neg (by omega)] at hQ
               rw [cu_4 _ _ _ _ _ 1 2 (by decide)]
               exact ih (i + 1) l1 _ (i, c_slepts (σ 7) (mits φ (σ 7) m.toNat (c_exchange y i))) (hPl.same hl1) (by omega) (by omega) (by dsimp only; omega) (by dsimp only; omega) (fun l' c' hl' => hQ l' c' (hl1.tr hl')))
        · refine e_aload_n C d_Ou_findWorst_78 rfl ?_
          refine e_iload C d_Ou_findWorst_79 rfl ?_
          refine e_puti C fp_Ou_94 (by decide) rfl rfl (by omega) d_Ou_findWorst_81 ?_
          try simp only [wr_so, OF_10, OF_w, so_so, cu_s, cu_f, e7, ne_eq, Nat.reduceEqDiff, not_false_eq_true]
          refine e_aload_n C d_Ou_findWorst_84 rfl ?_
          refine e_iload C d_Ou_findWorst_85 rfl ?_
          refine e_puti C fp_Ou_97 (by decide) rfl rfl (by omega) d_Ou_findWorst_87 ?_
          try simp only [wr_so, OF_10, OF_w, so_so, cu_s, cu_f, e7, ne_eq, Nat.reduceEqDiff, not_false_eq_true]
          refine e_iinc C d_Ou_findWorst_90 rfl (by decide) rfl ?_
          refine e_goto C 15 d_Ou_findWorst_93 (by decide) ?_
          refine e_drop 5 ?_
          first
            | (rw [if_pos (by omega)] at hQ; exact ih (i + 1) l1 _ b (hPl.same hl1) (by omega) (by omega) hb hb2 (fun l' c' hl' => hQ l' c' (hl1.tr hl')))
            | (rw [if_neg (by omega)] at hQ
               rw [cu_4 _ _ _ _ _ 1 2 (by decide)]
               exact ih (i + 1) l1 _ (i, c_slepts (σ 7) (mits φ (σ 7) m.toNat (c_exchange y i))) (hPl.same hl1) (by omega) (by omega) (by dsimp only; omega) (by dsimp only; omega) (fun l' c' hl' => hQ l' c' (hl1.tr hl')))
def wW (φ : Phi) (P y : Cs) (n : Nat) : Int × Int := itr (wst φ P y n) (P 3 0).toNat 0 (-2, -2)
theorem k_Ou_findWorst {σ : St} {φ : Phi} {m B : Int} {d l c y : Cs} (hPl : PlanOk (σ 7) l φ) (hS : SIM (σ 7) (σ 18) y) (hK : CK B (σ 18)) (hB : 0 ≤ B ∧ B < 600000000) (hm : 0 ≤ m ∧ m ≤ 10000) : CtV M_Ou_findWorst [.inr (.inr (10, 0)), .inr (.inr (7, 0)), .inr (.inr (18, 0)), .inl m] (OF σ d l c) (fun u => ∃ l' c', LSm l l' ∧ u = OF σ (cu (cu d 1 0 (wW φ (σ 7) y m.toNat).1) 2 0 (wW φ (σ 7) y m.toNat).2) l' c') := by
  intro g C F
  have hN := hPl.1
  refine e_aload_n C d_Ou_findWorst_0 rfl ?_
  refine e_bipush C d_Ou_findWorst_1 (by decide) ?_
  refine e_puti C fp_Ou_94 (by decide) rfl rfl (by omega) d_Ou_findWorst_3 ?_
  try simp only [wr_so, OF_10, OF_w, so_so, cu_s, cu_f, ne_eq, Nat.reduceEqDiff, not_false_eq_true]
  refine e_aload_n C d_Ou_findWorst_6 rfl ?_
  refine e_bipush C d_Ou_findWorst_7 (by decide) ?_
  refine e_puti C fp_Ou_97 (by decide) rfl rfl (by omega) d_Ou_findWorst_9 ?_
  try simp only [wr_so, OF_10, OF_w, so_so, cu_s, cu_f, ne_eq, Nat.reduceEqDiff, not_false_eq_true]
  refine e_iconst C d_Ou_findWorst_12 ?_
  refine e_istore C d_Ou_findWorst_13 (by decide) rfl ?_
  exact l_Ou_findWorst C F hS hK hB hm _ 0 l c (-2, -2) hPl (by omega) (by omega) (by decide) (by decide) (fun l' c' hl' => ⟨l', c', hl', rfl⟩)
