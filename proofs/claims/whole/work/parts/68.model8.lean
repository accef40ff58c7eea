/-! the reference's calls: bribes, weak posts, who never sleeps, spread, the worst shake, the longest watch, where -/
abbrev okBribe (S : SS) (a k : Int) : Prop := (0 ≤ a ∧ a < sP S 4 0) ∧ (1 ≤ k ∧ k ≤ 1000) ∧ 0 ≤ psf (sP S) (sY S) a
def rvBribe (S : SS) (a k : Int) : Int := if okBribe S a k then fnd (brb (sF S) (sP S) (sY S) (psf (sP S) (sY S) a) a k.toNat) (sY S 0 (psf (sP S) (sY S) a) + 1).toNat 0 else -1
theorem QY_0 {P y : Cs} {B p v : Int} (h : QY P B y) (hN : P 3 0 ≤ 8) (hp : 0 ≤ p ∧ p < P 3 0) (hv : 0 ≤ v ∧ v ≤ y 0 p) : QY P B (cu y 0 p v) := by
  obtain ⟨c, hS, hK⟩ := h
  refine ⟨cu c 0 p v, cuf_sim (by decide) (by decide) hS, CK_0 hK (fun a b => ?_)⟩
  have := hS.1.1 0 p (by decide) hp.1 hp.2
  have := hK.2.1 p a b
  omega
set_option maxHeartbeats 1000000 in
theorem l_Mo_bribe2 {g : Mach} (C : Cx M_Mo_bribe g) {σ : St} {m P l : Cs} {φ : Phi} {a k p x b gr : Int} (hPl : PlanOk P l φ) (hM : MPl P m) (hF : FlowC φ P m) (ha : 0 ≤ a ∧ a < P 4 0) (hk : R32 k) (hb : R32 b) :
    ∀ (n : Nat) (i B : Int) (m' y : Cs) (R : Int → Int), MS m m' → RY R y → QY P B y → 0 ≤ B → B + 9 * n < 1900000000 → 0 ≤ i → i + n = k → y 9 a = b → (∀ y' R' m'', MS m m'' → RY R' y' → (b < y' 9 a ↔ mbd φ P a b n i y ≠ -2) → Ev g 114 [some (.inr (.inr (1, 0))), some (.inl a), some (.inl k), some (.inl p), some (.inl x), some (.inl b), some (.inl gr), none] [] (MF σ m'' R')) → Ev g 84 [some (.inr (.inr (1, 0))), some (.inl a), some (.inl k), some (.inl p), some (.inl x), some (.inl b), some (.inl gr), some (.inl i)] [] (MF σ m' R) := by
  have hG := hPl.2.1
  intro n
  induction n with
  | zero =>
    intro i B m' y R hm hy hQy hB hbb h0 h1 h9 hQ
    have hya := hy.2.1 a ha.1 (by omega)
    have hq := hQ y R m' hm hy (by constructor; (intro z; omega); (intro z; exact absurd rfl z))
    refine e_iload C d_Mo_bribe_84 rfl ?_
    refine e_iload_n C d_Mo_bribe_86 rfl ?_
    refine e_icmp_ge C 114 d_Mo_bribe_87 (by decide) (by omega) (by omega) (fun c_87 => ?_) (fun c_87 => ?_)
    · exact e_drop 7 hq
    · exact absurd h1 (by omega)
  | succ n ih =>
    intro i B m' y R hm hy hQy hB hbb h0 h1 h9 hQ
    have hM' := hM.same hm.mp
    have hya := hy.2.1 a ha.1 (by omega)
    have h9m := min_9 (φ := φ) (P := P) (y := y) a
    rw [mbd_S] at hQ
    refine e_iload C d_Mo_bribe_84 rfl ?_
    refine e_iload_n C d_Mo_bribe_86 rfl ?_
    refine e_icmp_ge C 114 d_Mo_bribe_87 (by decide) (by omega) (by omega) (fun c_87 => ?_) (fun c_87 => ?_)
    · exact absurd h1 (by omega)
    · refine e_aload_n C d_Mo_bribe_90 rfl ?_
      refine e_geta C fl_Mo_119 (by decide) rfl rfl d_Mo_bribe_91 ?_
      refine e_bipush C d_Mo_bribe_94 (by decide) ?_
      refine e_iload_n C d_Mo_bribe_96 rfl ?_
      refine e_iadd C d_Mo_bribe_97 ?_
      refine e_iald (n := 100) C (by decide) rfl (by decide) rfl rfl (by decide) (by omega) (by omega) d_Mo_bribe_98 (fun r_98 => ?_)
      try simp only [MF_51] at r_98 ⊢
      rw [hya.2.2.1] at r_98 ⊢
      refine e_iload C d_Mo_bribe_99 rfl ?_
      refine e_icmp_ne C 114 d_Mo_bribe_101 (by decide) (by omega) (by omega) (fun c_101 => ?_) (fun c_101 => ?_)
      · exact absurd h9 c_101
      · refine e_aload_n C d_Mo_bribe_104 rfl ?_
        refine e_callVV C ok_Mo_minuteGoes lk_Mo_342 (o := 1) (by decide) rfl [] rfl rfl (Nat.le_of_ble_eq_true rfl) (by decide) (Nat.le_of_ble_eq_true rfl) d_Mo_bribe_105 (k_Mo_minuteGoes hPl hM' (hF.same hm.mp) hy hQy (by omega)) (fun u_105 h_105 => ?_)
        obtain ⟨R2, m2, hm2, hy2, rfl⟩ := h_105
        refine e_iinc C d_Mo_bribe_108 rfl (by decide) rfl ?_
        refine e_goto C 84 d_Mo_bribe_111 (by decide) ?_
        by_cases z : mmin φ P y 9 a = b
        · rw [if_pos z] at hQ
          exact ih (i + 1) (B + 9) m2 _ R2 (hm.tr hm2) hy2 (QY_min hQy hB hPl) (by omega) (by omega) (by omega) (by omega) z hQ
        · rw [if_neg z] at hQ
          have hq := hQ _ R2 m2 (hm.tr hm2) hy2 (by constructor; (intro _; omega); (intro _; omega))
          have hyb := hy2.2.1 a ha.1 (by omega)
          refine e_iload C d_Mo_bribe_84 rfl ?_
          refine e_iload_n C d_Mo_bribe_86 rfl ?_
          refine e_icmp_ge C 114 d_Mo_bribe_87 (by decide) (by omega) (by omega) (fun c_87 => ?_) (fun c_87 => ?_)
          · exact e_drop 7 hq
          · refine e_aload_n C d_Mo_bribe_90 rfl ?_
            refine e_geta C fl_Mo_119 (by decide) rfl rfl d_Mo_bribe_91 ?_
            refine e_bipush C d_Mo_bribe_94 (by decide) ?_
            refine e_iload_n C d_Mo_bribe_96 rfl ?_
            refine e_iadd C d_Mo_bribe_97 ?_
            refine e_iald (n := 100) C (by decide) rfl (by decide) rfl rfl (by decide) (by omega) (by omega) d_Mo_bribe_98 (fun r_98 => ?_)
            try simp only [MF_51] at r_98 ⊢
            rw [hyb.2.2.1] at r_98 ⊢
            refine e_iload C d_Mo_bribe_99 rfl ?_
            refine e_icmp_ne C 114 d_Mo_bribe_101 (by decide) (by omega) (by omega) (fun c_101 => ?_) (fun c_101 => ?_)
            · exact e_drop 7 hq
            · exact absurd c_101 z
theorem l_Mo_bribe1 {g : Mach} {Q : Int → St → Prop} (C : Cx M_Mo_bribe g) (F : FinI M_Mo_bribe g Q) {σ : St} {m P l y : Cs} {φ : Phi} {a k p B : Int} (hPl : PlanOk P l φ) (hM : MPl P m) (hF : FlowC φ P m) (ha : 0 ≤ a ∧ a < P 4 0) (hp : 0 ≤ p ∧ p < P 3 0) (hk : 1 ≤ k ∧ k ≤ 1000) (hmy : RY (m 50) y) (hQy : QY P B y) (hB : 0 ≤ B ∧ B < 1800000000) (r0 : R32 (y 0 p)) (r9 : R32 (y 9 a)) :
    ∀ (n : Nat) (i : Int) (m' : Cs) (R : Int → Int), MS m m' → 0 ≤ i → i + n = y 0 p + 1 → (∀ R' m'', MS m m'' → Q (fnd (brb φ P y p a k.toNat) n i) (MF σ m'' R')) → Ev g 59 [some (.inr (.inr (1, 0))), some (.inl a), some (.inl k), some (.inl p), some (.inl (y 0 p)), some (.inl (y 9 a)), some (.inl i), none] [] (MF σ m' R) := by
  have hN := hPl.1
  have hG := hPl.2.1
  have hq0 := (hQy.post hN.2 hG.2 hp).1
  intro n
  induction n with
  | zero =>
    intro i m' R hm h0 h1 hQ
    refine e_iload C d_Mo_bribe_59 rfl ?_
    refine e_iload C d_Mo_bribe_61 rfl ?_
    refine e_icmp_gt C 137 d_Mo_bribe_63 (by decide) (by omega) (by omega) (fun c_63 => ?_) (fun c_63 => ?_)
    · refine e_bipush C d_Mo_bribe_137 (by decide) ?_
      refine e_iret C F rfl d_Mo_bribe_139 (by omega) ?_
      exact hQ R m' hm
    · exact absurd h1 (by omega)
  | succ n ih =>
    intro i m' R hm h0 h1 hQ
    have hM' := hM.same hm.mp
    have e50 := hm 50 (by decide) (by decide) (by decide) (by decide)
    unfold fnd at hQ
    refine e_iload C d_Mo_bribe_59 rfl ?_
    refine e_iload C d_Mo_bribe_61 rfl ?_
    refine e_icmp_gt C 137 d_Mo_bribe_63 (by decide) (by omega) (by omega) (fun c_63 => ?_) (fun c_63 => ?_)
    · exact absurd h1 (by omega)
    · refine e_aload_n C d_Mo_bribe_66 rfl ?_
      refine e_callVV C ok_Mo_copies lk_Mo_330 (o := 1) (by decide) rfl [] rfl rfl (Nat.le_of_ble_eq_true rfl) (by decide) (Nat.le_of_ble_eq_true rfl) d_Mo_bribe_67 (k_Mo_copies) (fun u_67 h_67 => ?_)
      subst h_67
      have hy := RY_cp (R := R) hmy
      rw [← e50] at hy
      generalize r_cp R (m' 50) 100 = R1 at hy ⊢
      have hyp := hy.1 p hp.1 (by omega)
      refine e_aload_n C d_Mo_bribe_70 rfl ?_
      refine e_geta C fl_Mo_119 (by decide) rfl rfl d_Mo_bribe_71 ?_
      refine e_iload_n C d_Mo_bribe_74 rfl ?_
      refine e_dup2 C d_Mo_bribe_75 rfl rfl ?_
      refine e_iald (n := 100) C (by decide) rfl (by decide) rfl rfl (by decide) (by omega) (by omega) d_Mo_bribe_76 (fun r_76 => ?_)
      try simp only [MF_51, so_at, so_so, wr_so, lnm_s, lnm_cu] at r_76 ⊢
      rw [hyp.1] at r_76 ⊢
      refine e_iload C d_Mo_bribe_77 rfl ?_
      refine e_isub C d_Mo_bribe_79 ?_
      refine e_iast (n := 100) C (by decide) rfl (by decide) rfl rfl (by decide) (by omega) (by omega) (by omega) d_Mo_bribe_80 ?_
      try simp only [MF_51, so_at, so_so, wr_so, lnm_s, lnm_cu]
      refine e_iconst C d_Mo_bribe_81 ?_
      refine e_istore C d_Mo_bribe_82 (by decide) rfl ?_
      have hy1 := RY_0 hy (q := p) (v := y 0 p - i) (by omega)
      refine l_Mo_bribe2 C hPl hM hF ha (by omega) r9 k.toNat 0 B m' _ _ hm hy1 (QY_0 hQy hN.2 hp (by omega)) hB.1 (by omega) (by omega) (by omega) (cu_f (by decide)) (fun y' R' m'' hm'' hy' hi => ?_)
      have hyb := hy'.2.1 a ha.1 (by omega)
      have hbr : brb φ P y p a k.toNat i = true ↔ y 9 a < y' 9 a := by
        unfold brb
        rw [hi]
        simp
      refine e_aload_n C d_Mo_bribe_114 rfl ?_
      refine e_geta C fl_Mo_119 (by decide) rfl rfl d_Mo_bribe_115 ?_
      refine e_bipush C d_Mo_bribe_118 (by decide) ?_
      refine e_iload_n C d_Mo_bribe_120 rfl ?_
      refine e_iadd C d_Mo_bribe_121 ?_
      refine e_iald (n := 100) C (by decide) rfl (by decide) rfl rfl (by decide) (by omega) (by omega) d_Mo_bribe_122 (fun r_122 => ?_)
      try simp only [MF_51] at r_122 ⊢
      rw [hyb.2.2.1] at r_122 ⊢
      refine e_iload C d_Mo_bribe_123 rfl ?_
      refine e_icmp_le C 131 d_Mo_bribe_125 (by decide) (by omega) (by omega) (fun c_125 => ?_) (fun c_125 => ?_)
      · rw [if_neg (fun z => by have := hbr.mp z; omega)] at hQ
        refine e_iinc C d_Mo_bribe_131 rfl (by decide) rfl ?_
        refine e_goto C 59 d_Mo_bribe_134 (by decide) ?_
        exact ih (i + 1) m'' R' hm'' (by omega) (by omega) hQ
      · rw [if_pos (hbr.mpr (by omega))] at hQ
        refine e_iload C d_Mo_bribe_128 rfl ?_
        refine e_iret C F rfl d_Mo_bribe_130 (by omega) ?_
        exact hQ R' m'' hm''
theorem K_Mo_bribe {σ : St} {m : Cs} {S : SS} {n a k : Int} (hp : PI S n) (hm : IVm S m) (r1 : R32 a) (r2 : R32 k) : CtI M_Mo_bribe [.inr (.inr (1, 0)), .inl a, .inl k] (so σ 1 m) (fun r u => r = rvBribe S a k ∧ ∃ m', u = so σ 1 m' ∧ IVm S m') := by
  intro g C F
  obtain ⟨l, hPl⟩ := hp.pl
  have hN := hPl.1
  have hG := hPl.2.1
  have hM := hm.1.1
  have hn := hp.n
  have hno : ¬ okBribe S a k → ∀ R, -1 = rvBribe S a k ∧ ∃ m', MF σ m R = so σ 1 m' ∧ IVm S m' := by
    intro z R
    unfold rvBribe
    rw [if_neg z]
    exact ⟨rfl, _, rfl, hm.fin0⟩
  rw [soMF]
  refine e_aload_n C d_Mo_bribe_0 rfl ?_
  refine e_iload_n C d_Mo_bribe_1 rfl ?_
  refine e_callIV C ok_Mo_isGuard lk_Mo_333 (o := 1) (by decide) rfl [_] rfl rfl (Nat.le_of_ble_eq_true rfl) (by decide) (Nat.le_of_ble_eq_true rfl) d_Mo_bribe_2 (k_Mo_isGuard hM hG r1) (fun v_2 u_2 q_2 h_2 => ?_)
  obtain ⟨rfl, rfl⟩ := h_2
  refine e_if_eq C 19 d_Mo_bribe_5 (by decide) (by split <;> omega) (fun c_5 => ?_) (fun c_5 => ?_)
  · have hv0 : ¬ okBribe S a k := fun z => po_f c_5 z.1
    refine e_iconst C d_Mo_bribe_19 ?_
    refine e_iret C F rfl d_Mo_bribe_20 (by omega) ?_
    exact hno hv0 _
  · have hv := po_t c_5
    refine e_iload_n C d_Mo_bribe_8 rfl ?_
    refine e_iconst C d_Mo_bribe_9 ?_
    refine e_sipush C d_Mo_bribe_10 (by decide) ?_
    refine e_callIS C ok_Mo_in lk_Mo_302 [_, _, _] rfl rfl (Nat.le_of_ble_eq_true rfl) (by decide) (Nat.le_of_ble_eq_true rfl) d_Mo_bribe_13 (k_Mo_in r2 (by omega) (by omega)) (fun v_13 u_13 q_13 h_13 => ?_)
    obtain ⟨rfl, rfl⟩ := h_13
    refine e_if_ne C 21 d_Mo_bribe_16 (by decide) (by split <;> omega) (fun c_16 => ?_) (fun c_16 => ?_)
    · have hv2 := in_t c_16
      refine e_aload_n C d_Mo_bribe_21 rfl ?_
      refine e_callVV C ok_Mo_copies lk_Mo_330 (o := 1) (by decide) rfl [] rfl rfl (Nat.le_of_ble_eq_true rfl) (by decide) (Nat.le_of_ble_eq_true rfl) d_Mo_bribe_22 (k_Mo_copies) (fun u_22 h_22 => ?_)
      subst h_22
      have hy := RY_cp (R := m 51) hm.2.1
      generalize r_cp (m 51) (m 50) 100 = R at hy ⊢
      refine e_aload_n C d_Mo_bribe_25 rfl ?_
      refine e_iload_n C d_Mo_bribe_26 rfl ?_
      refine e_callIV C ok_Mo_postOf lk_Mo_336 (o := 1) (by decide) rfl [_] rfl rfl (Nat.le_of_ble_eq_true rfl) (by decide) (Nat.le_of_ble_eq_true rfl) d_Mo_bribe_27 (k_Mo_postOf hM hN hy (by omega)) (fun v_27 u_27 q_27 h_27 => ?_)
      obtain ⟨rfl, rfl⟩ := h_27
      have hpr := psf_r (y := sY S) (a := a) hN
      refine e_istore_n C d_Mo_bribe_30 (by decide) rfl ?_
      refine e_iload_n C d_Mo_bribe_31 rfl ?_
      refine e_if_ge C 37 d_Mo_bribe_32 (by decide) (by omega) (fun c_32 => ?_) (fun c_32 => ?_)
      · have hok : okBribe S a k := ⟨hv, hv2, by omega⟩
        have hpp : 0 ≤ psf (sP S) (sY S) a ∧ psf (sP S) (sY S) a < sP S 3 0 := by omega
        have hyp := hy.1 _ hpp.1 (by omega)
        have hya := hy.2.1 a hv.1 (by omega)
        unfold rvBribe at F
        rw [if_pos hok] at F
        refine e_aload_n C d_Mo_bribe_37 rfl ?_
        refine e_geta C fl_Mo_119 (by decide) rfl rfl d_Mo_bribe_38 ?_
        refine e_iload_n C d_Mo_bribe_41 rfl ?_
        refine e_iald (n := 100) C (by decide) rfl (by decide) rfl rfl (by decide) (by omega) (by omega) d_Mo_bribe_42 (fun r_42 => ?_)
        try simp only [MF_51] at r_42 ⊢
        rw [hyp.1] at r_42 ⊢
        refine e_istore C d_Mo_bribe_43 (by decide) rfl ?_
        refine e_aload_n C d_Mo_bribe_45 rfl ?_
        refine e_geta C fl_Mo_119 (by decide) rfl rfl d_Mo_bribe_46 ?_
        refine e_bipush C d_Mo_bribe_49 (by decide) ?_
        refine e_iload_n C d_Mo_bribe_51 rfl ?_
        refine e_iadd C d_Mo_bribe_52 ?_
        refine e_iald (n := 100) C (by decide) rfl (by decide) rfl rfl (by decide) (by omega) (by omega) d_Mo_bribe_53 (fun r_53 => ?_)
        try simp only [MF_51] at r_53 ⊢
        rw [hya.2.2.1] at r_53 ⊢
        refine e_istore C d_Mo_bribe_54 (by decide) rfl ?_
        refine e_iconst C d_Mo_bribe_56 ?_
        refine e_istore C d_Mo_bribe_57 (by decide) rfl ?_
        have hq := (hp.y.1.post hN.2 hG.2 hpp).1
        exact l_Mo_bribe1 C F hPl hM hm.1.2.1 hv hpp hv2 hm.2.1 hp.y.1 (by omega) r_42 r_53 _ 0 m _ (MS.rf m) (by omega) (by omega) (fun R' m' h => ⟨rfl, _, rfl, hm.fin h⟩)
      · have hv0 : ¬ okBribe S a k := fun z => by have := z.2.2; omega
        refine e_iconst C d_Mo_bribe_35 ?_
        refine e_iret C F rfl d_Mo_bribe_36 (by omega) ?_
        exact hno hv0 _
    · have hv0 : ¬ okBribe S a k := fun z => in_f c_16 z.2.1
      refine e_iconst C d_Mo_bribe_19 ?_
      refine e_iret C F rfl d_Mo_bribe_20 (by omega) ?_
      exact hno hv0 _
abbrev okWeak (k w : Int) : Prop := (1 ≤ k ∧ k ≤ 2000) ∧ 0 ≤ w ∧ w ≤ 1
def rvWeak (S : SS) (k w : Int) : Int := if okWeak k w then (if sP S 4 0 < sP S 3 0 then (if w = 0 then k else 0) else (if w = 0 then 0 else -2)) else -1
theorem l_Mo_weak {g : Mach} {Q : Int → St → Prop} (C : Cx M_Mo_weak g) (F : FinI M_Mo_weak g Q) {σ : St} {m P l : Cs} {φ : Phi} {k w : Int} (hPl : PlanOk P l φ) (hM : MPl P m) (hF : FlowC φ P m) (hk : 1 ≤ k ∧ k ≤ 2000) (hw : 0 ≤ w ∧ w ≤ 1) :
    ∀ (n : Nat) (i x f B : Int) (m' y : Cs) (R : Int → Int), MS m m' → RY R y → QY P B y → 0 ≤ B → B + 9 * n < 1900000000 → 0 ≤ i → i + n = k → (if P 4 0 < P 3 0 then x = i ∧ f = (if i = 0 then -2 else 0) else x = 0 ∧ f = -2) → (∀ R' m'', MS m m'' → Q (if P 4 0 < P 3 0 then (if w = 0 then k else 0) else (if w = 0 then 0 else -2)) (MF σ m'' R')) → Ev g 35 [some (.inr (.inr (1, 0))), some (.inl k), some (.inl w), some (.inl x), some (.inl f), some (.inl i)] [] (MF σ m' R) := by
  have hN := hPl.1
  have hG := hPl.2.1
  intro n
  induction n with
  | zero =>
    intro i x f B m' y R hm hy hQy hB hb h0 h1 hx hQ
    have hq := hQ R m' hm
    have hxx : (if P 4 0 < P 3 0 then x = k ∧ f = 0 else x = 0 ∧ f = -2) := by
      split at hx
      · rename_i z; rw [if_pos z]; rw [if_neg (by omega)] at hx; omega
      · rename_i z; rw [if_neg z]; exact hx
    refine e_iload C d_Mo_weak_35 rfl ?_
    refine e_iload_n C d_Mo_weak_37 rfl ?_
    refine e_icmp_ge C 73 d_Mo_weak_38 (by decide) (by omega) (by omega) (fun c_38 => ?_) (fun c_38 => ?_)
    · refine e_iload_n C d_Mo_weak_73 rfl ?_
      refine e_if_ne C 81 d_Mo_weak_74 (by decide) (by omega) (fun c_74 => ?_) (fun c_74 => ?_)
      · refine e_iload C d_Mo_weak_81 rfl ?_
        refine e_iret C F rfl d_Mo_weak_83 (by split at hxx <;> omega) ?_
        refine cast (congrArg (fun z => Q z (MF σ m' R)) ?_) hq
        by_cases z : P 4 0 < P 3 0
        · rw [if_pos z] at hxx ⊢
          first | rw [if_pos (by omega)]; omega | rw [if_neg (by omega)]; omega
        · rw [if_neg z] at hxx ⊢
          first | rw [if_pos (by omega)]; omega | rw [if_neg (by omega)]; omega
      · refine e_iload_n C d_Mo_weak_77 rfl ?_
        refine e_goto C 83 d_Mo_weak_78 (by decide) ?_
        refine e_iret C F rfl d_Mo_weak_83 (by split at hxx <;> omega) ?_
        refine cast (congrArg (fun z => Q z (MF σ m' R)) ?_) hq
        by_cases z : P 4 0 < P 3 0
        · rw [if_pos z] at hxx ⊢
          first | rw [if_pos (by omega)]; omega | rw [if_neg (by omega)]; omega
        · rw [if_neg z] at hxx ⊢
          first | rw [if_pos (by omega)]; omega | rw [if_neg (by omega)]; omega
    · exact absurd h1 (by omega)
  | succ n ih =>
    intro i x f B m' y R hm hy hQy hB hb h0 h1 hx hQ
    have hM' := hM.same hm.mp
    have hwe := weak_est hPl hQy hB
    have hQ1 := QY_min hQy hB hPl
    have hxr : R32 x ∧ R32 f ∧ -2 ≤ f ∧ f ≤ 0 := by
      split at hx
      · split at hx <;> omega
      · omega
    refine e_iload C d_Mo_weak_35 rfl ?_
    refine e_iload_n C d_Mo_weak_37 rfl ?_
    refine e_icmp_ge C 73 d_Mo_weak_38 (by decide) (by omega) (by omega) (fun c_38 => ?_) (fun c_38 => ?_)
    · exact absurd h1 (by omega)
    · refine e_aload_n C d_Mo_weak_41 rfl ?_
      refine e_callVV C ok_Mo_minuteGoes lk_Mo_342 (o := 1) (by decide) rfl [] rfl rfl (Nat.le_of_ble_eq_true rfl) (by decide) (Nat.le_of_ble_eq_true rfl) d_Mo_weak_42 (k_Mo_minuteGoes hPl hM' (hF.same hm.mp) hy hQy (by omega)) (fun u_42 h_42 => ?_)
      obtain ⟨R2, m2, hm2, hy2, rfl⟩ := h_42
      refine e_aload_n C d_Mo_weak_45 rfl ?_
      refine e_callIV C ok_Mo_emptyOnes lk_Mo_363 (o := 1) (by decide) rfl [] rfl rfl (Nat.le_of_ble_eq_true rfl) (by decide) (Nat.le_of_ble_eq_true rfl) d_Mo_weak_46 (k_Mo_emptyOnes (hM'.same hm2.mp) hN hy2 (fun p a b => by have := (hQ1.post hN.2 hG.2 ⟨a, b⟩).2; omega)) (fun v_46 u_46 q_46 h_46 => ?_)
      obtain ⟨rfl, rfl⟩ := h_46
      refine e_if_ne C 55 d_Mo_weak_49 (by decide) (by omega) (fun c_49 => ?_) (fun c_49 => ?_)
      · have hlt : P 4 0 < P 3 0 := Decidable.byContradiction fun z => c_49 (hwe.mpr z)
        rw [if_pos hlt] at hx
        refine e_iinc C d_Mo_weak_55 rfl (by decide) rfl ?_
        refine e_iload C d_Mo_weak_58 rfl ?_
        refine e_if_ge C 67 d_Mo_weak_60 (by decide) (by omega) (fun c_60 => ?_) (fun c_60 => ?_)
        · refine e_iinc C d_Mo_weak_67 rfl (by decide) rfl ?_
          refine e_goto C 35 d_Mo_weak_70 (by decide) ?_
          refine ih (i + 1) _ _ (B + 9) m2 _ R2 (hm.tr hm2) hy2 hQ1 (by omega) (by omega) (by omega) (by omega) ?_ hQ
          first | (rw [if_neg (hwe.mp c_49)]; exact hx) | (rw [if_pos hlt, if_neg (show ¬ i + 1 = 0 by omega)]; by_cases z : i = 0 <;> simp only [z, if_true, if_false] at hx <;> omega)
        · refine e_iload C d_Mo_weak_63 rfl ?_
          refine e_istore C d_Mo_weak_65 (by decide) rfl ?_
          refine e_iinc C d_Mo_weak_67 rfl (by decide) rfl ?_
          refine e_goto C 35 d_Mo_weak_70 (by decide) ?_
          refine ih (i + 1) _ _ (B + 9) m2 _ R2 (hm.tr hm2) hy2 hQ1 (by omega) (by omega) (by omega) (by omega) ?_ hQ
          first | (rw [if_neg (hwe.mp c_49)]; exact hx) | (rw [if_pos hlt, if_neg (show ¬ i + 1 = 0 by omega)]; by_cases z : i = 0 <;> simp only [z, if_true, if_false] at hx <;> omega)
      · rw [if_neg (hwe.mp c_49)] at hx
        refine e_goto C 67 d_Mo_weak_52 (by decide) ?_
        refine e_iinc C d_Mo_weak_67 rfl (by decide) rfl ?_
        refine e_goto C 35 d_Mo_weak_70 (by decide) ?_
        refine ih (i + 1) _ _ (B + 9) m2 _ R2 (hm.tr hm2) hy2 hQ1 (by omega) (by omega) (by omega) (by omega) ?_ hQ
        first | (rw [if_neg (hwe.mp c_49)]; exact hx) | (rw [if_pos hlt, if_neg (show ¬ i + 1 = 0 by omega)]; by_cases z : i = 0 <;> simp only [z, if_true, if_false] at hx <;> omega)
theorem K_Mo_weak {σ : St} {m : Cs} {S : SS} {n k w : Int} (hp : PI S n) (hm : IVm S m) (r1 : R32 k) (r2 : R32 w) : CtI M_Mo_weak [.inr (.inr (1, 0)), .inl k, .inl w] (so σ 1 m) (fun r u => r = rvWeak S k w ∧ ∃ m', u = so σ 1 m' ∧ IVm S m') := by
  intro g C F
  obtain ⟨l, hPl⟩ := hp.pl
  have hM := hm.1.1
  have hn := hp.n
  have hno : ¬ okWeak k w → ∀ R, -1 = rvWeak S k w ∧ ∃ m', MF σ m R = so σ 1 m' ∧ IVm S m' := by
    intro z R
    unfold rvWeak
    rw [if_neg z]
    exact ⟨rfl, _, rfl, hm.fin0⟩
  rw [soMF]
  refine e_iload_n C d_Mo_weak_0 rfl ?_
  refine e_iconst C d_Mo_weak_1 ?_
  refine e_sipush C d_Mo_weak_2 (by decide) ?_
  refine e_callIS C ok_Mo_in lk_Mo_302 [_, _, _] rfl rfl (Nat.le_of_ble_eq_true rfl) (by decide) (Nat.le_of_ble_eq_true rfl) d_Mo_weak_5 (k_Mo_in r1 (by omega) (by omega)) (fun v_5 u_5 q_5 h_5 => ?_)
  obtain ⟨rfl, rfl⟩ := h_5
  refine e_if_eq C 20 d_Mo_weak_8 (by decide) (by split <;> omega) (fun c_8 => ?_) (fun c_8 => ?_)
  · have hv0 : ¬ okWeak k w := fun z => in_f c_8 z.1
    refine e_iconst C d_Mo_weak_20 ?_
    refine e_iret C F rfl d_Mo_weak_21 (by omega) ?_
    exact hno hv0 _
  · have hv := in_t c_8
    refine e_iload_n C d_Mo_weak_11 rfl ?_
    refine e_iconst C d_Mo_weak_12 ?_
    refine e_iconst C d_Mo_weak_13 ?_
    refine e_callIS C ok_Mo_in lk_Mo_302 [_, _, _] rfl rfl (Nat.le_of_ble_eq_true rfl) (by decide) (Nat.le_of_ble_eq_true rfl) d_Mo_weak_14 (k_Mo_in r2 (by omega) (by omega)) (fun v_14 u_14 q_14 h_14 => ?_)
    obtain ⟨rfl, rfl⟩ := h_14
    refine e_if_ne C 22 d_Mo_weak_17 (by decide) (by split <;> omega) (fun c_17 => ?_) (fun c_17 => ?_)
    · have hv2 := in_t c_17
      refine e_aload_n C d_Mo_weak_22 rfl ?_
      refine e_callVV C ok_Mo_copies lk_Mo_330 (o := 1) (by decide) rfl [] rfl rfl (Nat.le_of_ble_eq_true rfl) (by decide) (Nat.le_of_ble_eq_true rfl) d_Mo_weak_23 (k_Mo_copies) (fun u_23 h_23 => ?_)
      subst h_23
      have hy := RY_cp (R := m 51) hm.2.1
      generalize r_cp (m 51) (m 50) 100 = R at hy ⊢
      refine e_iconst C d_Mo_weak_26 ?_
      refine e_istore_n C d_Mo_weak_27 (by decide) rfl ?_
      refine e_bipush C d_Mo_weak_28 (by decide) ?_
      refine e_istore C d_Mo_weak_30 (by decide) rfl ?_
      refine e_iconst C d_Mo_weak_32 ?_
      refine e_istore C d_Mo_weak_33 (by decide) rfl ?_
      refine l_Mo_weak C F hPl hM hm.1.2.1 hv hv2 k.toNat 0 0 (-2) _ m _ R (MS.rf m) hy hp.y.1 (by omega) (by omega) (by omega) (by omega) ?_ (fun R' m' h => ⟨?_, _, rfl, hm.fin h⟩)
      · split
        · exact ⟨rfl, rfl⟩
        · exact ⟨rfl, rfl⟩
      · unfold rvWeak
        rw [if_pos (show okWeak k w from ⟨hv, hv2⟩)]
    · have hv0 : ¬ okWeak k w := fun z => in_f c_17 z.2
      refine e_iconst C d_Mo_weak_20 ?_
      refine e_iret C F rfl d_Mo_weak_21 (by omega) ?_
      exact hno hv0 _
def rvNever (S : SS) (k : Int) : Int := if 1 ≤ k ∧ k ≤ 2000 then itr (nvs (sY S) (mits (sF S) (sP S) k.toNat (sY S))) (sP S 4 0).toNat 0 0 else -1
theorem l_Mo_never {g : Mach} {Q : Int → St → Prop} (C : Cx M_Mo_never g) (F : FinI M_Mo_never g Q) {σ : St} {m P y y' : Cs} {R : Int → Int} {k : Int} (hM : MPl P m) (hG : 0 ≤ P 4 0 ∧ P 4 0 ≤ 12) (hmy : RY (m 50) y) (hy : RY R y') :
    ∀ (n : Nat) (i x : Int), 0 ≤ i → i + n = P 4 0 → R32 x → Q (itr (nvs y y') n i x) (MF σ m R) → Ev g 26 [some (.inr (.inr (1, 0))), some (.inl k), some (.inl x), some (.inl i)] [] (MF σ m R) := by
  have hlv := hM.1
  have he := hM.2.2.1
  intro n
  induction n with
  | zero =>
    intro i x h0 h1 hx hQ
    refine e_iload_n C d_Mo_never_26 rfl ?_
    refine e_aload_n C d_Mo_never_27 rfl ?_
    refine e_geta C fl_Mo_64 (by decide) rfl rfl d_Mo_never_28 ?_
    refine e_aload_n C d_Mo_never_31 rfl ?_
    refine e_geti C fl_Mo_215 (by decide) rfl rfl d_Mo_never_32 (fun r_32 => ?_)
    try simp only [MF_f, he, ne_eq, Nat.reduceEqDiff, not_false_eq_true] at r_32 ⊢
    refine e_iald (n := 2) C (by decide) rfl (by decide) rfl rfl (by decide) (by omega) (by omega) d_Mo_never_35 (fun r_35 => ?_)
    try simp only [MF_f, he, ne_eq, Nat.reduceEqDiff, not_false_eq_true] at r_35 ⊢
    refine e_icmp_ge C 72 d_Mo_never_36 (by decide) (by omega) (by omega) (fun c_36 => ?_) (fun c_36 => ?_)
    · refine e_iload_n C d_Mo_never_72 rfl ?_
      refine e_iret C F rfl d_Mo_never_73 (by omega) ?_
      exact hQ
    · exact absurd h1 (by omega)
  | succ n ih =>
    intro i x h0 h1 hx hQ
    have e1 := (hmy.2.1 i h0 (by omega)).1
    have e2 := (hy.2.1 i h0 (by omega)).1
    rw [itr_S] at hQ
    unfold nvs at hQ
    refine e_iload_n C d_Mo_never_26 rfl ?_
    refine e_aload_n C d_Mo_never_27 rfl ?_
    refine e_geta C fl_Mo_64 (by decide) rfl rfl d_Mo_never_28 ?_
    refine e_aload_n C d_Mo_never_31 rfl ?_
    refine e_geti C fl_Mo_215 (by decide) rfl rfl d_Mo_never_32 (fun r_32 => ?_)
    try simp only [MF_f, MF_51, he, ne_eq, Nat.reduceEqDiff, not_false_eq_true] at r_32 ⊢
    refine e_iald (n := 2) C (by decide) rfl (by decide) rfl rfl (by decide) (by omega) (by omega) d_Mo_never_35 (fun r_35 => ?_)
    try simp only [MF_f, MF_51, he, ne_eq, Nat.reduceEqDiff, not_false_eq_true] at r_35 ⊢
    refine e_icmp_ge C 72 d_Mo_never_36 (by decide) (by omega) (by omega) (fun c_36 => ?_) (fun c_36 => ?_)
    · exact absurd h1 (by omega)
    · refine e_aload_n C d_Mo_never_39 rfl ?_
      refine e_geta C fl_Mo_119 (by decide) rfl rfl d_Mo_never_40 ?_
      refine e_bipush C d_Mo_never_43 (by decide) ?_
      refine e_iload_n C d_Mo_never_45 rfl ?_
      refine e_iadd C d_Mo_never_46 ?_
      refine e_iald (n := 100) C (by decide) rfl (by decide) rfl rfl (by decide) (by omega) (by omega) d_Mo_never_47 (fun r_47 => ?_)
      try simp only [MF_f, MF_51, he, ne_eq, Nat.reduceEqDiff, not_false_eq_true] at r_47 ⊢
      rw [e2] at r_47 ⊢
      refine e_aload_n C d_Mo_never_48 rfl ?_
      refine e_geta C fl_Mo_116 (by decide) rfl rfl d_Mo_never_49 ?_
      refine e_bipush C d_Mo_never_52 (by decide) ?_
      refine e_iload_n C d_Mo_never_54 rfl ?_
      refine e_iadd C d_Mo_never_55 ?_
      refine e_iald (n := 100) C (by decide) rfl (by decide) rfl rfl (by decide) (by omega) (by omega) d_Mo_never_56 (fun r_56 => ?_)
      try simp only [MF_f, MF_51, he, ne_eq, Nat.reduceEqDiff, not_false_eq_true] at r_56 ⊢
      rw [e1] at r_56 ⊢
      refine e_icmp_ne C 66 d_Mo_never_57 (by decide) (by omega) (by omega) (fun c_57 => ?_) (fun c_57 => ?_)
      · rw [if_neg c_57] at hQ
        refine e_iinc C d_Mo_never_66 rfl (by decide) rfl ?_
        refine e_goto C 26 d_Mo_never_69 (by decide) ?_
        exact ih (i + 1) _ (by omega) (by omega) (by first | exact hx | exact z_ior_r _ _) hQ
      · rw [if_pos c_57] at hQ
        refine e_iload_n C d_Mo_never_60 rfl ?_
        refine e_iconst C d_Mo_never_61 ?_
        refine e_iload_n C d_Mo_never_62 rfl ?_
        refine e_ishl C d_Mo_never_63 ?_
        refine e_ior C d_Mo_never_64 ?_
        refine e_istore_n C d_Mo_never_65 (by decide) rfl ?_
        refine e_iinc C d_Mo_never_66 rfl (by decide) rfl ?_
        refine e_goto C 26 d_Mo_never_69 (by decide) ?_
        exact ih (i + 1) _ (by omega) (by omega) (by first | exact hx | exact z_ior_r _ _) hQ
theorem K_Mo_never {σ : St} {m : Cs} {S : SS} {n k : Int} (hp : PI S n) (hm : IVm S m) (r1 : R32 k) : CtI M_Mo_never [.inr (.inr (1, 0)), .inl k] (so σ 1 m) (fun r u => r = rvNever S k ∧ ∃ m', u = so σ 1 m' ∧ IVm S m') := by
  intro g C F
  obtain ⟨l, hPl⟩ := hp.pl
  have hG := hPl.2.1
  have hM := hm.1.1
  have hn := hp.n
  rw [soMF]
  unfold rvNever at F
  refine e_iload_n C d_Mo_never_0 rfl ?_
  refine e_iconst C d_Mo_never_1 ?_
  refine e_sipush C d_Mo_never_2 (by decide) ?_
  refine e_callIS C ok_Mo_in lk_Mo_302 [_, _, _] rfl rfl (Nat.le_of_ble_eq_true rfl) (by decide) (Nat.le_of_ble_eq_true rfl) d_Mo_never_5 (k_Mo_in r1 (by omega) (by omega)) (fun v_5 u_5 q_5 h_5 => ?_)
  obtain ⟨rfl, rfl⟩ := h_5
  refine e_if_ne C 13 d_Mo_never_8 (by decide) (by split <;> omega) (fun c_8 => ?_) (fun c_8 => ?_)
  · have hv := in_t c_8
    rw [if_pos hv] at F
    refine e_aload_n C d_Mo_never_13 rfl ?_
    refine e_callVV C ok_Mo_copies lk_Mo_330 (o := 1) (by decide) rfl [] rfl rfl (Nat.le_of_ble_eq_true rfl) (by decide) (Nat.le_of_ble_eq_true rfl) d_Mo_never_14 (k_Mo_copies) (fun u_14 h_14 => ?_)
    subst h_14
    have hy := RY_cp (R := m 51) hm.2.1
    generalize r_cp (m 51) (m 50) 100 = R at hy ⊢
    refine e_aload_n C d_Mo_never_17 rfl ?_
    refine e_iload_n C d_Mo_never_18 rfl ?_
    refine e_callVV C ok_Mo_goes lk_Mo_345 (o := 1) (by decide) rfl [_] rfl rfl (Nat.le_of_ble_eq_true rfl) (by decide) (Nat.le_of_ble_eq_true rfl) d_Mo_never_19 (k_Mo_goes hPl hM hm.1.2.1 hy hp.y.1 (by omega) (by omega)) (fun u_19 h_19 => ?_)
    obtain ⟨R1, m1, hm1, hy1, rfl⟩ := h_19
    have e50 := hm1 50 (by decide) (by decide) (by decide) (by decide)
    refine e_iconst C d_Mo_never_22 ?_
    refine e_istore_n C d_Mo_never_23 (by decide) rfl ?_
    refine e_iconst C d_Mo_never_24 ?_
    refine e_istore_n C d_Mo_never_25 (by decide) rfl ?_
    exact l_Mo_never C F (hM.same hm1.mp) hG (by rw [e50]; exact hm.2.1) hy1 _ 0 0 (by omega) (by omega) (by omega) ⟨rfl, _, rfl, hm.fin hm1⟩
  · have hv := in_f c_8
    rw [if_neg hv] at F
    refine e_iconst C d_Mo_never_11 ?_
    refine e_iret C F rfl d_Mo_never_12 (by omega) ?_
    exact ⟨rfl, _, rfl, hm.fin0⟩
def rvSpread (S : SS) (k : Int) : Int := if 0 ≤ k ∧ k ≤ 2000 then spr (sP S) (mits (sF S) (sP S) k.toNat (sY S)) else -1
theorem l_Mo_spread {g : Mach} {Q : Int → St → Prop} (C : Cx M_Mo_spread g) (F : FinI M_Mo_spread g Q) {σ : St} {m P y : Cs} {R : Int → Int} {k : Int} (hM : MPl P m) (hG : 0 ≤ P 4 0 ∧ P 4 0 ≤ 12) (hy : RY R y) (h7 : ∀ j, 0 ≤ j → j < P 4 0 → 0 ≤ y 7 j ∧ y 7 j < 2000000000) :
    ∀ (n : Nat) (i a b : Int), 1 ≤ i → i + n = P 4 0 → (0 ≤ a ∧ a < 2000000000) → (0 ≤ b ∧ b < 2000000000) → Q ((itr (sps y) n i (a, b)).2 - (itr (sps y) n i (a, b)).1) (MF σ m R) → Ev g 56 [some (.inr (.inr (1, 0))), some (.inl k), some (.inl a), some (.inl b), some (.inl i)] [] (MF σ m R) := by
  have hlv := hM.1
  have he := hM.2.2.1
  intro n
  induction n with
  | zero =>
    intro i a b h0 h1 ha hb hQ
    refine e_iload C d_Mo_spread_56 rfl ?_
    refine e_aload_n C d_Mo_spread_58 rfl ?_
    refine e_geta C fl_Mo_64 (by decide) rfl rfl d_Mo_spread_59 ?_
    refine e_aload_n C d_Mo_spread_62 rfl ?_
    refine e_geti C fl_Mo_215 (by decide) rfl rfl d_Mo_spread_63 (fun r_63 => ?_)
    try simp only [MF_f, he, ne_eq, Nat.reduceEqDiff, not_false_eq_true] at r_63 ⊢
    refine e_iald (n := 2) C (by decide) rfl (by decide) rfl rfl (by decide) (by omega) (by omega) d_Mo_spread_66 (fun r_66 => ?_)
    try simp only [MF_f, he, ne_eq, Nat.reduceEqDiff, not_false_eq_true] at r_66 ⊢
    refine e_icmp_ge C 126 d_Mo_spread_67 (by decide) (by omega) (by omega) (fun c_67 => ?_) (fun c_67 => ?_)
    · refine e_iload_n C d_Mo_spread_126 rfl ?_
      refine e_iload_n C d_Mo_spread_127 rfl ?_
      refine e_isub C d_Mo_spread_128 ?_
      refine e_iret C F rfl d_Mo_spread_129 (by omega) ?_
      exact hQ
    · exact absurd h1 (by omega)
  | succ n ih =>
    intro i a b h0 h1 ha hb hQ
    have e2 := (hy.2.1 i (by omega) (by omega)).1
    have h7i := h7 i (by omega) (by omega)
    rw [itr_S] at hQ
    unfold sps at hQ
    simp only at hQ
    refine e_iload C d_Mo_spread_56 rfl ?_
    refine e_aload_n C d_Mo_spread_58 rfl ?_
    refine e_geta C fl_Mo_64 (by decide) rfl rfl d_Mo_spread_59 ?_
    refine e_aload_n C d_Mo_spread_62 rfl ?_
    refine e_geti C fl_Mo_215 (by decide) rfl rfl d_Mo_spread_63 (fun r_63 => ?_)
    try simp only [MF_f, MF_51, he, e2, ne_eq, Nat.reduceEqDiff, not_false_eq_true] at r_63 ⊢
    refine e_iald (n := 2) C (by decide) rfl (by decide) rfl rfl (by decide) (by omega) (by omega) d_Mo_spread_66 (fun r_66 => ?_)
    try simp only [MF_f, MF_51, he, e2, ne_eq, Nat.reduceEqDiff, not_false_eq_true] at r_66 ⊢
    refine e_icmp_ge C 126 d_Mo_spread_67 (by decide) (by omega) (by omega) (fun c_67 => ?_) (fun c_67 => ?_)
    · exact absurd h1 (by omega)
    · refine e_aload_n C d_Mo_spread_70 rfl ?_
      refine e_geta C fl_Mo_119 (by decide) rfl rfl d_Mo_spread_71 ?_
      refine e_bipush C d_Mo_spread_74 (by decide) ?_
      refine e_iload C d_Mo_spread_76 rfl ?_
      refine e_iadd C d_Mo_spread_78 ?_
      refine e_iald (n := 100) C (by decide) rfl (by decide) rfl rfl (by decide) (by omega) (by omega) d_Mo_spread_79 (fun r_79 => ?_)
      try simp only [MF_f, MF_51, he, e2, ne_eq, Nat.reduceEqDiff, not_false_eq_true] at r_79 ⊢
      refine e_iload_n C d_Mo_spread_80 rfl ?_
      refine e_icmp_ge C 95 d_Mo_spread_81 (by decide) (by omega) (by omega) (fun c_81 => ?_) (fun c_81 => ?_)
      · rw [show min a (y 7 i) = a by omega] at hQ
        refine e_aload_n C d_Mo_spread_95 rfl ?_
        refine e_geta C fl_Mo_119 (by decide) rfl rfl d_Mo_spread_96 ?_
        refine e_bipush C d_Mo_spread_99 (by decide) ?_
        refine e_iload C d_Mo_spread_101 rfl ?_
        refine e_iadd C d_Mo_spread_103 ?_
        refine e_iald (n := 100) C (by decide) rfl (by decide) rfl rfl (by decide) (by omega) (by omega) d_Mo_spread_104 (fun r_104 => ?_)
        try simp only [MF_f, MF_51, he, e2, ne_eq, Nat.reduceEqDiff, not_false_eq_true] at r_104 ⊢
        refine e_iload_n C d_Mo_spread_105 rfl ?_
        refine e_icmp_le C 120 d_Mo_spread_106 (by decide) (by omega) (by omega) (fun c_106 => ?_) (fun c_106 => ?_)
        · rw [show max b (y 7 i) = b by omega] at hQ
          refine e_iinc C d_Mo_spread_120 rfl (by decide) rfl ?_
          refine e_goto C 56 d_Mo_spread_123 (by decide) ?_
          exact ih (i + 1) _ _ (by omega) (by omega) (by omega) (by omega) hQ
        · rw [show max b (y 7 i) = y 7 i by omega] at hQ
          refine e_aload_n C d_Mo_spread_109 rfl ?_
          refine e_geta C fl_Mo_119 (by decide) rfl rfl d_Mo_spread_110 ?_
          refine e_bipush C d_Mo_spread_113 (by decide) ?_
          refine e_iload C d_Mo_spread_115 rfl ?_
          refine e_iadd C d_Mo_spread_117 ?_
          refine e_iald (n := 100) C (by decide) rfl (by decide) rfl rfl (by decide) (by omega) (by omega) d_Mo_spread_118 (fun r_118 => ?_)
          try simp only [MF_f, MF_51, he, e2, ne_eq, Nat.reduceEqDiff, not_false_eq_true] at r_118 ⊢
          refine e_istore_n C d_Mo_spread_119 (by decide) rfl ?_
          refine e_iinc C d_Mo_spread_120 rfl (by decide) rfl ?_
          refine e_goto C 56 d_Mo_spread_123 (by decide) ?_
          exact ih (i + 1) _ _ (by omega) (by omega) (by omega) (by omega) hQ
      · rw [show min a (y 7 i) = y 7 i by omega] at hQ
        refine e_aload_n C d_Mo_spread_84 rfl ?_
        refine e_geta C fl_Mo_119 (by decide) rfl rfl d_Mo_spread_85 ?_
        refine e_bipush C d_Mo_spread_88 (by decide) ?_
        refine e_iload C d_Mo_spread_90 rfl ?_
        refine e_iadd C d_Mo_spread_92 ?_
        refine e_iald (n := 100) C (by decide) rfl (by decide) rfl rfl (by decide) (by omega) (by omega) d_Mo_spread_93 (fun r_93 => ?_)
        try simp only [MF_f, MF_51, he, e2, ne_eq, Nat.reduceEqDiff, not_false_eq_true] at r_93 ⊢
        refine e_istore_n C d_Mo_spread_94 (by decide) rfl ?_
        refine e_aload_n C d_Mo_spread_95 rfl ?_
        refine e_geta C fl_Mo_119 (by decide) rfl rfl d_Mo_spread_96 ?_
        refine e_bipush C d_Mo_spread_99 (by decide) ?_
        refine e_iload C d_Mo_spread_101 rfl ?_
        refine e_iadd C d_Mo_spread_103 ?_
        refine e_iald (n := 100) C (by decide) rfl (by decide) rfl rfl (by decide) (by omega) (by omega) d_Mo_spread_104 (fun r_104 => ?_)
        try simp only [MF_f, MF_51, he, e2, ne_eq, Nat.reduceEqDiff, not_false_eq_true] at r_104 ⊢
        refine e_iload_n C d_Mo_spread_105 rfl ?_
        refine e_icmp_le C 120 d_Mo_spread_106 (by decide) (by omega) (by omega) (fun c_106 => ?_) (fun c_106 => ?_)
        · rw [show max b (y 7 i) = b by omega] at hQ
          refine e_iinc C d_Mo_spread_120 rfl (by decide) rfl ?_
          refine e_goto C 56 d_Mo_spread_123 (by decide) ?_
          exact ih (i + 1) _ _ (by omega) (by omega) (by omega) (by omega) hQ
        · rw [show max b (y 7 i) = y 7 i by omega] at hQ
          refine e_aload_n C d_Mo_spread_109 rfl ?_
          refine e_geta C fl_Mo_119 (by decide) rfl rfl d_Mo_spread_110 ?_
          refine e_bipush C d_Mo_spread_113 (by decide) ?_
          refine e_iload C d_Mo_spread_115 rfl ?_
          refine e_iadd C d_Mo_spread_117 ?_
          refine e_iald (n := 100) C (by decide) rfl (by decide) rfl rfl (by decide) (by omega) (by omega) d_Mo_spread_118 (fun r_118 => ?_)
          try simp only [MF_f, MF_51, he, e2, ne_eq, Nat.reduceEqDiff, not_false_eq_true] at r_118 ⊢
          refine e_istore_n C d_Mo_spread_119 (by decide) rfl ?_
          refine e_iinc C d_Mo_spread_120 rfl (by decide) rfl ?_
          refine e_goto C 56 d_Mo_spread_123 (by decide) ?_
          exact ih (i + 1) _ _ (by omega) (by omega) (by omega) (by omega) hQ
theorem K_Mo_spread {σ : St} {m : Cs} {S : SS} {n k : Int} (hp : PI S n) (hm : IVm S m) (r1 : R32 k) : CtI M_Mo_spread [.inr (.inr (1, 0)), .inl k] (so σ 1 m) (fun r u => r = rvSpread S k ∧ ∃ m', u = so σ 1 m' ∧ IVm S m') := by
  intro g C F
  obtain ⟨l, hPl⟩ := hp.pl
  have hG := hPl.2.1
  have hM := hm.1.1
  have hlv := hM.1
  have he := hM.2.2.1
  have hn := hp.n
  rw [soMF]
  unfold rvSpread spr at F
  refine e_iload_n C d_Mo_spread_0 rfl ?_
  refine e_iconst C d_Mo_spread_1 ?_
  refine e_sipush C d_Mo_spread_2 (by decide) ?_
  refine e_callIS C ok_Mo_in lk_Mo_302 [_, _, _] rfl rfl (Nat.le_of_ble_eq_true rfl) (by decide) (Nat.le_of_ble_eq_true rfl) d_Mo_spread_5 (k_Mo_in r1 (by omega) (by omega)) (fun v_5 u_5 q_5 h_5 => ?_)
  obtain ⟨rfl, rfl⟩ := h_5
  refine e_if_ne C 13 d_Mo_spread_8 (by decide) (by split <;> omega) (fun c_8 => ?_) (fun c_8 => ?_)
  · have hv := in_t c_8
    rw [if_pos hv] at F
    refine e_aload_n C d_Mo_spread_13 rfl ?_
    refine e_geta C fl_Mo_64 (by decide) rfl rfl d_Mo_spread_14 ?_
    refine e_aload_n C d_Mo_spread_17 rfl ?_
    refine e_geti C fl_Mo_215 (by decide) rfl rfl d_Mo_spread_18 (fun r_18 => ?_)
    try simp only [MF_f, MF_51, he, ne_eq, Nat.reduceEqDiff, not_false_eq_true] at r_18 ⊢
    refine e_iald (n := 2) C (by decide) rfl (by decide) rfl rfl (by decide) (by omega) (by omega) d_Mo_spread_21 (fun r_21 => ?_)
    try simp only [MF_f, MF_51, he, ne_eq, Nat.reduceEqDiff, not_false_eq_true] at r_21 ⊢
    refine e_if_ne C 28 d_Mo_spread_22 (by decide) (by omega) (fun c_22 => ?_) (fun c_22 => ?_)
    · rw [if_neg c_22] at F
      refine e_aload_n C d_Mo_spread_28 rfl ?_
      refine e_callVV C ok_Mo_copies lk_Mo_330 (o := 1) (by decide) rfl [] rfl rfl (Nat.le_of_ble_eq_true rfl) (by decide) (Nat.le_of_ble_eq_true rfl) d_Mo_spread_29 (k_Mo_copies) (fun u_29 h_29 => ?_)
      subst h_29
      have hy := RY_cp (R := m 51) hm.2.1
      generalize r_cp (m 51) (m 50) 100 = R at hy ⊢
      refine e_aload_n C d_Mo_spread_32 rfl ?_
      refine e_iload_n C d_Mo_spread_33 rfl ?_
      refine e_callVV C ok_Mo_goes lk_Mo_345 (o := 1) (by decide) rfl [_] rfl rfl (Nat.le_of_ble_eq_true rfl) (by decide) (Nat.le_of_ble_eq_true rfl) d_Mo_spread_34 (k_Mo_goes hPl hM hm.1.2.1 hy hp.y.1 (by omega) (by omega)) (fun u_34 h_34 => ?_)
      obtain ⟨R1, m1, hm1, hy1, rfl⟩ := h_34
      have hQ1 := QY_its hPl k.toNat _ _ hp.y.1 (by omega)
      have h7 : ∀ j, 0 ≤ j → j < sP S 4 0 → 0 ≤ mits (sF S) (sP S) k.toNat (sY S) 7 j ∧ mits (sF S) (sP S) k.toNat (sY S) 7 j < 2000000000 := fun j a b => by
        have u1 := (hQ1.guard hG.2 ⟨a, b⟩).1
        have u2 := hp.y.2.2.1 j a b
        have u3 := (its_7 hPl k.toNat _ _ hp.y.1 (by omega) j a b).1
        omega
      have e48 := (hy1.2.1 0 (by omega) (by omega)).1
      rw [Int.add_zero] at e48
      have h70 := h7 0 (by omega) (by omega)
      refine e_aload_n C d_Mo_spread_37 rfl ?_
      refine e_geta C fl_Mo_119 (by decide) rfl rfl d_Mo_spread_38 ?_
      refine e_bipush C d_Mo_spread_41 (by decide) ?_
      refine e_iald (n := 100) C (by decide) rfl (by decide) rfl rfl (by decide) (by omega) (by omega) d_Mo_spread_43 (fun r_43 => ?_)
      try simp only [MF_f, MF_51, he, ne_eq, Nat.reduceEqDiff, not_false_eq_true] at r_43 ⊢
      rw [e48] at r_43 ⊢
      refine e_istore_n C d_Mo_spread_44 (by decide) rfl ?_
      refine e_aload_n C d_Mo_spread_45 rfl ?_
      refine e_geta C fl_Mo_119 (by decide) rfl rfl d_Mo_spread_46 ?_
      refine e_bipush C d_Mo_spread_49 (by decide) ?_
      refine e_iald (n := 100) C (by decide) rfl (by decide) rfl rfl (by decide) (by omega) (by omega) d_Mo_spread_51 (fun r_51 => ?_)
      try simp only [MF_f, MF_51, he, ne_eq, Nat.reduceEqDiff, not_false_eq_true] at r_51 ⊢
      rw [e48] at r_51 ⊢
      refine e_istore_n C d_Mo_spread_52 (by decide) rfl ?_
      refine e_iconst C d_Mo_spread_53 ?_
      refine e_istore C d_Mo_spread_54 (by decide) rfl ?_
      exact l_Mo_spread C F (hM.same hm1.mp) hG hy1 h7 _ 1 _ _ (by omega) (by omega) h70 h70 ⟨rfl, _, rfl, hm.fin hm1⟩
    · rw [if_pos c_22] at F
      refine e_bipush C d_Mo_spread_25 (by decide) ?_
      refine e_iret C F rfl d_Mo_spread_27 (by omega) ?_
      exact ⟨rfl, _, rfl, hm.fin0⟩
  · have hv := in_f c_8
    rw [if_neg hv] at F
    refine e_iconst C d_Mo_spread_11 ?_
    refine e_iret C F rfl d_Mo_spread_12 (by omega) ?_
    exact ⟨rfl, _, rfl, hm.fin0⟩
def rvWorst (S : SS) (k w : Int) : Int := if (1 ≤ k ∧ k ≤ 1000) ∧ 0 ≤ w ∧ w ≤ 1 then (if w = 0 then (wW (sF S) (sP S) (sY S) k.toNat).1 else (wW (sF S) (sP S) (sY S) k.toNat).2) else -1
theorem QY_exch {P y : Cs} {B p : Int} (h : QY P B y) (hN : P 3 0 ≤ 8) (hp : 0 ≤ p ∧ p < P 3 0) : QY P B (c_exchange y p) := by
  obtain ⟨c, hS, hK⟩ := h
  exact ⟨c_exchange c p, exch_sim hS hp, CK_exch hK (by omega)⟩
theorem wst_a {φ : Phi} {P y : Cs} {n : Nat} {p : Int} {b : Int × Int} (h : b.1 ≠ -2 ∧ b.2 ≤ c_slepts P (mits φ P n (c_exchange y p))) : wst φ P y n p b = b := by unfold wst; rw [if_pos h]
theorem wst_b {φ : Phi} {P y : Cs} {n : Nat} {p : Int} {b : Int × Int} (h : ¬ (b.1 ≠ -2 ∧ b.2 ≤ c_slepts P (mits φ P n (c_exchange y p)))) : wst φ P y n p b = (p, c_slepts P (mits φ P n (c_exchange y p))) := by unfold wst; rw [if_neg h]
theorem l_Mo_shakeWorst {g : Mach} {Q : Int → St → Prop} (C : Cx M_Mo_shakeWorst g) (F : FinI M_Mo_shakeWorst g Q) {σ : St} {m P l y : Cs} {φ : Phi} {k w B : Int} (hPl : PlanOk P l φ) (hM : MPl P m) (hF : FlowC φ P m) (hk : 1 ≤ k ∧ k ≤ 1000) (hw : 0 ≤ w ∧ w ≤ 1) (hmy : RY (m 50) y) (hQy : QY P B y) (hB : 0 ≤ B ∧ B < 1800000000) :
    ∀ (n : Nat) (i b1 b2 : Int) (m' : Cs) (R : Int → Int), MS m m' → 0 ≤ i → i + n = P 3 0 → (b1 = -2 ∨ (0 ≤ b1 ∧ b1 < 8)) → (-2 ≤ b2 ∧ b2 ≤ 12) → (∀ R' m'', MS m m'' → Q (if w = 0 then (itr (wst φ P y k.toNat) n i (b1, b2)).1 else (itr (wst φ P y k.toNat) n i (b1, b2)).2) (MF σ m'' R')) → Ev g 32 [some (.inr (.inr (1, 0))), some (.inl k), some (.inl w), some (.inl b1), some (.inl b2), some (.inl i), none] [] (MF σ m' R) := by
  have hN := hPl.1
  have hG := hPl.2.1
  intro n
  induction n with
  | zero =>
    intro i b1 b2 m' R hm h0 h1 hb hb2 hQ
    have hM' := hM.same hm.mp
    have hlv := hM'.1
    have he := hM'.2.1
    refine e_iload C d_Mo_shakeWorst_32 rfl ?_
    refine e_aload_n C d_Mo_shakeWorst_34 rfl ?_
    refine e_geta C fl_Mo_49 (by decide) rfl rfl d_Mo_shakeWorst_35 ?_
    refine e_aload_n C d_Mo_shakeWorst_38 rfl ?_
    refine e_geti C fl_Mo_215 (by decide) rfl rfl d_Mo_shakeWorst_39 (fun r_39 => ?_)
    try simp only [MF_f, he, ne_eq, Nat.reduceEqDiff, not_false_eq_true] at r_39 ⊢
    refine e_iald (n := 2) C (by decide) rfl (by decide) rfl rfl (by decide) (by omega) (by omega) d_Mo_shakeWorst_42 (fun r_42 => ?_)
    try simp only [MF_f, he, ne_eq, Nat.reduceEqDiff, not_false_eq_true] at r_42 ⊢
    refine e_icmp_ge C 94 d_Mo_shakeWorst_43 (by decide) (by omega) (by omega) (fun c_43 => ?_) (fun c_43 => ?_)
    · refine e_iload_n C d_Mo_shakeWorst_94 rfl ?_
      refine e_if_ne C 102 d_Mo_shakeWorst_95 (by decide) (by omega) (fun c_95 => ?_) (fun c_95 => ?_)
      · have hq := hQ R m' hm
        rw [if_neg c_95] at hq
        refine e_iload C d_Mo_shakeWorst_102 rfl ?_
        refine e_iret C F rfl d_Mo_shakeWorst_104 (by omega) ?_
        exact hq
      · have hq := hQ R m' hm
        rw [if_pos c_95] at hq
        refine e_iload_n C d_Mo_shakeWorst_98 rfl ?_
        refine e_goto C 104 d_Mo_shakeWorst_99 (by decide) ?_
        refine e_iret C F rfl d_Mo_shakeWorst_104 (by omega) ?_
        exact hq
    · exact absurd h1 (by omega)
  | succ n ih =>
    intro i b1 b2 m' R hm h0 h1 hb hb2 hQ
    have hM' := hM.same hm.mp
    have hlv := hM'.1
    have he := hM'.2.1
    have e50 := hm 50 (by decide) (by decide) (by decide) (by decide)
    rw [itr_S] at hQ
    have hsi := slepts_in (P := P) (c := mits φ P k.toNat (c_exchange y i)) hG.1
    refine e_iload C d_Mo_shakeWorst_32 rfl ?_
    refine e_aload_n C d_Mo_shakeWorst_34 rfl ?_
    refine e_geta C fl_Mo_49 (by decide) rfl rfl d_Mo_shakeWorst_35 ?_
    refine e_aload_n C d_Mo_shakeWorst_38 rfl ?_
    refine e_geti C fl_Mo_215 (by decide) rfl rfl d_Mo_shakeWorst_39 (fun r_39 => ?_)
    try simp only [MF_f, he, ne_eq, Nat.reduceEqDiff, not_false_eq_true] at r_39 ⊢
    refine e_iald (n := 2) C (by decide) rfl (by decide) rfl rfl (by decide) (by omega) (by omega) d_Mo_shakeWorst_42 (fun r_42 => ?_)
    try simp only [MF_f, he, ne_eq, Nat.reduceEqDiff, not_false_eq_true] at r_42 ⊢
    refine e_icmp_ge C 94 d_Mo_shakeWorst_43 (by decide) (by omega) (by omega) (fun c_43 => ?_) (fun c_43 => ?_)
    · exact absurd h1 (by omega)
    · refine e_aload_n C d_Mo_shakeWorst_46 rfl ?_
      refine e_callVV C ok_Mo_copies lk_Mo_330 (o := 1) (by decide) rfl [] rfl rfl (Nat.le_of_ble_eq_true rfl) (by decide) (Nat.le_of_ble_eq_true rfl) d_Mo_shakeWorst_47 (k_Mo_copies) (fun u_47 h_47 => ?_)
      subst h_47
      have hy := RY_cp (R := R) hmy
      rw [← e50] at hy
      generalize r_cp R (m' 50) 100 = R1 at hy ⊢
      refine e_aload_n C d_Mo_shakeWorst_50 rfl ?_
      refine e_iload C d_Mo_shakeWorst_51 rfl ?_
      refine e_callVV C ok_Mo_turns lk_Mo_351 (o := 1) (by decide) rfl [_] rfl rfl (Nat.le_of_ble_eq_true rfl) (by decide) (Nat.le_of_ble_eq_true rfl) d_Mo_shakeWorst_53 (k_Mo_turns (by omega)) (fun u_53 h_53 => ?_)
      subst h_53
      have hy1 := RY_turn hy (p := i) (by omega)
      refine e_aload_n C d_Mo_shakeWorst_56 rfl ?_
      refine e_iload_n C d_Mo_shakeWorst_57 rfl ?_
      refine e_callVV C ok_Mo_goes lk_Mo_345 (o := 1) (by decide) rfl [_] rfl rfl (Nat.le_of_ble_eq_true rfl) (by decide) (Nat.le_of_ble_eq_true rfl) d_Mo_shakeWorst_58 (k_Mo_goes hPl hM' (hF.same hm.mp) hy1 (QY_exch hQy hN.2 (by omega)) hB (by omega)) (fun u_58 h_58 => ?_)
      obtain ⟨R2, m2, hm2, hy2, rfl⟩ := h_58
      refine e_aload_n C d_Mo_shakeWorst_61 rfl ?_
      refine e_callIV C ok_Mo_sleptOnes lk_Mo_354 (o := 1) (by decide) rfl [] rfl rfl (Nat.le_of_ble_eq_true rfl) (by decide) (Nat.le_of_ble_eq_true rfl) d_Mo_shakeWorst_62 (k_Mo_sleptOnes (hM'.same hm2.mp) hG hy2) (fun v_62 u_62 q_62 h_62 => ?_)
      obtain ⟨rfl, rfl⟩ := h_62
      refine e_istore C d_Mo_shakeWorst_65 (by decide) rfl ?_
      refine e_iload_n C d_Mo_shakeWorst_67 rfl ?_
      refine e_if_lt C 81 d_Mo_shakeWorst_68 (by decide) (by omega) (fun c_68 => ?_) (fun c_68 => ?_)
      · rw [wst_b (show ¬ (b1 ≠ -2 ∧ b2 ≤ _) by omega)] at hQ
        refine e_iload C d_Mo_shakeWorst_81 rfl ?_
        refine e_istore_n C d_Mo_shakeWorst_83 (by decide) rfl ?_
        refine e_iload C d_Mo_shakeWorst_84 rfl ?_
        refine e_istore C d_Mo_shakeWorst_86 (by decide) rfl ?_
        refine e_iinc C d_Mo_shakeWorst_88 rfl (by decide) rfl ?_
        refine e_goto C 32 d_Mo_shakeWorst_91 (by decide) ?_
        exact e_drop 6 (ih (i + 1) _ _ m2 _ (hm.tr hm2) (by omega) (by omega) (by omega) (by omega) hQ)
      · refine e_iload C d_Mo_shakeWorst_71 rfl ?_
        refine e_iload C d_Mo_shakeWorst_73 rfl ?_
        refine e_icmp_lt C 81 d_Mo_shakeWorst_75 (by decide) (by omega) (by omega) (fun c_75 => ?_) (fun c_75 => ?_)
        · rw [wst_b (show ¬ (b1 ≠ -2 ∧ b2 ≤ _) by omega)] at hQ
          refine e_iload C d_Mo_shakeWorst_81 rfl ?_
          refine e_istore_n C d_Mo_shakeWorst_83 (by decide) rfl ?_
          refine e_iload C d_Mo_shakeWorst_84 rfl ?_
          refine e_istore C d_Mo_shakeWorst_86 (by decide) rfl ?_
          refine e_iinc C d_Mo_shakeWorst_88 rfl (by decide) rfl ?_
          refine e_goto C 32 d_Mo_shakeWorst_91 (by decide) ?_
          exact e_drop 6 (ih (i + 1) _ _ m2 _ (hm.tr hm2) (by omega) (by omega) (by omega) (by omega) hQ)
        · rw [wst_a (show b1 ≠ -2 ∧ b2 ≤ _ by omega)] at hQ
          refine e_goto C 88 d_Mo_shakeWorst_78 (by decide) ?_
          refine e_iinc C d_Mo_shakeWorst_88 rfl (by decide) rfl ?_
          refine e_goto C 32 d_Mo_shakeWorst_91 (by decide) ?_
          exact e_drop 6 (ih (i + 1) _ _ m2 _ (hm.tr hm2) (by omega) (by omega) (by omega) (by omega) hQ)
theorem K_Mo_shakeWorst {σ : St} {m : Cs} {S : SS} {n k w : Int} (hp : PI S n) (hm : IVm S m) (r1 : R32 k) (r2 : R32 w) : CtI M_Mo_shakeWorst [.inr (.inr (1, 0)), .inl k, .inl w] (so σ 1 m) (fun r u => r = rvWorst S k w ∧ ∃ m', u = so σ 1 m' ∧ IVm S m') := by
  intro g C F
  obtain ⟨l, hPl⟩ := hp.pl
  have hN := hPl.1
  have hM := hm.1.1
  have hn := hp.n
  have hno : ¬ ((1 ≤ k ∧ k ≤ 1000) ∧ 0 ≤ w ∧ w ≤ 1) → ∀ R, -1 = rvWorst S k w ∧ ∃ m', MF σ m R = so σ 1 m' ∧ IVm S m' := by
    intro z R
    unfold rvWorst
    rw [if_neg z]
    exact ⟨rfl, _, rfl, hm.fin0⟩
  rw [soMF]
  refine e_iload_n C d_Mo_shakeWorst_0 rfl ?_
  refine e_iconst C d_Mo_shakeWorst_1 ?_
  refine e_sipush C d_Mo_shakeWorst_2 (by decide) ?_
  refine e_callIS C ok_Mo_in lk_Mo_302 [_, _, _] rfl rfl (Nat.le_of_ble_eq_true rfl) (by decide) (Nat.le_of_ble_eq_true rfl) d_Mo_shakeWorst_5 (k_Mo_in r1 (by omega) (by omega)) (fun v_5 u_5 q_5 h_5 => ?_)
  obtain ⟨rfl, rfl⟩ := h_5
  refine e_if_eq C 20 d_Mo_shakeWorst_8 (by decide) (by split <;> omega) (fun c_8 => ?_) (fun c_8 => ?_)
  · have hv0 : ¬ ((1 ≤ k ∧ k ≤ 1000) ∧ 0 ≤ w ∧ w ≤ 1) := fun z => in_f c_8 z.1
    refine e_iconst C d_Mo_shakeWorst_20 ?_
    refine e_iret C F rfl d_Mo_shakeWorst_21 (by omega) ?_
    exact hno hv0 _
  · have hv := in_t c_8
    refine e_iload_n C d_Mo_shakeWorst_11 rfl ?_
    refine e_iconst C d_Mo_shakeWorst_12 ?_
    refine e_iconst C d_Mo_shakeWorst_13 ?_
    refine e_callIS C ok_Mo_in lk_Mo_302 [_, _, _] rfl rfl (Nat.le_of_ble_eq_true rfl) (by decide) (Nat.le_of_ble_eq_true rfl) d_Mo_shakeWorst_14 (k_Mo_in r2 (by omega) (by omega)) (fun v_14 u_14 q_14 h_14 => ?_)
    obtain ⟨rfl, rfl⟩ := h_14
    refine e_if_ne C 22 d_Mo_shakeWorst_17 (by decide) (by split <;> omega) (fun c_17 => ?_) (fun c_17 => ?_)
    · have hv2 := in_t c_17
      unfold rvWorst wW at F
      rw [if_pos ⟨hv, hv2⟩] at F
      refine e_bipush C d_Mo_shakeWorst_22 (by decide) ?_
      refine e_istore_n C d_Mo_shakeWorst_24 (by decide) rfl ?_
      refine e_bipush C d_Mo_shakeWorst_25 (by decide) ?_
      refine e_istore C d_Mo_shakeWorst_27 (by decide) rfl ?_
      refine e_iconst C d_Mo_shakeWorst_29 ?_
      refine e_istore C d_Mo_shakeWorst_30 (by decide) rfl ?_
      exact l_Mo_shakeWorst C F hPl hM hm.1.2.1 hv hv2 hm.2.1 hp.y.1 (by omega) _ 0 _ _ m _ (MS.rf m) (by omega) (by omega) (by omega) (by omega) (fun R' m' h => ⟨rfl, _, rfl, hm.fin h⟩)
    · have hv0 : ¬ ((1 ≤ k ∧ k ≤ 1000) ∧ 0 ≤ w ∧ w ≤ 1) := fun z => in_f c_17 z.2
      refine e_iconst C d_Mo_shakeWorst_20 ?_
      refine e_iret C F rfl d_Mo_shakeWorst_21 (by omega) ?_
      exact hno hv0 _
def lgs (P y : Cs) (k b : Int) : Int := if psf P y k ≠ -2 ∧ (b = -2 ∨ y 8 b < y 8 k) then k else b
def lgb (P y : Cs) : Int := itr (lgs P y) (P 4 0).toNat 0 (-2)
def rvLong (S : SS) (w : Int) : Int := if 0 ≤ w ∧ w ≤ 1 then (if w = 0 ∨ lgb (sP S) (sY S) = -2 then lgb (sP S) (sY S) else mbd (sF S) (sP S) (lgb (sP S) (sY S)) (sY S 9 (lgb (sP S) (sY S))) 2000 0 (sY S)) else -1
theorem l_Mo_longest2 {g : Mach} {Q : Int → St → Prop} (C : Cx M_Mo_longest g) (F : FinI M_Mo_longest g Q) {σ : St} {m P l : Cs} {φ : Phi} {w a b : Int} (hPl : PlanOk P l φ) (hM : MPl P m) (hF : FlowC φ P m) (ha : 0 ≤ a ∧ a < P 4 0) (hb : R32 b) :
    ∀ (n : Nat) (i B : Int) (m' y : Cs) (R : Int → Int), MS m m' → RY R y → QY P B y → 0 ≤ B → B + 9 * n < 1900000000 → 0 ≤ i → i + n = 2000 → y 9 a = b → (∀ R' m'', MS m m'' → Q (mbd φ P a b n i y) (MF σ m'' R')) → Ev g 97 [some (.inr (.inr (1, 0))), some (.inl w), some (.inl a), some (.inl b), some (.inl (i + 1))] [] (MF σ m' R) := by
  have hG := hPl.2.1
  intro n
  induction n with
  | zero =>
    intro i B m' y R hm hy hQy hB hbb h0 h1 h9 hQ
    refine e_iload C d_Mo_longest_97 rfl ?_
    refine e_sipush C d_Mo_longest_99 (by decide) ?_
    refine e_icmp_gt C 131 d_Mo_longest_102 (by decide) (by omega) (by omega) (fun c_102 => ?_) (fun c_102 => ?_)
    · refine e_bipush C d_Mo_longest_131 (by decide) ?_
      refine e_iret C F rfl d_Mo_longest_133 (by omega) ?_
      exact hQ R m' hm
    · exact absurd h1 (by omega)
  | succ n ih =>
    intro i B m' y R hm hy hQy hB hbb h0 h1 h9 hQ
    have hM' := hM.same hm.mp
    have h9m := min_9 (φ := φ) (P := P) (y := y) a
    rw [mbd_S] at hQ
    refine e_iload C d_Mo_longest_97 rfl ?_
    refine e_sipush C d_Mo_longest_99 (by decide) ?_
    refine e_icmp_gt C 131 d_Mo_longest_102 (by decide) (by omega) (by omega) (fun c_102 => ?_) (fun c_102 => ?_)
    · exact absurd h1 (by omega)
    · refine e_aload_n C d_Mo_longest_105 rfl ?_
      refine e_callVV C ok_Mo_minuteGoes lk_Mo_342 (o := 1) (by decide) rfl [] rfl rfl (Nat.le_of_ble_eq_true rfl) (by decide) (Nat.le_of_ble_eq_true rfl) d_Mo_longest_106 (k_Mo_minuteGoes hPl hM' (hF.same hm.mp) hy hQy (by omega)) (fun u_106 h_106 => ?_)
      obtain ⟨R2, m2, hm2, hy2, rfl⟩ := h_106
      have hya := (hy2.2.1 a ha.1 (by omega)).2.2.1
      refine e_aload_n C d_Mo_longest_109 rfl ?_
      refine e_geta C fl_Mo_119 (by decide) rfl rfl d_Mo_longest_110 ?_
      refine e_bipush C d_Mo_longest_113 (by decide) ?_
      refine e_iload_n C d_Mo_longest_115 rfl ?_
      refine e_iadd C d_Mo_longest_116 ?_
      refine e_iald (n := 100) C (by decide) rfl (by decide) rfl rfl (by decide) (by omega) (by omega) d_Mo_longest_117 (fun r_117 => ?_)
      try simp only [MF_51] at r_117 ⊢
      rw [hya] at r_117 ⊢
      refine e_iload_n C d_Mo_longest_118 rfl ?_
      refine e_icmp_le C 125 d_Mo_longest_119 (by decide) (by omega) (by omega) (fun c_119 => ?_) (fun c_119 => ?_)
      · rw [if_pos (by omega)] at hQ
        refine e_iinc C d_Mo_longest_125 rfl (by decide) rfl ?_
        refine e_goto C 97 d_Mo_longest_128 (by decide) ?_
        exact ih (i + 1) (B + 9) m2 _ R2 (hm.tr hm2) hy2 (QY_min hQy hB hPl) (by omega) (by omega) (by omega) (by omega) (by omega) hQ
      · rw [if_neg (by omega)] at hQ
        refine e_iload C d_Mo_longest_122 rfl ?_
        refine e_iret C F rfl d_Mo_longest_124 (by omega) ?_
        exact hQ R2 m2 (hm.tr hm2)
theorem l_Mo_longest1 {g : Mach} (C : Cx M_Mo_longest g) {σ : St} {m P y : Cs} {R : Int → Int} {w : Int} (hM : MPl P m) (hN : 0 ≤ P 3 0 ∧ P 3 0 ≤ 8) (hG : 0 ≤ P 4 0 ∧ P 4 0 ≤ 12) (hy : RY R y) :
    ∀ (n : Nat) (i b : Int), 0 ≤ i → i + n = P 4 0 → (b = -2 ∨ (0 ≤ b ∧ b < P 4 0)) → ((itr (lgs P y) n i b = -2 ∨ (0 ≤ itr (lgs P y) n i b ∧ itr (lgs P y) n i b < P 4 0)) → Ev g 74 [some (.inr (.inr (1, 0))), some (.inl w), some (.inl (itr (lgs P y) n i b)), none, none] [] (MF σ m R)) → Ev g 20 [some (.inr (.inr (1, 0))), some (.inl w), some (.inl b), some (.inl i), none] [] (MF σ m R) := by
  have hlv := hM.1
  have he := hM.2.2.1
  intro n
  induction n with
  | zero =>
    intro i b h0 h1 hb hQ
    refine e_iload_n C d_Mo_longest_20 rfl ?_
    refine e_aload_n C d_Mo_longest_21 rfl ?_
    refine e_geta C fl_Mo_64 (by decide) rfl rfl d_Mo_longest_22 ?_
    refine e_aload_n C d_Mo_longest_25 rfl ?_
    refine e_geti C fl_Mo_215 (by decide) rfl rfl d_Mo_longest_26 (fun r_26 => ?_)
    try simp only [MF_f, he, ne_eq, Nat.reduceEqDiff, not_false_eq_true] at r_26 ⊢
    refine e_iald (n := 2) C (by decide) rfl (by decide) rfl rfl (by decide) (by omega) (by omega) d_Mo_longest_29 (fun r_29 => ?_)
    try simp only [MF_f, he, ne_eq, Nat.reduceEqDiff, not_false_eq_true] at r_29 ⊢
    refine e_icmp_ge C 74 d_Mo_longest_30 (by decide) (by omega) (by omega) (fun c_30 => ?_) (fun c_30 => ?_)
    · exact e_drop 3 (hQ hb)
    · exact absurd h1 (by omega)
  | succ n ih =>
    intro i b h0 h1 hb hQ
    have e2 := (hy.2.1 i (by omega) (by omega)).2.1
    have hpr := psf_r (P := P) (y := y) (a := i) hN
    rw [itr_S] at hQ
    unfold lgs at hQ
    refine e_iload_n C d_Mo_longest_20 rfl ?_
    refine e_aload_n C d_Mo_longest_21 rfl ?_
    refine e_geta C fl_Mo_64 (by decide) rfl rfl d_Mo_longest_22 ?_
    refine e_aload_n C d_Mo_longest_25 rfl ?_
    refine e_geti C fl_Mo_215 (by decide) rfl rfl d_Mo_longest_26 (fun r_26 => ?_)
    try simp only [MF_f, MF_51, he, ne_eq, Nat.reduceEqDiff, not_false_eq_true] at r_26 ⊢
    refine e_iald (n := 2) C (by decide) rfl (by decide) rfl rfl (by decide) (by omega) (by omega) d_Mo_longest_29 (fun r_29 => ?_)
    try simp only [MF_f, MF_51, he, ne_eq, Nat.reduceEqDiff, not_false_eq_true] at r_29 ⊢
    refine e_icmp_ge C 74 d_Mo_longest_30 (by decide) (by omega) (by omega) (fun c_30 => ?_) (fun c_30 => ?_)
    · exact absurd h1 (by omega)
    · refine e_aload_n C d_Mo_longest_33 rfl ?_
      refine e_iload_n C d_Mo_longest_34 rfl ?_
      refine e_callIV C ok_Mo_postOf lk_Mo_336 (o := 1) (by decide) rfl [_] rfl rfl (Nat.le_of_ble_eq_true rfl) (by decide) (Nat.le_of_ble_eq_true rfl) d_Mo_longest_35 (k_Mo_postOf hM hN hy (by omega)) (fun v_35 u_35 q_35 h_35 => ?_)
      obtain ⟨rfl, rfl⟩ := h_35
      refine e_if_lt C 68 d_Mo_longest_38 (by decide) (by omega) (fun c_38 => ?_) (fun c_38 => ?_)
      · rw [if_neg (by omega)] at hQ
        refine e_iinc C d_Mo_longest_68 rfl (by decide) rfl ?_
        refine e_goto C 20 d_Mo_longest_71 (by decide) ?_
        exact ih (i + 1) _ (by omega) (by omega) (by omega) hQ
      · refine e_iload_n C d_Mo_longest_41 rfl ?_
        refine e_if_lt C 66 d_Mo_longest_42 (by decide) (by omega) (fun c_42 => ?_) (fun c_42 => ?_)
        · rw [if_pos (by omega)] at hQ
          refine e_iload_n C d_Mo_longest_66 rfl ?_
          refine e_istore_n C d_Mo_longest_67 (by decide) rfl ?_
          refine e_iinc C d_Mo_longest_68 rfl (by decide) rfl ?_
          refine e_goto C 20 d_Mo_longest_71 (by decide) ?_
          exact ih (i + 1) _ (by omega) (by omega) (by omega) hQ
        · refine e_aload_n C d_Mo_longest_45 rfl ?_
          refine e_geta C fl_Mo_119 (by decide) rfl rfl d_Mo_longest_46 ?_
          refine e_bipush C d_Mo_longest_49 (by decide) ?_
          refine e_iload_n C d_Mo_longest_51 rfl ?_
          refine e_iadd C d_Mo_longest_52 ?_
          refine e_iald (n := 100) C (by decide) rfl (by decide) rfl rfl (by decide) (by omega) (by omega) d_Mo_longest_53 (fun r_53 => ?_)
          try simp only [MF_f, MF_51, he, ne_eq, Nat.reduceEqDiff, not_false_eq_true] at r_53 ⊢
          rw [e2] at r_53 ⊢
          refine e_aload_n C d_Mo_longest_54 rfl ?_
          refine e_geta C fl_Mo_119 (by decide) rfl rfl d_Mo_longest_55 ?_
          refine e_bipush C d_Mo_longest_58 (by decide) ?_
          refine e_iload_n C d_Mo_longest_60 rfl ?_
          refine e_iadd C d_Mo_longest_61 ?_
          refine e_iald (n := 100) C (by decide) rfl (by decide) rfl rfl (by decide) (by omega) (by omega) d_Mo_longest_62 (fun r_62 => ?_)
          try simp only [MF_f, MF_51, he, ne_eq, Nat.reduceEqDiff, not_false_eq_true] at r_62 ⊢
          rw [(hy.2.1 b (by omega) (by omega)).2.1] at r_62 ⊢
          refine e_icmp_le C 68 d_Mo_longest_63 (by decide) (by omega) (by omega) (fun c_63 => ?_) (fun c_63 => ?_)
          · rw [if_neg (by omega)] at hQ
            refine e_iinc C d_Mo_longest_68 rfl (by decide) rfl ?_
            refine e_goto C 20 d_Mo_longest_71 (by decide) ?_
            exact ih (i + 1) _ (by omega) (by omega) (by omega) hQ
          · rw [if_pos (by omega)] at hQ
            refine e_iload_n C d_Mo_longest_66 rfl ?_
            refine e_istore_n C d_Mo_longest_67 (by decide) rfl ?_
            refine e_iinc C d_Mo_longest_68 rfl (by decide) rfl ?_
            refine e_goto C 20 d_Mo_longest_71 (by decide) ?_
            exact ih (i + 1) _ (by omega) (by omega) (by omega) hQ
theorem K_Mo_longest {σ : St} {m : Cs} {S : SS} {n w : Int} (hp : PI S n) (hm : IVm S m) (r1 : R32 w) : CtI M_Mo_longest [.inr (.inr (1, 0)), .inl w] (so σ 1 m) (fun r u => r = rvLong S w ∧ ∃ m', u = so σ 1 m' ∧ IVm S m') := by
  intro g C F
  obtain ⟨l, hPl⟩ := hp.pl
  have hN := hPl.1
  have hG := hPl.2.1
  have hM := hm.1.1
  have hn := hp.n
  rw [soMF]
  unfold rvLong at F
  refine e_iload_n C d_Mo_longest_0 rfl ?_
  refine e_iconst C d_Mo_longest_1 ?_
  refine e_iconst C d_Mo_longest_2 ?_
  refine e_callIS C ok_Mo_in lk_Mo_302 [_, _, _] rfl rfl (Nat.le_of_ble_eq_true rfl) (by decide) (Nat.le_of_ble_eq_true rfl) d_Mo_longest_3 (k_Mo_in r1 (by omega) (by omega)) (fun v_3 u_3 q_3 h_3 => ?_)
  obtain ⟨rfl, rfl⟩ := h_3
  refine e_if_ne C 11 d_Mo_longest_6 (by decide) (by split <;> omega) (fun c_6 => ?_) (fun c_6 => ?_)
  · have hv := in_t c_6
    rw [if_pos hv] at F
    refine e_aload_n C d_Mo_longest_11 rfl ?_
    refine e_callVV C ok_Mo_copies lk_Mo_330 (o := 1) (by decide) rfl [] rfl rfl (Nat.le_of_ble_eq_true rfl) (by decide) (Nat.le_of_ble_eq_true rfl) d_Mo_longest_12 (k_Mo_copies) (fun u_12 h_12 => ?_)
    subst h_12
    have hy := RY_cp (R := m 51) hm.2.1
    generalize r_cp (m 51) (m 50) 100 = R at hy ⊢
    refine e_bipush C d_Mo_longest_15 (by decide) ?_
    refine e_istore_n C d_Mo_longest_17 (by decide) rfl ?_
    refine e_iconst C d_Mo_longest_18 ?_
    refine e_istore_n C d_Mo_longest_19 (by decide) rfl ?_
    refine l_Mo_longest1 C hM hN hG hy (sP S 4 0).toNat 0 (-2) (by omega) (by omega) (by omega) (fun hb => ?_)
    change lgb (sP S) (sY S) = -2 ∨ (0 ≤ lgb (sP S) (sY S) ∧ lgb (sP S) (sY S) < sP S 4 0) at hb
    change Ev g 74 [some (.inr (.inr (1, 0))), some (.inl w), some (.inl (lgb (sP S) (sY S))), none, none] [] (MF σ m R)
    generalize lgb (sP S) (sY S) = b at hb F ⊢
    refine e_iload_n C d_Mo_longest_74 rfl ?_
    refine e_if_eq C 82 d_Mo_longest_75 (by decide) (by omega) (fun c_75 => ?_) (fun c_75 => ?_)
    · rw [if_pos (by omega)] at F
      refine e_iload_n C d_Mo_longest_82 rfl ?_
      refine e_iret C F rfl d_Mo_longest_83 (by omega) ?_
      exact ⟨rfl, _, rfl, hm.fin0⟩
    · refine e_iload_n C d_Mo_longest_78 rfl ?_
      refine e_if_ge C 84 d_Mo_longest_79 (by decide) (by omega) (fun c_79 => ?_) (fun c_79 => ?_)
      · rw [if_neg (by omega)] at F
        refine e_aload_n C d_Mo_longest_84 rfl ?_
        refine e_geta C fl_Mo_119 (by decide) rfl rfl d_Mo_longest_85 ?_
        refine e_bipush C d_Mo_longest_88 (by decide) ?_
        refine e_iload_n C d_Mo_longest_90 rfl ?_
        refine e_iadd C d_Mo_longest_91 ?_
        refine e_iald (n := 100) C (by decide) rfl (by decide) rfl rfl (by decide) (by omega) (by omega) d_Mo_longest_92 (fun r_92 => ?_)
        try simp only [MF_51] at r_92 ⊢
        rw [(hy.2.1 b (by omega) (by omega)).2.2.1] at r_92 ⊢
        refine e_istore_n C d_Mo_longest_93 (by decide) rfl ?_
        refine e_iconst C d_Mo_longest_94 ?_
        refine e_istore C d_Mo_longest_95 (by decide) rfl ?_
        exact l_Mo_longest2 C F hPl hM hm.1.2.1 (by omega) r_92 2000 0 _ m _ R (MS.rf m) hy hp.y.1 (by omega) (by omega) (by omega) (by omega) rfl (fun R' m' h => ⟨rfl, _, rfl, hm.fin h⟩)
      · rw [if_pos (by omega)] at F
        refine e_iload_n C d_Mo_longest_82 rfl ?_
        refine e_iret C F rfl d_Mo_longest_83 (by omega) ?_
        exact ⟨rfl, _, rfl, hm.fin0⟩
  · have hv := in_f c_6
    rw [if_neg hv] at F
    refine e_iconst C d_Mo_longest_9 ?_
    refine e_iret C F rfl d_Mo_longest_10 (by omega) ?_
    exact ⟨rfl, _, rfl, hm.fin0⟩
def rvWhere (S : SS) (a k : Int) : Int := if (0 ≤ a ∧ a < sP S 4 0) ∧ 0 ≤ k ∧ k ≤ 2000 then psf (sP S) (mits (sF S) (sP S) k.toNat (sY S)) a else -1
theorem K_Mo_where {σ : St} {m : Cs} {S : SS} {n a k : Int} (hp : PI S n) (hm : IVm S m) (r1 : R32 a) (r2 : R32 k) : CtI M_Mo_where [.inr (.inr (1, 0)), .inl a, .inl k] (so σ 1 m) (fun r u => r = rvWhere S a k ∧ ∃ m', u = so σ 1 m' ∧ IVm S m') := by
  intro g C F
  obtain ⟨l, hPl⟩ := hp.pl
  have hN := hPl.1
  have hG := hPl.2.1
  have hM := hm.1.1
  have hn := hp.n
  have hno : ¬ ((0 ≤ a ∧ a < sP S 4 0) ∧ 0 ≤ k ∧ k ≤ 2000) → ∀ R, -1 = rvWhere S a k ∧ ∃ m', MF σ m R = so σ 1 m' ∧ IVm S m' := by
    intro z R
    unfold rvWhere
    rw [if_neg z]
    exact ⟨rfl, _, rfl, hm.fin0⟩
  rw [soMF]
  refine e_aload_n C d_Mo_where_0 rfl ?_
  refine e_iload_n C d_Mo_where_1 rfl ?_
  refine e_callIV C ok_Mo_isGuard lk_Mo_333 (o := 1) (by decide) rfl [_] rfl rfl (Nat.le_of_ble_eq_true rfl) (by decide) (Nat.le_of_ble_eq_true rfl) d_Mo_where_2 (k_Mo_isGuard hM hG r1) (fun v_2 u_2 q_2 h_2 => ?_)
  obtain ⟨rfl, rfl⟩ := h_2
  refine e_if_eq C 19 d_Mo_where_5 (by decide) (by split <;> omega) (fun c_5 => ?_) (fun c_5 => ?_)
  · have hv0 : ¬ ((0 ≤ a ∧ a < sP S 4 0) ∧ 0 ≤ k ∧ k ≤ 2000) := fun z => po_f c_5 z.1
    refine e_iconst C d_Mo_where_19 ?_
    refine e_iret C F rfl d_Mo_where_20 (by omega) ?_
    exact hno hv0 _
  · have hv := po_t c_5
    refine e_iload_n C d_Mo_where_8 rfl ?_
    refine e_iconst C d_Mo_where_9 ?_
    refine e_sipush C d_Mo_where_10 (by decide) ?_
    refine e_callIS C ok_Mo_in lk_Mo_302 [_, _, _] rfl rfl (Nat.le_of_ble_eq_true rfl) (by decide) (Nat.le_of_ble_eq_true rfl) d_Mo_where_13 (k_Mo_in r2 (by omega) (by omega)) (fun v_13 u_13 q_13 h_13 => ?_)
    obtain ⟨rfl, rfl⟩ := h_13
    refine e_if_ne C 21 d_Mo_where_16 (by decide) (by split <;> omega) (fun c_16 => ?_) (fun c_16 => ?_)
    · have hv2 := in_t c_16
      unfold rvWhere at F
      rw [if_pos ⟨hv, hv2⟩] at F
      refine e_aload_n C d_Mo_where_21 rfl ?_
      refine e_callVV C ok_Mo_copies lk_Mo_330 (o := 1) (by decide) rfl [] rfl rfl (Nat.le_of_ble_eq_true rfl) (by decide) (Nat.le_of_ble_eq_true rfl) d_Mo_where_22 (k_Mo_copies) (fun u_22 h_22 => ?_)
      subst h_22
      have hy := RY_cp (R := m 51) hm.2.1
      generalize r_cp (m 51) (m 50) 100 = R at hy ⊢
      refine e_aload_n C d_Mo_where_25 rfl ?_
      refine e_iload_n C d_Mo_where_26 rfl ?_
      refine e_callVV C ok_Mo_goes lk_Mo_345 (o := 1) (by decide) rfl [_] rfl rfl (Nat.le_of_ble_eq_true rfl) (by decide) (Nat.le_of_ble_eq_true rfl) d_Mo_where_27 (k_Mo_goes hPl hM hm.1.2.1 hy hp.y.1 (by omega) (by omega)) (fun u_27 h_27 => ?_)
      obtain ⟨R1, m1, hm1, hy1, rfl⟩ := h_27
      refine e_aload_n C d_Mo_where_30 rfl ?_
      refine e_iload_n C d_Mo_where_31 rfl ?_
      refine e_callIV C ok_Mo_postOf lk_Mo_336 (o := 1) (by decide) rfl [_] rfl rfl (Nat.le_of_ble_eq_true rfl) (by decide) (Nat.le_of_ble_eq_true rfl) d_Mo_where_32 (k_Mo_postOf (hM.same hm1.mp) hN hy1 (by omega)) (fun v_32 u_32 q_32 h_32 => ?_)
      obtain ⟨rfl, rfl⟩ := h_32
      have hpr := psf_r (y := mits (sF S) (sP S) k.toNat (sY S)) (a := a) hN
      refine e_iret C F rfl d_Mo_where_35 (by omega) ?_
      exact ⟨rfl, _, rfl, hm.fin hm1⟩
    · have hv0 : ¬ ((0 ≤ a ∧ a < sP S 4 0) ∧ 0 ≤ k ∧ k ≤ 2000) := fun z => in_f c_16 z.2
      refine e_iconst C d_Mo_where_19 ?_
      refine e_iret C F rfl d_Mo_where_20 (by omega) ?_
      exact hno hv0 _
