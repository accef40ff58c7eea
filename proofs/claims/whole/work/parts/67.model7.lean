/-! the reference's calls: undone, gone through, dried, bribed -/
theorem IVm.un {S : SS} {m m' : Cs} (h : IVm S m) (e : ∀ f, f ≠ 50 → f ≠ 52 → m' f = m f) (h50 : RY (m' 50) (sHn S 0)) (h52 : m' 52 0 = sHz S - 1) : IVm (unS S) m' := by
  have hmp : MP m m' := fun f a b => e f (by omega) (by omega)
  refine ⟨h.pl hmp, h50, ⟨h52, fun j a b => ?_⟩, ?_⟩
  · have b : j < sHz S - 1 := b
    show RY (fun k => m' 53 (100 * (sHz S - 1 - 1 - j) + k)) (sHn S (j + 1))
    rw [e 53 (by decide) (by decide)]
    have := h.2.2.1.2 (j + 1) (by omega) (by omega)
    rw [show sHz S - 1 - (j + 1) = sHz S - 1 - 1 - j by omega] at this
    exact this
  · rw [e 59 (by decide) (by decide), e 60 (by decide) (by decide), e 55 (by decide) (by decide), e 56 (by decide) (by decide), e 57 (by decide) (by decide), e 2 (by decide) (by decide), e 1 (by decide) (by decide), e 17 (by decide) (by decide)]
    exact h.2.2.2
def rvUndo (S : SS) : Int := if sHz S = 0 then 0 else 1
def nxUndo (S : SS) : SS := if sHz S = 0 then S else unS S
theorem l_Mo_undo {g : Mach} {Q : Int → St → Prop} (C : Cx M_Mo_undo g) (F : FinI M_Mo_undo g Q) {σ : St} {x : Cs} (hz : 0 ≤ x 52 0 ∧ x 52 0 ≤ 39) (hQ : Q 1 (so σ 1 (lnm x 50 (r_cp (x 50) (fun k => x 53 (100 * x 52 0 + k)) 100)))) :
    ∀ (n : Nat) (i : Int), 0 ≤ i → i + n = 100 → Ev g 21 [some (.inr (.inr (1, 0))), some (.inl i)] [] (so σ 1 (lnm x 50 (r_cp (x 50) (fun k => x 53 (100 * x 52 0 + k)) i))) := by
  intro n
  induction n with
  | zero =>
    intro i h0 h1
    refine e_iload_n C d_Mo_undo_21 rfl ?_
    refine e_bipush C d_Mo_undo_22 (by decide) ?_
    refine e_icmp_ge C 53 d_Mo_undo_24 (by decide) (by omega) (by omega) (fun c_24 => ?_) (fun c_24 => ?_)
    · refine e_iconst C d_Mo_undo_53 ?_
      refine e_zret C F rfl d_Mo_undo_54 (by omega) ?_
      rw [show i = 100 by omega]; exact hQ
    · exact absurd h1 (by omega)
  | succ n ih =>
    intro i h0 h1
    have e := r_cp_S (R := x 50) (S := fun k => x 53 (100 * x 52 0 + k)) h0
    refine e_iload_n C d_Mo_undo_21 rfl ?_
    refine e_bipush C d_Mo_undo_22 (by decide) ?_
    refine e_icmp_ge C 53 d_Mo_undo_24 (by decide) (by omega) (by omega) (fun c_24 => ?_) (fun c_24 => ?_)
    · exact absurd h1 (by omega)
    · refine e_aload_n C d_Mo_undo_27 rfl ?_
      refine e_geta C fl_Mo_116 (by decide) rfl rfl d_Mo_undo_28 ?_
      refine e_iload_n C d_Mo_undo_31 rfl ?_
      refine e_aload_n C d_Mo_undo_32 rfl ?_
      refine e_geta C fl_Mo_122 (by decide) rfl rfl d_Mo_undo_33 ?_
      refine e_bipush C d_Mo_undo_36 (by decide) ?_
      refine e_aload_n C d_Mo_undo_38 rfl ?_
      refine e_geti C fl_Mo_236 (by decide) rfl rfl d_Mo_undo_39 (fun r_39 => ?_)
      try simp only [so_at, so_so, wr_so, lnm_s, lnm_cu, lnm_f, ne_eq, Nat.reduceEqDiff, not_false_eq_true] at r_39 ⊢
      refine e_imul C d_Mo_undo_42 ?_
      refine e_iload_n C d_Mo_undo_43 rfl ?_
      refine e_iadd C d_Mo_undo_44 ?_
      refine e_iald (n := 4000) C (by decide) rfl (by decide) rfl rfl (by decide) (by omega) (by omega) d_Mo_undo_45 (fun r_45 => ?_)
      try simp only [so_at, so_so, wr_so, lnm_s, lnm_cu, lnm_f, ne_eq, Nat.reduceEqDiff, not_false_eq_true] at r_45 ⊢
      refine e_iast (n := 100) C (by decide) rfl (by decide) rfl rfl (by decide) (by omega) (by omega) (by omega) d_Mo_undo_46 ?_
      try simp only [so_at, so_so, wr_so, lnm_s, lnm_cu, lnm_f, ne_eq, Nat.reduceEqDiff, not_false_eq_true]
      refine e_iinc C d_Mo_undo_47 rfl (by decide) rfl ?_
      refine e_goto C 21 d_Mo_undo_50 (by decide) ?_
      rw [e]; exact ih (i + 1) (by omega) (by omega)
theorem K_Mo_undo {σ : St} {m : Cs} {S : SS} {n : Int} (hp : PI S n) (hm : IVm S m) : CtI M_Mo_undo [.inr (.inr (1, 0))] (so σ 1 m) (fun r u => r = rvUndo S ∧ ∃ m', u = so σ 1 m' ∧ IVm (nxUndo S) m') := by
  intro g C F
  have hz := hp.hz
  have e52 := hm.2.2.1.1
  unfold rvUndo nxUndo at F
  refine e_aload_n C d_Mo_undo_0 rfl ?_
  refine e_geti C fl_Mo_236 (by decide) rfl rfl d_Mo_undo_1 (fun r_1 => ?_)
  try simp only [so_at, so_so, wr_so] at r_1 ⊢
  refine e_if_ne C 9 d_Mo_undo_4 (by decide) (by omega) (fun c_4 => ?_) (fun c_4 => ?_)
  · rw [if_neg (by omega), if_neg (by omega)] at F
    refine e_aload_n C d_Mo_undo_9 rfl ?_
    refine e_dup C d_Mo_undo_10 rfl ?_
    refine e_geti C fl_Mo_236 (by decide) rfl rfl d_Mo_undo_11 (fun r_11 => ?_)
    try simp only [so_at, so_so, wr_so] at r_11 ⊢
    refine e_iconst C d_Mo_undo_14 ?_
    refine e_isub C d_Mo_undo_15 ?_
    refine e_puti C fp_Mo_236 (by decide) rfl rfl (by omega) d_Mo_undo_16 ?_
    try simp only [so_at, so_so, wr_so]
    refine e_iconst C d_Mo_undo_19 ?_
    refine e_istore_n C d_Mo_undo_20 (by decide) rfl ?_
    have y52 : cu m 52 0 (m 52 0 - 1) 52 0 = sHz S - 1 := by rw [cu_s, e52]
    have y50 : cu m 52 0 (m 52 0 - 1) 50 = m 50 := by funext q; rw [cu_f (by decide)]
    have y53 : cu m 52 0 (m 52 0 - 1) 53 = m 53 := by funext q; rw [cu_f (by decide)]
    have h0 := hm.2.2.1.2 0 (by omega) (by omega)
    have e0 : r_cp (cu m 52 0 (m 52 0 - 1) 50) (fun k => cu m 52 0 (m 52 0 - 1) 53 (100 * cu m 52 0 (m 52 0 - 1) 52 0 + k)) 0 = cu m 52 0 (m 52 0 - 1) 50 := r_cp_0 _ _
    have := l_Mo_undo (σ := σ) (x := cu m 52 0 (m 52 0 - 1)) C F (by omega) (by
      refine ⟨rfl, _, rfl, hm.un (fun f a b => ?_) ?_ ?_⟩
      · rw [lnm_f a]; funext q; rw [cu_f b]
      · rw [lnm_s, y50, y53, y52]
        refine RY_cp ?_
        rw [Int.sub_zero] at h0
        exact h0
      · rw [lnm_f (by decide)]; exact y52) 100 0 (by omega) (by omega)
    rw [e0, lnm_id] at this
    exact this
  · rw [if_pos (by omega), if_pos (by omega)] at F
    refine e_iconst C d_Mo_undo_7 ?_
    refine e_zret C F rfl d_Mo_undo_8 (by omega) ?_
    exact ⟨rfl, _, rfl, hm⟩
def rvOut (S : SS) (p : Int) : Int := if 0 ≤ p ∧ p < sP S 3 0 then nout (sF S) (sP S) p 2000 (sY S) else -1
theorem l_Mo_out {g : Mach} {Q : Int → St → Prop} (C : Cx M_Mo_out g) (F : FinI M_Mo_out g Q) {σ : St} {m P l : Cs} {φ : Phi} {p : Int} (hPl : PlanOk P l φ) (hM : MPl P m) (hF : FlowC φ P m) (hp : 0 ≤ p ∧ p < P 3 0) :
    ∀ (n : Nat) (i B : Int) (m' y : Cs) (R : Int → Int), MS m m' → RY R y → QY P B y → 0 ≤ B → B + 9 * n < 1900000000 → 0 ≤ i → i + n = 2001 → (∀ R' m'', MS m m'' → Q (mou φ P p n i y) (MF σ m'' R')) → Ev g 27 [some (.inr (.inr (1, 0))), some (.inl p), some (.inl i)] [] (MF σ m' R) := by
  have hN := hPl.1
  have hG := hPl.2.1
  intro n
  induction n with
  | zero =>
    intro i B m' y R hm hy hQy hB hb h0 h1 hQ
    refine e_iload_n C d_Mo_out_27 rfl ?_
    refine e_sipush C d_Mo_out_28 (by decide) ?_
    refine e_icmp_gt C 61 d_Mo_out_31 (by decide) (by omega) (by omega) (fun c_31 => ?_) (fun c_31 => ?_)
    · refine e_bipush C d_Mo_out_61 (by decide) ?_
      refine e_iret C F rfl d_Mo_out_63 (by omega) ?_
      exact hQ R m' hm
    · exact absurd h1 (by omega)
  | succ n ih =>
    intro i B m' y R hm hy hQy hB hb h0 h1 hQ
    have hM' := hM.same hm.mp
    have hq := (hQy.post hN.2 hG.2 hp).1
    have h12 := hQy.bed.2.2
    have hyp := hy.1 p hp.1 (by omega)
    have hfl : 0 ≤ c_fls φ P y p ∧ c_fls φ P y p ≤ y 0 p := flw_in hq.1
    rw [mou_S] at hQ
    refine e_iload_n C d_Mo_out_27 rfl ?_
    refine e_sipush C d_Mo_out_28 (by decide) ?_
    refine e_icmp_gt C 61 d_Mo_out_31 (by decide) (by omega) (by omega) (fun c_31 => ?_) (fun c_31 => ?_)
    · exact absurd h1 (by omega)
    · refine e_aload_n C d_Mo_out_34 rfl ?_
      refine e_geta C fl_Mo_119 (by decide) rfl rfl d_Mo_out_35 ?_
      refine e_iload_n C d_Mo_out_38 rfl ?_
      refine e_iald (n := 100) C (by decide) rfl (by decide) rfl rfl (by decide) (by omega) (by omega) d_Mo_out_39 (fun r_39 => ?_)
      try simp only [MF_51] at r_39 ⊢
      rw [hyp.1] at r_39 ⊢
      refine e_aload_n C d_Mo_out_40 rfl ?_
      refine e_iload_n C d_Mo_out_41 rfl ?_
      refine e_callIV C ok_Mo_flowOf lk_Mo_312 (o := 1) (by decide) rfl [_] rfl rfl (Nat.le_of_ble_eq_true rfl) (by decide) (Nat.le_of_ble_eq_true rfl) d_Mo_out_42 (hF σ m' _ R p hm.mp.w hy hp.1 hp.2 hq.1 h12.1) (fun v_42 u_42 q_42 h_42 => ?_)
      obtain ⟨rfl, m1, hm1, rfl⟩ := h_42
      refine e_isub C d_Mo_out_45 ?_
      refine e_if_ne C 51 d_Mo_out_46 (by decide) (by omega) (fun c_46 => ?_) (fun c_46 => ?_)
      · rw [if_neg (by omega)] at hQ
        refine e_aload_n C d_Mo_out_51 rfl ?_
        refine e_callVV C ok_Mo_minuteGoes lk_Mo_342 (o := 1) (by decide) rfl [] rfl rfl (Nat.le_of_ble_eq_true rfl) (by decide) (Nat.le_of_ble_eq_true rfl) d_Mo_out_52 (k_Mo_minuteGoes hPl (hM'.same hm1.mp) (hF.same (hm.tr hm1).mp) hy hQy (by omega)) (fun u_52 h_52 => ?_)
        obtain ⟨R2, m2, hm2, hy2, rfl⟩ := h_52
        refine e_iinc C d_Mo_out_55 rfl (by decide) rfl ?_
        refine e_goto C 27 d_Mo_out_58 (by decide) ?_
        exact ih (i + 1) (B + 9) m2 _ R2 ((hm.tr hm1).tr hm2) hy2 (QY_min hQy hB hPl) (by omega) (by omega) (by omega) (by omega) hQ
      · rw [if_pos (by omega)] at hQ
        refine e_iload_n C d_Mo_out_49 rfl ?_
        refine e_iret C F rfl d_Mo_out_50 (by omega) ?_
        exact hQ R m1 (hm.tr hm1)
theorem K_Mo_out {σ : St} {m : Cs} {S : SS} {n p : Int} (hp : PI S n) (hm : IVm S m) (r1 : R32 p) : CtI M_Mo_out [.inr (.inr (1, 0)), .inl p] (so σ 1 m) (fun r u => r = rvOut S p ∧ ∃ m', u = so σ 1 m' ∧ IVm S m') := by
  intro g C F
  obtain ⟨l, hPl⟩ := hp.pl
  have hN := hPl.1
  have hM := hm.1.1
  have hn := hp.n
  rw [soMF]
  unfold rvOut nout at F
  refine e_aload_n C d_Mo_out_0 rfl ?_
  refine e_iload_n C d_Mo_out_1 rfl ?_
  refine e_callIV C ok_Mo_isPost lk_Mo_327 (o := 1) (by decide) rfl [_] rfl rfl (Nat.le_of_ble_eq_true rfl) (by decide) (Nat.le_of_ble_eq_true rfl) d_Mo_out_2 (k_Mo_isPost hM hN r1) (fun v_2 u_2 q_2 h_2 => ?_)
  obtain ⟨rfl, rfl⟩ := h_2
  refine e_if_ne C 10 d_Mo_out_5 (by decide) (by split <;> omega) (fun c_5 => ?_) (fun c_5 => ?_)
  · have hv := po_t c_5
    rw [if_pos hv] at F
    refine e_aload_n C d_Mo_out_10 rfl ?_
    refine e_callVV C ok_Mo_copies lk_Mo_330 (o := 1) (by decide) rfl [] rfl rfl (Nat.le_of_ble_eq_true rfl) (by decide) (Nat.le_of_ble_eq_true rfl) d_Mo_out_11 (k_Mo_copies) (fun u_11 h_11 => ?_)
    subst h_11
    have hy := RY_cp (R := m 51) hm.2.1
    generalize r_cp (m 51) (m 50) 100 = R at hy ⊢
    have hyp := hy.1 p hv.1 (by omega)
    refine e_aload_n C d_Mo_out_14 rfl ?_
    refine e_geta C fl_Mo_119 (by decide) rfl rfl d_Mo_out_15 ?_
    refine e_iload_n C d_Mo_out_18 rfl ?_
    refine e_iald (n := 100) C (by decide) rfl (by decide) rfl rfl (by decide) (by omega) (by omega) d_Mo_out_19 (fun r_19 => ?_)
    try simp only [MF_51] at r_19 ⊢
    rw [hyp.1] at r_19 ⊢
    refine e_if_ne C 25 d_Mo_out_20 (by decide) (by omega) (fun c_20 => ?_) (fun c_20 => ?_)
    · rw [if_neg c_20] at F
      refine e_iconst C d_Mo_out_25 ?_
      refine e_istore_n C d_Mo_out_26 (by decide) rfl ?_
      exact l_Mo_out C F hPl hM hm.1.2.1 hv 2000 1 _ m _ R (MS.rf m) hy hp.y.1 (by omega) (by omega) (by omega) (by omega) (fun R' m' h => ⟨rfl, _, rfl, hm.fin h⟩)
    · rw [if_pos c_20] at F
      refine e_iconst C d_Mo_out_23 ?_
      refine e_iret C F rfl d_Mo_out_24 (by omega) ?_
      exact ⟨rfl, _, rfl, hm.fin0⟩
  · have hv := po_f c_5
    rw [if_neg hv] at F
    refine e_iconst C d_Mo_out_8 ?_
    refine e_iret C F rfl d_Mo_out_9 (by omega) ?_
    exact ⟨rfl, _, rfl, hm.fin0⟩
def rvSlept (S : SS) : Int := orn (msb (sF S) (sP S) (sY S))
theorem msb_r (φ : Phi) (P y : Cs) : R32 (msb φ P y) := by have := msb_in φ P y; omega
theorem orn_r {v : Int} (h : R32 v) : R32 (orn v) := by unfold orn; split <;> omega
theorem K_Mo_slept {σ : St} {m : Cs} {S : SS} {n : Int} (hp : PI S n) (hm : IVm S m) : CtI M_Mo_slept [.inr (.inr (1, 0))] (so σ 1 m) (fun r u => r = rvSlept S ∧ ∃ m', u = so σ 1 m' ∧ IVm S m') := by
  intro g C F
  obtain ⟨l, hPl⟩ := hp.pl
  have hM := hm.1.1
  have hn := hp.n
  rw [soMF]
  refine e_aload_n C d_Mo_slept_0 rfl ?_
  refine e_callVV C ok_Mo_copies lk_Mo_330 (o := 1) (by decide) rfl [] rfl rfl (Nat.le_of_ble_eq_true rfl) (by decide) (Nat.le_of_ble_eq_true rfl) d_Mo_slept_1 (k_Mo_copies) (fun u_1 h_1 => ?_)
  subst h_1
  have hy := RY_cp (R := m 51) hm.2.1
  generalize r_cp (m 51) (m 50) 100 = R at hy ⊢
  refine e_aload_n C d_Mo_slept_4 rfl ?_
  refine e_callIV C ok_Mo_sleptBy lk_Mo_357 (o := 1) (by decide) rfl [] rfl rfl (Nat.le_of_ble_eq_true rfl) (by decide) (Nat.le_of_ble_eq_true rfl) d_Mo_slept_5 (k_Mo_sleptBy hPl hM hm.1.2.1 hy hp.y.1 (by omega)) (fun v_5 u_5 q_5 h_5 => ?_)
  obtain ⟨rfl, R1, m1, hm1, rfl⟩ := h_5
  refine e_callIS C ok_Mo_orNot lk_Mo_360 [_] rfl rfl (Nat.le_of_ble_eq_true rfl) (by decide) (Nat.le_of_ble_eq_true rfl) d_Mo_slept_8 (k_Mo_orNot (msb_r _ _ _)) (fun v_8 u_8 q_8 h_8 => ?_)
  obtain ⟨rfl, rfl⟩ := h_8
  refine e_iret C F rfl d_Mo_slept_11 (orn_r (msb_r _ _ _)) ?_
  exact ⟨rfl, _, rfl, hm.fin hm1⟩
def rvDryF (S : SS) (w : Int) : Int := if 0 ≤ w ∧ w ≤ 1 then (if w = 0 then (dF (sF S) (sP S) (sY S)).1 else orn (dF (sF S) (sP S) (sY S)).2) else -1
theorem QY_dry {P y : Cs} {B p v : Int} (h : QY P B y) : QY P B (cu y 3 p v) := by
  obtain ⟨c, hS, hK⟩ := h
  exact ⟨cu c 3 p v, cu3_sim hS, CK_cu hK (by omega)⟩
theorem dst_a {φ : Phi} {P y : Cs} {p : Int} {b : Int × Int} (h : y 3 p = 1) : dst φ P y p b = b := by unfold dst; rw [if_pos h]
theorem dst_b {φ : Phi} {P y : Cs} {p : Int} {b : Int × Int} (h : ¬ y 3 p = 1) (h2 : b.2 ≤ msb φ P (cu y 3 p 1)) : dst φ P y p b = b := by unfold dst; rw [if_neg h, if_pos h2]
theorem dst_c {φ : Phi} {P y : Cs} {p : Int} {b : Int × Int} (h : ¬ y 3 p = 1) (h2 : ¬ b.2 ≤ msb φ P (cu y 3 p 1)) : dst φ P y p b = (p, msb φ P (cu y 3 p 1)) := by unfold dst; rw [if_neg h, if_neg h2]
theorem dst2_a {φ : Phi} {P y : Cs} {p o : Int} {b : Int × Int} (h : y 3 p = 1 ∨ y 3 o = 1) : dst2 φ P y p o b = b := by unfold dst2; rw [if_pos h]
theorem dst2_b {φ : Phi} {P y : Cs} {p o : Int} {b : Int × Int} (h : ¬ (y 3 p = 1 ∨ y 3 o = 1)) (h2 : b.2 ≤ msb φ P (cu (cu y 3 p 1) 3 o 1)) : dst2 φ P y p o b = b := by unfold dst2; rw [if_neg h, if_pos h2]
theorem dst2_c {φ : Phi} {P y : Cs} {p o : Int} {b : Int × Int} (h : ¬ (y 3 p = 1 ∨ y 3 o = 1)) (h2 : ¬ b.2 ≤ msb φ P (cu (cu y 3 p 1) 3 o 1)) : dst2 φ P y p o b = (10 * p + o, msb φ P (cu (cu y 3 p 1) 3 o 1)) := by unfold dst2; rw [if_neg h, if_neg h2]
abbrev okb (b1 b2 : Int) : Prop := (-2 ≤ b1 ∧ b1 ≤ 100) ∧ 0 ≤ b2 ∧ (b2 ≤ 3000 ∨ b2 = 5000)
theorem l_Mo_dryFirst {g : Mach} {Q : Int → St → Prop} (C : Cx M_Mo_dryFirst g) (F : FinI M_Mo_dryFirst g Q) {σ : St} {m P l y : Cs} {φ : Phi} {w B : Int} (hPl : PlanOk P l φ) (hM : MPl P m) (hF : FlowC φ P m) (hw : 0 ≤ w ∧ w ≤ 1) (hmy : RY (m 50) y) (hQy : QY P B y) (hB : 0 ≤ B ∧ B < 1800000000) :
    ∀ (n : Nat) (i b1 b2 : Int) (m' : Cs) (R : Int → Int), MS m m' → 0 ≤ i → i + n = P 3 0 → okb b1 b2 → (∀ R' m'', MS m m'' → Q (if w = 0 then (itr (dst φ P y) n i (b1, b2)).1 else orn (itr (dst φ P y) n i (b1, b2)).2) (MF σ m'' R')) → Ev g 26 [some (.inr (.inr (1, 0))), some (.inl w), some (.inl b1), some (.inl b2), some (.inl i), none] [] (MF σ m' R) := by
  have hN := hPl.1
  intro n
  induction n with
  | zero =>
    intro i b1 b2 m' R hm h0 h1 hb hQ
    have hM' := hM.same hm.mp
    have hlv := hM'.1
    have he := hM'.2.1
    refine e_iload C d_Mo_dryFirst_26 rfl ?_
    refine e_aload_n C d_Mo_dryFirst_28 rfl ?_
    refine e_geta C fl_Mo_49 (by decide) rfl rfl d_Mo_dryFirst_29 ?_
    refine e_aload_n C d_Mo_dryFirst_32 rfl ?_
    refine e_geti C fl_Mo_215 (by decide) rfl rfl d_Mo_dryFirst_33 (fun r_33 => ?_)
    try simp only [MF_f, he, ne_eq, Nat.reduceEqDiff, not_false_eq_true] at r_33 ⊢
    refine e_iald (n := 2) C (by decide) rfl (by decide) rfl rfl (by decide) (by omega) (by omega) d_Mo_dryFirst_36 (fun r_36 => ?_)
    try simp only [MF_f, he, ne_eq, Nat.reduceEqDiff, not_false_eq_true] at r_36 ⊢
    refine e_icmp_ge C 99 d_Mo_dryFirst_37 (by decide) (by omega) (by omega) (fun c_37 => ?_) (fun c_37 => ?_)
    · refine e_iload_n C d_Mo_dryFirst_99 rfl ?_
      refine e_if_ne C 107 d_Mo_dryFirst_100 (by decide) (by omega) (fun c_100 => ?_) (fun c_100 => ?_)
      · have hq := hQ R m' hm
        rw [if_neg c_100] at hq
        refine e_iload_n C d_Mo_dryFirst_107 rfl ?_
        refine e_callIS C ok_Mo_orNot lk_Mo_360 [_] rfl rfl (Nat.le_of_ble_eq_true rfl) (by decide) (Nat.le_of_ble_eq_true rfl) d_Mo_dryFirst_108 (k_Mo_orNot (by omega)) (fun v_108 u_108 q_108 h_108 => ?_)
        obtain ⟨rfl, rfl⟩ := h_108
        refine e_iret C F rfl d_Mo_dryFirst_111 (by first | omega | exact orn_r (by omega)) ?_
        exact hq
      · have hq := hQ R m' hm
        rw [if_pos c_100] at hq
        refine e_iload_n C d_Mo_dryFirst_103 rfl ?_
        refine e_goto C 111 d_Mo_dryFirst_104 (by decide) ?_
        refine e_iret C F rfl d_Mo_dryFirst_111 (by first | omega | exact orn_r (by omega)) ?_
        exact hq
    · exact absurd h1 (by omega)
  | succ n ih =>
    intro i b1 b2 m' R hm h0 h1 hb hQ
    have hM' := hM.same hm.mp
    have hlv := hM'.1
    have he := hM'.2.1
    have e50 := hm 50 (by decide) (by decide) (by decide) (by decide)
    rw [itr_S] at hQ
    have hin := msb_in φ P (cu y 3 i 1)
    refine e_iload C d_Mo_dryFirst_26 rfl ?_
    refine e_aload_n C d_Mo_dryFirst_28 rfl ?_
    refine e_geta C fl_Mo_49 (by decide) rfl rfl d_Mo_dryFirst_29 ?_
    refine e_aload_n C d_Mo_dryFirst_32 rfl ?_
    refine e_geti C fl_Mo_215 (by decide) rfl rfl d_Mo_dryFirst_33 (fun r_33 => ?_)
    try simp only [MF_f, MF_51, he, so_at, so_so, wr_so, lnm_s, lnm_cu, ne_eq, Nat.reduceEqDiff, not_false_eq_true] at r_33 ⊢
    refine e_iald (n := 2) C (by decide) rfl (by decide) rfl rfl (by decide) (by omega) (by omega) d_Mo_dryFirst_36 (fun r_36 => ?_)
    try simp only [MF_f, MF_51, he, so_at, so_so, wr_so, lnm_s, lnm_cu, ne_eq, Nat.reduceEqDiff, not_false_eq_true] at r_36 ⊢
    refine e_icmp_ge C 99 d_Mo_dryFirst_37 (by decide) (by omega) (by omega) (fun c_37 => ?_) (fun c_37 => ?_)
    · exact absurd h1 (by omega)
    · refine e_aload_n C d_Mo_dryFirst_40 rfl ?_
      refine e_callVV C ok_Mo_copies lk_Mo_330 (o := 1) (by decide) rfl [] rfl rfl (Nat.le_of_ble_eq_true rfl) (by decide) (Nat.le_of_ble_eq_true rfl) d_Mo_dryFirst_41 (k_Mo_copies) (fun u_41 h_41 => ?_)
      subst h_41
      have hy := RY_cp (R := R) hmy
      rw [← e50] at hy
      generalize r_cp R (m' 50) 100 = R1 at hy ⊢
      have hyp := hy.1 i h0 (by omega)
      refine e_aload_n C d_Mo_dryFirst_44 rfl ?_
      refine e_geta C fl_Mo_119 (by decide) rfl rfl d_Mo_dryFirst_45 ?_
      refine e_bipush C d_Mo_dryFirst_48 (by decide) ?_
      refine e_iload C d_Mo_dryFirst_50 rfl ?_
      refine e_iadd C d_Mo_dryFirst_52 ?_
      refine e_iald (n := 100) C (by decide) rfl (by decide) rfl rfl (by decide) (by omega) (by omega) d_Mo_dryFirst_53 (fun r_53 => ?_)
      try simp only [MF_f, MF_51, he, so_at, so_so, wr_so, lnm_s, lnm_cu, ne_eq, Nat.reduceEqDiff, not_false_eq_true] at r_53 ⊢
      rw [hyp.2.2.2.1] at r_53 ⊢
      refine e_iconst C d_Mo_dryFirst_54 ?_
      refine e_icmp_ne C 61 d_Mo_dryFirst_55 (by decide) (by omega) (by omega) (fun c_55 => ?_) (fun c_55 => ?_)
      · have hy1 := RY_3 hy (q := i) (v := 1) (by omega)
        refine e_aload_n C d_Mo_dryFirst_61 rfl ?_
        refine e_geta C fl_Mo_119 (by decide) rfl rfl d_Mo_dryFirst_62 ?_
        refine e_bipush C d_Mo_dryFirst_65 (by decide) ?_
        refine e_iload C d_Mo_dryFirst_67 rfl ?_
        refine e_iadd C d_Mo_dryFirst_69 ?_
        refine e_iconst C d_Mo_dryFirst_70 ?_
        refine e_iast (n := 100) C (by decide) rfl (by decide) rfl rfl (by decide) (by omega) (by omega) (by omega) d_Mo_dryFirst_71 ?_
        try simp only [MF_f, MF_51, he, so_at, so_so, wr_so, lnm_s, lnm_cu, ne_eq, Nat.reduceEqDiff, not_false_eq_true]
        refine e_aload_n C d_Mo_dryFirst_72 rfl ?_
        refine e_callIV C ok_Mo_sleptBy lk_Mo_357 (o := 1) (by decide) rfl [] rfl rfl (Nat.le_of_ble_eq_true rfl) (by decide) (Nat.le_of_ble_eq_true rfl) d_Mo_dryFirst_73 (k_Mo_sleptBy hPl hM' (hF.same hm.mp) hy1 (QY_dry hQy) hB) (fun v_73 u_73 q_73 h_73 => ?_)
        obtain ⟨rfl, R2, m2, hm2, rfl⟩ := h_73
        refine e_istore C d_Mo_dryFirst_76 (by decide) rfl ?_
        refine e_iload C d_Mo_dryFirst_78 rfl ?_
        refine e_iload_n C d_Mo_dryFirst_80 rfl ?_
        refine e_icmp_lt C 87 d_Mo_dryFirst_81 (by decide) (by omega) (by omega) (fun c_81 => ?_) (fun c_81 => ?_)
        · rw [dst_c c_55 (show ¬ b2 ≤ _ by omega)] at hQ
          have hb2 : okb i (msb φ P (cu y 3 i 1)) := by omega
          have hm3 := hm.tr hm2
          refine e_iload C d_Mo_dryFirst_87 rfl ?_
          refine e_istore_n C d_Mo_dryFirst_89 (by decide) rfl ?_
          refine e_iload C d_Mo_dryFirst_90 rfl ?_
          refine e_istore_n C d_Mo_dryFirst_92 (by decide) rfl ?_
          refine e_iinc C d_Mo_dryFirst_93 rfl (by decide) rfl ?_
          refine e_goto C 26 d_Mo_dryFirst_96 (by decide) ?_
          first | exact ih (i + 1) _ _ m' _ hm (by omega) (by omega) hb hQ | exact e_drop 5 (ih (i + 1) _ _ m2 _ hm3 (by omega) (by omega) hb hQ) | exact e_drop 5 (ih (i + 1) _ _ m2 _ hm3 (by omega) (by omega) hb2 hQ)
        · rw [dst_b c_55 (show b2 ≤ _ by omega)] at hQ
          have hm3 := hm.tr hm2
          refine e_goto C 93 d_Mo_dryFirst_84 (by decide) ?_
          refine e_iinc C d_Mo_dryFirst_93 rfl (by decide) rfl ?_
          refine e_goto C 26 d_Mo_dryFirst_96 (by decide) ?_
          first | exact ih (i + 1) _ _ m' _ hm (by omega) (by omega) hb hQ | exact e_drop 5 (ih (i + 1) _ _ m2 _ hm3 (by omega) (by omega) hb hQ) | exact e_drop 5 (ih (i + 1) _ _ m2 _ hm3 (by omega) (by omega) hb2 hQ)
      · rw [dst_a c_55] at hQ
        refine e_goto C 93 d_Mo_dryFirst_58 (by decide) ?_
        refine e_iinc C d_Mo_dryFirst_93 rfl (by decide) rfl ?_
        refine e_goto C 26 d_Mo_dryFirst_96 (by decide) ?_
        first | exact ih (i + 1) _ _ m' _ hm (by omega) (by omega) hb hQ | exact e_drop 5 (ih (i + 1) _ _ m2 _ hm3 (by omega) (by omega) hb hQ) | exact e_drop 5 (ih (i + 1) _ _ m2 _ hm3 (by omega) (by omega) hb2 hQ)
theorem K_Mo_dryFirst {σ : St} {m : Cs} {S : SS} {n w : Int} (hp : PI S n) (hm : IVm S m) (r1 : R32 w) : CtI M_Mo_dryFirst [.inr (.inr (1, 0)), .inl w] (so σ 1 m) (fun r u => r = rvDryF S w ∧ ∃ m', u = so σ 1 m' ∧ IVm S m') := by
  intro g C F
  obtain ⟨l, hPl⟩ := hp.pl
  have hN := hPl.1
  have hM := hm.1.1
  have hn := hp.n
  have hin := msb_in (sF S) (sP S) (sY S)
  rw [soMF]
  unfold rvDryF dF at F
  refine e_iload_n C d_Mo_dryFirst_0 rfl ?_
  refine e_iconst C d_Mo_dryFirst_1 ?_
  refine e_iconst C d_Mo_dryFirst_2 ?_
  refine e_callIS C ok_Mo_in lk_Mo_302 [_, _, _] rfl rfl (Nat.le_of_ble_eq_true rfl) (by decide) (Nat.le_of_ble_eq_true rfl) d_Mo_dryFirst_3 (k_Mo_in r1 (by omega) (by omega)) (fun v_3 u_3 q_3 h_3 => ?_)
  obtain ⟨rfl, rfl⟩ := h_3
  refine e_if_ne C 11 d_Mo_dryFirst_6 (by decide) (by split <;> omega) (fun c_6 => ?_) (fun c_6 => ?_)
  · have hv := in_t c_6
    rw [if_pos hv] at F
    refine e_aload_n C d_Mo_dryFirst_11 rfl ?_
    refine e_callVV C ok_Mo_copies lk_Mo_330 (o := 1) (by decide) rfl [] rfl rfl (Nat.le_of_ble_eq_true rfl) (by decide) (Nat.le_of_ble_eq_true rfl) d_Mo_dryFirst_12 (k_Mo_copies) (fun u_12 h_12 => ?_)
    subst h_12
    have hy := RY_cp (R := m 51) hm.2.1
    generalize r_cp (m 51) (m 50) 100 = R at hy ⊢
    refine e_bipush C d_Mo_dryFirst_15 (by decide) ?_
    refine e_istore_n C d_Mo_dryFirst_17 (by decide) rfl ?_
    refine e_aload_n C d_Mo_dryFirst_18 rfl ?_
    refine e_callIV C ok_Mo_sleptBy lk_Mo_357 (o := 1) (by decide) rfl [] rfl rfl (Nat.le_of_ble_eq_true rfl) (by decide) (Nat.le_of_ble_eq_true rfl) d_Mo_dryFirst_19 (k_Mo_sleptBy hPl hM hm.1.2.1 hy hp.y.1 (by omega)) (fun v_19 u_19 q_19 h_19 => ?_)
    obtain ⟨rfl, R1, m1, hm1, rfl⟩ := h_19
    refine e_istore_n C d_Mo_dryFirst_22 (by decide) rfl ?_
    refine e_iconst C d_Mo_dryFirst_23 ?_
    refine e_istore C d_Mo_dryFirst_24 (by decide) rfl ?_
    exact l_Mo_dryFirst C F hPl hM hm.1.2.1 hv hm.2.1 hp.y.1 (by omega) _ 0 _ _ m1 _ hm1 (by omega) (by omega) (by omega) (fun R' m' h => ⟨rfl, _, rfl, hm.fin h⟩)
  · have hv := in_f c_6
    rw [if_neg hv] at F
    refine e_iconst C d_Mo_dryFirst_9 ?_
    refine e_iret C F rfl d_Mo_dryFirst_10 (by omega) ?_
    exact ⟨rfl, _, rfl, hm.fin0⟩
def rvDryT (S : SS) (w : Int) : Int := if 0 ≤ w ∧ w ≤ 1 then (if w = 0 then (dT (sF S) (sP S) (sY S)).1 else orn (dT (sF S) (sP S) (sY S)).2) else -1
set_option maxHeartbeats 1000000 in
theorem l_Mo_dryTwo2 {g : Mach} (C : Cx M_Mo_dryTwo g) {σ : St} {m P l y : Cs} {φ : Phi} {w p B : Int} (hPl : PlanOk P l φ) (hM : MPl P m) (hF : FlowC φ P m) (hp : 0 ≤ p ∧ p < P 3 0) (hmy : RY (m 50) y) (hQy : QY P B y) (hB : 0 ≤ B ∧ B < 1800000000) :
    ∀ (n : Nat) (o b1 b2 : Int) (m' : Cs) (R : Int → Int), MS m m' → p < o → o + n = P 3 0 → okb b1 b2 → (∀ c1 c2 R' m'', MS m m'' → okb c1 c2 → itr (dst2 φ P y p) n o (b1, b2) = (c1, c2) → Ev g 145 [some (.inr (.inr (1, 0))), some (.inl w), some (.inl c1), some (.inl c2), some (.inl p), none, none] [] (MF σ m'' R')) → Ev g 41 [some (.inr (.inr (1, 0))), some (.inl w), some (.inl b1), some (.inl b2), some (.inl p), some (.inl o), none] [] (MF σ m' R) := by
  have hN := hPl.1
  intro n
  induction n with
  | zero =>
    intro o b1 b2 m' R hm h0 h1 hb hQ
    have hM' := hM.same hm.mp
    have hlv := hM'.1
    have he := hM'.2.1
    refine e_iload C d_Mo_dryTwo_41 rfl ?_
    refine e_aload_n C d_Mo_dryTwo_43 rfl ?_
    refine e_geta C fl_Mo_49 (by decide) rfl rfl d_Mo_dryTwo_44 ?_
    refine e_aload_n C d_Mo_dryTwo_47 rfl ?_
    refine e_geti C fl_Mo_215 (by decide) rfl rfl d_Mo_dryTwo_48 (fun r_48 => ?_)
    try simp only [MF_f, he, ne_eq, Nat.reduceEqDiff, not_false_eq_true] at r_48 ⊢
    refine e_iald (n := 2) C (by decide) rfl (by decide) rfl rfl (by decide) (by omega) (by omega) d_Mo_dryTwo_51 (fun r_51 => ?_)
    try simp only [MF_f, he, ne_eq, Nat.reduceEqDiff, not_false_eq_true] at r_51 ⊢
    refine e_icmp_ge C 145 d_Mo_dryTwo_52 (by decide) (by omega) (by omega) (fun c_52 => ?_) (fun c_52 => ?_)
    · exact e_drop 5 (hQ b1 b2 R m' hm hb rfl)
    · exact absurd h1 (by omega)
  | succ n ih =>
    intro o b1 b2 m' R hm h0 h1 hb hQ
    have hM' := hM.same hm.mp
    have hlv := hM'.1
    have he := hM'.2.1
    have e50 := hm 50 (by decide) (by decide) (by decide) (by decide)
    rw [itr_S] at hQ
    have hin := msb_in φ P (cu (cu y 3 p 1) 3 o 1)
    refine e_iload C d_Mo_dryTwo_41 rfl ?_
    refine e_aload_n C d_Mo_dryTwo_43 rfl ?_
    refine e_geta C fl_Mo_49 (by decide) rfl rfl d_Mo_dryTwo_44 ?_
    refine e_aload_n C d_Mo_dryTwo_47 rfl ?_
    refine e_geti C fl_Mo_215 (by decide) rfl rfl d_Mo_dryTwo_48 (fun r_48 => ?_)
    try simp only [MF_f, MF_51, he, so_at, so_so, wr_so, lnm_s, lnm_cu, ne_eq, Nat.reduceEqDiff, not_false_eq_true] at r_48 ⊢
    refine e_iald (n := 2) C (by decide) rfl (by decide) rfl rfl (by decide) (by omega) (by omega) d_Mo_dryTwo_51 (fun r_51 => ?_)
    try simp only [MF_f, MF_51, he, so_at, so_so, wr_so, lnm_s, lnm_cu, ne_eq, Nat.reduceEqDiff, not_false_eq_true] at r_51 ⊢
    refine e_icmp_ge C 145 d_Mo_dryTwo_52 (by decide) (by omega) (by omega) (fun c_52 => ?_) (fun c_52 => ?_)
    · exact absurd h1 (by omega)
    · refine e_aload_n C d_Mo_dryTwo_55 rfl ?_
      refine e_callVV C ok_Mo_copies lk_Mo_330 (o := 1) (by decide) rfl [] rfl rfl (Nat.le_of_ble_eq_true rfl) (by decide) (Nat.le_of_ble_eq_true rfl) d_Mo_dryTwo_56 (k_Mo_copies) (fun u_56 h_56 => ?_)
      subst h_56
      have hy := RY_cp (R := R) hmy
      rw [← e50] at hy
      generalize r_cp R (m' 50) 100 = R1 at hy ⊢
      have hyp := hy.1 p hp.1 (by omega)
      have hyo := hy.1 o (by omega) (by omega)
      refine e_aload_n C d_Mo_dryTwo_59 rfl ?_
      refine e_geta C fl_Mo_119 (by decide) rfl rfl d_Mo_dryTwo_60 ?_
      refine e_bipush C d_Mo_dryTwo_63 (by decide) ?_
      refine e_iload C d_Mo_dryTwo_65 rfl ?_
      refine e_iadd C d_Mo_dryTwo_67 ?_
      refine e_iald (n := 100) C (by decide) rfl (by decide) rfl rfl (by decide) (by omega) (by omega) d_Mo_dryTwo_68 (fun r_68 => ?_)
      try simp only [MF_f, MF_51, he, so_at, so_so, wr_so, lnm_s, lnm_cu, ne_eq, Nat.reduceEqDiff, not_false_eq_true] at r_68 ⊢
      rw [hyp.2.2.2.1] at r_68 ⊢
      refine e_iconst C d_Mo_dryTwo_69 ?_
      refine e_icmp_eq C 139 d_Mo_dryTwo_70 (by decide) (by omega) (by omega) (fun c_70 => ?_) (fun c_70 => ?_)
      · rw [dst2_a (Or.inl c_70)] at hQ
        refine e_iinc C d_Mo_dryTwo_139 rfl (by decide) rfl ?_
        refine e_goto C 41 d_Mo_dryTwo_142 (by decide) ?_
        first | exact ih (o + 1) _ _ m' _ hm (by omega) (by omega) hb hQ | exact e_drop 6 (ih (o + 1) _ _ m2 _ hm3 (by omega) (by omega) hb hQ) | exact e_drop 6 (ih (o + 1) _ _ m2 _ hm3 (by omega) (by omega) hb2 hQ)
      · refine e_aload_n C d_Mo_dryTwo_73 rfl ?_
        refine e_geta C fl_Mo_119 (by decide) rfl rfl d_Mo_dryTwo_74 ?_
        refine e_bipush C d_Mo_dryTwo_77 (by decide) ?_
        refine e_iload C d_Mo_dryTwo_79 rfl ?_
        refine e_iadd C d_Mo_dryTwo_81 ?_
        refine e_iald (n := 100) C (by decide) rfl (by decide) rfl rfl (by decide) (by omega) (by omega) d_Mo_dryTwo_82 (fun r_82 => ?_)
        try simp only [MF_f, MF_51, he, so_at, so_so, wr_so, lnm_s, lnm_cu, ne_eq, Nat.reduceEqDiff, not_false_eq_true] at r_82 ⊢
        rw [hyo.2.2.2.1] at r_82 ⊢
        refine e_iconst C d_Mo_dryTwo_83 ?_
        refine e_icmp_ne C 90 d_Mo_dryTwo_84 (by decide) (by omega) (by omega) (fun c_84 => ?_) (fun c_84 => ?_)
        · have hno : ¬ (y 3 p = 1 ∨ y 3 o = 1) := by omega
          have hy1 := RY_3 (RY_3 hy (q := p) (v := 1) (by omega)) (q := o) (v := 1) (by omega)
          refine e_aload_n C d_Mo_dryTwo_90 rfl ?_
          refine e_geta C fl_Mo_119 (by decide) rfl rfl d_Mo_dryTwo_91 ?_
          refine e_bipush C d_Mo_dryTwo_94 (by decide) ?_
          refine e_iload C d_Mo_dryTwo_96 rfl ?_
          refine e_iadd C d_Mo_dryTwo_98 ?_
          refine e_iconst C d_Mo_dryTwo_99 ?_
          refine e_iast (n := 100) C (by decide) rfl (by decide) rfl rfl (by decide) (by omega) (by omega) (by omega) d_Mo_dryTwo_100 ?_
          try simp only [MF_f, MF_51, he, so_at, so_so, wr_so, lnm_s, lnm_cu, ne_eq, Nat.reduceEqDiff, not_false_eq_true]
          refine e_aload_n C d_Mo_dryTwo_101 rfl ?_
          refine e_geta C fl_Mo_119 (by decide) rfl rfl d_Mo_dryTwo_102 ?_
          refine e_bipush C d_Mo_dryTwo_105 (by decide) ?_
          refine e_iload C d_Mo_dryTwo_107 rfl ?_
          refine e_iadd C d_Mo_dryTwo_109 ?_
          refine e_iconst C d_Mo_dryTwo_110 ?_
          refine e_iast (n := 100) C (by decide) rfl (by decide) rfl rfl (by decide) (by omega) (by omega) (by omega) d_Mo_dryTwo_111 ?_
          try simp only [MF_f, MF_51, he, so_at, so_so, wr_so, lnm_s, lnm_cu, ne_eq, Nat.reduceEqDiff, not_false_eq_true]
          refine e_aload_n C d_Mo_dryTwo_112 rfl ?_
          refine e_callIV C ok_Mo_sleptBy lk_Mo_357 (o := 1) (by decide) rfl [] rfl rfl (Nat.le_of_ble_eq_true rfl) (by decide) (Nat.le_of_ble_eq_true rfl) d_Mo_dryTwo_113 (k_Mo_sleptBy hPl hM' (hF.same hm.mp) hy1 (QY_dry (QY_dry hQy)) hB) (fun v_113 u_113 q_113 h_113 => ?_)
          obtain ⟨rfl, R2, m2, hm2, rfl⟩ := h_113
          refine e_istore C d_Mo_dryTwo_116 (by decide) rfl ?_
          refine e_iload C d_Mo_dryTwo_118 rfl ?_
          refine e_iload_n C d_Mo_dryTwo_120 rfl ?_
          refine e_icmp_lt C 127 d_Mo_dryTwo_121 (by decide) (by omega) (by omega) (fun c_121 => ?_) (fun c_121 => ?_)
          · rw [dst2_c hno (show ¬ b2 ≤ _ by omega)] at hQ
            have hb2 : okb (10 * p + o) (msb φ P (cu (cu y 3 p 1) 3 o 1)) := by omega
            have hm3 := hm.tr hm2
            refine e_bipush C d_Mo_dryTwo_127 (by decide) ?_
            refine e_iload C d_Mo_dryTwo_129 rfl ?_
            refine e_imul C d_Mo_dryTwo_131 ?_
            refine e_iload C d_Mo_dryTwo_132 rfl ?_
            refine e_iadd C d_Mo_dryTwo_134 ?_
            refine e_istore_n C d_Mo_dryTwo_135 (by decide) rfl ?_
            refine e_iload C d_Mo_dryTwo_136 rfl ?_
            refine e_istore_n C d_Mo_dryTwo_138 (by decide) rfl ?_
            refine e_iinc C d_Mo_dryTwo_139 rfl (by decide) rfl ?_
            refine e_goto C 41 d_Mo_dryTwo_142 (by decide) ?_
            first | exact ih (o + 1) _ _ m' _ hm (by omega) (by omega) hb hQ | exact e_drop 6 (ih (o + 1) _ _ m2 _ hm3 (by omega) (by omega) hb hQ) | exact e_drop 6 (ih (o + 1) _ _ m2 _ hm3 (by omega) (by omega) hb2 hQ)
          · rw [dst2_b hno (show b2 ≤ _ by omega)] at hQ
            have hm3 := hm.tr hm2
            refine e_goto C 139 d_Mo_dryTwo_124 (by decide) ?_
            refine e_iinc C d_Mo_dryTwo_139 rfl (by decide) rfl ?_
            refine e_goto C 41 d_Mo_dryTwo_142 (by decide) ?_
            first | exact ih (o + 1) _ _ m' _ hm (by omega) (by omega) hb hQ | exact e_drop 6 (ih (o + 1) _ _ m2 _ hm3 (by omega) (by omega) hb hQ) | exact e_drop 6 (ih (o + 1) _ _ m2 _ hm3 (by omega) (by omega) hb2 hQ)
        · rw [dst2_a (Or.inr c_84)] at hQ
          refine e_goto C 139 d_Mo_dryTwo_87 (by decide) ?_
          refine e_iinc C d_Mo_dryTwo_139 rfl (by decide) rfl ?_
          refine e_goto C 41 d_Mo_dryTwo_142 (by decide) ?_
          first | exact ih (o + 1) _ _ m' _ hm (by omega) (by omega) hb hQ | exact e_drop 6 (ih (o + 1) _ _ m2 _ hm3 (by omega) (by omega) hb hQ) | exact e_drop 6 (ih (o + 1) _ _ m2 _ hm3 (by omega) (by omega) hb2 hQ)
theorem l_Mo_dryTwo1 {g : Mach} {Q : Int → St → Prop} (C : Cx M_Mo_dryTwo g) (F : FinI M_Mo_dryTwo g Q) {σ : St} {m P l y : Cs} {φ : Phi} {w B : Int} (hPl : PlanOk P l φ) (hM : MPl P m) (hF : FlowC φ P m) (hw : 0 ≤ w ∧ w ≤ 1) (hmy : RY (m 50) y) (hQy : QY P B y) (hB : 0 ≤ B ∧ B < 1800000000) :
    ∀ (n : Nat) (i b1 b2 : Int) (m' : Cs) (R : Int → Int), MS m m' → 0 ≤ i → i + n = P 3 0 → okb b1 b2 → (∀ R' m'', MS m m'' → Q (if w = 0 then (itr (din φ P y) n i (b1, b2)).1 else orn (itr (din φ P y) n i (b1, b2)).2) (MF σ m'' R')) → Ev g 21 [some (.inr (.inr (1, 0))), some (.inl w), some (.inl b1), some (.inl b2), some (.inl i), none, none] [] (MF σ m' R) := by
  have hN := hPl.1
  intro n
  induction n with
  | zero =>
    intro i b1 b2 m' R hm h0 h1 hb hQ
    have hM' := hM.same hm.mp
    have hlv := hM'.1
    have he := hM'.2.1
    refine e_iload C d_Mo_dryTwo_21 rfl ?_
    refine e_aload_n C d_Mo_dryTwo_23 rfl ?_
    refine e_geta C fl_Mo_49 (by decide) rfl rfl d_Mo_dryTwo_24 ?_
    refine e_aload_n C d_Mo_dryTwo_27 rfl ?_
    refine e_geti C fl_Mo_215 (by decide) rfl rfl d_Mo_dryTwo_28 (fun r_28 => ?_)
    try simp only [MF_f, he, ne_eq, Nat.reduceEqDiff, not_false_eq_true] at r_28 ⊢
    refine e_iald (n := 2) C (by decide) rfl (by decide) rfl rfl (by decide) (by omega) (by omega) d_Mo_dryTwo_31 (fun r_31 => ?_)
    try simp only [MF_f, he, ne_eq, Nat.reduceEqDiff, not_false_eq_true] at r_31 ⊢
    refine e_icmp_ge C 151 d_Mo_dryTwo_32 (by decide) (by omega) (by omega) (fun c_32 => ?_) (fun c_32 => ?_)
    · refine e_iload_n C d_Mo_dryTwo_151 rfl ?_
      refine e_if_ne C 159 d_Mo_dryTwo_152 (by decide) (by omega) (fun c_152 => ?_) (fun c_152 => ?_)
      · have hq := hQ R m' hm
        rw [if_neg c_152] at hq
        refine e_iload_n C d_Mo_dryTwo_159 rfl ?_
        refine e_callIS C ok_Mo_orNot lk_Mo_360 [_] rfl rfl (Nat.le_of_ble_eq_true rfl) (by decide) (Nat.le_of_ble_eq_true rfl) d_Mo_dryTwo_160 (k_Mo_orNot (by omega)) (fun v_160 u_160 q_160 h_160 => ?_)
        obtain ⟨rfl, rfl⟩ := h_160
        refine e_iret C F rfl d_Mo_dryTwo_163 (by first | omega | exact orn_r (by omega)) ?_
        exact hq
      · have hq := hQ R m' hm
        rw [if_pos c_152] at hq
        refine e_iload_n C d_Mo_dryTwo_155 rfl ?_
        refine e_goto C 163 d_Mo_dryTwo_156 (by decide) ?_
        refine e_iret C F rfl d_Mo_dryTwo_163 (by first | omega | exact orn_r (by omega)) ?_
        exact hq
    · exact absurd h1 (by omega)
  | succ n ih =>
    intro i b1 b2 m' R hm h0 h1 hb hQ
    have hM' := hM.same hm.mp
    have hlv := hM'.1
    have he := hM'.2.1
    rw [itr_S] at hQ
    unfold din at hQ
    refine e_iload C d_Mo_dryTwo_21 rfl ?_
    refine e_aload_n C d_Mo_dryTwo_23 rfl ?_
    refine e_geta C fl_Mo_49 (by decide) rfl rfl d_Mo_dryTwo_24 ?_
    refine e_aload_n C d_Mo_dryTwo_27 rfl ?_
    refine e_geti C fl_Mo_215 (by decide) rfl rfl d_Mo_dryTwo_28 (fun r_28 => ?_)
    try simp only [MF_f, he, ne_eq, Nat.reduceEqDiff, not_false_eq_true] at r_28 ⊢
    refine e_iald (n := 2) C (by decide) rfl (by decide) rfl rfl (by decide) (by omega) (by omega) d_Mo_dryTwo_31 (fun r_31 => ?_)
    try simp only [MF_f, he, ne_eq, Nat.reduceEqDiff, not_false_eq_true] at r_31 ⊢
    refine e_icmp_ge C 151 d_Mo_dryTwo_32 (by decide) (by omega) (by omega) (fun c_32 => ?_) (fun c_32 => ?_)
    · exact absurd h1 (by omega)
    · refine e_iload C d_Mo_dryTwo_35 rfl ?_
      refine e_iconst C d_Mo_dryTwo_37 ?_
      refine e_iadd C d_Mo_dryTwo_38 ?_
      refine e_istore C d_Mo_dryTwo_39 (by decide) rfl ?_
      refine l_Mo_dryTwo2 (p := i) C hPl hM hF (by omega) hmy hQy hB (P 3 0 - (i + 1)).toNat (i + 1) b1 b2 m' R hm (by omega) (by omega) hb (fun c1 c2 R' m'' hm'' hc e => ?_)
      rw [e] at hQ
      refine e_iinc C d_Mo_dryTwo_145 rfl (by decide) rfl ?_
      refine e_goto C 21 d_Mo_dryTwo_148 (by decide) ?_
      exact ih (i + 1) c1 c2 m'' R' hm'' (by omega) (by omega) hc hQ
theorem K_Mo_dryTwo {σ : St} {m : Cs} {S : SS} {n w : Int} (hp : PI S n) (hm : IVm S m) (r1 : R32 w) : CtI M_Mo_dryTwo [.inr (.inr (1, 0)), .inl w] (so σ 1 m) (fun r u => r = rvDryT S w ∧ ∃ m', u = so σ 1 m' ∧ IVm S m') := by
  intro g C F
  obtain ⟨l, hPl⟩ := hp.pl
  have hN := hPl.1
  have hM := hm.1.1
  have hn := hp.n
  rw [soMF]
  unfold rvDryT dT at F
  refine e_iload_n C d_Mo_dryTwo_0 rfl ?_
  refine e_iconst C d_Mo_dryTwo_1 ?_
  refine e_iconst C d_Mo_dryTwo_2 ?_
  refine e_callIS C ok_Mo_in lk_Mo_302 [_, _, _] rfl rfl (Nat.le_of_ble_eq_true rfl) (by decide) (Nat.le_of_ble_eq_true rfl) d_Mo_dryTwo_3 (k_Mo_in r1 (by omega) (by omega)) (fun v_3 u_3 q_3 h_3 => ?_)
  obtain ⟨rfl, rfl⟩ := h_3
  refine e_if_ne C 11 d_Mo_dryTwo_6 (by decide) (by split <;> omega) (fun c_6 => ?_) (fun c_6 => ?_)
  · have hv := in_t c_6
    rw [if_pos hv] at F
    refine e_bipush C d_Mo_dryTwo_11 (by decide) ?_
    refine e_istore_n C d_Mo_dryTwo_13 (by decide) rfl ?_
    refine e_sipush C d_Mo_dryTwo_14 (by decide) ?_
    refine e_istore_n C d_Mo_dryTwo_17 (by decide) rfl ?_
    refine e_iconst C d_Mo_dryTwo_18 ?_
    refine e_istore C d_Mo_dryTwo_19 (by decide) rfl ?_
    exact l_Mo_dryTwo1 C F hPl hM hm.1.2.1 hv hm.2.1 hp.y.1 (by omega) _ 0 _ _ m _ (MS.rf m) (by omega) (by omega) (by omega) (fun R' m' h => ⟨rfl, _, rfl, hm.fin h⟩)
  · have hv := in_f c_6
    rw [if_neg hv] at F
    refine e_iconst C d_Mo_dryTwo_9 ?_
    refine e_iret C F rfl d_Mo_dryTwo_10 (by omega) ?_
    exact ⟨rfl, _, rfl, hm.fin0⟩
