/-! the reference's minute, whole; what flows there is taken as FlowC -/
/-- the same plan -/
def MP (m m' : Cs) : Prop := ∀ f, 9 ≤ f → f ≤ 44 → m' f = m f
theorem MS.mp {m m' : Cs} (h : MS m m') : MP m m' := fun f a b => h f (by omega) (by omega) (by omega) (by omega)
theorem MP.tr {m m1 m2 : Cs} (h : MP m m1) (h2 : MP m1 m2) : MP m m2 := fun f a b => (h2 f a b).trans (h f a b)
/-- how much of a field belongs to one side -/
def szS (f : Nat) : Int := if f = 24 ∨ f = 29 ∨ f = 31 ∨ f = 33 ∨ f = 34 ∨ f = 35 then 1 else if f = 25 ∨ f = 26 ∨ f = 27 ∨ f = 28 then 8 else if f = 30 then 12 else if f = 32 then 24 else if f = 37 ∨ f = 38 ∨ f = 39 ∨ f = 40 ∨ f = 41 then 130 else if f = 43 ∨ f = 44 then 420 else 0
/-- the same plan on the side that lives -/
def MW (m m' : Cs) : Prop := m' 18 0 = m 18 0 ∧ ∀ f k, szS f * m 18 0 ≤ k → k < szS f * m 18 0 + szS f → m' f k = m f k
theorem MP.w {m m' : Cs} (h : MP m m') : MW m m' := by
  refine ⟨by rw [h 18 (by decide) (by decide)], fun f k a b => ?_⟩
  by_cases z : 9 ≤ f ∧ f ≤ 44
  · rw [h f z.1 z.2]
  · have e : szS f = 0 := by unfold szS; rw [if_neg (by omega), if_neg (by omega), if_neg (by omega), if_neg (by omega), if_neg (by omega), if_neg (by omega)]
    rw [e] at a b
    omega
theorem MW.tr {m m1 m2 : Cs} (h : MW m m1) (h2 : MW m1 m2) : MW m m2 := by
  refine ⟨h2.1.trans h.1, fun f k a b => ?_⟩
  rw [h2.2 f k (by rw [h.1]; exact a) (by rw [h.1]; exact b)]
  exact h.2 f k a b
theorem MW.rf (m : Cs) : MW m m := ⟨rfl, fun _ _ _ _ => rfl⟩
/-- the reference's flowOf tells what φ tells (proved where its law's code is known) -/
def FlowC (φ : Phi) (P m : Cs) : Prop := ∀ (σ : St) (m' y : Cs) (R : Int → Int) (p : Int), MW m m' → RY R y → 0 ≤ p → p < P 3 0 → 0 ≤ y 0 p → 0 ≤ y 12 0 → CtI M_Mo_flowOf [.inr (.inr (1, 0)), .inl p] (MF σ m' R) (fun r u => r = c_fls φ P y p ∧ ∃ m'', MS m' m'' ∧ u = MF σ m'' R)
/-- what the reference's plan says of posts and guards -/
def MPl (P m : Cs) : Prop := (0 ≤ m 18 0 ∧ m 18 0 ≤ 1) ∧ m 24 (m 18 0) = P 3 0 ∧ m 29 (m 18 0) = P 4 0 ∧ m 33 (m 18 0) = P 6 0
theorem MPl.same {P m m' : Cs} (h : MPl P m) (hs : MP m m') : MPl P m' := by
  unfold MPl
  rw [hs 18 (by decide) (by decide), hs 24 (by decide) (by decide), hs 29 (by decide) (by decide), hs 33 (by decide) (by decide)]
  exact h
theorem FlowC.same {φ : Phi} {P m m' : Cs} (h : FlowC φ P m) (hs : MP m m') : FlowC φ P m' := fun σ m2 y R p h2 => h σ m2 y R p (hs.w.tr h2)
theorem FlowC.w {φ : Phi} {P m m' : Cs} (h : FlowC φ P m) (hs : MW m m') : FlowC φ P m' := fun σ m2 y R p h2 => h σ m2 y R p (hs.tr h2)
theorem RY_down {R : Int → Int} {y : Cs} {p n : Int} (h : RY R y) (hp : 0 ≤ p ∧ p < 8) : RY (ua (ua R p (R p - n)) (8 + p) (R (8 + p) + n)) (c_down y p n) := by
  have := h.1 p hp.1 hp.2
  unfold c_down
  rw [this.1, this.2.1]
  exact RY_1 (RY_0 h hp) hp
theorem l_Mo_runs {g : Mach} {Q : St → Prop} (C : Cx M_Mo_runs g) (F : FinV M_Mo_runs g Q) {σ : St} {m P l : Cs} {φ : Phi} {B : Int} (hPl : PlanOk P l φ) (hM : MPl P m) (hF : FlowC φ P m) :
    ∀ (n : Nat) (i : Int) (m' y : Cs) (R : Int → Int), MS m m' → RY R y → (∀ p, i ≤ p → p < P 3 0 → 0 ≤ y 0 p ∧ 0 ≤ y 1 p ∧ y 0 p + y 1 p ≤ 1000000000) → 0 ≤ y 12 0 → 0 ≤ i → i + n = P 3 0 → (∀ R' m'', MS m m'' → RY R' (itr (mrun φ P) n i y) → Q (MF σ m'' R')) → Ev g 2 [some (.inr (.inr (1, 0))), some (.inl i), none] [] (MF σ m' R) := by
  intro n
  have hN := hPl.1
  induction n with
  | zero =>
    intro i m' y R hm hy hb h12 h0 h1 hQ
    have hM' := hM.same hm.mp
    refine e_iload_n C d_Mo_runs_2 rfl ?_
    refine e_aload_n C d_Mo_runs_3 rfl ?_
    refine e_geta C fl_Mo_49 (by decide) rfl rfl d_Mo_runs_4 ?_
    refine e_aload_n C d_Mo_runs_7 rfl ?_
    refine e_geti C fl_Mo_215 (by decide) rfl rfl d_Mo_runs_8 (fun r_8 => ?_)
    try simp only [so_at, lnm_s, lnm_f, hM'.2.1, ne_eq, Nat.reduceEqDiff, not_false_eq_true] at r_8 ⊢
    have hlv := hM'.1
    refine e_iald (n := 2) C (by decide) rfl (by decide) rfl rfl (by decide) (by omega) (by omega) d_Mo_runs_11 (fun r_11 => ?_)
    try simp only [so_at, lnm_s, lnm_f, hM'.2.1, ne_eq, Nat.reduceEqDiff, not_false_eq_true] at r_11 ⊢
    refine e_icmp_ge C 50 d_Mo_runs_12 (by decide) (by omega) (by omega) (fun c_12 => ?_) (fun c_12 => ?_)
    · refine e_vret C F rfl d_Mo_runs_50 ?_
      exact hQ R m' hm hy
    · exact absurd h1 (by omega)
  | succ n ih =>
    intro i m' y R hm hy hb h12 h0 h1 hQ
    have hM' := hM.same hm.mp
    have hlv := hM'.1
    have hbi := hb i (by omega) (by omega)
    have hyi := hy.1 i h0 (by omega)
    have hfi : 0 ≤ c_fls φ P y i ∧ c_fls φ P y i ≤ y 0 i := flw_in hbi.1
    refine e_iload_n C d_Mo_runs_2 rfl ?_
    refine e_aload_n C d_Mo_runs_3 rfl ?_
    refine e_geta C fl_Mo_49 (by decide) rfl rfl d_Mo_runs_4 ?_
    refine e_aload_n C d_Mo_runs_7 rfl ?_
    refine e_geti C fl_Mo_215 (by decide) rfl rfl d_Mo_runs_8 (fun r_8 => ?_)
    try simp only [so_at, so_so, wr_so, lnm_s, lnm_cu, lnm_f, hM'.2.1, ne_eq, Nat.reduceEqDiff, not_false_eq_true] at r_8 ⊢
    refine e_iald (n := 2) C (by decide) rfl (by decide) rfl rfl (by decide) (by omega) (by omega) d_Mo_runs_11 (fun r_11 => ?_)
    try simp only [so_at, so_so, wr_so, lnm_s, lnm_cu, lnm_f, hM'.2.1, ne_eq, Nat.reduceEqDiff, not_false_eq_true] at r_11 ⊢
    refine e_icmp_ge C 50 d_Mo_runs_12 (by decide) (by omega) (by omega) (fun c_12 => ?_) (fun c_12 => ?_)
    · exact absurd h1 (by omega)
    · refine e_aload_n C d_Mo_runs_15 rfl ?_
      refine e_iload_n C d_Mo_runs_16 rfl ?_
      refine e_callIV C ok_Mo_flowOf lk_Mo_312 (o := 1) (by decide) rfl [_] rfl rfl (Nat.le_of_ble_eq_true rfl) (by decide) (Nat.le_of_ble_eq_true rfl) d_Mo_runs_17 (hF σ m' y R i hm.mp.w hy h0 (by omega) hbi.1 h12) (fun v_17 u_17 q_17 h_17 => ?_)
      obtain ⟨rfl, m2, hm2, rfl⟩ := h_17
      refine e_istore_n C d_Mo_runs_20 (by decide) rfl ?_
      refine e_aload_n C d_Mo_runs_21 rfl ?_
      refine e_geta C fl_Mo_119 (by decide) rfl rfl d_Mo_runs_22 ?_
      refine e_iload_n C d_Mo_runs_25 rfl ?_
      refine e_dup2 C d_Mo_runs_26 rfl rfl ?_
      refine e_iald (n := 100) C (by decide) rfl (by decide) rfl rfl (by decide) (by omega) (by omega) d_Mo_runs_27 (fun r_27 => ?_)
      try simp only [so_at, so_so, wr_so, lnm_s, lnm_cu, lnm_f, hM'.2.1, ne_eq, Nat.reduceEqDiff, not_false_eq_true] at r_27 ⊢
      refine e_iload_n C d_Mo_runs_28 rfl ?_
      refine e_isub C d_Mo_runs_29 ?_
      refine e_iast (n := 100) C (by decide) rfl (by decide) rfl rfl (by decide) (by omega) (by omega) (by omega) d_Mo_runs_30 ?_
      try simp only [so_at, so_so, wr_so, lnm_s, lnm_cu, lnm_f, hM'.2.1, ne_eq, Nat.reduceEqDiff, not_false_eq_true]
      refine e_aload_n C d_Mo_runs_31 rfl ?_
      refine e_geta C fl_Mo_119 (by decide) rfl rfl d_Mo_runs_32 ?_
      refine e_bipush C d_Mo_runs_35 (by decide) ?_
      refine e_iload_n C d_Mo_runs_37 rfl ?_
      refine e_iadd C d_Mo_runs_38 ?_
      refine e_dup2 C d_Mo_runs_39 rfl rfl ?_
      refine e_iald (n := 100) C (by decide) rfl (by decide) rfl rfl (by decide) (by omega) (by omega) d_Mo_runs_40 (fun r_40 => ?_)
      try simp only [so_at, so_so, wr_so, lnm_s, lnm_cu, lnm_f, hM'.2.1, ne_eq, Nat.reduceEqDiff, not_false_eq_true] at r_40 ⊢
      rw [ua_ne (by omega)] at r_40 ⊢
      refine e_iload_n C d_Mo_runs_41 rfl ?_
      refine e_iadd C d_Mo_runs_42 ?_
      refine e_iast (n := 100) C (by decide) rfl (by decide) rfl rfl (by decide) (by omega) (by omega) (by omega) d_Mo_runs_43 ?_
      try simp only [so_at, so_so, wr_so, lnm_s, lnm_cu, lnm_f, hM'.2.1, ne_eq, Nat.reduceEqDiff, not_false_eq_true]
      refine e_iinc C d_Mo_runs_44 rfl (by decide) rfl ?_
      refine e_goto C 2 d_Mo_runs_47 (by decide) ?_
      refine e_drop 2 ?_
      refine ih (i + 1) m2 (mrun φ P i y) _ (hm.tr hm2) (RY_down hy (by omega)) (fun p a b => ?_) ?_ (by omega) (by omega) hQ
      · have e0 : mrun φ P i y 0 p = y 0 p := by unfold mrun c_down; rw [cu_f (by decide), cu_k (by omega)]
        have e1 : mrun φ P i y 1 p = y 1 p := by unfold mrun c_down; rw [cu_k (by omega), cu_f (by decide)]
        rw [e0, e1]
        exact hb p (by omega) b
      · unfold mrun
        rw [c_down_f (by decide) (by decide)]
        exact h12
theorem k_Mo_runs {σ : St} {m P l y : Cs} {φ : Phi} {B : Int} {R : Int → Int} (hPl : PlanOk P l φ) (hM : MPl P m) (hF : FlowC φ P m) (hy : RY R y) (hQ : QY P B y) : CtV M_Mo_runs [.inr (.inr (1, 0))] (MF σ m R) (fun u => ∃ R' m', MS m m' ∧ RY R' (itr (mrun φ P) (P 3 0).toNat 0 y) ∧ u = MF σ m' R') := by
  intro g C F
  have hN := hPl.1
  have hG := hPl.2.1
  refine e_iconst C d_Mo_runs_0 ?_
  refine e_istore_n C d_Mo_runs_1 (by decide) rfl ?_
  exact l_Mo_runs (B := B) C F hPl hM hF (P 3 0).toNat 0 m y R (MS.rf m) hy (fun p a b => ⟨(hQ.post hN.2 hG.2 ⟨a, b⟩).1.1, (hQ.post hN.2 hG.2 ⟨a, b⟩).1.2.1, (hQ.post hN.2 hG.2 ⟨a, b⟩).1.2.2.1⟩) hQ.bed.2.2.1 (by omega) (by omega) (fun R' m' h1 h2 => ⟨R', m', h1, h2, rfl⟩)
theorem RY_cnt7 {R : Int → Int} {y : Cs} {k : Int} (h : RY R y) (hk : 0 ≤ k ∧ k < 12) (hb : 0 ≤ y 10 k ∧ y 10 k < 12) : RY (ua R (48 + R (84 + k)) (R (48 + R (84 + k)) + 1)) (mbed k y) := by
  have e := (h.2.1 k hk.1 hk.2).2.2.2
  unfold mbed
  rw [e, (h.2.1 (y 10 k) hb.1 hb.2).1]
  exact RY_7 h hb
set_option maxHeartbeats 2000000 in
theorem l_Mo_minuteGoes4 {g : Mach} {Q : St → Prop} (C : Cx M_Mo_minuteGoes g) (F : FinV M_Mo_minuteGoes g Q) {σ : St} {m P : Cs} {B : Int} (hM : MPl P m) (hN : 0 ≤ P 3 0 ∧ P 3 0 ≤ 8) (hG : P 4 0 ≤ 12) (hB : B < 2000000000) :
    ∀ (n : Nat) (i : Int) (y : Cs) (R : Int → Int), RY R y → (∀ p, i ≤ p → p < P 3 0 → y 2 p = -2 ∨ (0 ≤ y 2 p ∧ y 2 p < P 4 0)) → (∀ k, 0 ≤ k → k < P 4 0 → y 8 k ≤ B + i) → y 12 0 ≤ B → 0 ≤ i → i + n = P 3 0 → (∀ R', RY R' (cu (itr mwat n i y) 12 0 (y 12 0 + 1)) → Q (MF σ m R')) → Ev g 125 [some (.inr (.inr (1, 0))), some (.inl i)] [] (MF σ m R) := by
  intro n
  have hlv := hM.1
  induction n with
  | zero =>
    intro i y R hy h2 h8 h12 h0 h1 hQ
    have e97 := hy.2.2.2
    refine e_iload_n C d_Mo_minuteGoes_125 rfl ?_
    refine e_aload_n C d_Mo_minuteGoes_126 rfl ?_
    refine e_geta C fl_Mo_49 (by decide) rfl rfl d_Mo_minuteGoes_127 ?_
    refine e_aload_n C d_Mo_minuteGoes_130 rfl ?_
    refine e_geti C fl_Mo_215 (by decide) rfl rfl d_Mo_minuteGoes_131 (fun r_131 => ?_)
    try simp only [so_at, so_so, wr_so, lnm_s, lnm_cu, lnm_f, hM.2.1, ne_eq, Nat.reduceEqDiff, not_false_eq_true] at r_131 ⊢
    refine e_iald (n := 2) C (by decide) rfl (by decide) rfl rfl (by decide) (by omega) (by omega) d_Mo_minuteGoes_134 (fun r_134 => ?_)
    try simp only [so_at, so_so, wr_so, lnm_s, lnm_cu, lnm_f, hM.2.1, ne_eq, Nat.reduceEqDiff, not_false_eq_true] at r_134 ⊢
    refine e_icmp_ge C 177 d_Mo_minuteGoes_135 (by decide) (by omega) (by omega) (fun c_135 => ?_) (fun c_135 => ?_)
    · refine e_aload_n C d_Mo_minuteGoes_177 rfl ?_
      refine e_geta C fl_Mo_119 (by decide) rfl rfl d_Mo_minuteGoes_178 ?_
      refine e_bipush C d_Mo_minuteGoes_181 (by decide) ?_
      refine e_dup2 C d_Mo_minuteGoes_183 rfl rfl ?_
      refine e_iald (n := 100) C (by decide) rfl (by decide) rfl rfl (by decide) (by omega) (by omega) d_Mo_minuteGoes_184 (fun r_184 => ?_)
      try simp only [so_at, so_so, wr_so, lnm_s, lnm_cu, lnm_f, hM.2.1, ne_eq, Nat.reduceEqDiff, not_false_eq_true] at r_184 ⊢
      rw [e97] at r_184 ⊢
      refine e_iconst C d_Mo_minuteGoes_185 ?_
      refine e_iadd C d_Mo_minuteGoes_186 ?_
      refine e_iast (n := 100) C (by decide) rfl (by decide) rfl rfl (by decide) (by omega) (by omega) (by omega) d_Mo_minuteGoes_187 ?_
      try simp only [so_at, so_so, wr_so, lnm_s, lnm_cu, lnm_f, hM.2.1, ne_eq, Nat.reduceEqDiff, not_false_eq_true]
      refine e_vret C F rfl d_Mo_minuteGoes_188 ?_
      exact hQ _ (RY_12 hy)
    · exact absurd h1 (by omega)
  | succ n ih =>
    intro i y R hy h2 h8 h12 h0 h1 hQ
    have h2i := h2 i (by omega) (by omega)
    have hyi := hy.1 i h0 (by omega)
    have ee := em_lt (v := y 2 i) (by omega)
    refine e_iload_n C d_Mo_minuteGoes_125 rfl ?_
    refine e_aload_n C d_Mo_minuteGoes_126 rfl ?_
    refine e_geta C fl_Mo_49 (by decide) rfl rfl d_Mo_minuteGoes_127 ?_
    refine e_aload_n C d_Mo_minuteGoes_130 rfl ?_
    refine e_geti C fl_Mo_215 (by decide) rfl rfl d_Mo_minuteGoes_131 (fun r_131 => ?_)
    try simp only [so_at, so_so, wr_so, lnm_s, lnm_cu, lnm_f, hM.2.1, ne_eq, Nat.reduceEqDiff, not_false_eq_true] at r_131 ⊢
    refine e_iald (n := 2) C (by decide) rfl (by decide) rfl rfl (by decide) (by omega) (by omega) d_Mo_minuteGoes_134 (fun r_134 => ?_)
    try simp only [so_at, so_so, wr_so, lnm_s, lnm_cu, lnm_f, hM.2.1, ne_eq, Nat.reduceEqDiff, not_false_eq_true] at r_134 ⊢
    refine e_icmp_ge C 177 d_Mo_minuteGoes_135 (by decide) (by omega) (by omega) (fun c_135 => ?_) (fun c_135 => ?_)
    · exact absurd h1 (by omega)
    · refine e_aload_n C d_Mo_minuteGoes_138 rfl ?_
      refine e_geta C fl_Mo_119 (by decide) rfl rfl d_Mo_minuteGoes_139 ?_
      refine e_bipush C d_Mo_minuteGoes_142 (by decide) ?_
      refine e_iload_n C d_Mo_minuteGoes_144 rfl ?_
      refine e_iadd C d_Mo_minuteGoes_145 ?_
      refine e_iald (n := 100) C (by decide) rfl (by decide) rfl rfl (by decide) (by omega) (by omega) d_Mo_minuteGoes_146 (fun r_146 => ?_)
      try simp only [so_at, so_so, wr_so, lnm_s, lnm_cu, lnm_f, hM.2.1, ne_eq, Nat.reduceEqDiff, not_false_eq_true] at r_146 ⊢
      refine e_if_lt C 171 d_Mo_minuteGoes_147 (by decide) (by omega) (fun c_147 => ?_) (fun c_147 => ?_)
      · have e : mwat i y = y := by unfold mwat; rw [if_pos (by omega)]
        have hyS : RY R (mwat i y) := by rw [e]; exact hy
        refine e_iinc C d_Mo_minuteGoes_171 rfl (by decide) rfl ?_
        refine e_goto C 125 d_Mo_minuteGoes_174 (by decide) ?_
        refine ih (i + 1) (mwat i y) _ hyS (fun p a b => ?_) (fun k a b => ?_) ?_ (by omega) (by omega) (fun R' hR' => hQ R' ?_)
        · have : mwat i y 2 p = y 2 p := by rw [e]; try rw [cu_f (by decide)]
          rw [this]
          exact h2 p (by omega) b
        · have := h8 k a b
          unfold mwat
          split
          · omega
          · rw [cu_if]; split
            · rename_i z; rw [← z.2]; omega
            · omega
        · have : mwat i y 12 0 = y 12 0 := by rw [e]; try rw [cu_f (by decide)]
          rw [this]; exact h12
        · have : mwat i y 12 0 = y 12 0 := by rw [e]; try rw [cu_f (by decide)]
          rw [this] at hR'
          exact hR'
      · have hne : y 2 i ≠ -2 := by omega
        have e : mwat i y = cu y 8 (y 2 i) (y 8 (y 2 i) + 1) := by unfold mwat; rw [if_neg hne]
        have e1 : R (16 + i) = y 2 i := by rw [hyi.2.2.1]; exact em_id hne
        have e8 := (hy.2.1 (y 2 i) (by omega) (by omega)).2.1
        have h8i := h8 (y 2 i) (by omega) (by omega)
        have hyS : RY (ua R (60 + y 2 i) (y 8 (y 2 i) + 1)) (mwat i y) := by rw [e]; exact RY_8 hy (by omega)
        refine e_aload_n C d_Mo_minuteGoes_150 rfl ?_
        refine e_geta C fl_Mo_119 (by decide) rfl rfl d_Mo_minuteGoes_151 ?_
        refine e_bipush C d_Mo_minuteGoes_154 (by decide) ?_
        refine e_aload_n C d_Mo_minuteGoes_156 rfl ?_
        refine e_geta C fl_Mo_119 (by decide) rfl rfl d_Mo_minuteGoes_157 ?_
        refine e_bipush C d_Mo_minuteGoes_160 (by decide) ?_
        refine e_iload_n C d_Mo_minuteGoes_162 rfl ?_
        refine e_iadd C d_Mo_minuteGoes_163 ?_
        refine e_iald (n := 100) C (by decide) rfl (by decide) rfl rfl (by decide) (by omega) (by omega) d_Mo_minuteGoes_164 (fun r_164 => ?_)
        try simp only [so_at, so_so, wr_so, lnm_s, lnm_cu, lnm_f, hM.2.1, ne_eq, Nat.reduceEqDiff, not_false_eq_true] at r_164 ⊢
        rw [e1] at r_164 ⊢
        refine e_iadd C d_Mo_minuteGoes_165 ?_
        refine e_dup2 C d_Mo_minuteGoes_166 rfl rfl ?_
        refine e_iald (n := 100) C (by decide) rfl (by decide) rfl rfl (by decide) (by omega) (by omega) d_Mo_minuteGoes_167 (fun r_167 => ?_)
        try simp only [so_at, so_so, wr_so, lnm_s, lnm_cu, lnm_f, hM.2.1, ne_eq, Nat.reduceEqDiff, not_false_eq_true] at r_167 ⊢
        rw [e8] at r_167 ⊢
        refine e_iconst C d_Mo_minuteGoes_168 ?_
        refine e_iadd C d_Mo_minuteGoes_169 ?_
        refine e_iast (n := 100) C (by decide) rfl (by decide) rfl rfl (by decide) (by omega) (by omega) (by omega) d_Mo_minuteGoes_170 ?_
        try simp only [so_at, so_so, wr_so, lnm_s, lnm_cu, lnm_f, hM.2.1, ne_eq, Nat.reduceEqDiff, not_false_eq_true]
        refine e_iinc C d_Mo_minuteGoes_171 rfl (by decide) rfl ?_
        refine e_goto C 125 d_Mo_minuteGoes_174 (by decide) ?_
        refine ih (i + 1) (mwat i y) _ hyS (fun p a b => ?_) (fun k a b => ?_) ?_ (by omega) (by omega) (fun R' hR' => hQ R' ?_)
        · have : mwat i y 2 p = y 2 p := by rw [e]; try rw [cu_f (by decide)]
          rw [this]
          exact h2 p (by omega) b
        · have := h8 k a b
          unfold mwat
          split
          · omega
          · rw [cu_if]; split
            · rename_i z; rw [← z.2]; omega
            · omega
        · have : mwat i y 12 0 = y 12 0 := by rw [e]; try rw [cu_f (by decide)]
          rw [this]; exact h12
        · have : mwat i y 12 0 = y 12 0 := by rw [e]; try rw [cu_f (by decide)]
          rw [this] at hR'
          exact hR'
set_option maxHeartbeats 2000000 in
theorem l_Mo_minuteGoes3 {g : Mach} {Q : St → Prop} (C : Cx M_Mo_minuteGoes g) (F : FinV M_Mo_minuteGoes g Q) {σ : St} {m P : Cs} {B : Int} (hM : MPl P m) (hN : 0 ≤ P 3 0 ∧ P 3 0 ≤ 8) (hG : P 4 0 ≤ 12) (hB : B < 2000000000 - 100) :
    ∀ (n : Nat) (i : Int) (y : Cs) (R : Int → Int), RY R y → (∀ p, 0 ≤ p → p < P 3 0 → y 2 p = -2 ∨ (0 ≤ y 2 p ∧ y 2 p < P 4 0)) → (∀ k, 0 ≤ k → k < y 11 0 → 0 ≤ y 10 k ∧ y 10 k < P 4 0) → (∀ k, 0 ≤ k → k < P 4 0 → y 7 k ≤ B + i ∧ y 8 k ≤ B) → y 12 0 ≤ B → y 11 0 ≤ P 4 0 → 0 ≤ i → i + n = y 11 0 → (∀ R', RY R' (cu (itr mwat (P 3 0).toNat 0 (itr mbed n i y)) 12 0 (y 12 0 + 1)) → Q (MF σ m R')) → Ev g 85 [some (.inr (.inr (1, 0))), some (.inl i)] [] (MF σ m R) := by
  intro n
  have hlv := hM.1
  induction n with
  | zero =>
    intro i y R hy h2 h10 h78 h12 h11 h0 h1 hQ
    have e96 := hy.2.2.1
    refine e_iload_n C d_Mo_minuteGoes_85 rfl ?_
    refine e_aload_n C d_Mo_minuteGoes_86 rfl ?_
    refine e_geta C fl_Mo_119 (by decide) rfl rfl d_Mo_minuteGoes_87 ?_
    refine e_bipush C d_Mo_minuteGoes_90 (by decide) ?_
    refine e_iald (n := 100) C (by decide) rfl (by decide) rfl rfl (by decide) (by omega) (by omega) d_Mo_minuteGoes_92 (fun r_92 => ?_)
    try simp only [so_at, so_so, wr_so, lnm_s, lnm_cu, lnm_f, ne_eq, Nat.reduceEqDiff, not_false_eq_true] at r_92 ⊢
    refine e_icmp_ge C 123 d_Mo_minuteGoes_93 (by decide) (by omega) (by omega) (fun c_93 => ?_) (fun c_93 => ?_)
    · refine e_iconst C d_Mo_minuteGoes_123 ?_
      refine e_istore_n C d_Mo_minuteGoes_124 (by decide) rfl ?_
      exact l_Mo_minuteGoes4 (B := B) C F hM hN hG (by omega) (P 3 0).toNat 0 y R hy h2 (fun k a b => by have := (h78 k a b).2; omega) h12 (by omega) (by omega) hQ
    · exact absurd h1 (by omega)
  | succ n ih =>
    intro i y R hy h2 h10 h78 h12 h11 h0 h1 hQ
    have e96 := hy.2.2.1
    have h10i := h10 i h0 (by omega)
    have e84 := (hy.2.1 i h0 (by omega)).2.2.2
    have e48 := (hy.2.1 (y 10 i) (by omega) (by omega)).1
    have h7i := (h78 (y 10 i) (by omega) (by omega)).1
    refine e_iload_n C d_Mo_minuteGoes_85 rfl ?_
    refine e_aload_n C d_Mo_minuteGoes_86 rfl ?_
    refine e_geta C fl_Mo_119 (by decide) rfl rfl d_Mo_minuteGoes_87 ?_
    refine e_bipush C d_Mo_minuteGoes_90 (by decide) ?_
    refine e_iald (n := 100) C (by decide) rfl (by decide) rfl rfl (by decide) (by omega) (by omega) d_Mo_minuteGoes_92 (fun r_92 => ?_)
    try simp only [so_at, so_so, wr_so, lnm_s, lnm_cu, lnm_f, ne_eq, Nat.reduceEqDiff, not_false_eq_true] at r_92 ⊢
    refine e_icmp_ge C 123 d_Mo_minuteGoes_93 (by decide) (by omega) (by omega) (fun c_93 => ?_) (fun c_93 => ?_)
    · exact absurd h1 (by omega)
    · refine e_aload_n C d_Mo_minuteGoes_96 rfl ?_
      refine e_geta C fl_Mo_119 (by decide) rfl rfl d_Mo_minuteGoes_97 ?_
      refine e_bipush C d_Mo_minuteGoes_100 (by decide) ?_
      refine e_aload_n C d_Mo_minuteGoes_102 rfl ?_
      refine e_geta C fl_Mo_119 (by decide) rfl rfl d_Mo_minuteGoes_103 ?_
      refine e_bipush C d_Mo_minuteGoes_106 (by decide) ?_
      refine e_iload_n C d_Mo_minuteGoes_108 rfl ?_
      refine e_iadd C d_Mo_minuteGoes_109 ?_
      refine e_iald (n := 100) C (by decide) rfl (by decide) rfl rfl (by decide) (by omega) (by omega) d_Mo_minuteGoes_110 (fun r_110 => ?_)
      try simp only [so_at, so_so, wr_so, lnm_s, lnm_cu, lnm_f, ne_eq, Nat.reduceEqDiff, not_false_eq_true] at r_110 ⊢
      rw [e84] at r_110 ⊢
      refine e_iadd C d_Mo_minuteGoes_111 ?_
      refine e_dup2 C d_Mo_minuteGoes_112 rfl rfl ?_
      refine e_iald (n := 100) C (by decide) rfl (by decide) rfl rfl (by decide) (by omega) (by omega) d_Mo_minuteGoes_113 (fun r_113 => ?_)
      try simp only [so_at, so_so, wr_so, lnm_s, lnm_cu, lnm_f, ne_eq, Nat.reduceEqDiff, not_false_eq_true] at r_113 ⊢
      rw [e48] at r_113 ⊢
      refine e_iconst C d_Mo_minuteGoes_114 ?_
      refine e_iadd C d_Mo_minuteGoes_115 ?_
      refine e_iast (n := 100) C (by decide) rfl (by decide) rfl rfl (by decide) (by omega) (by omega) (by omega) d_Mo_minuteGoes_116 ?_
      try simp only [so_at, so_so, wr_so, lnm_s, lnm_cu, lnm_f, ne_eq, Nat.reduceEqDiff, not_false_eq_true]
      refine e_iinc C d_Mo_minuteGoes_117 rfl (by decide) rfl ?_
      refine e_goto C 85 d_Mo_minuteGoes_120 (by decide) ?_
      have f7 : ∀ f k, f ≠ 7 → mbed i y f k = y f k := fun f k hf => by unfold mbed; exact cu_f hf
      refine ih (i + 1) (mbed i y) _ (RY_7 hy (by omega)) (fun p a b => ?_) (fun k a b => ?_) (fun k a b => ?_) ?_ ?_ (by omega) ?_ (fun R' hR' => hQ R' ?_)
      · rw [f7 2 p (by decide)]; exact h2 p a b
      · rw [f7 11 0 (by decide)] at b; rw [f7 10 k (by decide)]; exact h10 k a b
      · rw [f7 8 k (by decide)]
        have := h78 k a b
        unfold mbed
        rw [cu_if]
        split
        · rename_i z; rw [← z.2]; omega
        · omega
      · rw [f7 12 0 (by decide)]; exact h12
      · rw [f7 11 0 (by decide)]; exact h11
      · rw [f7 11 0 (by decide)]; omega
      · rw [f7 12 0 (by decide)] at hR'; exact hR'
set_option maxHeartbeats 2000000 in
theorem l_Mo_minuteGoes2 {g : Mach} {Q : St → Prop} (C : Cx M_Mo_minuteGoes g) (F : FinV M_Mo_minuteGoes g Q) {σ : St} {m P : Cs} {B : Int} (hM : MPl P m) (hN : 0 ≤ P 3 0 ∧ P 3 0 ≤ 8) (hG : P 4 0 ≤ 12) (hB : 0 ≤ B ∧ B < 2000000000 - 100) :
    ∀ (n : Nat) (i : Int) (y : Cs) (R : Int → Int), RY R y → QY P B y → 0 ≤ i → i + n = P 3 0 → (∀ R', RY R' (mcnt (P 3 0) (itr mfil n i y)) → Q (MF σ m R')) → Ev g 32 [some (.inr (.inr (1, 0))), some (.inl i)] [] (MF σ m R) := by
  intro n
  have hlv := hM.1
  induction n with
  | zero =>
    intro i y R hy hQy h0 h1 hQ
    have hb := hQy.bed
    refine e_iload_n C d_Mo_minuteGoes_32 rfl ?_
    refine e_aload_n C d_Mo_minuteGoes_33 rfl ?_
    refine e_geta C fl_Mo_49 (by decide) rfl rfl d_Mo_minuteGoes_34 ?_
    refine e_aload_n C d_Mo_minuteGoes_37 rfl ?_
    refine e_geti C fl_Mo_215 (by decide) rfl rfl d_Mo_minuteGoes_38 (fun r_38 => ?_)
    try simp only [so_at, so_so, wr_so, lnm_s, lnm_cu, lnm_f, hM.2.1, ne_eq, Nat.reduceEqDiff, not_false_eq_true] at r_38 ⊢
    refine e_iald (n := 2) C (by decide) rfl (by decide) rfl rfl (by decide) (by omega) (by omega) d_Mo_minuteGoes_41 (fun r_41 => ?_)
    try simp only [so_at, so_so, wr_so, lnm_s, lnm_cu, lnm_f, hM.2.1, ne_eq, Nat.reduceEqDiff, not_false_eq_true] at r_41 ⊢
    refine e_icmp_ge C 83 d_Mo_minuteGoes_42 (by decide) (by omega) (by omega) (fun c_42 => ?_) (fun c_42 => ?_)
    · refine e_iconst C d_Mo_minuteGoes_83 ?_
      refine e_istore_n C d_Mo_minuteGoes_84 (by decide) rfl ?_
      exact l_Mo_minuteGoes3 (B := B) C F hM hN hG hB.2 (y 11 0).toNat 0 y R hy (fun p a b => (hQy.post hN.2 hG ⟨a, b⟩).2) hb.2.1 (fun k a b => by have := hQy.guard hG ⟨a, b⟩; omega) hb.2.2.2 hb.1.2 (by omega) (by omega) hQ
    · exact absurd h1 (by omega)
  | succ n ih =>
    intro i y R hy hQy h0 h1 hQ
    have hb := hQy.bed
    have h2i := (hQy.post hN.2 hG (p := i) (by omega)).2
    have hyi := hy.1 i h0 (by omega)
    have ee := em_lt (v := y 2 i) (by omega)
    have e96 := hy.2.2.1
    have hQS := QY_fil (p := i) hQy hB.1 (by omega)
    refine e_iload_n C d_Mo_minuteGoes_32 rfl ?_
    refine e_aload_n C d_Mo_minuteGoes_33 rfl ?_
    refine e_geta C fl_Mo_49 (by decide) rfl rfl d_Mo_minuteGoes_34 ?_
    refine e_aload_n C d_Mo_minuteGoes_37 rfl ?_
    refine e_geti C fl_Mo_215 (by decide) rfl rfl d_Mo_minuteGoes_38 (fun r_38 => ?_)
    try simp only [so_at, so_so, wr_so, lnm_s, lnm_cu, lnm_f, hM.2.1, ne_eq, Nat.reduceEqDiff, not_false_eq_true] at r_38 ⊢
    refine e_iald (n := 2) C (by decide) rfl (by decide) rfl rfl (by decide) (by omega) (by omega) d_Mo_minuteGoes_41 (fun r_41 => ?_)
    try simp only [so_at, so_so, wr_so, lnm_s, lnm_cu, lnm_f, hM.2.1, ne_eq, Nat.reduceEqDiff, not_false_eq_true] at r_41 ⊢
    refine e_icmp_ge C 83 d_Mo_minuteGoes_42 (by decide) (by omega) (by omega) (fun c_42 => ?_) (fun c_42 => ?_)
    · exact absurd h1 (by omega)
    · refine e_aload_n C d_Mo_minuteGoes_45 rfl ?_
      refine e_geta C fl_Mo_119 (by decide) rfl rfl d_Mo_minuteGoes_46 ?_
      refine e_bipush C d_Mo_minuteGoes_49 (by decide) ?_
      refine e_iload_n C d_Mo_minuteGoes_51 rfl ?_
      refine e_iadd C d_Mo_minuteGoes_52 ?_
      refine e_iald (n := 100) C (by decide) rfl (by decide) rfl rfl (by decide) (by omega) (by omega) d_Mo_minuteGoes_53 (fun r_53 => ?_)
      try simp only [so_at, so_so, wr_so, lnm_s, lnm_cu, lnm_f, hM.2.1, ne_eq, Nat.reduceEqDiff, not_false_eq_true] at r_53 ⊢
      refine e_if_ge C 77 d_Mo_minuteGoes_54 (by decide) (by omega) (fun c_54 => ?_) (fun c_54 => ?_)
      · have e : mfil i y = y := by unfold mfil; rw [if_neg (by omega)]
        have hyS : RY R (mfil i y) := by rw [e]; exact hy
        refine e_iinc C d_Mo_minuteGoes_77 rfl (by decide) rfl ?_
        refine e_goto C 32 d_Mo_minuteGoes_80 (by decide) ?_
        exact ih (i + 1) (mfil i y) _ hyS hQS (by omega) (by omega) hQ
      · refine e_aload_n C d_Mo_minuteGoes_57 rfl ?_
        refine e_geta C fl_Mo_119 (by decide) rfl rfl d_Mo_minuteGoes_58 ?_
        refine e_bipush C d_Mo_minuteGoes_61 (by decide) ?_
        refine e_iald (n := 100) C (by decide) rfl (by decide) rfl rfl (by decide) (by omega) (by omega) d_Mo_minuteGoes_63 (fun r_63 => ?_)
        try simp only [so_at, so_so, wr_so, lnm_s, lnm_cu, lnm_f, hM.2.1, ne_eq, Nat.reduceEqDiff, not_false_eq_true] at r_63 ⊢
        refine e_if_le C 77 d_Mo_minuteGoes_64 (by decide) (by omega) (fun c_64 => ?_) (fun c_64 => ?_)
        · have e : mfil i y = y := by unfold mfil; rw [if_neg (by omega)]
          have hyS : RY R (mfil i y) := by rw [e]; exact hy
          refine e_iinc C d_Mo_minuteGoes_77 rfl (by decide) rfl ?_
          refine e_goto C 32 d_Mo_minuteGoes_80 (by decide) ?_
          exact ih (i + 1) (mfil i y) _ hyS hQS (by omega) (by omega) hQ
        · have e : mfil i y = mstand (c_up y 0) (y 10 0) i := by unfold mfil; rw [if_pos (by omega)]
          have hb0 := hb.2.1 0 (by omega) (by omega)
          have g84 : R 84 = y 10 0 := (hy.2.1 0 (by omega) (by omega)).2.2.2
          refine e_aload_n C d_Mo_minuteGoes_67 rfl ?_
          refine e_aload_n C d_Mo_minuteGoes_68 rfl ?_
          refine e_iconst C d_Mo_minuteGoes_69 ?_
          refine e_callIV C ok_Mo_getsUp lk_Mo_318 (o := 1) (by decide) rfl [_] rfl rfl (Nat.le_of_ble_eq_true rfl) (by decide) (Nat.le_of_ble_eq_true rfl) d_Mo_minuteGoes_70 (k_Mo_getsUp (by omega) (by omega) (by omega)) (fun v_70 u_70 q_70 h_70 => ?_)
          obtain ⟨h_70, rfl⟩ := h_70
          have h70 : v_70 = y 10 0 := by rw [h_70]; exact g84
          subst h70
          refine e_iload_n C d_Mo_minuteGoes_73 rfl ?_
          refine e_callVV C ok_Mo_comes lk_Mo_315 (o := 1) (by decide) rfl [_, _] rfl rfl (Nat.le_of_ble_eq_true rfl) (by decide) (Nat.le_of_ble_eq_true rfl) d_Mo_minuteGoes_74 (k_Mo_comes (by omega) (by omega)) (fun u_74 h_74 => ?_)
          subst h_74
          have hyS : RY (ua (ua (r_up R 0) (16 + i) (y 10 0)) (60 + y 10 0) 0) (mfil i y) := by rw [e]; exact RY_stand (RY_up hy (by omega) (by omega)) (by omega) (by omega)
          refine e_iinc C d_Mo_minuteGoes_77 rfl (by decide) rfl ?_
          refine e_goto C 32 d_Mo_minuteGoes_80 (by decide) ?_
          exact ih (i + 1) (mfil i y) _ hyS hQS (by omega) (by omega) hQ
set_option maxHeartbeats 2000000 in
theorem l_Mo_minuteGoes1 {g : Mach} {Q : St → Prop} (C : Cx M_Mo_minuteGoes g) (F : FinV M_Mo_minuteGoes g Q) {σ : St} {m P : Cs} (hM : MPl P m) (hN : 0 ≤ P 3 0 ∧ P 3 0 ≤ 8) (hG : P 4 0 ≤ 12) :
    ∀ (n : Nat) (i B : Int) (y : Cs) (R : Int → Int), RY R y → QY P B y → 0 ≤ B → B + n < 2000000000 - 100 → 0 ≤ i → i + n = P 3 0 → (∀ R', RY R' (mcnt (P 3 0) (itr mfil (P 3 0).toNat 0 (itr (mrel (P 3 0)) n i y))) → Q (MF σ m R')) → Ev g 6 [some (.inr (.inr (1, 0))), some (.inl i)] [] (MF σ m R) := by
  intro n
  have hlv := hM.1
  induction n with
  | zero =>
    intro i B y R hy hQy hB hB2 h0 h1 hQ
    refine e_iload_n C d_Mo_minuteGoes_6 rfl ?_
    refine e_aload_n C d_Mo_minuteGoes_7 rfl ?_
    refine e_geta C fl_Mo_49 (by decide) rfl rfl d_Mo_minuteGoes_8 ?_
    refine e_aload_n C d_Mo_minuteGoes_11 rfl ?_
    refine e_geti C fl_Mo_215 (by decide) rfl rfl d_Mo_minuteGoes_12 (fun r_12 => ?_)
    try simp only [so_at, so_so, wr_so, lnm_s, lnm_cu, lnm_f, hM.2.1, ne_eq, Nat.reduceEqDiff, not_false_eq_true] at r_12 ⊢
    refine e_iald (n := 2) C (by decide) rfl (by decide) rfl rfl (by decide) (by omega) (by omega) d_Mo_minuteGoes_15 (fun r_15 => ?_)
    try simp only [so_at, so_so, wr_so, lnm_s, lnm_cu, lnm_f, hM.2.1, ne_eq, Nat.reduceEqDiff, not_false_eq_true] at r_15 ⊢
    refine e_icmp_ge C 30 d_Mo_minuteGoes_16 (by decide) (by omega) (by omega) (fun c_16 => ?_) (fun c_16 => ?_)
    · refine e_iconst C d_Mo_minuteGoes_30 ?_
      refine e_istore_n C d_Mo_minuteGoes_31 (by decide) rfl ?_
      exact l_Mo_minuteGoes2 (B := B) C F hM hN hG ⟨hB, by omega⟩ (P 3 0).toNat 0 y R hy hQy (by omega) (by omega) hQ
    · exact absurd h1 (by omega)
  | succ n ih =>
    intro i B y R hy hQy hB hB2 h0 h1 hQ
    refine e_iload_n C d_Mo_minuteGoes_6 rfl ?_
    refine e_aload_n C d_Mo_minuteGoes_7 rfl ?_
    refine e_geta C fl_Mo_49 (by decide) rfl rfl d_Mo_minuteGoes_8 ?_
    refine e_aload_n C d_Mo_minuteGoes_11 rfl ?_
    refine e_geti C fl_Mo_215 (by decide) rfl rfl d_Mo_minuteGoes_12 (fun r_12 => ?_)
    try simp only [so_at, so_so, wr_so, lnm_s, lnm_cu, lnm_f, hM.2.1, ne_eq, Nat.reduceEqDiff, not_false_eq_true] at r_12 ⊢
    refine e_iald (n := 2) C (by decide) rfl (by decide) rfl rfl (by decide) (by omega) (by omega) d_Mo_minuteGoes_15 (fun r_15 => ?_)
    try simp only [so_at, so_so, wr_so, lnm_s, lnm_cu, lnm_f, hM.2.1, ne_eq, Nat.reduceEqDiff, not_false_eq_true] at r_15 ⊢
    refine e_icmp_ge C 30 d_Mo_minuteGoes_16 (by decide) (by omega) (by omega) (fun c_16 => ?_) (fun c_16 => ?_)
    · exact absurd h1 (by omega)
    · refine e_aload_n C d_Mo_minuteGoes_19 rfl ?_
      refine e_iload_n C d_Mo_minuteGoes_20 rfl ?_
      refine e_callVV C ok_Mo_relieves lk_Mo_324 (o := 1) (by decide) rfl [_] rfl rfl (Nat.le_of_ble_eq_true rfl) (by decide) (Nat.le_of_ble_eq_true rfl) d_Mo_minuteGoes_21 (k_Mo_relieves hy hQy (by omega) hN.2 hG (by omega) hlv hM.2.1) (fun u_21 h_21 => ?_)
      obtain ⟨R2, hy2, rfl⟩ := h_21
      refine e_iinc C d_Mo_minuteGoes_24 rfl (by decide) rfl ?_
      refine e_goto C 6 d_Mo_minuteGoes_27 (by decide) ?_
      exact ih (i + 1) (B + 1) _ R2 hy2 (QY_rel hQy hB hN.2 hG (by omega)) (by omega) (by omega) (by omega) (by omega) hQ
theorem k_Mo_minuteGoes {σ : St} {m P l y : Cs} {φ : Phi} {B : Int} {R : Int → Int} (hPl : PlanOk P l φ) (hM : MPl P m) (hF : FlowC φ P m) (hy : RY R y) (hQ : QY P B y) (hB : 0 ≤ B ∧ B < 1900000000) : CtV M_Mo_minuteGoes [.inr (.inr (1, 0))] (MF σ m R) (fun u => ∃ R' m', MS m m' ∧ RY R' (mmin φ P y) ∧ u = MF σ m' R') := by
  intro g C F
  have hN := hPl.1
  have hG := hPl.2.1
  refine e_aload_n C d_Mo_minuteGoes_0 rfl ?_
  refine e_callVV C ok_Mo_runs lk_Mo_321 (o := 1) (by decide) rfl [] rfl rfl (Nat.le_of_ble_eq_true rfl) (by decide) (Nat.le_of_ble_eq_true rfl) d_Mo_minuteGoes_1 (k_Mo_runs hPl hM hF hy hQ) (fun u_1 h_1 => ?_)
  obtain ⟨R1, m1, hm1, hy1, rfl⟩ := h_1
  refine e_iconst C d_Mo_minuteGoes_4 ?_
  refine e_istore_n C d_Mo_minuteGoes_5 (by decide) rfl ?_
  exact l_Mo_minuteGoes1 C F (hM.same hm1.mp) hN hG.2 (P 3 0).toNat 0 B _ R1 hy1 (QY_run hQ hPl) hB.1 (by omega) (by omega) (by omega) (fun R' hR' => ⟨R', m1, hm1, hR', rfl⟩)
theorem l_Mo_goes {g : Mach} {Q : St → Prop} (C : Cx M_Mo_goes g) (F : FinV M_Mo_goes g Q) {σ : St} {m P l : Cs} {φ : Phi} {N : Int} (hPl : PlanOk P l φ) (hM : MPl P m) (hF : FlowC φ P m) (hN : N ≤ 10000) :
    ∀ (n : Nat) (i B : Int) (m' y : Cs) (R : Int → Int), MS m m' → RY R y → QY P B y → 0 ≤ B → B + 9 * n < 1900000000 → 0 ≤ i → i + n = N → (∀ R' m'', MS m m'' → RY R' (mits φ P n y) → Q (MF σ m'' R')) → Ev g 2 [some (.inr (.inr (1, 0))), some (.inl N), some (.inl i)] [] (MF σ m' R) := by
  intro n
  induction n with
  | zero =>
    intro i B m' y R hm hy hQy hB hb h0 h1 hQ
    refine e_iload_n C d_Mo_goes_2 rfl ?_
    refine e_iload_n C d_Mo_goes_3 rfl ?_
    refine e_icmp_ge C 17 d_Mo_goes_4 (by decide) (by omega) (by omega) (fun c_4 => ?_) (fun c_4 => ?_)
    · refine e_vret C F rfl d_Mo_goes_17 ?_
      exact hQ R m' hm hy
    · exact absurd h1 (by omega)
  | succ n ih =>
    intro i B m' y R hm hy hQy hB hb h0 h1 hQ
    refine e_iload_n C d_Mo_goes_2 rfl ?_
    refine e_iload_n C d_Mo_goes_3 rfl ?_
    refine e_icmp_ge C 17 d_Mo_goes_4 (by decide) (by omega) (by omega) (fun c_4 => ?_) (fun c_4 => ?_)
    · exact absurd h1 (by omega)
    · refine e_aload_n C d_Mo_goes_7 rfl ?_
      refine e_callVV C ok_Mo_minuteGoes lk_Mo_342 (o := 1) (by decide) rfl [] rfl rfl (Nat.le_of_ble_eq_true rfl) (by decide) (Nat.le_of_ble_eq_true rfl) d_Mo_goes_8 (k_Mo_minuteGoes hPl (hM.same hm.mp) (hF.same hm.mp) hy hQy (by omega)) (fun u_8 h_8 => ?_)
      obtain ⟨R1, m1, hm1, hy1, rfl⟩ := h_8
      refine e_iinc C d_Mo_goes_11 rfl (by decide) rfl ?_
      refine e_goto C 2 d_Mo_goes_14 (by decide) ?_
      exact ih (i + 1) (B + 9) m1 _ R1 (hm.tr hm1) hy1 (QY_min hQy hB hPl) (by omega) (by omega) (by omega) (by omega) hQ
theorem k_Mo_goes {σ : St} {m P l y : Cs} {φ : Phi} {B n : Int} {R : Int → Int} (hPl : PlanOk P l φ) (hM : MPl P m) (hF : FlowC φ P m) (hy : RY R y) (hQ : QY P B y) (hB : 0 ≤ B ∧ B < 1800000000) (hn : 0 ≤ n ∧ n ≤ 10000) : CtV M_Mo_goes [.inr (.inr (1, 0)), .inl n] (MF σ m R) (fun u => ∃ R' m', MS m m' ∧ RY R' (mits φ P n.toNat y) ∧ u = MF σ m' R') := by
  intro g C F
  refine e_iconst C d_Mo_goes_0 ?_
  refine e_istore_n C d_Mo_goes_1 (by decide) rfl ?_
  exact l_Mo_goes C F hPl hM hF hn.2 n.toNat 0 B m y R (MS.rf m) hy hQ hB.1 (by omega) (by omega) (by omega) (fun R' m' h1 h2 => ⟨R', m', h1, h2, rfl⟩)
