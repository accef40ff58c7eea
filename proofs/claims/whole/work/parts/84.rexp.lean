/-! the class's Reader: its small methods and its expressions -/
/-- the store with the reader's own objects: reader, plan, law, castle -/
def RZ (σ : St) (x P l c : Cs) : St := so (so (so (so σ 3 x) 4 P) 5 l) 16 c
section RZs
variable (σ : St) (x P l c y : Cs)
theorem RZ_3 : RZ σ x P l c 3 = x := by unfold RZ; rw [so_ne (by decide), so_ne (by decide), so_ne (by decide), so_at]
theorem RZ_4 : RZ σ x P l c 4 = P := by unfold RZ; rw [so_ne (by decide), so_ne (by decide), so_at]
theorem RZ_5 : RZ σ x P l c 5 = l := by unfold RZ; rw [so_ne (by decide), so_at]
theorem RZ_16 : RZ σ x P l c 16 = c := by unfold RZ; rw [so_at]
theorem RZ_6 : RZ σ x P l c 6 = σ 6 := by unfold RZ; rw [so_ne (by decide), so_ne (by decide), so_ne (by decide), so_ne (by decide)]
theorem RZ_w3 : so (RZ σ x P l c) 3 y = RZ σ y P l c := by
  funext o
  unfold RZ so
  by_cases h : o = 3
  · subst h; simp
  · simp [h]
theorem RZ_w4 : so (RZ σ x P l c) 4 y = RZ σ x y l c := by
  funext o
  unfold RZ so
  by_cases h : o = 4
  · subst h; simp
  · simp [h]
theorem RZ_w5 : so (RZ σ x P l c) 5 y = RZ σ x P y c := by
  funext o
  unfold RZ so
  by_cases h : o = 5
  · subst h; simp
  · simp [h]
theorem RZ_w16 : so (RZ σ x P l c) 16 y = RZ σ x P l y := by
  funext o
  unfold RZ so
  by_cases h : o = 16
  · subst h; simp
  · simp [h]
end RZs
theorem RZ_o {σ : St} {x P l c : Cs} {o : Nat} (h3 : o ≠ 3) (h4 : o ≠ 4) (h5 : o ≠ 5) (h16 : o ≠ 16) : RZ σ x P l c o = σ o := by unfold RZ; rw [so_ne h16, so_ne h5, so_ne h4, so_ne h3]
theorem RZ_id (σ : St) : RZ σ (σ 3) (σ 4) (σ 5) (σ 16) = σ := by unfold RZ; rw [so_id, so_id, so_id, so_id]
theorem cf_s (c : Cs) (f : Nat) (k v : Int) : cu c f k v f = ua (c f) k v := by
  funext j
  unfold cu ua
  simp only [true_and]
theorem cf_f {c : Cs} {f f' : Nat} {k v : Int} (h : f' ≠ f) : cu c f k v f' = c f' := by funext j; exact cu_f h
/-- where the reader is -/
def TH (T : Tab) (σ : St) (x : Cs) (t : Int) : Prop := TF T ∧ TC T (σ 6) ∧ x 11 0 = t ∧ (0 ≤ t ∧ t ≤ 400) ∧ (t = 0 ∨ T.1 (t - 1) ≠ 128)
theorem TH.tok {T : Tab} {σ : St} {x : Cs} {t : Int} (h : TH T σ x t) : σ 6 0 t = T.1 t ∧ σ 6 1 t = T.2.1 t ∧ (T.1 t = 131 → σ 6 2 t = T.2.2.1 t) ∧ (T.1 t = 130 → σ 6 3 t = T.2.2.2.1 t) := h.2.1 t h.2.2.2.1.1 h.2.2.2.1.2 h.2.2.2.2
theorem TH.x {T : Tab} {σ : St} {x x' : Cs} {t : Int} (h : TH T σ x t) (e : x' 11 0 = x 11 0) : TH T σ x' t := ⟨h.1, h.2.1, e.trans h.2.2.1, h.2.2.2⟩
theorem TH.go {T : Tab} {σ : St} {x x' : Cs} {t : Int} (h : TH T σ x t) (ht : t < 400) (hk : T.1 t ≠ 128) (e : x' 11 0 = t + 1) : TH T σ x' (t + 1) := ⟨h.1, h.2.1, e, by have := h.2.2.2.1; omega, Or.inr (by rw [Int.add_sub_cancel]; exact hk)⟩
theorem TF.k {T : Tab} (h : TF T) (t : Int) : 0 ≤ T.1 t ∧ T.1 t ≤ 145 := by
  have := h.1 t
  simp only [kds, List.mem_cons, List.not_mem_nil, or_false] at this
  omega
theorem TF.p {T : Tab} (h : TF T) (t : Int) : 0 ≤ T.2.1 t ∧ T.2.1 t ≤ 2000 := h.2.2.1 t
section RE
variable {T : Tab} {σ : St} {x P l c : Cs} {t : Int}
theorem k_Re_kind (h : TH T σ x t) : CtI M_Re_kind [.inr (.inr (3, 0))] (RZ σ x P l c) (fun r u => r = T.1 t ∧ u = RZ σ x P l c) := by
  intro g C F
  have e := h.2.2.1
  have h0 := h.2.2.2.1
  have e6 := h.tok.1
  refine e_aload_n C d_Re_kind_0 rfl ?_
  refine e_geto (o2 := 6) C fl_Re_28 (by decide) rfl rfl rfl d_Re_kind_1 ?_
  refine e_geta C fl_Re_230 (by decide) rfl rfl d_Re_kind_4 ?_
  refine e_aload_n C d_Re_kind_7 rfl ?_
  refine e_geti C fl_Re_60 (by decide) rfl rfl d_Re_kind_8 (fun r_8 => ?_)
  try simp only [RZ_3, RZ_6, e, e6] at r_8 ⊢
  refine e_iald (n := 402) C (by decide) rfl (by decide) rfl rfl (by decide) (by omega) (by omega) d_Re_kind_11 (fun r_11 => ?_)
  try simp only [RZ_3, RZ_6, e, e6] at r_11 ⊢
  refine e_iret C F rfl d_Re_kind_12 (by omega) ?_
  exact ⟨rfl, rfl⟩
theorem k_Re_refuse {f : Int} (h : TH T σ x t) (hf : R32 f) : CtI M_Re_refuse [.inr (.inr (3, 0)), .inl f] (RZ σ x P l c) (fun r u => r = 0 ∧ u = RZ σ (cu (cu x 12 0 f) 2 0 (T.2.1 t)) P l c) := by
  intro g C F
  have e := h.2.2.1
  have h0 := h.2.2.2.1
  have e6 := h.tok.2.1
  refine e_aload_n C d_Re_refuse_0 rfl ?_
  refine e_iload_n C d_Re_refuse_1 rfl ?_
  refine e_puti C fp_Re_63 (by decide) rfl rfl (by omega) d_Re_refuse_2 ?_
  try simp only [RZ_3, RZ_6, RZ_w3, wr_so, e, e6, cu_f, ne_eq, Nat.reduceEqDiff, not_false_eq_true]
  refine e_aload_n C d_Re_refuse_5 rfl ?_
  refine e_aload_n C d_Re_refuse_6 rfl ?_
  refine e_geto (o2 := 6) C fl_Re_28 (by decide) rfl rfl rfl d_Re_refuse_7 ?_
  refine e_geta C fl_Re_143 (by decide) rfl rfl d_Re_refuse_10 ?_
  refine e_aload_n C d_Re_refuse_13 rfl ?_
  refine e_geti C fl_Re_60 (by decide) rfl rfl d_Re_refuse_14 (fun r_14 => ?_)
  try simp only [RZ_3, RZ_6, RZ_w3, wr_so, e, e6, cu_f, ne_eq, Nat.reduceEqDiff, not_false_eq_true] at r_14 ⊢
  refine e_iald (n := 402) C (by decide) rfl (by decide) rfl rfl (by decide) (by omega) (by omega) d_Re_refuse_17 (fun r_17 => ?_)
  try simp only [RZ_3, RZ_6, RZ_w3, wr_so, e, e6, cu_f, ne_eq, Nat.reduceEqDiff, not_false_eq_true] at r_17 ⊢
  refine e_puti C fp_Re_69 (by decide) rfl rfl (by omega) d_Re_refuse_18 ?_
  try simp only [RZ_3, RZ_6, RZ_w3, wr_so, e, e6, cu_f, ne_eq, Nat.reduceEqDiff, not_false_eq_true]
  refine e_iconst C d_Re_refuse_21 ?_
  refine e_zret C F rfl d_Re_refuse_22 (by omega) ?_
  exact ⟨rfl, rfl⟩
/-- a token more is gone behind, or there is none more -/
def pGo (T : Tab) (t : Int) : (Int × Int) ⊕ Int := if 400 ≤ t then .inl (2, T.2.1 t) else .inr (t + 1)
def pMu (T : Tab) (k t : Int) : (Int × Int) ⊕ Int := if T.1 t = k then pGo T t else .inl (1, T.2.1 t)
/-- a FAULT is told -/
def FLx (σ : St) (fp : Int × Int) (x P l c : Cs) (u : St) : Prop := ∃ x' : Cs, u = RZ σ x' P l c ∧ x' 12 0 = fp.1 ∧ x' 2 0 = fp.2
theorem k_Re_take {k : Int} (h : TH T σ x t) (hk : R32 k) : CtI M_Re_take [.inr (.inr (3, 0)), .inl k] (RZ σ x P l c) (fun r u => (∃ fp, pMu T k t = .inl fp ∧ r = 0 ∧ FLx σ fp x P l c u) ∨ (pMu T k t = .inr (t + 1) ∧ r = 1 ∧ t < 400 ∧ T.1 t = k ∧ u = RZ σ (cu x 11 0 (t + 1)) P l c)) := by
  intro g C F
  have e := h.2.2.1
  have h0 := h.2.2.2.1
  have hkr := h.1.k t
  unfold pMu pGo at F
  refine e_aload_n C d_Re_take_0 rfl ?_
  refine e_callIV C ok_Re_kind lk_Re_72 (o := 3) (by decide) rfl [] rfl rfl (Nat.le_of_ble_eq_true rfl) (by decide) (Nat.le_of_ble_eq_true rfl) d_Re_take_1 (k_Re_kind h) (fun v_1 u_1 q_1 h_1 => ?_)
  obtain ⟨rfl, rfl⟩ := h_1
  refine e_iload_n C d_Re_take_4 rfl ?_
  refine e_icmp_eq C 14 d_Re_take_5 (by decide) (by omega) (by omega) (fun c_5 => ?_) (fun c_5 => ?_)
  · rw [if_pos c_5] at F
    refine e_aload_n C d_Re_take_14 rfl ?_
    refine e_geti C fl_Re_60 (by decide) rfl rfl d_Re_take_15 (fun r_15 => ?_)
    try simp only [RZ_3, RZ_6, RZ_w3, wr_so, e] at r_15 ⊢
    refine e_sipush C d_Re_take_18 (by decide) ?_
    refine e_icmp_lt C 30 d_Re_take_21 (by decide) (by omega) (by omega) (fun c_21 => ?_) (fun c_21 => ?_)
    · rw [if_neg (by omega)] at F
      refine e_aload_n C d_Re_take_30 rfl ?_
      refine e_dup C d_Re_take_31 rfl ?_
      refine e_geti C fl_Re_60 (by decide) rfl rfl d_Re_take_32 (fun r_32 => ?_)
      try simp only [RZ_3, RZ_6, RZ_w3, wr_so, e] at r_32 ⊢
      refine e_iconst C d_Re_take_35 ?_
      refine e_iadd C d_Re_take_36 ?_
      refine e_puti C fp_Re_60 (by decide) rfl rfl (by omega) d_Re_take_37 ?_
      try simp only [RZ_3, RZ_6, RZ_w3, wr_so, e]
      refine e_iconst C d_Re_take_40 ?_
      refine e_zret C F rfl d_Re_take_41 (by omega) ?_
      exact Or.inr ⟨rfl, rfl, by omega, c_5, rfl⟩
    · rw [if_pos (by omega)] at F
      refine e_aload_n C d_Re_take_24 rfl ?_
      refine e_iconst C d_Re_take_25 ?_
      refine e_callIV C ok_Re_refuse lk_Re_101 (o := 3) (by decide) rfl [_] rfl rfl (Nat.le_of_ble_eq_true rfl) (by decide) (Nat.le_of_ble_eq_true rfl) d_Re_take_26 (k_Re_refuse h (by omega)) (fun v_26 u_26 q_26 h_26 => ?_)
      obtain ⟨rfl, rfl⟩ := h_26
      refine e_zret C F rfl d_Re_take_29 (by omega) ?_
      exact Or.inl ⟨_, rfl, rfl, _, rfl, by rw [cu_f (by decide), cu_s], cu_s _ _ _ _⟩
  · rw [if_neg c_5] at F
    refine e_aload_n C d_Re_take_8 rfl ?_
    refine e_iconst C d_Re_take_9 ?_
    refine e_callIV C ok_Re_refuse lk_Re_101 (o := 3) (by decide) rfl [_] rfl rfl (Nat.le_of_ble_eq_true rfl) (by decide) (Nat.le_of_ble_eq_true rfl) d_Re_take_10 (k_Re_refuse h (by omega)) (fun v_10 u_10 q_10 h_10 => ?_)
    obtain ⟨rfl, rfl⟩ := h_10
    refine e_zret C F rfl d_Re_take_13 (by omega) ?_
    exact Or.inl ⟨_, rfl, rfl, _, rfl, by rw [cu_f (by decide), cu_s], cu_s _ _ _ _⟩
def noteX (x : Cs) (f a : Int) : Cs := if x 15 0 = 0 then cu (cu x 15 0 f) 16 0 a else x
theorem k_Re_note {f a : Int} (hf : R32 f) (ha : R32 a) : CtV M_Re_note [.inr (.inr (3, 0)), .inl f, .inl a] (RZ σ x P l c) (fun u => u = RZ σ (noteX x f a) P l c) := by
  intro g C F
  unfold noteX at F
  refine e_aload_n C d_Re_note_0 rfl ?_
  refine e_geti C fl_Re_66 (by decide) rfl rfl d_Re_note_1 (fun r_1 => ?_)
  try simp only [RZ_3, RZ_w3, wr_so] at r_1 ⊢
  refine e_if_ne C 17 d_Re_note_4 (by decide) (by omega) (fun c_4 => ?_) (fun c_4 => ?_)
  · rw [if_neg c_4] at F
    refine e_vret C F rfl d_Re_note_17 ?_
    rfl
  · rw [if_pos c_4] at F
    refine e_aload_n C d_Re_note_7 rfl ?_
    refine e_iload_n C d_Re_note_8 rfl ?_
    refine e_puti C fp_Re_66 (by decide) rfl rfl (by omega) d_Re_note_9 ?_
    try simp only [RZ_3, RZ_w3, wr_so]
    refine e_aload_n C d_Re_note_12 rfl ?_
    refine e_iload_n C d_Re_note_13 rfl ?_
    refine e_puti C fp_Re_80 (by decide) rfl rfl (by omega) d_Re_note_14 ?_
    try simp only [RZ_3, RZ_w3, wr_so]
    refine e_vret C F rfl d_Re_note_17 ?_
    rfl
theorem k_La_clear : CtV M_La_clear [.inr (.inr (5, 0))] (RZ σ x P l c) (fun u => u = RZ σ x P (clr l) c) := by
  intro g C F
  refine e_aload_n C d_La_clear_0 rfl ?_
  refine e_iconst C d_La_clear_1 ?_
  refine e_puti C fp_La_27 (by decide) rfl rfl (by omega) d_La_clear_2 ?_
  try simp only [RZ_5, RZ_w5, wr_so]
  refine e_aload_n C d_La_clear_5 rfl ?_
  refine e_iconst C d_La_clear_6 ?_
  refine e_puti C fp_La_31 (by decide) rfl rfl (by omega) d_La_clear_7 ?_
  try simp only [RZ_5, RZ_w5, wr_so]
  refine e_aload_n C d_La_clear_10 rfl ?_
  refine e_iconst C d_La_clear_11 ?_
  refine e_putz C fp_La_34 (by decide) rfl rfl (by omega) d_La_clear_12 ?_
  try simp only [RZ_5, RZ_w5, wr_so]
  refine e_aload_n C d_La_clear_15 rfl ?_
  refine e_iconst C d_La_clear_16 ?_
  refine e_putz C fp_La_38 (by decide) rfl rfl (by omega) d_La_clear_17 ?_
  try simp only [RZ_5, RZ_w5, wr_so]
  refine e_vret C F rfl d_La_clear_20 ?_
  rfl
theorem k_La_useVariable {j : Int} (hj : 0 ≤ j ∧ j ≤ 5) : CtI M_La_useVariable [.inr (.inr (5, 0)), .inl j] (RZ σ x P l c) (fun r u => r = j ∧ u = RZ σ x P (useV l j) c) := by
  intro g C F
  unfold useV at F
  have two : ∀ a, (a = 0 ∨ a = 1) → (∀ b, b = (if l 1 0 ≠ 0 ∨ j = 1 then (1 : Int) else 0) → Ev g 52 [some (.inr (.inr (5, 0))), some (.inl j)] [] (RZ σ x P (cu (cu l 0 0 a) 1 0 b) c)) → Ev g 28 [some (.inr (.inr (5, 0))), some (.inl j)] [.inl a, .inr (.inr (5, 0))] (RZ σ x P l c) := by
    intro a ha hE
    refine e_putz C fp_La_34 (by decide) rfl rfl (by omega) d_La_useVariable_28 ?_
    try simp only [RZ_5, RZ_w5, wr_so, cu_f, ne_eq, Nat.reduceEqDiff, not_false_eq_true]
    refine e_aload_n C d_La_useVariable_31 rfl ?_
    refine e_aload_n C d_La_useVariable_32 rfl ?_
    refine e_getz C fl_La_38 (by decide) rfl rfl d_La_useVariable_33 (fun r_33 => ?_)
    try simp only [RZ_5, RZ_w5, wr_so, cu_f, ne_eq, Nat.reduceEqDiff, not_false_eq_true] at r_33 ⊢
    refine e_if_ne C 44 d_La_useVariable_36 (by decide) (by omega) (fun c_36 => ?_) (fun c_36 => ?_)
    · refine e_iconst C d_La_useVariable_44 ?_
      refine e_goto C 49 d_La_useVariable_45 (by decide) ?_
      refine e_putz C fp_La_38 (by decide) rfl rfl (by omega) d_La_useVariable_49 ?_
      try simp only [RZ_5, RZ_w5, wr_so, cu_f, ne_eq, Nat.reduceEqDiff, not_false_eq_true]
      exact hE _ (by first | rw [if_pos (by omega)] | rw [if_neg (by omega)])
    · refine e_iload_n C d_La_useVariable_39 rfl ?_
      refine e_iconst C d_La_useVariable_40 ?_
      refine e_icmp_ne C 48 d_La_useVariable_41 (by decide) (by omega) (by omega) (fun c_41 => ?_) (fun c_41 => ?_)
      · refine e_iconst C d_La_useVariable_48 ?_
        refine e_putz C fp_La_38 (by decide) rfl rfl (by omega) d_La_useVariable_49 ?_
        try simp only [RZ_5, RZ_w5, wr_so, cu_f, ne_eq, Nat.reduceEqDiff, not_false_eq_true]
        exact hE _ (by first | rw [if_pos (by omega)] | rw [if_neg (by omega)])
      · refine e_iconst C d_La_useVariable_44 ?_
        refine e_goto C 49 d_La_useVariable_45 (by decide) ?_
        refine e_putz C fp_La_38 (by decide) rfl rfl (by omega) d_La_useVariable_49 ?_
        try simp only [RZ_5, RZ_w5, wr_so, cu_f, ne_eq, Nat.reduceEqDiff, not_false_eq_true]
        exact hE _ (by first | rw [if_pos (by omega)] | rw [if_neg (by omega)])
  have fin : ∀ a b, a = (if l 0 0 ≠ 0 ∧ j ≠ 2 ∧ j ≠ 3 ∧ j ≠ 4 then (1 : Int) else 0) → b = (if l 1 0 ≠ 0 ∨ j = 1 then (1 : Int) else 0) → Ev g 52 [some (.inr (.inr (5, 0))), some (.inl j)] [] (RZ σ x P (cu (cu l 0 0 a) 1 0 b) c) := by
    intro a b ha hb
    refine e_iload_n C d_La_useVariable_52 rfl ?_
    refine e_iret C F rfl d_La_useVariable_53 (by omega) ?_
    rw [ha, hb]; exact ⟨rfl, rfl⟩
  refine e_aload_n C d_La_useVariable_0 rfl ?_
  refine e_aload_n C d_La_useVariable_1 rfl ?_
  refine e_getz C fl_La_34 (by decide) rfl rfl d_La_useVariable_2 (fun r_2 => ?_)
  try simp only [RZ_5] at r_2 ⊢
  refine e_if_eq C 27 d_La_useVariable_5 (by decide) (by omega) (fun c_5 => ?_) (fun c_5 => ?_)
  · refine e_iconst C d_La_useVariable_27 ?_
    refine two _ (by omega) (fun b hb => fin _ b ?_ hb)
    first | rw [if_pos (by omega)] | rw [if_neg (by omega)]
  · refine e_iload_n C d_La_useVariable_8 rfl ?_
    refine e_iconst C d_La_useVariable_9 ?_
    refine e_icmp_eq C 27 d_La_useVariable_10 (by decide) (by omega) (by omega) (fun c_10 => ?_) (fun c_10 => ?_)
    · refine e_iconst C d_La_useVariable_27 ?_
      refine two _ (by omega) (fun b hb => fin _ b ?_ hb)
      first | rw [if_pos (by omega)] | rw [if_neg (by omega)]
    · refine e_iload_n C d_La_useVariable_13 rfl ?_
      refine e_iconst C d_La_useVariable_14 ?_
      refine e_icmp_eq C 27 d_La_useVariable_15 (by decide) (by omega) (by omega) (fun c_15 => ?_) (fun c_15 => ?_)
      · refine e_iconst C d_La_useVariable_27 ?_
        refine two _ (by omega) (fun b hb => fin _ b ?_ hb)
        first | rw [if_pos (by omega)] | rw [if_neg (by omega)]
      · refine e_iload_n C d_La_useVariable_18 rfl ?_
        refine e_iconst C d_La_useVariable_19 ?_
        refine e_icmp_eq C 27 d_La_useVariable_20 (by decide) (by omega) (by omega) (fun c_20 => ?_) (fun c_20 => ?_)
        · refine e_iconst C d_La_useVariable_27 ?_
          refine two _ (by omega) (fun b hb => fin _ b ?_ hb)
          first | rw [if_pos (by omega)] | rw [if_neg (by omega)]
        · refine e_iconst C d_La_useVariable_23 ?_
          refine e_goto C 28 d_La_useVariable_24 (by decide) ?_
          refine two _ (by omega) (fun b hb => fin _ b ?_ hb)
          first | rw [if_pos (by omega)] | rw [if_neg (by omega)]
theorem k_La_useInt {v : Int} (h8 : 0 ≤ l 8 0 ∧ l 8 0 < 400) (hv : R32 v) : CtI M_La_useInt [.inr (.inr (5, 0)), .inl v] (RZ σ x P l c) (fun r u => r = 6 + l 8 0 ∧ u = RZ σ x P (useI l v) c) := by
  intro g C F
  refine e_aload_n C d_La_useInt_0 rfl ?_
  refine e_geti C fl_La_31 (by decide) rfl rfl d_La_useInt_1 (fun r_1 => ?_)
  try simp only [RZ_5, RZ_w5, wr_so, cu_s, cu_f, ne_eq, Nat.reduceEqDiff, not_false_eq_true] at r_1 ⊢
  refine e_sipush C d_La_useInt_4 (by decide) ?_
  refine e_icmp_lt C 12 d_La_useInt_7 (by decide) (by omega) (by omega) (fun c_7 => ?_) (fun c_7 => ?_)
  · refine e_aload_n C d_La_useInt_12 rfl ?_
    refine e_geta C fl_La_24 (by decide) rfl rfl d_La_useInt_13 ?_
    refine e_bipush C d_La_useInt_16 (by decide) ?_
    refine e_aload_n C d_La_useInt_18 rfl ?_
    refine e_geti C fl_La_31 (by decide) rfl rfl d_La_useInt_19 (fun r_19 => ?_)
    try simp only [RZ_5, RZ_w5, wr_so, cu_s, cu_f, ne_eq, Nat.reduceEqDiff, not_false_eq_true] at r_19 ⊢
    refine e_iadd C d_La_useInt_22 ?_
    refine e_iload_n C d_La_useInt_23 rfl ?_
    refine e_iast (n := 806) C (by decide) rfl (by decide) rfl rfl (by decide) (by omega) (by omega) (by omega) d_La_useInt_24 ?_
    try simp only [RZ_5, RZ_w5, wr_so, cu_s, cu_f, ne_eq, Nat.reduceEqDiff, not_false_eq_true]
    refine e_aload_n C d_La_useInt_25 rfl ?_
    refine e_dup C d_La_useInt_26 rfl ?_
    refine e_geti C fl_La_31 (by decide) rfl rfl d_La_useInt_27 (fun r_27 => ?_)
    try simp only [RZ_5, RZ_w5, wr_so, cu_s, cu_f, ne_eq, Nat.reduceEqDiff, not_false_eq_true] at r_27 ⊢
    refine e_iconst C d_La_useInt_30 ?_
    refine e_iadd C d_La_useInt_31 ?_
    refine e_puti C fp_La_31 (by decide) rfl rfl (by omega) d_La_useInt_32 ?_
    try simp only [RZ_5, RZ_w5, wr_so, cu_s, cu_f, ne_eq, Nat.reduceEqDiff, not_false_eq_true]
    refine e_bipush C d_La_useInt_35 (by decide) ?_
    refine e_aload_n C d_La_useInt_37 rfl ?_
    refine e_geti C fl_La_31 (by decide) rfl rfl d_La_useInt_38 (fun r_38 => ?_)
    try simp only [RZ_5, RZ_w5, wr_so, cu_s, cu_f, ne_eq, Nat.reduceEqDiff, not_false_eq_true] at r_38 ⊢
    refine e_iadd C d_La_useInt_41 ?_
    refine e_iconst C d_La_useInt_42 ?_
    refine e_isub C d_La_useInt_43 ?_
    refine e_iret C F rfl d_La_useInt_44 (by omega) ?_
    exact ⟨by omega, rfl⟩
  · exact absurd h8.2 (by omega)
theorem k_La_addStep {o a b : Int} (h7 : 0 ≤ l 7 0 ∧ l 7 0 < 400) (ho : R32 o) (ha : R32 a) (hb : R32 b) : CtI M_La_addStep [.inr (.inr (5, 0)), .inl o, .inl a, .inl b] (RZ σ x P l c) (fun r u => r = 406 + l 7 0 ∧ u = RZ σ x P (addS l o a b) c) := by
  intro g C F
  refine e_aload_n C d_La_addStep_0 rfl ?_
  refine e_geti C fl_La_27 (by decide) rfl rfl d_La_addStep_1 (fun r_1 => ?_)
  try simp only [RZ_5, RZ_w5, wr_so, cu_s, cu_f, ne_eq, Nat.reduceEqDiff, not_false_eq_true] at r_1 ⊢
  refine e_sipush C d_La_addStep_4 (by decide) ?_
  refine e_icmp_lt C 12 d_La_addStep_7 (by decide) (by omega) (by omega) (fun c_7 => ?_) (fun c_7 => ?_)
  · refine e_aload_n C d_La_addStep_12 rfl ?_
    refine e_geta C fl_La_11 (by decide) rfl rfl d_La_addStep_13 ?_
    refine e_aload_n C d_La_addStep_16 rfl ?_
    refine e_geti C fl_La_27 (by decide) rfl rfl d_La_addStep_17 (fun r_17 => ?_)
    try simp only [RZ_5, RZ_w5, wr_so, cu_s, cu_f, ne_eq, Nat.reduceEqDiff, not_false_eq_true] at r_17 ⊢
    refine e_iload_n C d_La_addStep_20 rfl ?_
    refine e_iast (n := 400) C (by decide) rfl (by decide) rfl rfl (by decide) (by omega) (by omega) (by omega) d_La_addStep_21 ?_
    try simp only [RZ_5, RZ_w5, wr_so, cu_s, cu_f, ne_eq, Nat.reduceEqDiff, not_false_eq_true]
    refine e_aload_n C d_La_addStep_22 rfl ?_
    refine e_geta C fl_La_15 (by decide) rfl rfl d_La_addStep_23 ?_
    refine e_aload_n C d_La_addStep_26 rfl ?_
    refine e_geti C fl_La_27 (by decide) rfl rfl d_La_addStep_27 (fun r_27 => ?_)
    try simp only [RZ_5, RZ_w5, wr_so, cu_s, cu_f, ne_eq, Nat.reduceEqDiff, not_false_eq_true] at r_27 ⊢
    refine e_iload_n C d_La_addStep_30 rfl ?_
    refine e_iast (n := 400) C (by decide) rfl (by decide) rfl rfl (by decide) (by omega) (by omega) (by omega) d_La_addStep_31 ?_
    try simp only [RZ_5, RZ_w5, wr_so, cu_s, cu_f, ne_eq, Nat.reduceEqDiff, not_false_eq_true]
    refine e_aload_n C d_La_addStep_32 rfl ?_
    refine e_geta C fl_La_18 (by decide) rfl rfl d_La_addStep_33 ?_
    refine e_aload_n C d_La_addStep_36 rfl ?_
    refine e_geti C fl_La_27 (by decide) rfl rfl d_La_addStep_37 (fun r_37 => ?_)
    try simp only [RZ_5, RZ_w5, wr_so, cu_s, cu_f, ne_eq, Nat.reduceEqDiff, not_false_eq_true] at r_37 ⊢
    refine e_iload_n C d_La_addStep_40 rfl ?_
    refine e_iast (n := 400) C (by decide) rfl (by decide) rfl rfl (by decide) (by omega) (by omega) (by omega) d_La_addStep_41 ?_
    try simp only [RZ_5, RZ_w5, wr_so, cu_s, cu_f, ne_eq, Nat.reduceEqDiff, not_false_eq_true]
    refine e_aload_n C d_La_addStep_42 rfl ?_
    refine e_dup C d_La_addStep_43 rfl ?_
    refine e_geti C fl_La_27 (by decide) rfl rfl d_La_addStep_44 (fun r_44 => ?_)
    try simp only [RZ_5, RZ_w5, wr_so, cu_s, cu_f, ne_eq, Nat.reduceEqDiff, not_false_eq_true] at r_44 ⊢
    refine e_iconst C d_La_addStep_47 ?_
    refine e_iadd C d_La_addStep_48 ?_
    refine e_puti C fp_La_27 (by decide) rfl rfl (by omega) d_La_addStep_49 ?_
    try simp only [RZ_5, RZ_w5, wr_so, cu_s, cu_f, ne_eq, Nat.reduceEqDiff, not_false_eq_true]
    refine e_sipush C d_La_addStep_52 (by decide) ?_
    refine e_aload_n C d_La_addStep_55 rfl ?_
    refine e_geti C fl_La_27 (by decide) rfl rfl d_La_addStep_56 (fun r_56 => ?_)
    try simp only [RZ_5, RZ_w5, wr_so, cu_s, cu_f, ne_eq, Nat.reduceEqDiff, not_false_eq_true] at r_56 ⊢
    refine e_iadd C d_La_addStep_59 ?_
    refine e_iconst C d_La_addStep_60 ?_
    refine e_isub C d_La_addStep_61 ?_
    refine e_iret C F rfl d_La_addStep_62 (by omega) ?_
    exact ⟨by omega, rfl⟩
  · exact absurd h7.2 (by omega)
theorem k_La_aimHere {s : Int} (h7 : l 7 0 ≤ 400) (hs : 0 ≤ s ∧ s < l 7 0) : CtV M_La_aimHere [.inr (.inr (5, 0)), .inl (406 + s)] (RZ σ x P l c) (fun u => u = RZ σ x P (cu l 5 s (l 7 0)) c) := by
  intro g C F
  refine e_iload_n C d_La_aimHere_0 rfl ?_
  refine e_sipush C d_La_aimHere_1 (by decide) ?_
  refine e_icmp_lt C 33 d_La_aimHere_4 (by decide) (by omega) (by omega) (fun c_4 => ?_) (fun c_4 => ?_)
  · exact absurd hs.1 (by omega)
  · refine e_iload_n C d_La_aimHere_7 rfl ?_
    refine e_sipush C d_La_aimHere_8 (by decide) ?_
    refine e_aload_n C d_La_aimHere_11 rfl ?_
    refine e_geti C fl_La_27 (by decide) rfl rfl d_La_aimHere_12 (fun r_12 => ?_)
    try simp only [RZ_5, RZ_w5, wr_so, cu_s, cu_f, ne_eq, Nat.reduceEqDiff, not_false_eq_true] at r_12 ⊢
    refine e_iadd C d_La_aimHere_15 ?_
    refine e_icmp_ge C 33 d_La_aimHere_16 (by decide) (by omega) (by omega) (fun c_16 => ?_) (fun c_16 => ?_)
    · exact absurd hs.2 (by omega)
    · refine e_aload_n C d_La_aimHere_19 rfl ?_
      refine e_geta C fl_La_21 (by decide) rfl rfl d_La_aimHere_20 ?_
      refine e_iload_n C d_La_aimHere_23 rfl ?_
      refine e_sipush C d_La_aimHere_24 (by decide) ?_
      refine e_isub C d_La_aimHere_27 ?_
      rw [show 406 + s - 406 = s by omega]
      refine e_aload_n C d_La_aimHere_28 rfl ?_
      refine e_geti C fl_La_27 (by decide) rfl rfl d_La_aimHere_29 (fun r_29 => ?_)
      try simp only [RZ_5, RZ_w5, wr_so, cu_s, cu_f, ne_eq, Nat.reduceEqDiff, not_false_eq_true] at r_29 ⊢
      refine e_iast (n := 400) C (by decide) rfl (by decide) rfl rfl (by decide) (by omega) (by omega) (by omega) d_La_aimHere_32 ?_
      try simp only [RZ_5, RZ_w5, wr_so, cu_s, cu_f, ne_eq, Nat.reduceEqDiff, not_false_eq_true]
      refine e_vret C F rfl d_La_aimHere_33 ?_
      rfl
theorem k_Re_pushUnit {v n : Int} (hn : x 9 0 = n) (h9 : 0 ≤ n ∧ n < 21) (hv : R32 v) : CtV M_Re_pushUnit [.inr (.inr (3, 0)), .inl v] (RZ σ x P l c) (fun u => u = RZ σ (cu (cu x 9 0 (n + 1)) 8 n v) P l c) := by
  intro g C F
  refine e_aload_n C d_Re_pushUnit_0 rfl ?_
  refine e_geti C fl_Re_199 (by decide) rfl rfl d_Re_pushUnit_1 (fun r_1 => ?_)
  try simp only [RZ_3, RZ_w3, wr_so, hn, cu_s, cu_f, ne_eq, Nat.reduceEqDiff, not_false_eq_true] at r_1 ⊢
  refine e_if_lt C 33 d_Re_pushUnit_4 (by decide) (by omega) (fun c_4 => ?_) (fun c_4 => ?_)
  · exact absurd h9.1 (by omega)
  · refine e_aload_n C d_Re_pushUnit_7 rfl ?_
    refine e_geti C fl_Re_199 (by decide) rfl rfl d_Re_pushUnit_8 (fun r_8 => ?_)
    try simp only [RZ_3, RZ_w3, wr_so, hn, cu_s, cu_f, ne_eq, Nat.reduceEqDiff, not_false_eq_true] at r_8 ⊢
    refine e_bipush C d_Re_pushUnit_11 (by decide) ?_
    refine e_icmp_ge C 33 d_Re_pushUnit_13 (by decide) (by omega) (by omega) (fun c_13 => ?_) (fun c_13 => ?_)
    · exact absurd h9.2 (by omega)
    · refine e_aload_n C d_Re_pushUnit_16 rfl ?_
      refine e_geta C fl_Re_43 (by decide) rfl rfl d_Re_pushUnit_17 ?_
      refine e_aload_n C d_Re_pushUnit_20 rfl ?_
      refine e_dup C d_Re_pushUnit_21 rfl ?_
      refine e_geti C fl_Re_199 (by decide) rfl rfl d_Re_pushUnit_22 (fun r_22 => ?_)
      try simp only [RZ_3, RZ_w3, wr_so, hn, cu_s, cu_f, ne_eq, Nat.reduceEqDiff, not_false_eq_true] at r_22 ⊢
      refine e_dup_x1 C d_Re_pushUnit_25 rfl rfl ?_
      refine e_iconst C d_Re_pushUnit_26 ?_
      refine e_iadd C d_Re_pushUnit_27 ?_
      refine e_puti C fp_Re_199 (by decide) rfl rfl (by omega) d_Re_pushUnit_28 ?_
      try simp only [RZ_3, RZ_w3, wr_so, hn, cu_s, cu_f, ne_eq, Nat.reduceEqDiff, not_false_eq_true]
      refine e_iload_n C d_Re_pushUnit_31 rfl ?_
      refine e_iast (n := 21) C (by decide) rfl (by decide) rfl rfl (by decide) (by omega) (by omega) (by omega) d_Re_pushUnit_32 ?_
      try simp only [RZ_3, RZ_w3, wr_so, hn, cu_s, cu_f, ne_eq, Nat.reduceEqDiff, not_false_eq_true]
      refine e_vret C F rfl d_Re_pushUnit_33 ?_
      rfl
theorem k_Re_popUnit {n : Int} (hn : x 9 0 = n + 1) (h9 : 0 ≤ n ∧ n < 21) : CtI M_Re_popUnit [.inr (.inr (3, 0))] (RZ σ x P l c) (fun r u => r = x 8 n ∧ u = RZ σ (cu x 9 0 n) P l c) := by
  intro g C F
  refine e_aload_n C d_Re_popUnit_0 rfl ?_
  refine e_geti C fl_Re_199 (by decide) rfl rfl d_Re_popUnit_1 (fun r_1 => ?_)
  try simp only [RZ_3, RZ_w3, wr_so, hn, Int.add_sub_cancel, cu_s, cu_f, ne_eq, Nat.reduceEqDiff, not_false_eq_true] at r_1 ⊢
  refine e_if_le C 16 d_Re_popUnit_4 (by decide) (by omega) (fun c_4 => ?_) (fun c_4 => ?_)
  · exact absurd h9.1 (by omega)
  · refine e_aload_n C d_Re_popUnit_7 rfl ?_
    refine e_geti C fl_Re_199 (by decide) rfl rfl d_Re_popUnit_8 (fun r_8 => ?_)
    try simp only [RZ_3, RZ_w3, wr_so, hn, Int.add_sub_cancel, cu_s, cu_f, ne_eq, Nat.reduceEqDiff, not_false_eq_true] at r_8 ⊢
    refine e_bipush C d_Re_popUnit_11 (by decide) ?_
    refine e_icmp_le C 18 d_Re_popUnit_13 (by decide) (by omega) (by omega) (fun c_13 => ?_) (fun c_13 => ?_)
    · refine e_aload_n C d_Re_popUnit_18 rfl ?_
      refine e_dup C d_Re_popUnit_19 rfl ?_
      refine e_geti C fl_Re_199 (by decide) rfl rfl d_Re_popUnit_20 (fun r_20 => ?_)
      try simp only [RZ_3, RZ_w3, wr_so, hn, Int.add_sub_cancel, cu_s, cu_f, ne_eq, Nat.reduceEqDiff, not_false_eq_true] at r_20 ⊢
      refine e_iconst C d_Re_popUnit_23 ?_
      refine e_isub C d_Re_popUnit_24 ?_
      refine e_puti C fp_Re_199 (by decide) rfl rfl (by omega) d_Re_popUnit_25 ?_
      try simp only [RZ_3, RZ_w3, wr_so, hn, Int.add_sub_cancel, cu_s, cu_f, ne_eq, Nat.reduceEqDiff, not_false_eq_true]
      refine e_aload_n C d_Re_popUnit_28 rfl ?_
      refine e_geta C fl_Re_43 (by decide) rfl rfl d_Re_popUnit_29 ?_
      refine e_aload_n C d_Re_popUnit_32 rfl ?_
      refine e_geti C fl_Re_199 (by decide) rfl rfl d_Re_popUnit_33 (fun r_33 => ?_)
      try simp only [RZ_3, RZ_w3, wr_so, hn, Int.add_sub_cancel, cu_s, cu_f, ne_eq, Nat.reduceEqDiff, not_false_eq_true] at r_33 ⊢
      refine e_iald (n := 21) C (by decide) rfl (by decide) rfl rfl (by decide) (by omega) (by omega) d_Re_popUnit_36 (fun r_36 => ?_)
      try simp only [RZ_3, RZ_w3, wr_so, hn, Int.add_sub_cancel, cu_s, cu_f, ne_eq, Nat.reduceEqDiff, not_false_eq_true] at r_36 ⊢
      refine e_iret C F rfl d_Re_popUnit_37 (by omega) ?_
      exact ⟨rfl, rfl⟩
    · exact absurd h9.2 (by omega)
theorem k_Re_letWait {v n : Int} (hn : x 7 0 = n) (h9 : 0 ≤ n ∧ n < 21) (hv : R32 v) : CtV M_Re_letWait [.inr (.inr (3, 0)), .inl v] (RZ σ x P l c) (fun u => u = RZ σ (cu (cu x 7 0 (n + 1)) 6 n v) P l c) := by
  intro g C F
  refine e_aload_n C d_Re_letWait_0 rfl ?_
  refine e_geti C fl_Re_196 (by decide) rfl rfl d_Re_letWait_1 (fun r_1 => ?_)
  try simp only [RZ_3, RZ_w3, wr_so, hn, cu_s, cu_f, ne_eq, Nat.reduceEqDiff, not_false_eq_true] at r_1 ⊢
  refine e_if_lt C 33 d_Re_letWait_4 (by decide) (by omega) (fun c_4 => ?_) (fun c_4 => ?_)
  · exact absurd h9.1 (by omega)
  · refine e_aload_n C d_Re_letWait_7 rfl ?_
    refine e_geti C fl_Re_196 (by decide) rfl rfl d_Re_letWait_8 (fun r_8 => ?_)
    try simp only [RZ_3, RZ_w3, wr_so, hn, cu_s, cu_f, ne_eq, Nat.reduceEqDiff, not_false_eq_true] at r_8 ⊢
    refine e_bipush C d_Re_letWait_11 (by decide) ?_
    refine e_icmp_ge C 33 d_Re_letWait_13 (by decide) (by omega) (by omega) (fun c_13 => ?_) (fun c_13 => ?_)
    · exact absurd h9.2 (by omega)
    · refine e_aload_n C d_Re_letWait_16 rfl ?_
      refine e_geta C fl_Re_39 (by decide) rfl rfl d_Re_letWait_17 ?_
      refine e_aload_n C d_Re_letWait_20 rfl ?_
      refine e_dup C d_Re_letWait_21 rfl ?_
      refine e_geti C fl_Re_196 (by decide) rfl rfl d_Re_letWait_22 (fun r_22 => ?_)
      try simp only [RZ_3, RZ_w3, wr_so, hn, cu_s, cu_f, ne_eq, Nat.reduceEqDiff, not_false_eq_true] at r_22 ⊢
      refine e_dup_x1 C d_Re_letWait_25 rfl rfl ?_
      refine e_iconst C d_Re_letWait_26 ?_
      refine e_iadd C d_Re_letWait_27 ?_
      refine e_puti C fp_Re_196 (by decide) rfl rfl (by omega) d_Re_letWait_28 ?_
      try simp only [RZ_3, RZ_w3, wr_so, hn, cu_s, cu_f, ne_eq, Nat.reduceEqDiff, not_false_eq_true]
      refine e_iload_n C d_Re_letWait_31 rfl ?_
      refine e_iast (n := 21) C (by decide) rfl (by decide) rfl rfl (by decide) (by omega) (by omega) (by omega) d_Re_letWait_32 ?_
      try simp only [RZ_3, RZ_w3, wr_so, hn, cu_s, cu_f, ne_eq, Nat.reduceEqDiff, not_false_eq_true]
      refine e_vret C F rfl d_Re_letWait_33 ?_
      rfl
end RE
theorem k_Re_rank {σ : St} {k : Int} (hk : R32 k) : CtI M_Re_rank [.inl k] σ (fun r u => r = rnk k ∧ u = σ) := by
  intro g C F
  unfold rnk at F
  refine e_iload_n C d_Re_rank_0 rfl ?_
  refine e_bipush C d_Re_rank_1 (by decide) ?_
  refine e_icmp_eq C 12 d_Re_rank_3 (by decide) (by omega) (by omega) (fun c_3 => ?_) (fun c_3 => ?_)
  · refine e_iconst C d_Re_rank_12 ?_
    refine e_iret C F rfl d_Re_rank_13 (by omega) ?_
    rw [if_pos (by omega)]; exact ⟨rfl, rfl⟩
  · refine e_iload_n C d_Re_rank_6 rfl ?_
    refine e_bipush C d_Re_rank_7 (by decide) ?_
    refine e_icmp_ne C 14 d_Re_rank_9 (by decide) (by omega) (by omega) (fun c_9 => ?_) (fun c_9 => ?_)
    · refine e_iload_n C d_Re_rank_14 rfl ?_
      refine e_bipush C d_Re_rank_15 (by decide) ?_
      refine e_icmp_eq C 26 d_Re_rank_17 (by decide) (by omega) (by omega) (fun c_17 => ?_) (fun c_17 => ?_)
      · refine e_iconst C d_Re_rank_26 ?_
        refine e_goto C 31 d_Re_rank_27 (by decide) ?_
        refine e_iret C F rfl d_Re_rank_31 (by omega) ?_
        first | (rw [if_neg (by omega), if_pos (by omega)]; exact ⟨rfl, rfl⟩) | (rw [if_neg (by omega), if_neg (by omega)]; exact ⟨rfl, rfl⟩)
      · refine e_iload_n C d_Re_rank_20 rfl ?_
        refine e_bipush C d_Re_rank_21 (by decide) ?_
        refine e_icmp_ne C 30 d_Re_rank_23 (by decide) (by omega) (by omega) (fun c_23 => ?_) (fun c_23 => ?_)
        · refine e_iconst C d_Re_rank_30 ?_
          refine e_iret C F rfl d_Re_rank_31 (by omega) ?_
          first | (rw [if_neg (by omega), if_pos (by omega)]; exact ⟨rfl, rfl⟩) | (rw [if_neg (by omega), if_neg (by omega)]; exact ⟨rfl, rfl⟩)
        · refine e_iconst C d_Re_rank_26 ?_
          refine e_goto C 31 d_Re_rank_27 (by decide) ?_
          refine e_iret C F rfl d_Re_rank_31 (by omega) ?_
          first | (rw [if_neg (by omega), if_pos (by omega)]; exact ⟨rfl, rfl⟩) | (rw [if_neg (by omega), if_neg (by omega)]; exact ⟨rfl, rfl⟩)
    · refine e_iconst C d_Re_rank_12 ?_
      refine e_iret C F rfl d_Re_rank_13 (by omega) ?_
      rw [if_pos (by omega)]; exact ⟨rfl, rfl⟩
theorem k_Re_opOf {σ : St} {k : Int} (hk : R32 k) : CtI M_Re_opOf [.inl k] σ (fun r u => r = opc k - 2 ∧ u = σ) := by
  intro g C F
  unfold opc at F
  refine e_iload_n C d_Re_opOf_0 rfl ?_
  by_cases s_1 : k < 42 ∨ 45 < k
  · refine e_tableOut C 38 d_Re_opOf_1 (by omega) (by omega) (by decide) ?_
    refine e_iconst C d_Re_opOf_38 ?_
    refine e_iret C F rfl d_Re_opOf_39 (by omega) ?_
    first | (rw [if_pos (by omega)]; exact ⟨rfl, rfl⟩) | (rw [if_neg (by omega), if_pos (by omega)]; exact ⟨rfl, rfl⟩) | (rw [if_neg (by omega), if_neg (by omega), if_pos (by omega)]; exact ⟨rfl, rfl⟩) | (rw [if_neg (by omega), if_neg (by omega), if_neg (by omega)]; exact ⟨rfl, rfl⟩)
  · rcases (show k = 42 ∨ k = 43 ∨ k = 44 ∨ k = 45 by omega) with s_1_ | s_1_ | s_1_ | s_1_
    · refine e_tableIn (off := 35) C 36 d_Re_opOf_1 (by omega) (by omega) (by omega) (by rw [s_1_]; rfl) (by decide) ?_
      refine e_iconst C d_Re_opOf_36 ?_
      refine e_iret C F rfl d_Re_opOf_37 (by omega) ?_
      first | (rw [if_pos (by omega)]; exact ⟨rfl, rfl⟩) | (rw [if_neg (by omega), if_pos (by omega)]; exact ⟨rfl, rfl⟩) | (rw [if_neg (by omega), if_neg (by omega), if_pos (by omega)]; exact ⟨rfl, rfl⟩) | (rw [if_neg (by omega), if_neg (by omega), if_neg (by omega)]; exact ⟨rfl, rfl⟩)
    · refine e_tableIn (off := 31) C 32 d_Re_opOf_1 (by omega) (by omega) (by omega) (by rw [s_1_]; rfl) (by decide) ?_
      refine e_iconst C d_Re_opOf_32 ?_
      refine e_iret C F rfl d_Re_opOf_33 (by omega) ?_
      first | (rw [if_pos (by omega)]; exact ⟨rfl, rfl⟩) | (rw [if_neg (by omega), if_pos (by omega)]; exact ⟨rfl, rfl⟩) | (rw [if_neg (by omega), if_neg (by omega), if_pos (by omega)]; exact ⟨rfl, rfl⟩) | (rw [if_neg (by omega), if_neg (by omega), if_neg (by omega)]; exact ⟨rfl, rfl⟩)
    · refine e_tableIn (off := 37) C 38 d_Re_opOf_1 (by omega) (by omega) (by omega) (by rw [s_1_]; rfl) (by decide) ?_
      refine e_iconst C d_Re_opOf_38 ?_
      refine e_iret C F rfl d_Re_opOf_39 (by omega) ?_
      first | (rw [if_pos (by omega)]; exact ⟨rfl, rfl⟩) | (rw [if_neg (by omega), if_pos (by omega)]; exact ⟨rfl, rfl⟩) | (rw [if_neg (by omega), if_neg (by omega), if_pos (by omega)]; exact ⟨rfl, rfl⟩) | (rw [if_neg (by omega), if_neg (by omega), if_neg (by omega)]; exact ⟨rfl, rfl⟩)
    · refine e_tableIn (off := 33) C 34 d_Re_opOf_1 (by omega) (by omega) (by omega) (by rw [s_1_]; rfl) (by decide) ?_
      refine e_iconst C d_Re_opOf_34 ?_
      refine e_iret C F rfl d_Re_opOf_35 (by omega) ?_
      first | (rw [if_pos (by omega)]; exact ⟨rfl, rfl⟩) | (rw [if_neg (by omega), if_pos (by omega)]; exact ⟨rfl, rfl⟩) | (rw [if_neg (by omega), if_neg (by omega), if_pos (by omega)]; exact ⟨rfl, rfl⟩) | (rw [if_neg (by omega), if_neg (by omega), if_neg (by omega)]; exact ⟨rfl, rfl⟩)
/-! lists in rows -/
def SKl (a : Int → Int) : List Int → Prop
  | [] => True
  | w :: ws => a ws.length = w ∧ SKl a ws
theorem SKl.wu {a : Int → Int} {k v : Int} : ∀ {ws : List Int}, SKl a ws → (ws.length : Int) ≤ k → SKl (ua a k v) ws
  | [], _, _ => trivial
  | w :: ws, h, hk => by
    have hk : ((ws.length + 1 : Nat) : Int) ≤ k := hk
    exact ⟨by rw [ua_ne (by omega)]; exact h.1, SKl.wu h.2 (by omega)⟩
theorem SKl.push {a : Int → Int} {n v : Int} {ws : List Int} (h : SKl a ws) (hn : n = ws.length) : SKl (ua a n v) (v :: ws) := ⟨by rw [hn, ua_at], h.wu (by omega)⟩
def XC (x : Cs) (ws U : List Int) : Prop := x 7 0 = ws.length ∧ SKl (x 6) ws ∧ x 9 0 = U.length ∧ SKl (x 8) U
def XS (x x' : Cs) : Prop := ∀ f, f ≠ 6 → f ≠ 7 → f ≠ 8 → f ≠ 9 → f ≠ 11 → x' f = x f
theorem XS.rf (x : Cs) : XS x x := fun _ _ _ _ _ _ => rfl
theorem XS.wu {x y : Cs} {f : Nat} {k v : Int} (h : XS x y) (hf : f = 6 ∨ f = 7 ∨ f = 8 ∨ f = 9 ∨ f = 11) : XS x (cu y f k v) := fun f' a b c d e => by rw [cf_f (by omega)]; exact h f' a b c d e
theorem XC.pushU {x : Cs} {ws U : List Int} {v n : Int} (h : XC x ws U) (hn : n = U.length) : XC (cu (cu x 9 0 (n + 1)) 8 n v) ws (v :: U) := by
  obtain ⟨h1, h2, h3, h4⟩ := h
  refine ⟨by rw [cu_f (by decide), cu_f (by decide)]; exact h1, by rw [cf_f (by decide), cf_f (by decide)]; exact h2, ?_, ?_⟩
  · rw [cu_f (by decide), cu_s]; show n + 1 = ((U.length + 1 : Nat) : Int); omega
  · rw [cf_s, cf_f (by decide)]; exact h4.push hn
theorem XC.popU {x : Cs} {ws U : List Int} {v n : Int} (h : XC x ws (v :: U)) (hn : n = U.length) : XC (cu x 9 0 n) ws U ∧ x 8 n = v ∧ x 9 0 = n + 1 := by
  obtain ⟨h1, h2, h3, h4⟩ := h
  have h3 : x 9 0 = ((U.length + 1 : Nat) : Int) := h3
  refine ⟨⟨by rw [cu_f (by decide)]; exact h1, by rw [cf_f (by decide)]; exact h2, by rw [cu_s]; exact hn, by rw [cf_f (by decide)]; exact h4.2⟩, by rw [hn]; exact h4.1, by omega⟩
theorem XC.pushW {x : Cs} {ws U : List Int} {v n : Int} (h : XC x ws U) (hn : n = ws.length) : XC (cu (cu x 7 0 (n + 1)) 6 n v) (v :: ws) U := by
  obtain ⟨h1, h2, h3, h4⟩ := h
  refine ⟨?_, ?_, by rw [cu_f (by decide), cu_f (by decide)]; exact h3, by rw [cf_f (by decide), cf_f (by decide)]; exact h4⟩
  · rw [cu_f (by decide), cu_s]; show n + 1 = ((ws.length + 1 : Nat) : Int); omega
  · rw [cf_s, cf_f (by decide)]; exact h2.push hn
theorem XC.popW {x : Cs} {ws U : List Int} {v n : Int} (h : XC x (v :: ws) U) (hn : n = ws.length) : XC (cu x 7 0 n) ws U ∧ x 6 n = v ∧ x 7 0 = n + 1 := by
  obtain ⟨h1, h2, h3, h4⟩ := h
  have h1 : x 7 0 = ((ws.length + 1 : Nat) : Int) := h1
  refine ⟨⟨by rw [cu_s]; exact hn, by rw [cf_f (by decide)]; exact h2.2, by rw [cu_f (by decide)]; exact h3, by rw [cf_f (by decide)]; exact h4⟩, by rw [hn]; exact h2.1, by omega⟩
theorem XC.t {x : Cs} {ws U : List Int} {v : Int} (h : XC x ws U) : XC (cu x 11 0 v) ws U := by
  obtain ⟨h1, h2, h3, h4⟩ := h
  exact ⟨by rw [cu_f (by decide)]; exact h1, by rw [cf_f (by decide)]; exact h2, by rw [cu_f (by decide)]; exact h3, by rw [cf_f (by decide)]; exact h4⟩
set_option maxHeartbeats 1000000 in
theorem l_Re_release {g : Mach} {Q : St → Prop} (C : Cx M_Re_release g) (F : FinV M_Re_release g Q) {σ : St} {x0 P l0 c : Cs} {r m : Int} (hr : 1 ≤ r ∧ r ≤ 2) (h7 : 0 ≤ l0 7 0 ∧ l0 7 0 + m < 400) (h8 : 0 ≤ l0 8 0 ∧ l0 8 0 + m < 400) :
    ∀ (ws : List Int) (pf : List Cd) (x : Cs), XC x ws (cg l0 pf).2 → RI ws pf m → ws.length ≤ 20 → (∀ w ∈ ws, R32 w) → XS x0 x ∧ x 11 = x0 11 → (∀ x', XC x' (rel r ws pf).1 (cg l0 (rel r ws pf).2).2 → XS x0 x' ∧ x' 11 = x0 11 → Q (RZ σ x' P (cg l0 (rel r ws pf).2).1 c)) → Ev g 0 [some (.inr (.inr (3, 0))), some (.inl r), none, none] [] (RZ σ x P (cg l0 pf).1 c) := by
  intro ws
  induction ws with
  | nil =>
    intro pf x hX hI hL hW hS hQ
    have e7 : x 7 0 = 0 := hX.1
    refine e_aload_n C d_Re_release_0 rfl ?_
    refine e_geti C fl_Re_196 (by decide) rfl rfl d_Re_release_1 (fun r_1 => ?_)
    try simp only [RZ_3, e7] at r_1 ⊢
    refine e_if_le C 76 d_Re_release_4 (by decide) (by omega) (fun c_4 => ?_) (fun c_4 => ?_)
    · refine e_vret C F rfl d_Re_release_76 ?_
      exact hQ x hX hS
    · exact absurd c_4 (by decide)
  | cons w ws ih =>
    intro pf x hX hI hL hW hS hQ
    have hL : ws.length + 1 ≤ 20 := hL
    obtain ⟨p1, p2, p3⟩ := hX.popW (n := ws.length) rfl
    have hw := hW w List.mem_cons_self
    have hG := CGi_cg h7.1 h8.1 pf hI.2.2.1 (by have := hI.2.2.2; omega)
    have hm := hI.2.2.2
    have hlen := cg_len (l := l0) pf hI.2.1
    refine e_aload_n C d_Re_release_0 rfl ?_
    refine e_geti C fl_Re_196 (by decide) rfl rfl d_Re_release_1 (fun r_1 => ?_)
    try simp only [RZ_3, RZ_5, RZ_w3, RZ_w5, wr_so, p3, p2, Int.add_sub_cancel, cu_s, cu_f, ne_eq, Nat.reduceEqDiff, not_false_eq_true] at r_1 ⊢
    refine e_if_le C 76 d_Re_release_4 (by decide) (by omega) (fun c_4 => ?_) (fun c_4 => ?_)
    · exact absurd c_4 (by omega)
    · refine e_aload_n C d_Re_release_7 rfl ?_
      refine e_geta C fl_Re_39 (by decide) rfl rfl d_Re_release_8 ?_
      refine e_aload_n C d_Re_release_11 rfl ?_
      refine e_geti C fl_Re_196 (by decide) rfl rfl d_Re_release_12 (fun r_12 => ?_)
      try simp only [RZ_3, RZ_5, RZ_w3, RZ_w5, wr_so, p3, p2, Int.add_sub_cancel, cu_s, cu_f, ne_eq, Nat.reduceEqDiff, not_false_eq_true] at r_12 ⊢
      refine e_iconst C d_Re_release_15 ?_
      refine e_isub C d_Re_release_16 ?_
      refine e_iald (n := 21) C (by decide) rfl (by decide) rfl rfl (by decide) (by omega) (by omega) d_Re_release_17 (fun r_17 => ?_)
      try simp only [RZ_3, RZ_5, RZ_w3, RZ_w5, wr_so, p3, p2, Int.add_sub_cancel, cu_s, cu_f, ne_eq, Nat.reduceEqDiff, not_false_eq_true] at r_17 ⊢
      refine e_callIS C ok_Re_rank lk_Re_208 [_] rfl rfl (Nat.le_of_ble_eq_true rfl) (by decide) (Nat.le_of_ble_eq_true rfl) d_Re_release_18 (k_Re_rank hw) (fun v_18 u_18 q_18 h_18 => ?_)
      obtain ⟨rfl, rfl⟩ := h_18
      have hrr := rnk_r w
      refine e_iload_n C d_Re_release_21 rfl ?_
      refine e_icmp_lt C 76 d_Re_release_22 (by decide) (by omega) (by omega) (fun c_22 => ?_) (fun c_22 => ?_)
      · have e : rel r (w :: ws) pf = (w :: ws, pf) := by show (if r ≤ rnk w then _ else _) = _; rw [if_neg (by omega)]
        rw [e] at hQ
        refine e_vret C F rfl d_Re_release_76 ?_
        exact hQ x hX hS
      · have e : rel r (w :: ws) pf = rel r ws (pf ++ [(opc w, 0)]) := by show (if r ≤ rnk w then _ else _) = _; rw [if_pos (by omega)]
        rw [e] at hQ
        have hI2 := hI.step (by omega)
        have e2 : nbn (w :: ws) = nbn ws + 1 := by show nbn ws + _ = _; rw [if_neg (rnk_ne (by omega))]
        have ho := opc_r w
        obtain ⟨b, a, U, hU⟩ : ∃ b a U, (cg l0 pf).2 = b :: a :: U := by
          match hq : (cg l0 pf).2, hlen with
          | [], hlen => exact absurd hlen (by show ¬ 0 = _; omega)
          | [b], hlen => exact absurd hlen (by show ¬ 1 = _; omega)
          | b :: a :: U, _ => exact ⟨b, a, U, rfl⟩
        have hlu : U.length + 2 = nbn (w :: ws) + 1 := by rw [hU] at hlen; exact hlen
        have hnb := nbn_le (w :: ws)
        have hnb : nbn (w :: ws) ≤ ws.length + 1 := hnb
        have hub := hG.2.2
        rw [hU] at hub
        have hb1 := hub b List.mem_cons_self
        have ha1 := hub a (List.mem_cons_of_mem _ List.mem_cons_self)
        have hg7 := hG.1
        have ecg : cg l0 (pf ++ [(opc w, 0)]) = (addS (cg l0 pf).1 (opc w - 2) a b, (406 + (cg l0 pf).1 7 0) :: U) := by
          rw [cg_app]
          unfold cgs
          rw [if_neg (show ¬ opc w = 0 by omega), if_neg (show ¬ opc w = 1 by omega), hU]
        rw [hU] at p1
        obtain ⟨q1, q2, q3⟩ := p1.popU (n := U.length + 1) rfl
        obtain ⟨s1, s2, s3⟩ := q1.popU (n := U.length) rfl
        refine e_aload_n C d_Re_release_25 rfl ?_
        refine e_dup C d_Re_release_26 rfl ?_
        refine e_geti C fl_Re_196 (by decide) rfl rfl d_Re_release_27 (fun r_27 => ?_)
        try simp only [RZ_3, RZ_5, RZ_w3, RZ_w5, wr_so, p3, p2, Int.add_sub_cancel, cu_s, cu_f, ne_eq, Nat.reduceEqDiff, not_false_eq_true] at r_27 ⊢
        refine e_iconst C d_Re_release_30 ?_
        refine e_isub C d_Re_release_31 ?_
        refine e_puti C fp_Re_196 (by decide) rfl rfl (by omega) d_Re_release_32 ?_
        try simp only [RZ_3, RZ_5, RZ_w3, RZ_w5, wr_so, p3, p2, Int.add_sub_cancel, cu_s, cu_f, ne_eq, Nat.reduceEqDiff, not_false_eq_true]
        refine e_aload_n C d_Re_release_35 rfl ?_
        refine e_callIV C ok_Re_popUnit lk_Re_186 (o := 3) (by decide) rfl [] rfl rfl (Nat.le_of_ble_eq_true rfl) (by decide) (Nat.le_of_ble_eq_true rfl) d_Re_release_36 (k_Re_popUnit (n := U.length + 1) (by first | exact q3 | (rw [cu_f (by decide)]; exact q3)) (by omega)) (fun v_36 u_36 q_36 h_36 => ?_)
        obtain ⟨rfl, rfl⟩ := h_36
        rw [q2]
        refine e_istore_n C d_Re_release_39 (by decide) rfl ?_
        refine e_aload_n C d_Re_release_40 rfl ?_
        refine e_callIV C ok_Re_popUnit lk_Re_186 (o := 3) (by decide) rfl [] rfl rfl (Nat.le_of_ble_eq_true rfl) (by decide) (Nat.le_of_ble_eq_true rfl) d_Re_release_41 (k_Re_popUnit (n := U.length) s3 (by omega)) (fun v_41 u_41 q_41 h_41 => ?_)
        obtain ⟨rfl, rfl⟩ := h_41
        rw [s2]
        refine e_istore_n C d_Re_release_44 (by decide) rfl ?_
        refine e_aload_n C d_Re_release_45 rfl ?_
        refine e_aload_n C d_Re_release_46 rfl ?_
        refine e_geto (o2 := 4) C fl_Re_14 (by decide) rfl rfl rfl d_Re_release_47 ?_
        refine e_geto (o2 := 5) C fl_Re_170 (by decide) rfl rfl rfl d_Re_release_50 ?_
        refine e_aload_n C d_Re_release_53 rfl ?_
        refine e_geta C fl_Re_39 (by decide) rfl rfl d_Re_release_54 ?_
        refine e_aload_n C d_Re_release_57 rfl ?_
        refine e_geti C fl_Re_196 (by decide) rfl rfl d_Re_release_58 (fun r_58 => ?_)
        try simp only [RZ_3, RZ_5, RZ_w3, RZ_w5, wr_so, p3, p2, Int.add_sub_cancel, cu_s, cu_f, ne_eq, Nat.reduceEqDiff, not_false_eq_true] at r_58 ⊢
        refine e_iald (n := 21) C (by decide) rfl (by decide) rfl rfl (by decide) (by omega) (by omega) d_Re_release_61 (fun r_61 => ?_)
        try simp only [RZ_3, RZ_5, RZ_w3, RZ_w5, wr_so, p3, p2, Int.add_sub_cancel, cu_s, cu_f, ne_eq, Nat.reduceEqDiff, not_false_eq_true] at r_61 ⊢
        refine e_callIS C ok_Re_opOf lk_Re_227 [_] rfl rfl (Nat.le_of_ble_eq_true rfl) (by decide) (Nat.le_of_ble_eq_true rfl) d_Re_release_62 (k_Re_opOf hw) (fun v_62 u_62 q_62 h_62 => ?_)
        obtain ⟨rfl, rfl⟩ := h_62
        refine e_iload_n C d_Re_release_65 rfl ?_
        refine e_iload_n C d_Re_release_66 rfl ?_
        refine e_callIV C ok_La_addStep lk_Re_189 (o := 5) (by decide) rfl [_, _, _] rfl rfl (Nat.le_of_ble_eq_true rfl) (by decide) (Nat.le_of_ble_eq_true rfl) d_Re_release_67 (k_La_addStep (by omega) (by omega) (by omega) (by omega)) (fun v_67 u_67 q_67 h_67 => ?_)
        obtain ⟨rfl, rfl⟩ := h_67
        refine e_callVV C ok_Re_pushUnit lk_Re_221 (o := 3) (by decide) rfl [_] rfl rfl (Nat.le_of_ble_eq_true rfl) (by decide) (Nat.le_of_ble_eq_true rfl) d_Re_release_70 (k_Re_pushUnit (n := U.length) (cu_s _ _ _ _) (by omega) (by omega)) (fun u_70 h_70 => ?_)
        subst h_70
        refine e_goto C 0 d_Re_release_73 (by decide) ?_
        refine e_drop 2 ?_
        refine e_drop 3 ?_
        have := ih (pf ++ [(opc w, 0)]) _ (by rw [ecg]; exact s1.pushU (n := U.length) (v := 406 + (cg l0 pf).1 7 0) rfl) hI2 (by omega) (fun v hv => hW v (List.mem_cons_of_mem _ hv)) ⟨((((hS.1.wu (Or.inr (Or.inl rfl))).wu (Or.inr (Or.inr (Or.inr (Or.inl rfl))))).wu (Or.inr (Or.inr (Or.inr (Or.inl rfl))))).wu (Or.inr (Or.inr (Or.inr (Or.inl rfl))))).wu (Or.inr (Or.inr (Or.inl rfl))), by rw [cf_f (by decide), cf_f (by decide), cf_f (by decide), cf_f (by decide), cf_f (by decide)]; exact hS.2⟩ hQ
        rw [ecg] at this
        exact this
theorem k_Re_release {σ : St} {x P l0 c : Cs} {r m : Int} {ws : List Int} {pf : List Cd} (hr : 1 ≤ r ∧ r ≤ 2) (h7 : 0 ≤ l0 7 0 ∧ l0 7 0 + m < 400) (h8 : 0 ≤ l0 8 0 ∧ l0 8 0 + m < 400) (hX : XC x ws (cg l0 pf).2) (hI : RI ws pf m) (hL : ws.length ≤ 20) (hW : ∀ w ∈ ws, R32 w) : CtV M_Re_release [.inr (.inr (3, 0)), .inl r] (RZ σ x P (cg l0 pf).1 c) (fun u => ∃ x', XC x' (rel r ws pf).1 (cg l0 (rel r ws pf).2).2 ∧ (XS x x' ∧ x' 11 = x 11) ∧ u = RZ σ x' P (cg l0 (rel r ws pf).2).1 c) := by
  intro g C F
  exact l_Re_release C F hr h7 h8 ws pf x hX hI hL hW ⟨XS.rf x, rfl⟩ (fun x' a b => ⟨x', a, b, rfl⟩)
