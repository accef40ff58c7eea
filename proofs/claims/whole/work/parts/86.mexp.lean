/-! the reference's expressions -/
/-- where the reference's reader is, without a FAULT -/
def MH (T : Tab) (m : Cs) (t : Int) : Prop := TF T ∧ TM T m ∧ m 11 0 = t ∧ (0 ≤ t ∧ t ≤ 400) ∧ (t = 0 ∨ T.1 (t - 1) ≠ 128) ∧ m 13 0 = 0
theorem MH.tok {T : Tab} {m : Cs} {t : Int} (h : MH T m t) : m 5 t = mk (T.1 t) ∧ m 6 t = T.2.1 t ∧ (T.1 t = 131 → m 7 t = T.2.2.1 t) ∧ (T.1 t = 130 → m 8 t = T.2.2.2.2 t) := h.2.1 t h.2.2.2.1.1 h.2.2.2.1.2 h.2.2.2.2.1
theorem TM.same {T : Tab} {m m' : Cs} (h : TM T m) (e : ∀ f, f ≤ 10 → m' f = m f) : TM T m' := by
  unfold TM
  rw [e 5 (by decide), e 6 (by decide), e 7 (by decide), e 8 (by decide)]
  exact h
theorem MH.same {T : Tab} {m m' : Cs} {t : Int} (h : MH T m t) (e : ∀ f, f ≤ 10 → m' f = m f) (e11 : m' 11 0 = m 11 0) (e13 : m' 13 0 = m 13 0) : MH T m' t := ⟨h.1, h.2.1.same e, e11.trans h.2.2.1, h.2.2.2.1, h.2.2.2.2.1, e13.trans h.2.2.2.2.2⟩
theorem MH.go {T : Tab} {m m' : Cs} {t : Int} (h : MH T m t) (e : ∀ f, f ≤ 10 → m' f = m f) (e11 : m' 11 0 = t + 1) (e13 : m' 13 0 = m 13 0) (ht : t < 400) (hk : T.1 t ≠ 128) : MH T m' (t + 1) := ⟨h.1, h.2.1.same e, e11, by have := h.2.2.2.1; omega, Or.inr (by rw [Int.add_sub_cancel]; exact hk), e13.trans h.2.2.2.2.2⟩
set_option maxRecDepth 100000 in
theorem mk_rr : ∀ a ∈ kds, 0 ≤ mk a ∧ mk a ≤ 40 := by decide
theorem MH.mk {T : Tab} {m : Cs} {t : Int} (h : MH T m t) : 0 ≤ mk (T.1 t) ∧ mk (T.1 t) ≤ 40 := mk_rr _ (h.1.1 t)
theorem mk_iff {T : Tab} (h : TF T) {t k : Int} (hk : k ∈ kds) : mk (T.1 t) = mk k ↔ T.1 t = k := ⟨fun e => mk_inj _ (h.1 t) _ hk e, fun e => by rw [e]⟩
def flt (m : Cs) (f p : Int) : Cs := cu (cu m 13 0 f) 14 0 p
section MM
variable {T : Tab} {σ : St} {m : Cs} {t : Int}
theorem k_Mo_is {k k' : Int} (h : MH T m t) (hk : k' ∈ kds) (e : k = mk k') : CtI M_Mo_is [.inr (.inr (1, 0)), .inl k] (so σ 1 m) (fun r u => r = (if T.1 t = k' then 1 else 0) ∧ u = so σ 1 m) := by
  intro g C F
  have e11 := h.2.2.1
  have h0 := h.2.2.2.1
  have e5 := h.tok.1
  have e13 := h.2.2.2.2.2
  have hr := h.mk
  have hr2 := mk_rr _ hk
  have hi := mk_iff h.1 (t := t) hk
  refine e_aload_n C d_Mo_is_0 rfl ?_
  refine e_geti C fl_Mo_185 (by decide) rfl rfl d_Mo_is_1 (fun r_1 => ?_)
  try simp only [so_at, e11, e5, e13] at r_1 ⊢
  refine e_if_ne C 24 d_Mo_is_4 (by decide) (by omega) (fun c_4 => ?_) (fun c_4 => ?_)
  · exact absurd rfl c_4
  · refine e_aload_n C d_Mo_is_7 rfl ?_
    refine e_geta C fl_Mo_20 (by decide) rfl rfl d_Mo_is_8 ?_
    refine e_aload_n C d_Mo_is_11 rfl ?_
    refine e_geti C fl_Mo_188 (by decide) rfl rfl d_Mo_is_12 (fun r_12 => ?_)
    try simp only [so_at, e11, e5, e13] at r_12 ⊢
    refine e_iald (n := 403) C (by decide) rfl (by decide) rfl rfl (by decide) (by omega) (by omega) d_Mo_is_15 (fun r_15 => ?_)
    try simp only [so_at, e11, e5, e13] at r_15 ⊢
    refine e_iload_n C d_Mo_is_16 rfl ?_
    refine e_icmp_ne C 24 d_Mo_is_17 (by decide) (by omega) (by omega) (fun c_17 => ?_) (fun c_17 => ?_)
    · rw [if_neg (fun z => c_17 (by rw [e]; exact hi.mpr z))] at F
      refine e_iconst C d_Mo_is_24 ?_
      refine e_zret C F rfl d_Mo_is_25 (by omega) ?_
      exact ⟨rfl, rfl⟩
    · rw [if_pos (hi.mp (by rw [← e]; exact c_17))] at F
      refine e_iconst C d_Mo_is_20 ?_
      refine e_goto C 25 d_Mo_is_21 (by decide) ?_
      refine e_zret C F rfl d_Mo_is_25 (by omega) ?_
      exact ⟨rfl, rfl⟩
theorem k_Mo_isF {k : Int} (h : m 13 0 ≠ 0) : CtI M_Mo_is [.inr (.inr (1, 0)), .inl k] (so σ 1 m) (fun r u => r = 0 ∧ u = so σ 1 m) := by
  intro g C F
  refine e_aload_n C d_Mo_is_0 rfl ?_
  refine e_geti C fl_Mo_185 (by decide) rfl rfl d_Mo_is_1 (fun r_1 => ?_)
  try simp only [so_at] at r_1 ⊢
  refine e_if_ne C 24 d_Mo_is_4 (by decide) (by omega) (fun c_4 => ?_) (fun c_4 => ?_)
  · refine e_iconst C d_Mo_is_24 ?_
    refine e_zret C F rfl d_Mo_is_25 (by omega) ?_
    exact ⟨rfl, rfl⟩
  · exact absurd c_4 h
theorem k_Mo_fail {k : Int} (h : MH T m t) (hk : R32 k) : CtV M_Mo_fail [.inr (.inr (1, 0)), .inl k] (so σ 1 m) (fun u => u = so σ 1 (flt m k (T.2.1 t))) := by
  intro g C F
  have e11 := h.2.2.1
  have h0 := h.2.2.2.1
  have e6 := h.tok.2.1
  have e13 := h.2.2.2.2.2
  refine e_aload_n C d_Mo_fail_0 rfl ?_
  refine e_geti C fl_Mo_185 (by decide) rfl rfl d_Mo_fail_1 (fun r_1 => ?_)
  try simp only [so_at, so_so, wr_so, e11, e6, e13, cu_f, ne_eq, Nat.reduceEqDiff, not_false_eq_true] at r_1 ⊢
  refine e_if_le C 8 d_Mo_fail_4 (by decide) (by omega) (fun c_4 => ?_) (fun c_4 => ?_)
  · refine e_aload_n C d_Mo_fail_8 rfl ?_
    refine e_iload_n C d_Mo_fail_9 rfl ?_
    refine e_puti C fp_Mo_185 (by decide) rfl rfl (by omega) d_Mo_fail_10 ?_
    try simp only [so_at, so_so, wr_so, e11, e6, e13, cu_f, ne_eq, Nat.reduceEqDiff, not_false_eq_true]
    refine e_aload_n C d_Mo_fail_13 rfl ?_
    refine e_aload_n C d_Mo_fail_14 rfl ?_
    refine e_geta C fl_Mo_24 (by decide) rfl rfl d_Mo_fail_15 ?_
    refine e_aload_n C d_Mo_fail_18 rfl ?_
    refine e_geti C fl_Mo_188 (by decide) rfl rfl d_Mo_fail_19 (fun r_19 => ?_)
    try simp only [so_at, so_so, wr_so, e11, e6, e13, cu_f, ne_eq, Nat.reduceEqDiff, not_false_eq_true] at r_19 ⊢
    refine e_iald (n := 403) C (by decide) rfl (by decide) rfl rfl (by decide) (by omega) (by omega) d_Mo_fail_22 (fun r_22 => ?_)
    try simp only [so_at, so_so, wr_so, e11, e6, e13, cu_f, ne_eq, Nat.reduceEqDiff, not_false_eq_true] at r_22 ⊢
    refine e_puti C fp_Mo_191 (by decide) rfl rfl (by omega) d_Mo_fail_23 ?_
    try simp only [so_at, so_so, wr_so, e11, e6, e13, cu_f, ne_eq, Nat.reduceEqDiff, not_false_eq_true]
    refine e_vret C F rfl d_Mo_fail_26 ?_
    rfl
  · exact absurd c_4 (by decide)
theorem k_Mo_failF {k : Int} (h : 1 ≤ m 13 0) : CtV M_Mo_fail [.inr (.inr (1, 0)), .inl k] (so σ 1 m) (fun u => u = so σ 1 m) := by
  intro g C F
  refine e_aload_n C d_Mo_fail_0 rfl ?_
  refine e_geti C fl_Mo_185 (by decide) rfl rfl d_Mo_fail_1 (fun r_1 => ?_)
  try simp only [so_at] at r_1 ⊢
  refine e_if_le C 8 d_Mo_fail_4 (by decide) (by omega) (fun c_4 => ?_) (fun c_4 => ?_)
  · exact absurd c_4 (by omega)
  · refine e_vret C F rfl d_Mo_fail_7 ?_
    rfl
theorem k_Mo_goesOn (h : MH T m t) : CtV M_Mo_goesOn [.inr (.inr (1, 0))] (so σ 1 m) (fun u => (t = 400 ∧ u = so σ 1 (flt m 2 (T.2.1 t))) ∨ (t < 400 ∧ u = so σ 1 (cu m 11 0 (t + 1)))) := by
  intro g C F
  have e11 := h.2.2.1
  have h0 := h.2.2.2.1
  refine e_aload_n C d_Mo_goesOn_0 rfl ?_
  refine e_geti C fl_Mo_188 (by decide) rfl rfl d_Mo_goesOn_1 (fun r_1 => ?_)
  try simp only [so_at, so_so, wr_so, e11] at r_1 ⊢
  refine e_sipush C d_Mo_goesOn_4 (by decide) ?_
  refine e_icmp_ne C 18 d_Mo_goesOn_7 (by decide) (by omega) (by omega) (fun c_7 => ?_) (fun c_7 => ?_)
  · refine e_aload_n C d_Mo_goesOn_18 rfl ?_
    refine e_dup C d_Mo_goesOn_19 rfl ?_
    refine e_geti C fl_Mo_188 (by decide) rfl rfl d_Mo_goesOn_20 (fun r_20 => ?_)
    try simp only [so_at, so_so, wr_so, e11] at r_20 ⊢
    refine e_iconst C d_Mo_goesOn_23 ?_
    refine e_iadd C d_Mo_goesOn_24 ?_
    refine e_puti C fp_Mo_188 (by decide) rfl rfl (by omega) d_Mo_goesOn_25 ?_
    try simp only [so_at, so_so, wr_so, e11]
    refine e_vret C F rfl d_Mo_goesOn_28 ?_
    first | exact Or.inl ⟨by omega, rfl⟩ | exact Or.inr ⟨by omega, rfl⟩
  · refine e_aload_n C d_Mo_goesOn_10 rfl ?_
    refine e_iconst C d_Mo_goesOn_11 ?_
    refine e_callVV C ok_Mo_fail lk_Mo_200 (o := 1) (by decide) rfl [_] rfl rfl (Nat.le_of_ble_eq_true rfl) (by decide) (Nat.le_of_ble_eq_true rfl) d_Mo_goesOn_12 (k_Mo_fail h (by omega)) (fun u_12 h_12 => ?_)
    subst h_12
    refine e_goto C 28 d_Mo_goesOn_15 (by decide) ?_
    refine e_vret C F rfl d_Mo_goesOn_28 ?_
    first | exact Or.inl ⟨by omega, rfl⟩ | exact Or.inr ⟨by omega, rfl⟩
theorem k_Mo_goesOnF (h : 1 ≤ m 13 0) (ht : 0 ≤ m 11 0 ∧ m 11 0 ≤ 400) : CtV M_Mo_goesOn [.inr (.inr (1, 0))] (so σ 1 m) (fun u => ∃ t', (0 ≤ t' ∧ t' ≤ 400) ∧ u = so σ 1 (cu m 11 0 t')) := by
  intro g C F
  refine e_aload_n C d_Mo_goesOn_0 rfl ?_
  refine e_geti C fl_Mo_188 (by decide) rfl rfl d_Mo_goesOn_1 (fun r_1 => ?_)
  try simp only [so_at, so_so, wr_so] at r_1 ⊢
  refine e_sipush C d_Mo_goesOn_4 (by decide) ?_
  refine e_icmp_ne C 18 d_Mo_goesOn_7 (by decide) (by omega) (by omega) (fun c_7 => ?_) (fun c_7 => ?_)
  · refine e_aload_n C d_Mo_goesOn_18 rfl ?_
    refine e_dup C d_Mo_goesOn_19 rfl ?_
    refine e_geti C fl_Mo_188 (by decide) rfl rfl d_Mo_goesOn_20 (fun r_20 => ?_)
    try simp only [so_at, so_so, wr_so] at r_20 ⊢
    refine e_iconst C d_Mo_goesOn_23 ?_
    refine e_iadd C d_Mo_goesOn_24 ?_
    refine e_puti C fp_Mo_188 (by decide) rfl rfl (by omega) d_Mo_goesOn_25 ?_
    try simp only [so_at, so_so, wr_so]
    refine e_vret C F rfl d_Mo_goesOn_28 ?_
    first | exact ⟨m 11 0 + 1, by omega, rfl⟩ | exact ⟨m 11 0, ht, by rw [cu_2 _ _ _ _ rfl]⟩
  · refine e_aload_n C d_Mo_goesOn_10 rfl ?_
    refine e_iconst C d_Mo_goesOn_11 ?_
    refine e_callVV C ok_Mo_fail lk_Mo_200 (o := 1) (by decide) rfl [_] rfl rfl (Nat.le_of_ble_eq_true rfl) (by decide) (Nat.le_of_ble_eq_true rfl) d_Mo_goesOn_12 (k_Mo_failF h) (fun u_12 h_12 => ?_)
    subst h_12
    refine e_goto C 28 d_Mo_goesOn_15 (by decide) ?_
    refine e_vret C F rfl d_Mo_goesOn_28 ?_
    first | exact ⟨m 11 0 + 1, by omega, rfl⟩ | exact ⟨m 11 0, ht, by rw [cu_2 _ _ _ _ rfl]⟩
theorem k_Mo_must {k k' : Int} (h : MH T m t) (hk : k' ∈ kds) (e : k = mk k') : CtV M_Mo_must [.inr (.inr (1, 0)), .inl k] (so σ 1 m) (fun u => (∃ fp, pMu T k' t = .inl fp ∧ 1 ≤ fp.1 ∧ u = so σ 1 (flt m fp.1 fp.2)) ∨ (pMu T k' t = .inr (t + 1) ∧ t < 400 ∧ T.1 t = k' ∧ u = so σ 1 (cu m 11 0 (t + 1)))) := by
  intro g C F
  unfold pMu pGo at F
  refine e_aload_n C d_Mo_must_0 rfl ?_
  refine e_iload_n C d_Mo_must_1 rfl ?_
  refine e_callIV C ok_Mo_is lk_Mo_203 (o := 1) (by decide) rfl [_] rfl rfl (Nat.le_of_ble_eq_true rfl) (by decide) (Nat.le_of_ble_eq_true rfl) d_Mo_must_2 (k_Mo_is h hk e) (fun v_2 u_2 q_2 h_2 => ?_)
  obtain ⟨rfl, rfl⟩ := h_2
  refine e_if_eq C 15 d_Mo_must_5 (by decide) (by split <;> omega) (fun c_5 => ?_) (fun c_5 => ?_)
  · have hv : ¬ T.1 t = k' := fun z => by rw [if_pos z] at c_5; omega
    rw [if_neg hv] at F
    refine e_aload_n C d_Mo_must_15 rfl ?_
    refine e_iconst C d_Mo_must_16 ?_
    refine e_callVV C ok_Mo_fail lk_Mo_200 (o := 1) (by decide) rfl [_] rfl rfl (Nat.le_of_ble_eq_true rfl) (by decide) (Nat.le_of_ble_eq_true rfl) d_Mo_must_17 (k_Mo_fail h (by omega)) (fun u_17 h_17 => ?_)
    subst h_17
    refine e_vret C F rfl d_Mo_must_20 ?_
    first | exact Or.inl ⟨_, rfl, (by show (1 : Int) ≤ 1; decide), rfl⟩ | (rcases h_9 with ⟨a, rfl⟩ | ⟨a, rfl⟩ <;> first | (rw [if_pos (by omega)]; exact Or.inl ⟨_, rfl, (by show (1 : Int) ≤ 2; decide), rfl⟩) | (rw [if_neg (by omega)]; exact Or.inr ⟨rfl, a, hv, rfl⟩))
  · have hv : T.1 t = k' := Decidable.byContradiction fun z => by rw [if_neg z] at c_5; omega
    rw [if_pos hv] at F
    refine e_aload_n C d_Mo_must_8 rfl ?_
    refine e_callVV C ok_Mo_goesOn lk_Mo_206 (o := 1) (by decide) rfl [] rfl rfl (Nat.le_of_ble_eq_true rfl) (by decide) (Nat.le_of_ble_eq_true rfl) d_Mo_must_9 (k_Mo_goesOn h) (fun u_9 h_9 => ?_)
    refine e_goto C 20 d_Mo_must_12 (by decide) ?_
    refine e_vret C F rfl d_Mo_must_20 ?_
    first | exact Or.inl ⟨_, rfl, (by show (1 : Int) ≤ 1; decide), rfl⟩ | (rcases h_9 with ⟨a, rfl⟩ | ⟨a, rfl⟩ <;> first | (rw [if_pos (by omega)]; exact Or.inl ⟨_, rfl, (by show (1 : Int) ≤ 2; decide), rfl⟩) | (rw [if_neg (by omega)]; exact Or.inr ⟨rfl, a, hv, rfl⟩))
theorem k_Mo_mustF {k : Int} (h : 1 ≤ m 13 0) : CtV M_Mo_must [.inr (.inr (1, 0)), .inl k] (so σ 1 m) (fun u => u = so σ 1 m) := by
  intro g C F
  refine e_aload_n C d_Mo_must_0 rfl ?_
  refine e_iload_n C d_Mo_must_1 rfl ?_
  refine e_callIV C ok_Mo_is lk_Mo_203 (o := 1) (by decide) rfl [_] rfl rfl (Nat.le_of_ble_eq_true rfl) (by decide) (Nat.le_of_ble_eq_true rfl) d_Mo_must_2 (k_Mo_isF (by omega)) (fun v_2 u_2 q_2 h_2 => ?_)
  obtain ⟨rfl, rfl⟩ := h_2
  refine e_if_eq C 15 d_Mo_must_5 (by decide) (by omega) (fun c_5 => ?_) (fun c_5 => ?_)
  · refine e_aload_n C d_Mo_must_15 rfl ?_
    refine e_iconst C d_Mo_must_16 ?_
    refine e_callVV C ok_Mo_fail lk_Mo_200 (o := 1) (by decide) rfl [_] rfl rfl (Nat.le_of_ble_eq_true rfl) (by decide) (Nat.le_of_ble_eq_true rfl) d_Mo_must_17 (k_Mo_failF h) (fun u_17 h_17 => ?_)
    subst h_17
    refine e_vret C F rfl d_Mo_must_20 ?_
    rfl
  · exact absurd rfl c_5
end MM
def emt (m : Cs) (n k v : Int) : Cs := cu (cu (cu m 43 n k) 44 n v) 42 0 (n + 1)
theorem k_Mo_emit {σ : St} {m : Cs} {n k v : Int} (hn : m 42 0 = n) (h : 0 ≤ n ∧ n < 840) (hk : R32 k) (hv : R32 v) : CtV M_Mo_emit [.inr (.inr (1, 0)), .inl k, .inl v] (so σ 1 m) (fun u => u = so σ 1 (emt m n k v)) := by
  intro g C F
  refine e_aload_n C d_Mo_emit_0 rfl ?_
  refine e_geta C fl_Mo_101 (by decide) rfl rfl d_Mo_emit_1 ?_
  refine e_aload_n C d_Mo_emit_4 rfl ?_
  refine e_geti C fl_Mo_227 (by decide) rfl rfl d_Mo_emit_5 (fun r_5 => ?_)
  try simp only [so_at, so_so, wr_so, hn, cu_s, cu_f, ne_eq, Nat.reduceEqDiff, not_false_eq_true] at r_5 ⊢
  refine e_iload_n C d_Mo_emit_8 rfl ?_
  refine e_iast (n := 840) C (by decide) rfl (by decide) rfl rfl (by decide) (by omega) (by omega) (by omega) d_Mo_emit_9 ?_
  try simp only [so_at, so_so, wr_so, hn, cu_s, cu_f, ne_eq, Nat.reduceEqDiff, not_false_eq_true]
  refine e_aload_n C d_Mo_emit_10 rfl ?_
  refine e_geta C fl_Mo_104 (by decide) rfl rfl d_Mo_emit_11 ?_
  refine e_aload_n C d_Mo_emit_14 rfl ?_
  refine e_geti C fl_Mo_227 (by decide) rfl rfl d_Mo_emit_15 (fun r_15 => ?_)
  try simp only [so_at, so_so, wr_so, hn, cu_s, cu_f, ne_eq, Nat.reduceEqDiff, not_false_eq_true] at r_15 ⊢
  refine e_iload_n C d_Mo_emit_18 rfl ?_
  refine e_iast (n := 840) C (by decide) rfl (by decide) rfl rfl (by decide) (by omega) (by omega) (by omega) d_Mo_emit_19 ?_
  try simp only [so_at, so_so, wr_so, hn, cu_s, cu_f, ne_eq, Nat.reduceEqDiff, not_false_eq_true]
  refine e_aload_n C d_Mo_emit_20 rfl ?_
  refine e_dup C d_Mo_emit_21 rfl ?_
  refine e_geti C fl_Mo_227 (by decide) rfl rfl d_Mo_emit_22 (fun r_22 => ?_)
  try simp only [so_at, so_so, wr_so, hn, cu_s, cu_f, ne_eq, Nat.reduceEqDiff, not_false_eq_true] at r_22 ⊢
  refine e_iconst C d_Mo_emit_25 ?_
  refine e_iadd C d_Mo_emit_26 ?_
  refine e_puti C fp_Mo_227 (by decide) rfl rfl (by omega) d_Mo_emit_27 ?_
  try simp only [so_at, so_so, wr_so, hn, cu_s, cu_f, ne_eq, Nat.reduceEqDiff, not_false_eq_true]
  refine e_vret C F rfl d_Mo_emit_30 ?_
  rfl
/-- what came out stands in the reference's rows -/
def SG (m : Cs) : Int → List Cd → Prop
  | _, [] => True
  | c, p :: r => m 43 c = p.1 ∧ m 44 c = p.2 ∧ SG m (c + 1) r
theorem SG.same {m m' : Cs} : ∀ {pf : List Cd} {c : Int}, SG m c pf → (∀ k, c ≤ k → k < c + pf.length → m' 43 k = m 43 k ∧ m' 44 k = m 44 k) → SG m' c pf
  | [], _, _, _ => trivial
  | p :: r, c, h, e => by
    have e : ∀ k, c ≤ k → k < c + ((r.length + 1 : Nat) : Int) → m' 43 k = m 43 k ∧ m' 44 k = m 44 k := e
    have e0 := e c (by omega) (by omega)
    exact ⟨e0.1.trans h.1, e0.2.trans h.2.1, SG.same h.2.2 (fun k a b => e k (by omega) (by omega))⟩
theorem SG.app {m : Cs} {p : Cd} : ∀ {pf : List Cd} {c : Int}, SG m c pf → m 43 (c + pf.length) = p.1 → m 44 (c + pf.length) = p.2 → SG m c (pf ++ [p])
  | [], c, _, h1, h2 => by
    have h1 : m 43 (c + ((0 : Nat) : Int)) = p.1 := h1
    have h2 : m 44 (c + ((0 : Nat) : Int)) = p.2 := h2
    rw [show c + ((0 : Nat) : Int) = c by omega] at h1 h2
    exact ⟨h1, h2, trivial⟩
  | q :: r, c, h, h1, h2 => by
    have h1 : m 43 (c + ((r.length + 1 : Nat) : Int)) = p.1 := h1
    have h2 : m 44 (c + ((r.length + 1 : Nat) : Int)) = p.2 := h2
    rw [show c + ((r.length + 1 : Nat) : Int) = c + 1 + r.length by omega] at h1 h2
    exact ⟨h.1, h.2.1, SG.app h.2.2 h1 h2⟩
theorem SG.em {m : Cs} {pf : List Cd} {c n k v : Int} (h : SG m c pf) (hn : n = c + pf.length) : SG (emt m n k v) c (pf ++ [(k, v)]) := by
  have e43 : ∀ j, emt m n k v 43 j = if j = n then k else m 43 j := fun j => by unfold emt; simp [cu_if]
  have e44 : ∀ j, emt m n k v 44 j = if j = n then v else m 44 j := fun j => by unfold emt; simp [cu_if]
  refine SG.app (h.same (fun j a b => ?_)) ?_ ?_
  · rw [e43, e44, if_neg (by omega), if_neg (by omega)]; exact ⟨rfl, rfl⟩
  · rw [e43, if_pos hn.symm]
  · rw [e44, if_pos hn.symm]
/-- what an expression may change -/
def MXr (s c0 : Int) (m m' : Cs) : Prop := (∀ f, f ≠ 11 → f ≠ 12 → f ≠ 13 → f ≠ 14 → f ≠ 42 → f ≠ 43 → f ≠ 44 → f ≠ 45 → f ≠ 46 → m' f = m f) ∧ ∀ k, k < c0 ∨ 420 * s + 420 ≤ k → m' 43 k = m 43 k ∧ m' 44 k = m 44 k
theorem MXr.rf (s c0 : Int) (m : Cs) : MXr s c0 m m := ⟨fun _ _ _ _ _ _ _ _ _ _ => rfl, fun _ _ => ⟨rfl, rfl⟩⟩
theorem MXr.wu {s c0 : Int} {m m' : Cs} {f : Nat} {k v : Int} (h : MXr s c0 m m') (hf : f = 11 ∨ f = 12 ∨ f = 13 ∨ f = 14 ∨ f = 42 ∨ f = 45 ∨ f = 46) : MXr s c0 m (cu m' f k v) := by
  refine ⟨fun f' a1 a2 a3 a4 a5 a6 a7 a8 a9 => ?_, fun j hj => ?_⟩
  · rw [cf_f (by omega)]; exact h.1 f' a1 a2 a3 a4 a5 a6 a7 a8 a9
  · rw [cu_f (by omega), cu_f (by omega)]; exact h.2 j hj
theorem MXr.em {s c0 : Int} {m m' : Cs} {n k v : Int} (h : MXr s c0 m m') (h0 : c0 ≤ n) (h1 : n < 420 * s + 420) : MXr s c0 m (emt m' n k v) := by
  unfold emt
  refine MXr.wu ⟨fun f' a1 a2 a3 a4 a5 a6 a7 a8 a9 => ?_, fun j hj => ?_⟩ (by omega)
  · rw [cf_f (by omega), cf_f (by omega)]; exact h.1 f' a1 a2 a3 a4 a5 a6 a7 a8 a9
  · rw [cu_f (by decide), cu_k (by omega), cu_k (by omega), cu_f (by decide)]; exact h.2 j hj
theorem MXr.fl {s c0 : Int} {m m' : Cs} {f p : Int} (h : MXr s c0 m m') : MXr s c0 m (flt m' f p) := by
  unfold flt
  exact (h.wu (by omega)).wu (by omega)
theorem MXr.lo {s c0 : Int} {m m' : Cs} (h : MXr s c0 m m') : ∀ f, f ≤ 10 → m' f = m f := fun f hf => h.1 f (by omega) (by omega) (by omega) (by omega) (by omega) (by omega) (by omega) (by omega) (by omega)
def ME (c0 : Int) (m : Cs) (ws : List Int) (pf : List Cd) : Prop := m 46 0 = ws.length ∧ SKl (m 45) (ws.map mk) ∧ m 42 0 = c0 + pf.length ∧ SG m c0 pf
theorem ME.wu {c0 : Int} {m : Cs} {ws : List Int} {pf : List Cd} {f : Nat} {k v : Int} (h : ME c0 m ws pf) (hf : f ≠ 42) (h1 : f ≠ 43) (h2 : f ≠ 44) (h3 : f ≠ 45) (h4 : f ≠ 46) : ME c0 (cu m f k v) ws pf := by
  refine ⟨by rw [cu_f (by omega)]; exact h.1, by rw [cf_f (by omega)]; exact h.2.1, by rw [cu_f (by omega)]; exact h.2.2.1, h.2.2.2.same (fun j _ _ => by rw [cu_f (by omega), cu_f (by omega)]; exact ⟨rfl, rfl⟩)⟩
theorem ME.em {c0 n k v : Int} {m : Cs} {ws : List Int} {pf : List Cd} (h : ME c0 m ws pf) (hn : n = m 42 0) : ME c0 (emt m n k v) ws (pf ++ [(k, v)]) := by
  obtain ⟨h1, h2, h3, h4⟩ := h
  refine ⟨?_, ?_, ?_, h4.em (by omega)⟩
  · unfold emt; rw [cu_f (by decide), cu_f (by decide), cu_f (by decide)]; exact h1
  · unfold emt; rw [cf_f (by decide), cf_f (by decide), cf_f (by decide)]; exact h2
  · unfold emt; rw [cu_s, List.length_append, List.length_singleton]; omega
theorem ME.push {c0 n v : Int} {m : Cs} {ws : List Int} {pf : List Cd} {w : Int} (h : ME c0 m ws pf) (hn : n = ws.length) (hv : v = mk w) : ME c0 (cu (cu m 45 n v) 46 0 (n + 1)) (w :: ws) pf := by
  obtain ⟨h1, h2, h3, h4⟩ := h
  refine ⟨?_, ?_, by rw [cu_f (by decide), cu_f (by decide)]; exact h3, h4.same (fun j _ _ => by rw [cu_f (by decide), cu_f (by decide), cu_f (by decide), cu_f (by decide)]; exact ⟨rfl, rfl⟩)⟩
  · rw [cu_s]; show n + 1 = ((ws.length + 1 : Nat) : Int); omega
  · rw [cf_f (by decide), cf_s, hv]
    exact h2.push (by rw [List.length_map]; exact hn)
theorem ME.pop {c0 n : Int} {m : Cs} {ws : List Int} {pf : List Cd} {w : Int} (h : ME c0 m (w :: ws) pf) (hn : n = ws.length) : ME c0 (cu m 46 0 n) ws pf ∧ m 45 n = mk w ∧ m 46 0 = n + 1 := by
  obtain ⟨h1, h2, h3, h4⟩ := h
  have h1 : m 46 0 = ((ws.length + 1 : Nat) : Int) := h1
  have h2 : m 45 ((ws.map mk).length) = mk w ∧ SKl (m 45) (ws.map mk) := h2
  refine ⟨⟨by rw [cu_s]; exact hn, by rw [cf_f (by decide)]; exact h2.2, by rw [cu_f (by decide)]; exact h3, h4.same (fun j _ _ => by rw [cu_f (by decide), cu_f (by decide)]; exact ⟨rfl, rfl⟩)⟩, ?_, by omega⟩
  rw [hn, ← h2.1, List.length_map]
def wsg (w : Int) : Prop := w = 40 ∨ w = 42 ∨ w = 43 ∨ w = 45 ∨ w = 47
theorem wsg_of {w : Int} (h : w = 40 ∨ 1 ≤ rnk w) : wsg w := by
  unfold wsg
  unfold rnk at h
  rcases h with h | h
  · exact Or.inl h
  · split at h
    · omega
    · split at h <;> omega
theorem wsg_mk {w : Int} (h : wsg w) : (mk w = 6 ↔ w = 40) ∧ (mk w = 8 ↔ w = 43) ∧ (mk w = 9 ↔ w = 45) ∧ (mk w = 10 ↔ w = 42) ∧ (0 ≤ mk w ∧ mk w ≤ 40) ∧ (rnk w = 0 ↔ w = 40) ∧ (rnk w = 1 ↔ (w = 43 ∨ w = 45)) := by
  rcases h with h | h | h | h | h <;> subst h <;> decide
def MEr (m m' : Cs) : Prop := (∀ f, f ≠ 42 → f ≠ 43 → f ≠ 44 → f ≠ 46 → m' f = m f)
set_option maxHeartbeats 1000000 in
theorem l_Mo_comesOut {g : Mach} {Q : St → Prop} (C : Cx M_Mo_comesOut g) (F : FinV M_Mo_comesOut g Q) {σ : St} {m0 mb : Cs} {b s c0 k : Int} (hb : b = 0 ∨ b = 1) (hs : 0 ≤ s ∧ s ≤ 1) (hc : 420 * s ≤ c0 ∧ c0 + k < 420 * s + 420) :
    ∀ (ws : List Int) (pf : List Cd) (m : Cs), ME c0 m ws pf → RI ws pf k → ws.length ≤ 20 → MXr s c0 m0 m ∧ MEr mb m → (∀ m', ME c0 m' (rel (1 + b) ws pf).1 (rel (1 + b) ws pf).2 → MXr s c0 m0 m' ∧ MEr mb m' → Q (so σ 1 m')) → Ev g 0 [some (.inr (.inr (1, 0))), some (.inl b), none] [] (so σ 1 m) := by
  intro ws
  induction ws with
  | nil =>
    intro pf m hM hI hL hX hQ
    have e46 : m 46 0 = 0 := hM.1
    refine e_aload_n C d_Mo_comesOut_0 rfl ?_
    refine e_geti C fl_Mo_285 (by decide) rfl rfl d_Mo_comesOut_1 (fun r_1 => ?_)
    try simp only [so_at, e46] at r_1 ⊢
    refine e_if_le C 91 d_Mo_comesOut_4 (by decide) (by omega) (fun c_4 => ?_) (fun c_4 => ?_)
    · refine e_vret C F rfl d_Mo_comesOut_91 ?_
      exact hQ m hM hX
    · exact absurd c_4 (by decide)
  | cons w ws ih =>
    intro pf m hM hI hL hX hQ
    have hL : ws.length + 1 ≤ 20 := hL
    obtain ⟨p1, p2, p3⟩ := hM.pop (n := ws.length) rfl
    have hw := wsg_of hI.1.2.2
    obtain ⟨w1, w2, w3, w4, w5, w6, w7⟩ := wsg_mk hw
    have hm := hI.2.2.2
    have hrr := rnk_r w
    have h42 := hM.2.2.1
    have stp : ∀ v, v = opc w → (1 + b ≤ rnk w) → Ev g 84 [some (.inr (.inr (1, 0))), some (.inl b), some (.inl (mk w))] [.inl v, .inr (.inr (1, 0))] (so σ 1 (cu m 46 0 ws.length)) := by
      intro v hv hrk
      have e : rel (1 + b) (w :: ws) pf = rel (1 + b) ws (pf ++ [(opc w, 0)]) := by show (if 1 + b ≤ rnk w then _ else _) = _; rw [if_pos hrk]
      rw [e] at hQ
      have ho := opc_r w
      refine e_iconst C d_Mo_comesOut_84 ?_
      refine e_callVV C ok_Mo_emit lk_Mo_288 (o := 1) (by decide) rfl [_, _] rfl rfl (Nat.le_of_ble_eq_true rfl) (by decide) (Nat.le_of_ble_eq_true rfl) d_Mo_comesOut_85 (k_Mo_emit (n := c0 + pf.length) (by rw [cu_f (by decide)]; exact h42) (by omega) (by omega) (by omega)) (fun u_85 h_85 => ?_)
      subst h_85
      refine e_goto C 0 d_Mo_comesOut_88 (by decide) ?_
      refine e_drop 2 ?_
      rw [hv]
      refine ih (pf ++ [(opc w, 0)]) _ (p1.em (by rw [cu_f (by decide)]; exact h42.symm)) (hI.step (by omega)) (by omega) ⟨(hX.1.wu (by omega)).em (by omega) (by omega), fun f a1 a2 a3 a4 => ?_⟩ hQ
      unfold emt
      rw [cf_f a1, cf_f a3, cf_f a2, cf_f a4]
      exact hX.2 f a1 a2 a3 a4
    have e0 : rnk w < 1 + b → rel (1 + b) (w :: ws) pf = (w :: ws, pf) := fun z => by show (if 1 + b ≤ rnk w then _ else _) = _; rw [if_neg (by omega)]
    refine e_aload_n C d_Mo_comesOut_0 rfl ?_
    refine e_geti C fl_Mo_285 (by decide) rfl rfl d_Mo_comesOut_1 (fun r_1 => ?_)
    try simp only [so_at, so_so, wr_so, p3, p2, Int.add_sub_cancel] at r_1 ⊢
    refine e_if_le C 91 d_Mo_comesOut_4 (by decide) (by omega) (fun c_4 => ?_) (fun c_4 => ?_)
    · exact absurd c_4 (by omega)
    · refine e_aload_n C d_Mo_comesOut_7 rfl ?_
      refine e_geta C fl_Mo_107 (by decide) rfl rfl d_Mo_comesOut_8 ?_
      refine e_aload_n C d_Mo_comesOut_11 rfl ?_
      refine e_geti C fl_Mo_285 (by decide) rfl rfl d_Mo_comesOut_12 (fun r_12 => ?_)
      try simp only [so_at, so_so, wr_so, p3, p2, Int.add_sub_cancel] at r_12 ⊢
      refine e_iconst C d_Mo_comesOut_15 ?_
      refine e_isub C d_Mo_comesOut_16 ?_
      refine e_iald (n := 64) C (by decide) rfl (by decide) rfl rfl (by decide) (by omega) (by omega) d_Mo_comesOut_17 (fun r_17 => ?_)
      try simp only [so_at, so_so, wr_so, p3, p2, Int.add_sub_cancel] at r_17 ⊢
      refine e_istore_n C d_Mo_comesOut_18 (by decide) rfl ?_
      refine e_iload_n C d_Mo_comesOut_19 rfl ?_
      refine e_bipush C d_Mo_comesOut_20 (by decide) ?_
      refine e_icmp_eq C 41 d_Mo_comesOut_22 (by decide) (by omega) (by omega) (fun c_22 => ?_) (fun c_22 => ?_)
      · have hlt : rnk w < 1 + b := by omega
        refine e_vret C F rfl d_Mo_comesOut_41 ?_
        rw [e0 hlt] at hQ
        exact hQ m hM hX
      · have hne : ¬ w = 40 := fun z => c_22 (w1.mpr z)
        refine e_iload_n C d_Mo_comesOut_25 rfl ?_
        refine e_if_eq C 42 d_Mo_comesOut_26 (by decide) (by omega) (fun c_26 => ?_) (fun c_26 => ?_)
        · refine e_aload_n C d_Mo_comesOut_42 rfl ?_
          refine e_dup C d_Mo_comesOut_43 rfl ?_
          refine e_geti C fl_Mo_285 (by decide) rfl rfl d_Mo_comesOut_44 (fun r_44 => ?_)
          try simp only [so_at, so_so, wr_so, p3, p2, Int.add_sub_cancel] at r_44 ⊢
          refine e_iconst C d_Mo_comesOut_47 ?_
          refine e_isub C d_Mo_comesOut_48 ?_
          refine e_puti C fp_Mo_285 (by decide) rfl rfl (by omega) d_Mo_comesOut_49 ?_
          try simp only [so_at, so_so, wr_so, p3, p2, Int.add_sub_cancel]
          refine e_aload_n C d_Mo_comesOut_52 rfl ?_
          refine e_iload_n C d_Mo_comesOut_53 rfl ?_
          refine e_bipush C d_Mo_comesOut_54 (by decide) ?_
          refine e_icmp_ne C 63 d_Mo_comesOut_56 (by decide) (by omega) (by omega) (fun c_56 => ?_) (fun c_56 => ?_)
          · refine e_iload_n C d_Mo_comesOut_63 rfl ?_
            refine e_bipush C d_Mo_comesOut_64 (by decide) ?_
            refine e_icmp_ne C 73 d_Mo_comesOut_66 (by decide) (by omega) (by omega) (fun c_66 => ?_) (fun c_66 => ?_)
            · refine e_iload_n C d_Mo_comesOut_73 rfl ?_
              refine e_bipush C d_Mo_comesOut_74 (by decide) ?_
              refine e_icmp_ne C 83 d_Mo_comesOut_76 (by decide) (by omega) (by omega) (fun c_76 => ?_) (fun c_76 => ?_)
              · refine e_iconst C d_Mo_comesOut_83 ?_
                refine stp _ ?_ (by omega)
                unfold opc
                first | (exfalso; omega) | rw [if_pos (by omega)] | rw [if_neg (by omega), if_pos (by omega)] | rw [if_neg (by omega), if_neg (by omega), if_pos (by omega)] | rw [if_neg (by omega), if_neg (by omega), if_neg (by omega)]
              · refine e_iconst C d_Mo_comesOut_79 ?_
                refine e_goto C 84 d_Mo_comesOut_80 (by decide) ?_
                refine stp _ ?_ (by omega)
                unfold opc
                first | (exfalso; omega) | rw [if_pos (by omega)] | rw [if_neg (by omega), if_pos (by omega)] | rw [if_neg (by omega), if_neg (by omega), if_pos (by omega)] | rw [if_neg (by omega), if_neg (by omega), if_neg (by omega)]
            · refine e_iconst C d_Mo_comesOut_69 ?_
              refine e_goto C 84 d_Mo_comesOut_70 (by decide) ?_
              refine stp _ ?_ (by omega)
              unfold opc
              first | (exfalso; omega) | rw [if_pos (by omega)] | rw [if_neg (by omega), if_pos (by omega)] | rw [if_neg (by omega), if_neg (by omega), if_pos (by omega)] | rw [if_neg (by omega), if_neg (by omega), if_neg (by omega)]
          · refine e_iconst C d_Mo_comesOut_59 ?_
            refine e_goto C 84 d_Mo_comesOut_60 (by decide) ?_
            refine stp _ ?_ (by omega)
            unfold opc
            first | (exfalso; omega) | rw [if_pos (by omega)] | rw [if_neg (by omega), if_pos (by omega)] | rw [if_neg (by omega), if_neg (by omega), if_pos (by omega)] | rw [if_neg (by omega), if_neg (by omega), if_neg (by omega)]
        · refine e_iload_n C d_Mo_comesOut_29 rfl ?_
          refine e_bipush C d_Mo_comesOut_30 (by decide) ?_
          refine e_icmp_eq C 41 d_Mo_comesOut_32 (by decide) (by omega) (by omega) (fun c_32 => ?_) (fun c_32 => ?_)
          · have hlt : rnk w < 1 + b := by omega
            refine e_vret C F rfl d_Mo_comesOut_41 ?_
            rw [e0 hlt] at hQ
            exact hQ m hM hX
          · refine e_iload_n C d_Mo_comesOut_35 rfl ?_
            refine e_bipush C d_Mo_comesOut_36 (by decide) ?_
            refine e_icmp_ne C 42 d_Mo_comesOut_38 (by decide) (by omega) (by omega) (fun c_38 => ?_) (fun c_38 => ?_)
            · refine e_aload_n C d_Mo_comesOut_42 rfl ?_
              refine e_dup C d_Mo_comesOut_43 rfl ?_
              refine e_geti C fl_Mo_285 (by decide) rfl rfl d_Mo_comesOut_44 (fun r_44 => ?_)
              try simp only [so_at, so_so, wr_so, p3, p2, Int.add_sub_cancel] at r_44 ⊢
              refine e_iconst C d_Mo_comesOut_47 ?_
              refine e_isub C d_Mo_comesOut_48 ?_
              refine e_puti C fp_Mo_285 (by decide) rfl rfl (by omega) d_Mo_comesOut_49 ?_
              try simp only [so_at, so_so, wr_so, p3, p2, Int.add_sub_cancel]
              refine e_aload_n C d_Mo_comesOut_52 rfl ?_
              refine e_iload_n C d_Mo_comesOut_53 rfl ?_
              refine e_bipush C d_Mo_comesOut_54 (by decide) ?_
              refine e_icmp_ne C 63 d_Mo_comesOut_56 (by decide) (by omega) (by omega) (fun c_56 => ?_) (fun c_56 => ?_)
              · refine e_iload_n C d_Mo_comesOut_63 rfl ?_
                refine e_bipush C d_Mo_comesOut_64 (by decide) ?_
                refine e_icmp_ne C 73 d_Mo_comesOut_66 (by decide) (by omega) (by omega) (fun c_66 => ?_) (fun c_66 => ?_)
                · refine e_iload_n C d_Mo_comesOut_73 rfl ?_
                  refine e_bipush C d_Mo_comesOut_74 (by decide) ?_
                  refine e_icmp_ne C 83 d_Mo_comesOut_76 (by decide) (by omega) (by omega) (fun c_76 => ?_) (fun c_76 => ?_)
                  · refine e_iconst C d_Mo_comesOut_83 ?_
                    refine stp _ ?_ (by omega)
                    unfold opc
                    first | (exfalso; omega) | rw [if_pos (by omega)] | rw [if_neg (by omega), if_pos (by omega)] | rw [if_neg (by omega), if_neg (by omega), if_pos (by omega)] | rw [if_neg (by omega), if_neg (by omega), if_neg (by omega)]
                  · refine e_iconst C d_Mo_comesOut_79 ?_
                    refine e_goto C 84 d_Mo_comesOut_80 (by decide) ?_
                    refine stp _ ?_ (by omega)
                    unfold opc
                    first | (exfalso; omega) | rw [if_pos (by omega)] | rw [if_neg (by omega), if_pos (by omega)] | rw [if_neg (by omega), if_neg (by omega), if_pos (by omega)] | rw [if_neg (by omega), if_neg (by omega), if_neg (by omega)]
                · refine e_iconst C d_Mo_comesOut_69 ?_
                  refine e_goto C 84 d_Mo_comesOut_70 (by decide) ?_
                  refine stp _ ?_ (by omega)
                  unfold opc
                  first | (exfalso; omega) | rw [if_pos (by omega)] | rw [if_neg (by omega), if_pos (by omega)] | rw [if_neg (by omega), if_neg (by omega), if_pos (by omega)] | rw [if_neg (by omega), if_neg (by omega), if_neg (by omega)]
              · refine e_iconst C d_Mo_comesOut_59 ?_
                refine e_goto C 84 d_Mo_comesOut_60 (by decide) ?_
                refine stp _ ?_ (by omega)
                unfold opc
                first | (exfalso; omega) | rw [if_pos (by omega)] | rw [if_neg (by omega), if_pos (by omega)] | rw [if_neg (by omega), if_neg (by omega), if_pos (by omega)] | rw [if_neg (by omega), if_neg (by omega), if_neg (by omega)]
            · have hlt : rnk w < 1 + b := by omega
              refine e_vret C F rfl d_Mo_comesOut_41 ?_
              rw [e0 hlt] at hQ
              exact hQ m hM hX
theorem k_Mo_comesOut {σ : St} {m0 m : Cs} {b s c0 k : Int} {ws : List Int} {pf : List Cd} (hb : b = 0 ∨ b = 1) (hs : 0 ≤ s ∧ s ≤ 1) (hc : 420 * s ≤ c0 ∧ c0 + k < 420 * s + 420) (hM : ME c0 m ws pf) (hI : RI ws pf k) (hL : ws.length ≤ 20) (hX : MXr s c0 m0 m) : CtV M_Mo_comesOut [.inr (.inr (1, 0)), .inl b] (so σ 1 m) (fun u => ∃ m', ME c0 m' (rel (1 + b) ws pf).1 (rel (1 + b) ws pf).2 ∧ (MXr s c0 m0 m' ∧ MEr m m') ∧ u = so σ 1 m') := by
  intro g C F
  exact l_Mo_comesOut C F hb hs hc ws pf m hM hI hL ⟨hX, fun _ _ _ _ _ => rfl⟩ (fun m' a b => ⟨m', a, b, rfl⟩)
