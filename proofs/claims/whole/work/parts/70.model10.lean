/-! the reference's calls: told, forgotten, held, restored, fed, counted -/
theorem IVm.te {S : SS} {m m' : Cs} {p t : Int} (h : IVm S m) (e : ∀ f, f ≠ 55 → f ≠ 56 → f ≠ 57 → m' f = m f) (h55 : m' 55 0 = sTn S + 1) (h56 : ∀ i, m' 56 i = if i = sTn S then p else m 56 i) (h57 : ∀ i, m' 57 i = if i = sTn S then t else m 57 i) : IVm (teS S p t) m' := by
  have hmp : MP m m' := fun f a b => e f (by omega) (by omega) (by omega)
  refine ⟨h.pl hmp, ?_⟩
  rw [e 50 (by decide) (by decide) (by decide), e 52 (by decide) (by decide) (by decide), e 53 (by decide) (by decide) (by decide), e 59 (by decide) (by decide) (by decide), e 60 (by decide) (by decide) (by decide), e 2 (by decide) (by decide) (by decide), e 1 (by decide) (by decide) (by decide), e 17 (by decide) (by decide) (by decide)]
  refine ⟨h.2.1, h.2.2.1, h.2.2.2.1, ⟨h55, fun i a b => ?_⟩, h.2.2.2.2.2⟩
  have b : i < sTn S + 1 := b
  show m' 56 i = (if i = sTn S then p else sTp S i) ∧ m' 57 i = (if i = sTn S then t else sTm S i)
  rw [h56, h57]
  by_cases z : i = sTn S
  · rw [if_pos z, if_pos z, if_pos z, if_pos z]; exact ⟨rfl, rfl⟩
  · rw [if_neg z, if_neg z, if_neg z, if_neg z]; exact h.2.2.2.2.1.2 i a (by omega)
abbrev okTell (S : SS) (p t : Int) : Prop := sTn S < 20 ∧ (0 ≤ p ∧ p < sP S 3 0) ∧ 0 ≤ t ∧ t ≤ 2000
def rvTell (S : SS) (p t : Int) : Int := if okTell S p t then sTn S else -1
def nxTell (S : SS) (p t : Int) : SS := if okTell S p t then teS S p t else S
theorem K_Mo_tell {σ : St} {m : Cs} {S : SS} {n p t : Int} (hp : PI S n) (hm : IVm S m) (r1 : R32 p) (r2 : R32 t) : CtI M_Mo_tell_ [.inr (.inr (1, 0)), .inl p, .inl t] (so σ 1 m) (fun r u => r = rvTell S p t ∧ ∃ m', u = so σ 1 m' ∧ IVm (nxTell S p t) m') := by
  intro g C F
  obtain ⟨l, hPl⟩ := hp.pl
  have hN := hPl.1
  have hM := hm.1.1
  have htn := hp.tn
  have e55 := hm.2.2.2.2.1.1
  have hno : ¬ okTell S p t → ∀ R, -1 = rvTell S p t ∧ ∃ m', MF σ m R = so σ 1 m' ∧ IVm (nxTell S p t) m' := by
    intro z R
    unfold rvTell nxTell
    rw [if_neg z, if_neg z]
    exact ⟨rfl, _, rfl, hm.fin0⟩
  have hyes : okTell S p t → rvTell S p t = sTn S ∧ nxTell S p t = teS S p t := by
    intro z
    unfold rvTell nxTell
    rw [if_pos z, if_pos z]
    exact ⟨rfl, rfl⟩
  rw [soMF]
  refine e_aload_n C d_Mo_tell__0 rfl ?_
  refine e_geti C fl_Mo_239 (by decide) rfl rfl d_Mo_tell__1 (fun r_1 => ?_)
  try simp only [so_at, so_so, wr_so, lnm_f, cu_s, cu_f, e55, ne_eq, Nat.reduceEqDiff, not_false_eq_true] at r_1 ⊢
  refine e_bipush C d_Mo_tell__4 (by decide) ?_
  refine e_icmp_eq C 28 d_Mo_tell__6 (by decide) (by omega) (by omega) (fun c_6 => ?_) (fun c_6 => ?_)
  · have hv0 : ¬ okTell S p t := fun z => by have := z.1; omega
    refine e_iconst C d_Mo_tell__28 ?_
    refine e_iret C F rfl d_Mo_tell__29 (by omega) ?_
    exact hno hv0 _
  · refine e_aload_n C d_Mo_tell__9 rfl ?_
    refine e_iload_n C d_Mo_tell__10 rfl ?_
    refine e_callIV C ok_Mo_isPost lk_Mo_327 (o := 1) (by decide) rfl [_] rfl rfl (Nat.le_of_ble_eq_true rfl) (by decide) (Nat.le_of_ble_eq_true rfl) d_Mo_tell__11 (k_Mo_isPost hM hN r1) (fun v_11 u_11 q_11 h_11 => ?_)
    obtain ⟨rfl, rfl⟩ := h_11
    refine e_if_eq C 28 d_Mo_tell__14 (by decide) (by split <;> omega) (fun c_14 => ?_) (fun c_14 => ?_)
    · have hv0 : ¬ okTell S p t := fun z => po_f c_14 z.2.1
      refine e_iconst C d_Mo_tell__28 ?_
      refine e_iret C F rfl d_Mo_tell__29 (by omega) ?_
      exact hno hv0 _
    · have hv := po_t c_14
      refine e_iload_n C d_Mo_tell__17 rfl ?_
      refine e_iconst C d_Mo_tell__18 ?_
      refine e_sipush C d_Mo_tell__19 (by decide) ?_
      refine e_callIS C ok_Mo_in lk_Mo_302 [_, _, _] rfl rfl (Nat.le_of_ble_eq_true rfl) (by decide) (Nat.le_of_ble_eq_true rfl) d_Mo_tell__22 (k_Mo_in r2 (by omega) (by omega)) (fun v_22 u_22 q_22 h_22 => ?_)
      obtain ⟨rfl, rfl⟩ := h_22
      refine e_if_ne C 30 d_Mo_tell__25 (by decide) (by split <;> omega) (fun c_25 => ?_) (fun c_25 => ?_)
      · have hv2 := in_t c_25
        have hok : okTell S p t := ⟨by omega, hv, hv2⟩
        refine e_aload_n C d_Mo_tell__30 rfl ?_
        refine e_geta C fl_Mo_128 (by decide) rfl rfl d_Mo_tell__31 ?_
        refine e_aload_n C d_Mo_tell__34 rfl ?_
        refine e_geti C fl_Mo_239 (by decide) rfl rfl d_Mo_tell__35 (fun r_35 => ?_)
        try simp only [so_at, so_so, wr_so, lnm_f, cu_s, cu_f, e55, ne_eq, Nat.reduceEqDiff, not_false_eq_true] at r_35 ⊢
        refine e_iload_n C d_Mo_tell__38 rfl ?_
        refine e_iast (n := 20) C (by decide) rfl (by decide) rfl rfl (by decide) (by omega) (by omega) (by omega) d_Mo_tell__39 ?_
        try simp only [so_at, so_so, wr_so, lnm_f, cu_s, cu_f, e55, ne_eq, Nat.reduceEqDiff, not_false_eq_true]
        refine e_aload_n C d_Mo_tell__40 rfl ?_
        refine e_geta C fl_Mo_131 (by decide) rfl rfl d_Mo_tell__41 ?_
        refine e_aload_n C d_Mo_tell__44 rfl ?_
        refine e_geti C fl_Mo_239 (by decide) rfl rfl d_Mo_tell__45 (fun r_45 => ?_)
        try simp only [so_at, so_so, wr_so, lnm_f, cu_s, cu_f, e55, ne_eq, Nat.reduceEqDiff, not_false_eq_true] at r_45 ⊢
        refine e_iload_n C d_Mo_tell__48 rfl ?_
        refine e_iast (n := 20) C (by decide) rfl (by decide) rfl rfl (by decide) (by omega) (by omega) (by omega) d_Mo_tell__49 ?_
        try simp only [so_at, so_so, wr_so, lnm_f, cu_s, cu_f, e55, ne_eq, Nat.reduceEqDiff, not_false_eq_true]
        refine e_aload_n C d_Mo_tell__50 rfl ?_
        refine e_dup C d_Mo_tell__51 rfl ?_
        refine e_geti C fl_Mo_239 (by decide) rfl rfl d_Mo_tell__52 (fun r_52 => ?_)
        try simp only [so_at, so_so, wr_so, lnm_f, cu_s, cu_f, e55, ne_eq, Nat.reduceEqDiff, not_false_eq_true] at r_52 ⊢
        refine e_iconst C d_Mo_tell__55 ?_
        refine e_iadd C d_Mo_tell__56 ?_
        refine e_puti C fp_Mo_239 (by decide) rfl rfl (by omega) d_Mo_tell__57 ?_
        try simp only [so_at, so_so, wr_so, lnm_f, cu_s, cu_f, e55, ne_eq, Nat.reduceEqDiff, not_false_eq_true]
        refine e_aload_n C d_Mo_tell__60 rfl ?_
        refine e_geti C fl_Mo_239 (by decide) rfl rfl d_Mo_tell__61 (fun r_61 => ?_)
        try simp only [so_at, so_so, wr_so, lnm_f, cu_s, cu_f, e55, ne_eq, Nat.reduceEqDiff, not_false_eq_true] at r_61 ⊢
        refine e_iconst C d_Mo_tell__64 ?_
        refine e_isub C d_Mo_tell__65 ?_
        refine e_iret C F rfl d_Mo_tell__66 (by omega) ?_
        rw [(hyes hok).1, (hyes hok).2]
        refine ⟨by omega, _, rfl, (IVm.fin0 (R := m 51) hm).te (fun f a b c => ?_) ?_ (fun i => ?_) (fun i => ?_)⟩
        · funext q; rw [cu_f a, cu_f c, cu_f b]
        · rw [cu_s]
        · rw [cu_f (by decide), cu_f (by decide), cu_if]; simp only [true_and]
        · rw [cu_f (by decide), cu_if, cu_f (by decide)]; simp only [true_and]
      · have hv0 : ¬ okTell S p t := fun z => in_f c_25 z.2.2
        refine e_iconst C d_Mo_tell__28 ?_
        refine e_iret C F rfl d_Mo_tell__29 (by omega) ?_
        exact hno hv0 _
theorem IVm.fo {S : SS} {m m' : Cs} (h : IVm S m) (e : ∀ f, f ≠ 55 → m' f = m f) (h55 : m' 55 0 = 0) : IVm (foS S) m' := by
  have hmp : MP m m' := fun f a b => e f (by omega)
  refine ⟨h.pl hmp, ?_⟩
  rw [e 50 (by decide), e 52 (by decide), e 53 (by decide), e 59 (by decide), e 60 (by decide), e 2 (by decide), e 1 (by decide), e 17 (by decide), e 56 (by decide), e 57 (by decide)]
  refine ⟨h.2.1, h.2.2.1, h.2.2.2.1, ⟨h55, fun i a b => ?_⟩, h.2.2.2.2.2⟩
  have b : i < 0 := b
  omega
theorem K_Mo_forget {σ : St} {m : Cs} {S : SS} {n : Int} (hp : PI S n) (hm : IVm S m) : CtI M_Mo_forget [.inr (.inr (1, 0))] (so σ 1 m) (fun r u => r = sTn S ∧ ∃ m', u = so σ 1 m' ∧ IVm (foS S) m') := by
  intro g C F
  have e55 := hm.2.2.2.2.1.1
  have htn := hp.tn
  refine e_aload_n C d_Mo_forget_0 rfl ?_
  refine e_geti C fl_Mo_239 (by decide) rfl rfl d_Mo_forget_1 (fun r_1 => ?_)
  try simp only [so_at, so_so, wr_so] at r_1 ⊢
  refine e_istore_n C d_Mo_forget_4 (by decide) rfl ?_
  refine e_aload_n C d_Mo_forget_5 rfl ?_
  refine e_iconst C d_Mo_forget_6 ?_
  refine e_puti C fp_Mo_239 (by decide) rfl rfl (by omega) d_Mo_forget_7 ?_
  try simp only [so_at, so_so, wr_so]
  refine e_iload_n C d_Mo_forget_10 rfl ?_
  refine e_iret C F rfl d_Mo_forget_11 (by omega) ?_
  exact ⟨e55, _, rfl, hm.fo (fun f a => by funext q; rw [cu_f a]) (cu_s _ _ _ _)⟩
theorem IVm.ho {S : SS} {m m' : Cs} {s : Int} (h : IVm S m) (hs : 0 ≤ s ∧ s < 3) (e : ∀ f, f ≠ 59 → f ≠ 60 → m' f = m f) (h59 : ∀ j, m' 59 j = if j = s then 1 else m 59 j) (h60 : ∀ j k, 0 ≤ j → j < 3 → 0 ≤ k → k < 100 → m' 60 (100 * j + k) = if j = s then m 50 k else m 60 (100 * j + k)) : IVm (hoS S s) m' := by
  have hmp : MP m m' := fun f a b => e f (by omega) (by omega)
  refine ⟨h.pl hmp, ?_⟩
  rw [e 50 (by decide) (by decide), e 52 (by decide) (by decide), e 53 (by decide) (by decide), e 55 (by decide) (by decide), e 56 (by decide) (by decide), e 57 (by decide) (by decide), e 2 (by decide) (by decide), e 1 (by decide) (by decide), e 17 (by decide) (by decide)]
  refine ⟨h.2.1, h.2.2.1, fun j a b => ?_, h.2.2.2.2⟩
  show m' 59 j = (if j = s then 1 else sKf S j) ∧ ((if j = s then 1 else sKf S j) ≠ 0 → RY (fun k => m' 60 (100 * j + k)) (if j = s then sY S else sKs S j))
  rw [h59]
  have h4 := h.2.2.2.1 j a b
  by_cases z : j = s
  · rw [if_pos z, if_pos z, if_pos z]
    refine ⟨rfl, fun _ => RY_on h.2.1 (fun k x w => ?_)⟩
    show m' 60 (100 * j + k) = m 50 k
    rw [h60 j k a b x w, if_pos z]
  · rw [if_neg z, if_neg z, if_neg z]
    refine ⟨h4.1, fun q => RY_on (h4.2 q) (fun k x w => ?_)⟩
    show m' 60 (100 * j + k) = m 60 (100 * j + k)
    rw [h60 j k a b x w, if_neg z]
def rvHold (s : Int) : Int := if 0 ≤ s ∧ s ≤ 2 then 1 else 0
def nxHold (S : SS) (s : Int) : SS := if 0 ≤ s ∧ s ≤ 2 then hoS S s else S
theorem l_Mo_hold {g : Mach} {Q : Int → St → Prop} (C : Cx M_Mo_hold g) (F : FinI M_Mo_hold g Q) {σ : St} {x : Cs} {s : Int} (hs : 0 ≤ s ∧ s ≤ 2) (hQ : Q 1 (so σ 1 (lnm x 60 (hput (x 60) (x 50) s 100)))) :
    ∀ (n : Nat) (i : Int), 0 ≤ i → i + n = 100 → Ev g 20 [some (.inr (.inr (1, 0))), some (.inl s), some (.inl i)] [] (so σ 1 (lnm x 60 (hput (x 60) (x 50) s i))) := by
  intro n
  induction n with
  | zero =>
    intro i h0 h1
    refine e_iload_n C d_Mo_hold_20 rfl ?_
    refine e_bipush C d_Mo_hold_21 (by decide) ?_
    refine e_icmp_ge C 49 d_Mo_hold_23 (by decide) (by omega) (by omega) (fun c_23 => ?_) (fun c_23 => ?_)
    · refine e_iconst C d_Mo_hold_49 ?_
      refine e_zret C F rfl d_Mo_hold_50 (by omega) ?_
      rw [show i = 100 by omega]; exact hQ
    · exact absurd h1 (by omega)
  | succ n ih =>
    intro i h0 h1
    refine e_iload_n C d_Mo_hold_20 rfl ?_
    refine e_bipush C d_Mo_hold_21 (by decide) ?_
    refine e_icmp_ge C 49 d_Mo_hold_23 (by decide) (by omega) (by omega) (fun c_23 => ?_) (fun c_23 => ?_)
    · exact absurd h1 (by omega)
    · refine e_aload_n C d_Mo_hold_26 rfl ?_
      refine e_geta C fl_Mo_140 (by decide) rfl rfl d_Mo_hold_27 ?_
      refine e_bipush C d_Mo_hold_30 (by decide) ?_
      refine e_iload_n C d_Mo_hold_32 rfl ?_
      refine e_imul C d_Mo_hold_33 ?_
      refine e_iload_n C d_Mo_hold_34 rfl ?_
      refine e_iadd C d_Mo_hold_35 ?_
      refine e_aload_n C d_Mo_hold_36 rfl ?_
      refine e_geta C fl_Mo_116 (by decide) rfl rfl d_Mo_hold_37 ?_
      refine e_iload_n C d_Mo_hold_40 rfl ?_
      refine e_iald (n := 100) C (by decide) rfl (by decide) rfl rfl (by decide) (by omega) (by omega) d_Mo_hold_41 (fun r_41 => ?_)
      try simp only [so_at, so_so, wr_so, lnm_s, lnm_cu, lnm_f, ne_eq, Nat.reduceEqDiff, not_false_eq_true] at r_41 ⊢
      refine e_iast (n := 300) C (by decide) rfl (by decide) rfl rfl (by decide) (by omega) (by omega) (by omega) d_Mo_hold_42 ?_
      try simp only [so_at, so_so, wr_so, lnm_s, lnm_cu, lnm_f, ne_eq, Nat.reduceEqDiff, not_false_eq_true]
      refine e_iinc C d_Mo_hold_43 rfl (by decide) rfl ?_
      refine e_goto C 20 d_Mo_hold_46 (by decide) ?_
      rw [hput_S h0]; exact ih (i + 1) (by omega) (by omega)
theorem K_Mo_hold {σ : St} {m : Cs} {S : SS} {n s : Int} (hp : PI S n) (hm : IVm S m) (r1 : R32 s) : CtI M_Mo_hold [.inr (.inr (1, 0)), .inl s] (so σ 1 m) (fun r u => r = rvHold s ∧ ∃ m', u = so σ 1 m' ∧ IVm (nxHold S s) m') := by
  intro g C F
  unfold rvHold nxHold at F
  refine e_iload_n C d_Mo_hold_0 rfl ?_
  refine e_iconst C d_Mo_hold_1 ?_
  refine e_iconst C d_Mo_hold_2 ?_
  refine e_callIS C ok_Mo_in lk_Mo_302 [_, _, _] rfl rfl (Nat.le_of_ble_eq_true rfl) (by decide) (Nat.le_of_ble_eq_true rfl) d_Mo_hold_3 (k_Mo_in r1 (by omega) (by omega)) (fun v_3 u_3 q_3 h_3 => ?_)
  obtain ⟨rfl, rfl⟩ := h_3
  refine e_if_ne C 11 d_Mo_hold_6 (by decide) (by split <;> omega) (fun c_6 => ?_) (fun c_6 => ?_)
  · have hv := in_t c_6
    rw [if_pos hv, if_pos hv] at F
    refine e_aload_n C d_Mo_hold_11 rfl ?_
    refine e_geta C fl_Mo_137 (by decide) rfl rfl d_Mo_hold_12 ?_
    refine e_iload_n C d_Mo_hold_15 rfl ?_
    refine e_iconst C d_Mo_hold_16 ?_
    refine e_zast (n := 3) C (by decide) rfl (by decide) rfl rfl (by decide) (by omega) (by omega) (by omega) d_Mo_hold_17 ?_
    try simp only [so_at, so_so, wr_so]
    refine e_iconst C d_Mo_hold_18 ?_
    refine e_istore_n C d_Mo_hold_19 (by decide) rfl ?_
    have y60 : cu m 59 s 1 60 = m 60 := by funext q; rw [cu_f (by decide)]
    have y50 : cu m 59 s 1 50 = m 50 := by funext q; rw [cu_f (by decide)]
    have e0 : hput (cu m 59 s 1 60) (cu m 59 s 1 50) s 0 = cu m 59 s 1 60 := by funext j; unfold hput; rw [if_neg (by omega)]
    have := l_Mo_hold (σ := σ) (x := cu m 59 s 1) C F hv (by
      refine ⟨rfl, _, rfl, hm.ho (by omega) (fun f a b => ?_) (fun j => ?_) (fun j k a b c d => ?_)⟩
      · rw [lnm_f b]; funext q; rw [cu_f a]
      · rw [lnm_f (by decide), cu_if]; simp only [true_and]
      · rw [lnm_s, y60, y50]
        by_cases z : j = s
        · subst z; rw [if_pos rfl, hput_at ⟨c, d⟩]
        · rw [if_neg z]; unfold hput; rw [if_neg (by omega)]) 100 0 (by omega) (by omega)
    rw [e0, lnm_id] at this
    exact this
  · have hv := in_f c_6
    rw [if_neg hv, if_neg hv] at F
    refine e_iconst C d_Mo_hold_9 ?_
    refine e_zret C F rfl d_Mo_hold_10 (by omega) ?_
    exact ⟨rfl, _, rfl, hm⟩
theorem IVm.re {S : SS} {m m' : Cs} {s : Int} (h : IVm S m) (e : ∀ f, f ≠ 50 → f ≠ 52 → m' f = m f) (h50 : RY (m' 50) (sKs S s)) (h52 : m' 52 0 = 0) : IVm (reS S s) m' := by
  have hmp : MP m m' := fun f a b => e f (by omega) (by omega)
  refine ⟨h.pl hmp, h50, ⟨h52, fun j a b => ?_⟩, ?_⟩
  · have b : j < 0 := b
    omega
  · rw [e 59 (by decide) (by decide), e 60 (by decide) (by decide), e 55 (by decide) (by decide), e 56 (by decide) (by decide), e 57 (by decide) (by decide), e 2 (by decide) (by decide), e 1 (by decide) (by decide), e 17 (by decide) (by decide)]
    exact h.2.2.2
abbrev okRe (S : SS) (s : Int) : Prop := (0 ≤ s ∧ s ≤ 2) ∧ sKf S s ≠ 0
def rvRe (S : SS) (s : Int) : Int := if okRe S s then 1 else 0
def nxRe (S : SS) (s : Int) : SS := if okRe S s then reS S s else S
theorem l_Mo_restore {g : Mach} {Q : Int → St → Prop} (C : Cx M_Mo_restore g) (F : FinI M_Mo_restore g Q) {σ : St} {x : Cs} {s : Int} (hs : 0 ≤ s ∧ s ≤ 2) (hQ : Q 1 (so σ 1 (cu (lnm x 50 (r_cp (x 50) (fun k => x 60 (100 * s + k)) 100)) 52 0 0))) :
    ∀ (n : Nat) (i : Int), 0 ≤ i → i + n = 100 → Ev g 22 [some (.inr (.inr (1, 0))), some (.inl s), some (.inl i)] [] (so σ 1 (lnm x 50 (r_cp (x 50) (fun k => x 60 (100 * s + k)) i))) := by
  intro n
  induction n with
  | zero =>
    intro i h0 h1
    refine e_iload_n C d_Mo_restore_22 rfl ?_
    refine e_bipush C d_Mo_restore_23 (by decide) ?_
    refine e_icmp_ge C 51 d_Mo_restore_25 (by decide) (by omega) (by omega) (fun c_25 => ?_) (fun c_25 => ?_)
    · refine e_aload_n C d_Mo_restore_51 rfl ?_
      refine e_iconst C d_Mo_restore_52 ?_
      refine e_puti C fp_Mo_236 (by decide) rfl rfl (by omega) d_Mo_restore_53 ?_
      try simp only [so_at, so_so, wr_so]
      refine e_iconst C d_Mo_restore_56 ?_
      refine e_zret C F rfl d_Mo_restore_57 (by omega) ?_
      rw [show i = 100 by omega]; exact hQ
    · exact absurd h1 (by omega)
  | succ n ih =>
    intro i h0 h1
    have e := r_cp_S (R := x 50) (S := fun k => x 60 (100 * s + k)) h0
    refine e_iload_n C d_Mo_restore_22 rfl ?_
    refine e_bipush C d_Mo_restore_23 (by decide) ?_
    refine e_icmp_ge C 51 d_Mo_restore_25 (by decide) (by omega) (by omega) (fun c_25 => ?_) (fun c_25 => ?_)
    · exact absurd h1 (by omega)
    · refine e_aload_n C d_Mo_restore_28 rfl ?_
      refine e_geta C fl_Mo_116 (by decide) rfl rfl d_Mo_restore_29 ?_
      refine e_iload_n C d_Mo_restore_32 rfl ?_
      refine e_aload_n C d_Mo_restore_33 rfl ?_
      refine e_geta C fl_Mo_140 (by decide) rfl rfl d_Mo_restore_34 ?_
      refine e_bipush C d_Mo_restore_37 (by decide) ?_
      refine e_iload_n C d_Mo_restore_39 rfl ?_
      refine e_imul C d_Mo_restore_40 ?_
      refine e_iload_n C d_Mo_restore_41 rfl ?_
      refine e_iadd C d_Mo_restore_42 ?_
      refine e_iald (n := 300) C (by decide) rfl (by decide) rfl rfl (by decide) (by omega) (by omega) d_Mo_restore_43 (fun r_43 => ?_)
      try simp only [so_at, so_so, wr_so, lnm_s, lnm_cu, lnm_f, ne_eq, Nat.reduceEqDiff, not_false_eq_true] at r_43 ⊢
      refine e_iast (n := 100) C (by decide) rfl (by decide) rfl rfl (by decide) (by omega) (by omega) (by omega) d_Mo_restore_44 ?_
      try simp only [so_at, so_so, wr_so, lnm_s, lnm_cu, lnm_f, ne_eq, Nat.reduceEqDiff, not_false_eq_true]
      refine e_iinc C d_Mo_restore_45 rfl (by decide) rfl ?_
      refine e_goto C 22 d_Mo_restore_48 (by decide) ?_
      rw [e]; exact ih (i + 1) (by omega) (by omega)
theorem K_Mo_restore {σ : St} {m : Cs} {S : SS} {n s : Int} (hp : PI S n) (hm : IVm S m) (r1 : R32 s) : CtI M_Mo_restore [.inr (.inr (1, 0)), .inl s] (so σ 1 m) (fun r u => r = rvRe S s ∧ ∃ m', u = so σ 1 m' ∧ IVm (nxRe S s) m') := by
  intro g C F
  have hno : ¬ okRe S s → 0 = rvRe S s ∧ ∃ m', so σ 1 m = so σ 1 m' ∧ IVm (nxRe S s) m' := by
    intro z
    unfold rvRe nxRe
    rw [if_neg z, if_neg z]
    exact ⟨rfl, _, rfl, hm⟩
  refine e_iload_n C d_Mo_restore_0 rfl ?_
  refine e_iconst C d_Mo_restore_1 ?_
  refine e_iconst C d_Mo_restore_2 ?_
  refine e_callIS C ok_Mo_in lk_Mo_302 [_, _, _] rfl rfl (Nat.le_of_ble_eq_true rfl) (by decide) (Nat.le_of_ble_eq_true rfl) d_Mo_restore_3 (k_Mo_in r1 (by omega) (by omega)) (fun v_3 u_3 q_3 h_3 => ?_)
  obtain ⟨rfl, rfl⟩ := h_3
  refine e_if_eq C 18 d_Mo_restore_6 (by decide) (by split <;> omega) (fun c_6 => ?_) (fun c_6 => ?_)
  · have hv0 : ¬ okRe S s := fun z => in_f c_6 z.1
    refine e_iconst C d_Mo_restore_18 ?_
    refine e_zret C F rfl d_Mo_restore_19 (by omega) ?_
    exact hno hv0
  · have hv := in_t c_6
    have h4 := hm.2.2.2.1 s (by omega) (by omega)
    refine e_aload_n C d_Mo_restore_9 rfl ?_
    refine e_geta C fl_Mo_137 (by decide) rfl rfl d_Mo_restore_10 ?_
    refine e_iload_n C d_Mo_restore_13 rfl ?_
    refine e_zald (n := 3) C (by decide) rfl (by decide) rfl rfl (by decide) (by omega) (by omega) d_Mo_restore_14 (fun r_14 => ?_)
    try simp only [so_at] at r_14 ⊢
    refine e_if_ne C 20 d_Mo_restore_15 (by decide) (by omega) (fun c_15 => ?_) (fun c_15 => ?_)
    · have hok : okRe S s := ⟨hv, by omega⟩
      unfold rvRe nxRe at F
      rw [if_pos hok, if_pos hok] at F
      refine e_iconst C d_Mo_restore_20 ?_
      refine e_istore_n C d_Mo_restore_21 (by decide) rfl ?_
      have := l_Mo_restore (σ := σ) (x := m) C F hv (by
        refine ⟨rfl, _, rfl, hm.re (fun f a b => ?_) ?_ (cu_s _ _ _ _)⟩
        · funext q; rw [cu_f b, lnm_f a]
        · have e : cu (lnm m 50 (r_cp (m 50) (fun k => m 60 (100 * s + k)) 100)) 52 0 0 50 = r_cp (m 50) (fun k => m 60 (100 * s + k)) 100 := by funext q; rw [cu_f (by decide), lnm_s]
          rw [e]
          exact RY_cp (h4.2 hok.2)) 100 0 (by omega) (by omega)
      rw [r_cp_0, lnm_id] at this
      exact this
    · have hv0 : ¬ okRe S s := fun z => z.2 (by omega)
      refine e_iconst C d_Mo_restore_18 ?_
      refine e_zret C F rfl d_Mo_restore_19 (by omega) ?_
      exact hno hv0
theorem IVm.ta {S : SS} {m m' : Cs} {b : Int → Int} {z : Int} (h : IVm S m) (e : ∀ f, f ≠ 1 → f ≠ 2 → m' f = m f) (h2 : m' 2 0 = z) (h1 : ∀ i, 0 ≤ i → i < z → m' 1 i = b i) : IVm (taS S b z) m' := by
  have hmp : MP m m' := fun f a b => e f (by omega) (by omega)
  refine ⟨h.pl hmp, ?_⟩
  rw [e 50 (by decide) (by decide), e 52 (by decide) (by decide), e 53 (by decide) (by decide), e 59 (by decide) (by decide), e 60 (by decide) (by decide), e 55 (by decide) (by decide), e 56 (by decide) (by decide), e 57 (by decide) (by decide), e 17 (by decide) (by decide)]
  exact ⟨h.2.1, h.2.2.1, h.2.2.2.1, h.2.2.2.2.1, ⟨h2, h1⟩, h.2.2.2.2.2.2⟩
def rvBack (S : SS) (k : Int) : Int := if 0 ≤ k ∧ k ≤ sTz S then sTz S - k else -1
def nxBack (S : SS) (k : Int) : SS := if 0 ≤ k ∧ k ≤ sTz S then taS S (sTb S) (sTz S - k) else S
theorem K_Mo_back {σ : St} {m : Cs} {S : SS} {n k : Int} (hp : PI S n) (hm : IVm S m) (r1 : R32 k) : CtI M_Mo_back [.inr (.inr (1, 0)), .inl k] (so σ 1 m) (fun r u => r = rvBack S k ∧ ∃ m', u = so σ 1 m' ∧ IVm (nxBack S k) m') := by
  intro g C F
  obtain ⟨e2, e1⟩ := hm.2.2.2.2.2.1
  have htz := hp.tz
  unfold rvBack nxBack at F
  refine e_iload_n C d_Mo_back_0 rfl ?_
  refine e_if_lt C 12 d_Mo_back_1 (by decide) (by omega) (fun c_1 => ?_) (fun c_1 => ?_)
  · rw [if_neg (by omega), if_neg (by omega)] at F
    refine e_iconst C d_Mo_back_12 ?_
    refine e_iret C F rfl d_Mo_back_13 (by omega) ?_
    exact ⟨rfl, _, rfl, hm⟩
  · refine e_iload_n C d_Mo_back_4 rfl ?_
    refine e_aload_n C d_Mo_back_5 rfl ?_
    refine e_geti C fl_Mo_147 (by decide) rfl rfl d_Mo_back_6 (fun r_6 => ?_)
    try simp only [so_at, so_so, wr_so, e2, cu_s] at r_6 ⊢
    refine e_icmp_le C 14 d_Mo_back_9 (by decide) (by omega) (by omega) (fun c_9 => ?_) (fun c_9 => ?_)
    · rw [if_pos (by omega), if_pos (by omega)] at F
      refine e_aload_n C d_Mo_back_14 rfl ?_
      refine e_dup C d_Mo_back_15 rfl ?_
      refine e_geti C fl_Mo_147 (by decide) rfl rfl d_Mo_back_16 (fun r_16 => ?_)
      try simp only [so_at, so_so, wr_so, e2, cu_s] at r_16 ⊢
      refine e_iload_n C d_Mo_back_19 rfl ?_
      refine e_isub C d_Mo_back_20 ?_
      refine e_puti C fp_Mo_147 (by decide) rfl rfl (by omega) d_Mo_back_21 ?_
      try simp only [so_at, so_so, wr_so, e2, cu_s]
      refine e_aload_n C d_Mo_back_24 rfl ?_
      refine e_geti C fl_Mo_147 (by decide) rfl rfl d_Mo_back_25 (fun r_25 => ?_)
      try simp only [so_at, so_so, wr_so, e2, cu_s] at r_25 ⊢
      refine e_iret C F rfl d_Mo_back_28 (by omega) ?_
      refine ⟨rfl, _, rfl, hm.ta (fun f a b => by funext q; rw [cu_f b]) (cu_s _ _ _ _) (fun i a b => ?_)⟩
      rw [cu_f (by decide)]
      exact e1 i a (by omega)
    · rw [if_neg (by omega), if_neg (by omega)] at F
      refine e_iconst C d_Mo_back_12 ?_
      refine e_iret C F rfl d_Mo_back_13 (by omega) ?_
      exact ⟨rfl, _, rfl, hm⟩
/-- four bytes of a word, the highest first -/
def b4 (b : Int → Int) (z w : Int) : Int → Int := ua (ua (ua (ua b z (z_i2b (z_ishr w 24))) (z + 1) (z_i2b (z_ishr w 16))) (z + 2) (z_i2b (z_ishr w 8))) (z + 3) (z_i2b (z_ishr w 0))
theorem z_i2b_r (x : Int) : -128 ≤ z_i2b x ∧ z_i2b x ≤ 127 := by
  unfold z_i2b
  rw [Int8.toInt_toInt32]
  have h1 := (Int32.ofInt x).toInt8.le_toInt
  have h2 := (Int32.ofInt x).toInt8.toInt_lt
  omega
theorem b4_cong {b b' : Int → Int} {z w : Int} (h : ∀ i, 0 ≤ i → i < z → b i = b' i) : ∀ i, 0 ≤ i → i < z + 4 → b4 b z w i = b4 b' z w i := by
  intro i a c
  unfold b4 ua
  by_cases z3 : i = z + 3
  · rw [if_pos z3, if_pos z3]
  · rw [if_neg z3, if_neg z3]
    by_cases z2 : i = z + 2
    · rw [if_pos z2, if_pos z2]
    · rw [if_neg z2, if_neg z2]
      by_cases z1 : i = z + 1
      · rw [if_pos z1, if_pos z1]
      · rw [if_neg z1, if_neg z1]
        by_cases z0 : i = z
        · rw [if_pos z0, if_pos z0]
        · rw [if_neg z0, if_neg z0]
          exact h i a (by omega)
/-- the reference's object with another tape -/
def mtp (m : Cs) (b : Int → Int) (z : Int) : Cs := cu (lnm m 1 b) 2 0 z
theorem mtp_2 (m : Cs) (b : Int → Int) (z : Int) : mtp m b z 2 0 = z := cu_s _ _ _ _
theorem mtp_1 (m : Cs) (b : Int → Int) (z : Int) : mtp m b z 1 = b := by unfold mtp; funext q; rw [cu_f (by decide), lnm_s]
theorem mtp_f {m : Cs} {b : Int → Int} {z : Int} {f : Nat} (h1 : f ≠ 1) (h2 : f ≠ 2) : mtp m b z f = m f := by unfold mtp; funext q; rw [cu_f h2, lnm_f h1]
theorem mtp_w1 (m : Cs) (b : Int → Int) (z k v : Int) : cu (mtp m b z) 1 k v = mtp m (ua b k v) z := by
  unfold mtp
  rw [cu_comm (by decide), lnm_cu]
theorem mtp_w2 (m : Cs) (b : Int → Int) (z v : Int) : cu (mtp m b z) 2 0 v = mtp m b v := by
  unfold mtp
  funext f k
  simp only [cu_if]
  by_cases q : f = 2 ∧ k = 0
  · rw [if_pos q, if_pos q]
  · rw [if_neg q, if_neg q, if_neg q]
theorem mtp_id (m : Cs) : mtp m (m 1) (m 2 0) = m := by
  unfold mtp
  rw [lnm_id]
  exact cu_2 _ _ _ _ rfl
set_option maxHeartbeats 1000000 in
theorem k_Mo_put {σ : St} {m : Cs} {b : Int → Int} {z w : Int} (hz : 0 ≤ z ∧ z + 4 ≤ 2000) (hw : R32 w) : CtV M_Mo_put [.inr (.inr (1, 0)), .inl w] (so σ 1 (mtp m b z)) (fun u => u = so σ 1 (mtp m (b4 b z w) (z + 4))) := by
  intro g C F
  have one : ∀ (b : Int → Int) (x k : Int), (0 ≤ x ∧ x < 2000) → (0 ≤ k ∧ k ≤ 24) → Ev g 3 [some (.inr (.inr (1, 0))), some (.inl w), some (.inl (k + -8))] [] (so σ 1 (mtp m (ua b x (z_i2b (z_ishr w k))) (x + 1))) → Ev g 3 [some (.inr (.inr (1, 0))), some (.inl w), some (.inl k)] [] (so σ 1 (mtp m b x)) := by
    intro b x k hx hk hE
    refine e_iload_n C d_Mo_put_3 rfl ?_
    refine e_if_lt C 36 d_Mo_put_4 (by decide) (by omega) (fun c_4 => ?_) (fun c_4 => ?_)
    · exact absurd hk.1 (by omega)
    · refine e_aload_n C d_Mo_put_7 rfl ?_
      refine e_geta C fl_Mo_13 (by decide) rfl rfl d_Mo_put_8 ?_
      refine e_aload_n C d_Mo_put_11 rfl ?_
      refine e_geti C fl_Mo_147 (by decide) rfl rfl d_Mo_put_12 (fun r_12 => ?_)
      try simp only [so_at, so_so, wr_so, mtp_2, mtp_1, mtp_w1, mtp_w2] at r_12 ⊢
      refine e_iload_n C d_Mo_put_15 rfl ?_
      refine e_iload_n C d_Mo_put_16 rfl ?_
      refine e_ishr C d_Mo_put_17 ?_
      refine e_i2b C d_Mo_put_18 ?_
      refine e_bast (n := 2000) C (by decide) rfl (by decide) rfl rfl (by decide) (by omega) (by omega) (z_i2b_r _) d_Mo_put_19 ?_
      try simp only [so_at, so_so, wr_so, mtp_2, mtp_1, mtp_w1, mtp_w2]
      refine e_aload_n C d_Mo_put_20 rfl ?_
      refine e_dup C d_Mo_put_21 rfl ?_
      refine e_geti C fl_Mo_147 (by decide) rfl rfl d_Mo_put_22 (fun r_22 => ?_)
      try simp only [so_at, so_so, wr_so, mtp_2, mtp_1, mtp_w1, mtp_w2] at r_22 ⊢
      refine e_iconst C d_Mo_put_25 ?_
      refine e_iadd C d_Mo_put_26 ?_
      refine e_puti C fp_Mo_147 (by decide) rfl rfl (by omega) d_Mo_put_27 ?_
      try simp only [so_at, so_so, wr_so, mtp_2, mtp_1, mtp_w1, mtp_w2]
      refine e_iinc C d_Mo_put_30 rfl (by decide) rfl ?_
      refine e_goto C 3 d_Mo_put_33 (by decide) ?_
      exact hE
  refine e_bipush C d_Mo_put_0 (by decide) ?_
  refine e_istore_n C d_Mo_put_2 (by decide) rfl ?_
  refine one b z 24 (by omega) (by omega) ?_
  refine one _ (z + 1) 16 (by omega) (by omega) ?_
  rw [show z + 1 + 1 = z + 2 by omega]
  refine one _ (z + 2) 8 (by omega) (by omega) ?_
  rw [show z + 2 + 1 = z + 3 by omega]
  refine one _ (z + 3) 0 (by omega) (by omega) ?_
  rw [show z + 3 + 1 = z + 4 by omega]
  have e : b4 b z w = ua (ua (ua (ua b z (z_i2b (z_ishr w 24))) (z + 1) (z_i2b (z_ishr w 16))) (z + 2) (z_i2b (z_ishr w 8))) (z + 3) (z_i2b (z_ishr w 0)) := rfl
  rw [← e]
  refine e_iload_n C d_Mo_put_3 rfl ?_
  refine e_if_lt C 36 d_Mo_put_4 (by decide) (by omega) (fun c_4 => ?_) (fun c_4 => ?_)
  · refine e_vret C F rfl d_Mo_put_36 ?_
    rfl
  · exact absurd c_4 (by decide)
def fd5 (t : Int → Int) (z a b c d e : Int) : Int → Int := b4 (b4 (b4 (b4 (b4 t z a) (z + 4) b) (z + 8) c) (z + 12) d) (z + 16) e
def rvFeed (S : SS) : Int := if sTz S + 20 ≤ 2000 then sTz S + 20 else -1
def nxFeed (S : SS) (a b c d e : Int) : SS := if sTz S + 20 ≤ 2000 then taS S (fd5 (sTb S) (sTz S) a b c d e) (sTz S + 20) else S
theorem b4_cong_ {b b' : Int → Int} {z z' w : Int} (h : ∀ i, 0 ≤ i → i < z → b i = b' i) (e : z' = z + 4) : ∀ i, 0 ≤ i → i < z' → b4 b z w i = b4 b' z w i := by
  subst e; exact b4_cong h
theorem fd5_cong {t t' : Int → Int} {z a b c d e : Int} (h : ∀ i, 0 ≤ i → i < z → t i = t' i) : ∀ i, 0 ≤ i → i < z + 20 → fd5 t z a b c d e i = fd5 t' z a b c d e i := by
  intro i x y
  refine b4_cong (b4_cong_ (b4_cong_ (b4_cong_ (b4_cong_ h (by omega)) (by omega)) (by omega)) (by omega)) i x (by omega)
theorem K_Mo_feed {σ : St} {m : Cs} {S : SS} {n a b c d e : Int} (hp : PI S n) (hm : IVm S m) (r1 : R32 a) (r2 : R32 b) (r3 : R32 c) (r4 : R32 d) (r5 : R32 e) : CtI M_Mo_feed [.inr (.inr (1, 0)), .inl a, .inl b, .inl c, .inl d, .inl e] (so σ 1 m) (fun r u => r = rvFeed S ∧ ∃ m', u = so σ 1 m' ∧ IVm (nxFeed S a b c d e) m') := by
  intro g C F
  obtain ⟨e2, e1⟩ := hm.2.2.2.2.2.1
  have htz := hp.tz
  unfold rvFeed nxFeed at F
  rw [← mtp_id m, e2]
  refine e_aload_n C d_Mo_feed_0 rfl ?_
  refine e_geti C fl_Mo_147 (by decide) rfl rfl d_Mo_feed_1 (fun r_1 => ?_)
  try simp only [so_at, mtp_2] at r_1 ⊢
  refine e_bipush C d_Mo_feed_4 (by decide) ?_
  refine e_iadd C d_Mo_feed_6 ?_
  refine e_sipush C d_Mo_feed_7 (by decide) ?_
  refine e_icmp_le C 15 d_Mo_feed_10 (by decide) (by omega) (by omega) (fun c_10 => ?_) (fun c_10 => ?_)
  · rw [if_pos (by omega), if_pos (by omega)] at F
    refine e_aload_n C d_Mo_feed_15 rfl ?_
    refine e_iload_n C d_Mo_feed_16 rfl ?_
    refine e_callVV C ok_Mo_put lk_Mo_150 (o := 1) (by decide) rfl [_] rfl rfl (Nat.le_of_ble_eq_true rfl) (by decide) (Nat.le_of_ble_eq_true rfl) d_Mo_feed_17 (k_Mo_put (by omega) r1) (fun u_17 h_17 => ?_)
    subst h_17
    refine e_aload_n C d_Mo_feed_20 rfl ?_
    refine e_iload_n C d_Mo_feed_21 rfl ?_
    refine e_callVV C ok_Mo_put lk_Mo_150 (o := 1) (by decide) rfl [_] rfl rfl (Nat.le_of_ble_eq_true rfl) (by decide) (Nat.le_of_ble_eq_true rfl) d_Mo_feed_22 (k_Mo_put (by omega) r2) (fun u_22 h_22 => ?_)
    subst h_22
    rw [show sTz S + 4 + 4 = sTz S + 8 by omega]
    refine e_aload_n C d_Mo_feed_25 rfl ?_
    refine e_iload_n C d_Mo_feed_26 rfl ?_
    refine e_callVV C ok_Mo_put lk_Mo_150 (o := 1) (by decide) rfl [_] rfl rfl (Nat.le_of_ble_eq_true rfl) (by decide) (Nat.le_of_ble_eq_true rfl) d_Mo_feed_27 (k_Mo_put (by omega) r3) (fun u_27 h_27 => ?_)
    subst h_27
    rw [show sTz S + 8 + 4 = sTz S + 12 by omega]
    refine e_aload_n C d_Mo_feed_30 rfl ?_
    refine e_iload C d_Mo_feed_31 rfl ?_
    refine e_callVV C ok_Mo_put lk_Mo_150 (o := 1) (by decide) rfl [_] rfl rfl (Nat.le_of_ble_eq_true rfl) (by decide) (Nat.le_of_ble_eq_true rfl) d_Mo_feed_33 (k_Mo_put (by omega) r4) (fun u_33 h_33 => ?_)
    subst h_33
    rw [show sTz S + 12 + 4 = sTz S + 16 by omega]
    refine e_aload_n C d_Mo_feed_36 rfl ?_
    refine e_iload C d_Mo_feed_37 rfl ?_
    refine e_callVV C ok_Mo_put lk_Mo_150 (o := 1) (by decide) rfl [_] rfl rfl (Nat.le_of_ble_eq_true rfl) (by decide) (Nat.le_of_ble_eq_true rfl) d_Mo_feed_39 (k_Mo_put (by omega) r5) (fun u_39 h_39 => ?_)
    subst h_39
    rw [show sTz S + 16 + 4 = sTz S + 20 by omega]
    refine e_aload_n C d_Mo_feed_42 rfl ?_
    refine e_geti C fl_Mo_147 (by decide) rfl rfl d_Mo_feed_43 (fun r_43 => ?_)
    try simp only [so_at, mtp_2] at r_43 ⊢
    refine e_iret C F rfl d_Mo_feed_46 (by omega) ?_
    refine ⟨rfl, _, rfl, hm.ta (fun f x y => mtp_f x y) (mtp_2 _ _ _) ?_⟩
    rw [mtp_1]
    exact fd5_cong e1
  · rw [if_neg (by omega), if_neg (by omega)] at F
    refine e_iconst C d_Mo_feed_13 ?_
    refine e_iret C F rfl d_Mo_feed_14 (by omega) ?_
    refine ⟨rfl, _, rfl, ?_⟩
    rw [← e2, mtp_id]; exact hm
theorem K_Mo_place {σ : St} {m : Cs} {S : SS} (hm : IVm S m) : CtI M_Mo_place [.inr (.inr (1, 0))] (so σ 1 m) (fun r u => r = sFp S ∧ ∃ m', u = so σ 1 m' ∧ IVm S m') := by
  intro g C F
  refine e_aload_n C d_Mo_place_0 rfl ?_
  refine e_geti C fl_Mo_37 (by decide) rfl rfl d_Mo_place_1 (fun r_1 => ?_)
  try simp only [so_at] at r_1 ⊢
  refine e_iret C F rfl d_Mo_place_4 (by omega) ?_
  exact ⟨hm.2.2.2.2.2.2, _, rfl, hm⟩
def rvCount (S : SS) (w : Int) : Int := if w = 0 then sP S 3 0 else if w = 1 then sP S 4 0 else if w = 2 then sY S 12 0 else if w = 3 then sY S 11 0 else if w = 4 then itr (estep (sY S)) (sP S 3 0).toNat 0 0 else if w = 5 then sP S 6 0 else if w = 6 then sP S 5 0 else if w = 7 then itr (nstep (sY S)) (sP S 3 0).toNat 0 0 else if w = 8 then sTz S else if w = 9 then sHz S else if w = 10 then sTn S else if w = 11 then sKf S 0 + sKf S 1 + sKf S 2 else if w = 12 then c_slepts (sP S) (sY S) else -1
theorem itr_add {α : Type} (f : Int → α → α) : ∀ (a b : Nat) (i : Int) (x : α), itr f (a + b) i x = itr f b (i + a) (itr f a i x)
  | 0, b, i, x => by rw [Nat.zero_add]; simp [itr]
  | a + 1, b, i, x => by
    rw [show a + 1 + b = (a + b) + 1 by omega, itr_S, itr_S, itr_add f a b (i + 1) (f i x)]
    congr 1
    omega
def rsm (R : Int → Int) (k x : Int) : Int := x + R k
theorem l_Mo_count {g : Mach} {Q : Int → St → Prop} (C : Cx M_Mo_count g) (F : FinI M_Mo_count g Q) {σ : St} {m : Cs} {R : Int → Int} (hR : ∀ k, 0 ≤ k → k < 16 → 0 ≤ R k ∧ R k ≤ 10000000) :
    ∀ (n : Nat) (i x : Int), 0 ≤ i → i + n = 16 → (0 ≤ x ∧ x ≤ 10000000 * i) → Q (itr (rsm R) n i x) (MF σ m R) → Ev g 137 [some (.inr (.inr (1, 0))), some (.inl 7), some (.inl x), some (.inl i)] [] (MF σ m R) := by
  intro n
  induction n with
  | zero =>
    intro i x h0 h1 hx hQ
    refine e_iload_n C d_Mo_count_137 rfl ?_
    refine e_bipush C d_Mo_count_138 (by decide) ?_
    refine e_icmp_ge C 158 d_Mo_count_140 (by decide) (by omega) (by omega) (fun c_140 => ?_) (fun c_140 => ?_)
    · refine e_iload_n C d_Mo_count_158 rfl ?_
      refine e_iret C F rfl d_Mo_count_159 (by omega) ?_
      exact hQ
    · exact absurd h1 (by omega)
  | succ n ih =>
    intro i x h0 h1 hx hQ
    have hRi := hR i h0 (by omega)
    rw [itr_S] at hQ
    refine e_iload_n C d_Mo_count_137 rfl ?_
    refine e_bipush C d_Mo_count_138 (by decide) ?_
    refine e_icmp_ge C 158 d_Mo_count_140 (by decide) (by omega) (by omega) (fun c_140 => ?_) (fun c_140 => ?_)
    · exact absurd h1 (by omega)
    · refine e_iload_n C d_Mo_count_143 rfl ?_
      refine e_aload_n C d_Mo_count_144 rfl ?_
      refine e_geta C fl_Mo_119 (by decide) rfl rfl d_Mo_count_145 ?_
      refine e_iload_n C d_Mo_count_148 rfl ?_
      refine e_iald (n := 100) C (by decide) rfl (by decide) rfl rfl (by decide) (by omega) (by omega) d_Mo_count_149 (fun r_149 => ?_)
      try simp only [MF_51] at r_149 ⊢
      refine e_iadd C d_Mo_count_150 ?_
      refine e_istore_n C d_Mo_count_151 (by decide) rfl ?_
      refine e_iinc C d_Mo_count_152 rfl (by decide) rfl ?_
      refine e_goto C 137 d_Mo_count_155 (by decide) ?_
      exact ih (i + 1) _ (by omega) (by omega) (by omega) hQ
theorem grs_eq {P y : Cs} {R : Int → Int} (hN : 0 ≤ P 3 0 ∧ P 3 0 ≤ 8) (hy : RY R y) (hz : ∀ p, P 3 0 ≤ p → p < 8 → y 0 p = 0 ∧ y 1 p = 0) : itr (rsm R) 16 0 0 = itr (nstep y) (P 3 0).toNat 0 0 := by
  have e8 : itr (nstep y) 8 0 0 = itr (nstep y) (P 3 0).toNat 0 0 := by
    have := itr_add (nstep y) (P 3 0).toNat (8 - (P 3 0).toNat) 0 0
    rw [show (P 3 0).toNat + (8 - (P 3 0).toNat) = 8 by omega] at this
    rw [this]
    refine itr_id _ _ (fun p a b => ?_)
    have := hz p (by omega) (by omega)
    unfold nstep
    omega
  rw [← e8]
  have h := fun p a b => hy.1 p a b
  have h0 := h 0 (by decide) (by decide)
  have h1 := h 1 (by decide) (by decide)
  have h2 := h 2 (by decide) (by decide)
  have h3 := h 3 (by decide) (by decide)
  have h4 := h 4 (by decide) (by decide)
  have h5 := h 5 (by decide) (by decide)
  have h6 := h 6 (by decide) (by decide)
  have h7 := h 7 (by decide) (by decide)
  simp only [itr, rsm, nstep, Int.reduceAdd] at *
  omega
set_option maxHeartbeats 2000000 in
theorem K_Mo_count {σ : St} {m : Cs} {S : SS} {n w : Int} (hp : PI S n) (hm : IVm S m) (r1 : R32 w) : CtI M_Mo_count [.inr (.inr (1, 0)), .inl w] (so σ 1 m) (fun r u => r = rvCount S w ∧ ∃ m', u = so σ 1 m' ∧ IVm S m') := by
  intro g C F
  obtain ⟨l, hPl⟩ := hp.pl
  have hN := hPl.1
  have hG := hPl.2.1
  have hM := hm.1.1
  have hlv := hM.1
  have heN := hM.2.1
  have heG := hM.2.2.1
  have heS := hM.2.2.2
  have heH := hm.1.2.2.1
  have hn := hp.n
  have k0 := hm.2.2.2.1 0 (by decide) (by decide)
  have k1 := hm.2.2.2.1 1 (by decide) (by decide)
  have k2 := hm.2.2.2.1 2 (by decide) (by decide)
  have p0 := (hp.k 0 (by decide) (by decide)).1
  have p1 := (hp.k 1 (by decide) (by decide)).1
  have p2 := (hp.k 2 (by decide) (by decide)).1
  have e55 := hm.2.2.2.2.1.1
  have e52 := hm.2.2.1.1
  have e2 := hm.2.2.2.2.2.1.1
  rw [soMF]
  unfold rvCount at F
  refine e_aload_n C d_Mo_count_0 rfl ?_
  refine e_callVV C ok_Mo_copies lk_Mo_330 (o := 1) (by decide) rfl [] rfl rfl (Nat.le_of_ble_eq_true rfl) (by decide) (Nat.le_of_ble_eq_true rfl) d_Mo_count_1 (k_Mo_copies) (fun u_1 h_1 => ?_)
  subst h_1
  have hy := RY_cp (R := m 51) hm.2.1
  generalize r_cp (m 51) (m 50) 100 = R at hy ⊢
  have hb := hp.y.1.bed
  have e96 := hy.2.2.1
  have e97 := hy.2.2.2
  refine e_iload_n C d_Mo_count_4 rfl ?_
  by_cases s_5 : w < 0 ∨ 12 < w
  · refine e_tableOut C 225 d_Mo_count_5 (by omega) (by omega) (by decide) ?_
    refine e_iconst C d_Mo_count_225 ?_
    refine e_iret C F rfl d_Mo_count_226 (by omega) ?_
    rw [if_neg (by omega), if_neg (by omega), if_neg (by omega), if_neg (by omega), if_neg (by omega), if_neg (by omega), if_neg (by omega), if_neg (by omega), if_neg (by omega), if_neg (by omega), if_neg (by omega), if_neg (by omega), if_neg (by omega)]
    exact ⟨rfl, _, rfl, hm.fin0⟩
  · rcases (show w = 0 ∨ w = 1 ∨ w = 2 ∨ w = 3 ∨ w = 4 ∨ w = 5 ∨ w = 6 ∨ w = 7 ∨ w = 8 ∨ w = 9 ∨ w = 10 ∨ w = 11 ∨ w = 12 by omega) with s_5_ | s_5_ | s_5_ | s_5_ | s_5_ | s_5_ | s_5_ | s_5_ | s_5_ | s_5_ | s_5_ | s_5_ | s_5_
    · refine e_tableIn (off := 67) C 72 d_Mo_count_5 (by omega) (by omega) (by omega) (by rw [s_5_]; rfl) (by decide) ?_
      refine e_aload_n C d_Mo_count_72 rfl ?_
      refine e_geta C fl_Mo_49 (by decide) rfl rfl d_Mo_count_73 ?_
      refine e_aload_n C d_Mo_count_76 rfl ?_
      refine e_geti C fl_Mo_215 (by decide) rfl rfl d_Mo_count_77 (fun r_77 => ?_)
      try simp only [MF_f, MF_51, heN, heG, heS, heH, e55, e52, e2, ne_eq, Nat.reduceEqDiff, not_false_eq_true] at r_77 ⊢
      refine e_iald (n := 2) C (by decide) rfl (by decide) rfl rfl (by decide) (by omega) (by omega) d_Mo_count_80 (fun r_80 => ?_)
      try simp only [MF_f, MF_51, heN, heG, heS, heH, e55, e52, e2, ne_eq, Nat.reduceEqDiff, not_false_eq_true] at r_80 ⊢
      refine e_iret C F rfl d_Mo_count_81 (by omega) ?_
      subst s_5_
      simp only [Int.reduceEq, if_true, if_false]
      first | exact ⟨trivial, _, rfl, hm.fin0⟩ | exact ⟨rfl, _, rfl, hm.fin0⟩ | exact ⟨by omega, _, rfl, hm.fin0⟩
    · refine e_tableIn (off := 77) C 82 d_Mo_count_5 (by omega) (by omega) (by omega) (by rw [s_5_]; rfl) (by decide) ?_
      refine e_aload_n C d_Mo_count_82 rfl ?_
      refine e_geta C fl_Mo_64 (by decide) rfl rfl d_Mo_count_83 ?_
      refine e_aload_n C d_Mo_count_86 rfl ?_
      refine e_geti C fl_Mo_215 (by decide) rfl rfl d_Mo_count_87 (fun r_87 => ?_)
      try simp only [MF_f, MF_51, heN, heG, heS, heH, e55, e52, e2, ne_eq, Nat.reduceEqDiff, not_false_eq_true] at r_87 ⊢
      refine e_iald (n := 2) C (by decide) rfl (by decide) rfl rfl (by decide) (by omega) (by omega) d_Mo_count_90 (fun r_90 => ?_)
      try simp only [MF_f, MF_51, heN, heG, heS, heH, e55, e52, e2, ne_eq, Nat.reduceEqDiff, not_false_eq_true] at r_90 ⊢
      refine e_iret C F rfl d_Mo_count_91 (by omega) ?_
      subst s_5_
      simp only [Int.reduceEq, if_true, if_false]
      first | exact ⟨trivial, _, rfl, hm.fin0⟩ | exact ⟨rfl, _, rfl, hm.fin0⟩ | exact ⟨by omega, _, rfl, hm.fin0⟩
    · refine e_tableIn (off := 87) C 92 d_Mo_count_5 (by omega) (by omega) (by omega) (by rw [s_5_]; rfl) (by decide) ?_
      refine e_aload_n C d_Mo_count_92 rfl ?_
      refine e_geta C fl_Mo_119 (by decide) rfl rfl d_Mo_count_93 ?_
      refine e_bipush C d_Mo_count_96 (by decide) ?_
      refine e_iald (n := 100) C (by decide) rfl (by decide) rfl rfl (by decide) (by omega) (by omega) d_Mo_count_98 (fun r_98 => ?_)
      try simp only [MF_f, MF_51, heN, heG, heS, heH, e55, e52, e2, ne_eq, Nat.reduceEqDiff, not_false_eq_true] at r_98 ⊢
      rw [e97] at r_98 ⊢
      refine e_iret C F rfl d_Mo_count_99 (by omega) ?_
      subst s_5_
      simp only [Int.reduceEq, if_true, if_false]
      first | exact ⟨trivial, _, rfl, hm.fin0⟩ | exact ⟨rfl, _, rfl, hm.fin0⟩ | exact ⟨by omega, _, rfl, hm.fin0⟩
    · refine e_tableIn (off := 95) C 100 d_Mo_count_5 (by omega) (by omega) (by omega) (by rw [s_5_]; rfl) (by decide) ?_
      refine e_aload_n C d_Mo_count_100 rfl ?_
      refine e_geta C fl_Mo_119 (by decide) rfl rfl d_Mo_count_101 ?_
      refine e_bipush C d_Mo_count_104 (by decide) ?_
      refine e_iald (n := 100) C (by decide) rfl (by decide) rfl rfl (by decide) (by omega) (by omega) d_Mo_count_106 (fun r_106 => ?_)
      try simp only [MF_f, MF_51, heN, heG, heS, heH, e55, e52, e2, ne_eq, Nat.reduceEqDiff, not_false_eq_true] at r_106 ⊢
      rw [e96] at r_106 ⊢
      refine e_iret C F rfl d_Mo_count_107 (by omega) ?_
      subst s_5_
      simp only [Int.reduceEq, if_true, if_false]
      first | exact ⟨trivial, _, rfl, hm.fin0⟩ | exact ⟨rfl, _, rfl, hm.fin0⟩ | exact ⟨by omega, _, rfl, hm.fin0⟩
    · refine e_tableIn (off := 103) C 108 d_Mo_count_5 (by omega) (by omega) (by omega) (by rw [s_5_]; rfl) (by decide) ?_
      refine e_aload_n C d_Mo_count_108 rfl ?_
      refine e_callIV C ok_Mo_emptyOnes lk_Mo_363 (o := 1) (by decide) rfl [] rfl rfl (Nat.le_of_ble_eq_true rfl) (by decide) (Nat.le_of_ble_eq_true rfl) d_Mo_count_109 (k_Mo_emptyOnes hM hN hy (fun p a b => by have := (hp.y.1.post hN.2 hG.2 ⟨a, b⟩).2; omega)) (fun v_109 u_109 q_109 h_109 => ?_)
      obtain ⟨h_109, rfl⟩ := h_109
      refine e_iret C F rfl d_Mo_count_112 (by omega) ?_
      subst s_5_
      simp only [Int.reduceEq, if_true, if_false]
      first | exact ⟨trivial, _, rfl, hm.fin0⟩ | exact ⟨rfl, _, rfl, hm.fin0⟩ | exact ⟨by omega, _, rfl, hm.fin0⟩
    · refine e_tableIn (off := 108) C 113 d_Mo_count_5 (by omega) (by omega) (by omega) (by rw [s_5_]; rfl) (by decide) ?_
      refine e_aload_n C d_Mo_count_113 rfl ?_
      refine e_geta C fl_Mo_76 (by decide) rfl rfl d_Mo_count_114 ?_
      refine e_aload_n C d_Mo_count_117 rfl ?_
      refine e_geti C fl_Mo_215 (by decide) rfl rfl d_Mo_count_118 (fun r_118 => ?_)
      try simp only [MF_f, MF_51, heN, heG, heS, heH, e55, e52, e2, ne_eq, Nat.reduceEqDiff, not_false_eq_true] at r_118 ⊢
      refine e_iald (n := 2) C (by decide) rfl (by decide) rfl rfl (by decide) (by omega) (by omega) d_Mo_count_121 (fun r_121 => ?_)
      try simp only [MF_f, MF_51, heN, heG, heS, heH, e55, e52, e2, ne_eq, Nat.reduceEqDiff, not_false_eq_true] at r_121 ⊢
      refine e_iret C F rfl d_Mo_count_122 (by omega) ?_
      subst s_5_
      simp only [Int.reduceEq, if_true, if_false]
      first | exact ⟨trivial, _, rfl, hm.fin0⟩ | exact ⟨rfl, _, rfl, hm.fin0⟩ | exact ⟨by omega, _, rfl, hm.fin0⟩
    · refine e_tableIn (off := 118) C 123 d_Mo_count_5 (by omega) (by omega) (by omega) (by rw [s_5_]; rfl) (by decide) ?_
      refine e_aload_n C d_Mo_count_123 rfl ?_
      refine e_geta C fl_Mo_70 (by decide) rfl rfl d_Mo_count_124 ?_
      refine e_aload_n C d_Mo_count_127 rfl ?_
      refine e_geti C fl_Mo_215 (by decide) rfl rfl d_Mo_count_128 (fun r_128 => ?_)
      try simp only [MF_f, MF_51, heN, heG, heS, heH, e55, e52, e2, ne_eq, Nat.reduceEqDiff, not_false_eq_true] at r_128 ⊢
      refine e_iald (n := 2) C (by decide) rfl (by decide) rfl rfl (by decide) (by omega) (by omega) d_Mo_count_131 (fun r_131 => ?_)
      try simp only [MF_f, MF_51, heN, heG, heS, heH, e55, e52, e2, ne_eq, Nat.reduceEqDiff, not_false_eq_true] at r_131 ⊢
      refine e_iret C F rfl d_Mo_count_132 (by omega) ?_
      subst s_5_
      simp only [Int.reduceEq, if_true, if_false]
      first | exact ⟨trivial, _, rfl, hm.fin0⟩ | exact ⟨rfl, _, rfl, hm.fin0⟩ | exact ⟨by omega, _, rfl, hm.fin0⟩
    · refine e_tableIn (off := 128) C 133 d_Mo_count_5 (by omega) (by omega) (by omega) (by rw [s_5_]; rfl) (by decide) ?_
      refine e_iconst C d_Mo_count_133 ?_
      refine e_istore_n C d_Mo_count_134 (by decide) rfl ?_
      refine e_iconst C d_Mo_count_135 ?_
      refine e_istore_n C d_Mo_count_136 (by decide) rfl ?_
      subst s_5_
      refine l_Mo_count C F (fun k a b => ?_) 16 0 0 (by omega) (by omega) (by omega) ?_
      · by_cases z : k < 8
        · have u1 := (hy.1 k a z).1
          by_cases q : k < sP S 3 0
          · have u2 := (hp.y.1.post hN.2 hG.2 ⟨a, q⟩).1
            have u3 := hp.y.2.1 k a q
            omega
          · have u2 := hp.y.2.2.2 k (by omega) z
            omega
        · have u1 := (hy.1 (k - 8) (by omega) (by omega)).2.1
          rw [show 8 + (k - 8) = k by omega] at u1
          by_cases q : k - 8 < sP S 3 0
          · have u2 := (hp.y.1.post hN.2 hG.2 (p := k - 8) ⟨by omega, q⟩).1
            have u3 := hp.y.2.1 (k - 8) (by omega) q
            omega
          · have u2 := hp.y.2.2.2 (k - 8) (by omega) (by omega)
            omega
      · refine ⟨?_, _, rfl, hm.fin0⟩
        exact grs_eq hN hy hp.y.2.2.2
    · refine e_tableIn (off := 155) C 160 d_Mo_count_5 (by omega) (by omega) (by omega) (by rw [s_5_]; rfl) (by decide) ?_
      refine e_aload_n C d_Mo_count_160 rfl ?_
      refine e_geti C fl_Mo_147 (by decide) rfl rfl d_Mo_count_161 (fun r_161 => ?_)
      try simp only [MF_f, MF_51, heN, heG, heS, heH, e55, e52, e2, ne_eq, Nat.reduceEqDiff, not_false_eq_true] at r_161 ⊢
      refine e_iret C F rfl d_Mo_count_164 (by omega) ?_
      subst s_5_
      simp only [Int.reduceEq, if_true, if_false]
      first | exact ⟨trivial, _, rfl, hm.fin0⟩ | exact ⟨rfl, _, rfl, hm.fin0⟩ | exact ⟨by omega, _, rfl, hm.fin0⟩
    · refine e_tableIn (off := 160) C 165 d_Mo_count_5 (by omega) (by omega) (by omega) (by rw [s_5_]; rfl) (by decide) ?_
      refine e_aload_n C d_Mo_count_165 rfl ?_
      refine e_geti C fl_Mo_236 (by decide) rfl rfl d_Mo_count_166 (fun r_166 => ?_)
      try simp only [MF_f, MF_51, heN, heG, heS, heH, e55, e52, e2, ne_eq, Nat.reduceEqDiff, not_false_eq_true] at r_166 ⊢
      refine e_iret C F rfl d_Mo_count_169 (by omega) ?_
      subst s_5_
      simp only [Int.reduceEq, if_true, if_false]
      first | exact ⟨trivial, _, rfl, hm.fin0⟩ | exact ⟨rfl, _, rfl, hm.fin0⟩ | exact ⟨by omega, _, rfl, hm.fin0⟩
    · refine e_tableIn (off := 165) C 170 d_Mo_count_5 (by omega) (by omega) (by omega) (by rw [s_5_]; rfl) (by decide) ?_
      refine e_aload_n C d_Mo_count_170 rfl ?_
      refine e_geti C fl_Mo_239 (by decide) rfl rfl d_Mo_count_171 (fun r_171 => ?_)
      try simp only [MF_f, MF_51, heN, heG, heS, heH, e55, e52, e2, ne_eq, Nat.reduceEqDiff, not_false_eq_true] at r_171 ⊢
      refine e_iret C F rfl d_Mo_count_174 (by omega) ?_
      subst s_5_
      simp only [Int.reduceEq, if_true, if_false]
      first | exact ⟨trivial, _, rfl, hm.fin0⟩ | exact ⟨rfl, _, rfl, hm.fin0⟩ | exact ⟨by omega, _, rfl, hm.fin0⟩
    · refine e_tableIn (off := 170) C 175 d_Mo_count_5 (by omega) (by omega) (by omega) (by rw [s_5_]; rfl) (by decide) ?_
      refine e_aload_n C d_Mo_count_175 rfl ?_
      refine e_geta C fl_Mo_137 (by decide) rfl rfl d_Mo_count_176 ?_
      refine e_iconst C d_Mo_count_179 ?_
      refine e_zald (n := 3) C (by decide) rfl (by decide) rfl rfl (by decide) (by omega) (by omega) d_Mo_count_180 (fun r_180 => ?_)
      try simp only [MF_f, MF_51, heN, heG, heS, heH, e55, e52, e2, ne_eq, Nat.reduceEqDiff, not_false_eq_true] at r_180 ⊢
      refine e_if_eq C 188 d_Mo_count_181 (by decide) (by omega) (fun c_181 => ?_) (fun c_181 => ?_)
      · refine e_iconst C d_Mo_count_188 ?_
        refine e_aload_n C d_Mo_count_189 rfl ?_
        refine e_geta C fl_Mo_137 (by decide) rfl rfl d_Mo_count_190 ?_
        refine e_iconst C d_Mo_count_193 ?_
        refine e_zald (n := 3) C (by decide) rfl (by decide) rfl rfl (by decide) (by omega) (by omega) d_Mo_count_194 (fun r_194 => ?_)
        try simp only [MF_f, MF_51, heN, heG, heS, heH, e55, e52, e2, ne_eq, Nat.reduceEqDiff, not_false_eq_true] at r_194 ⊢
        refine e_if_eq C 202 d_Mo_count_195 (by decide) (by omega) (fun c_195 => ?_) (fun c_195 => ?_)
        · refine e_iconst C d_Mo_count_202 ?_
          refine e_iadd C d_Mo_count_203 ?_
          refine e_aload_n C d_Mo_count_204 rfl ?_
          refine e_geta C fl_Mo_137 (by decide) rfl rfl d_Mo_count_205 ?_
          refine e_iconst C d_Mo_count_208 ?_
          refine e_zald (n := 3) C (by decide) rfl (by decide) rfl rfl (by decide) (by omega) (by omega) d_Mo_count_209 (fun r_209 => ?_)
          try simp only [MF_f, MF_51, heN, heG, heS, heH, e55, e52, e2, ne_eq, Nat.reduceEqDiff, not_false_eq_true] at r_209 ⊢
          refine e_if_eq C 217 d_Mo_count_210 (by decide) (by omega) (fun c_210 => ?_) (fun c_210 => ?_)
          · refine e_iconst C d_Mo_count_217 ?_
            refine e_iadd C d_Mo_count_218 ?_
            refine e_iret C F rfl d_Mo_count_219 (by omega) ?_
            subst s_5_
            simp only [Int.reduceEq, if_true, if_false]
            first | exact ⟨trivial, _, rfl, hm.fin0⟩ | exact ⟨rfl, _, rfl, hm.fin0⟩ | exact ⟨by omega, _, rfl, hm.fin0⟩
          · refine e_iconst C d_Mo_count_213 ?_
            refine e_goto C 218 d_Mo_count_214 (by decide) ?_
            refine e_iadd C d_Mo_count_218 ?_
            refine e_iret C F rfl d_Mo_count_219 (by omega) ?_
            subst s_5_
            simp only [Int.reduceEq, if_true, if_false]
            first | exact ⟨trivial, _, rfl, hm.fin0⟩ | exact ⟨rfl, _, rfl, hm.fin0⟩ | exact ⟨by omega, _, rfl, hm.fin0⟩
        · refine e_iconst C d_Mo_count_198 ?_
          refine e_goto C 203 d_Mo_count_199 (by decide) ?_
          refine e_iadd C d_Mo_count_203 ?_
          refine e_aload_n C d_Mo_count_204 rfl ?_
          refine e_geta C fl_Mo_137 (by decide) rfl rfl d_Mo_count_205 ?_
          refine e_iconst C d_Mo_count_208 ?_
          refine e_zald (n := 3) C (by decide) rfl (by decide) rfl rfl (by decide) (by omega) (by omega) d_Mo_count_209 (fun r_209 => ?_)
          try simp only [MF_f, MF_51, heN, heG, heS, heH, e55, e52, e2, ne_eq, Nat.reduceEqDiff, not_false_eq_true] at r_209 ⊢
          refine e_if_eq C 217 d_Mo_count_210 (by decide) (by omega) (fun c_210 => ?_) (fun c_210 => ?_)
          · refine e_iconst C d_Mo_count_217 ?_
            refine e_iadd C d_Mo_count_218 ?_
            refine e_iret C F rfl d_Mo_count_219 (by omega) ?_
            subst s_5_
            simp only [Int.reduceEq, if_true, if_false]
            first | exact ⟨trivial, _, rfl, hm.fin0⟩ | exact ⟨rfl, _, rfl, hm.fin0⟩ | exact ⟨by omega, _, rfl, hm.fin0⟩
          · refine e_iconst C d_Mo_count_213 ?_
            refine e_goto C 218 d_Mo_count_214 (by decide) ?_
            refine e_iadd C d_Mo_count_218 ?_
            refine e_iret C F rfl d_Mo_count_219 (by omega) ?_
            subst s_5_
            simp only [Int.reduceEq, if_true, if_false]
            first | exact ⟨trivial, _, rfl, hm.fin0⟩ | exact ⟨rfl, _, rfl, hm.fin0⟩ | exact ⟨by omega, _, rfl, hm.fin0⟩
      · refine e_iconst C d_Mo_count_184 ?_
        refine e_goto C 189 d_Mo_count_185 (by decide) ?_
        refine e_aload_n C d_Mo_count_189 rfl ?_
        refine e_geta C fl_Mo_137 (by decide) rfl rfl d_Mo_count_190 ?_
        refine e_iconst C d_Mo_count_193 ?_
        refine e_zald (n := 3) C (by decide) rfl (by decide) rfl rfl (by decide) (by omega) (by omega) d_Mo_count_194 (fun r_194 => ?_)
        try simp only [MF_f, MF_51, heN, heG, heS, heH, e55, e52, e2, ne_eq, Nat.reduceEqDiff, not_false_eq_true] at r_194 ⊢
        refine e_if_eq C 202 d_Mo_count_195 (by decide) (by omega) (fun c_195 => ?_) (fun c_195 => ?_)
        · refine e_iconst C d_Mo_count_202 ?_
          refine e_iadd C d_Mo_count_203 ?_
          refine e_aload_n C d_Mo_count_204 rfl ?_
          refine e_geta C fl_Mo_137 (by decide) rfl rfl d_Mo_count_205 ?_
          refine e_iconst C d_Mo_count_208 ?_
          refine e_zald (n := 3) C (by decide) rfl (by decide) rfl rfl (by decide) (by omega) (by omega) d_Mo_count_209 (fun r_209 => ?_)
          try simp only [MF_f, MF_51, heN, heG, heS, heH, e55, e52, e2, ne_eq, Nat.reduceEqDiff, not_false_eq_true] at r_209 ⊢
          refine e_if_eq C 217 d_Mo_count_210 (by decide) (by omega) (fun c_210 => ?_) (fun c_210 => ?_)
          · refine e_iconst C d_Mo_count_217 ?_
            refine e_iadd C d_Mo_count_218 ?_
            refine e_iret C F rfl d_Mo_count_219 (by omega) ?_
            subst s_5_
            simp only [Int.reduceEq, if_true, if_false]
            first | exact ⟨trivial, _, rfl, hm.fin0⟩ | exact ⟨rfl, _, rfl, hm.fin0⟩ | exact ⟨by omega, _, rfl, hm.fin0⟩
          · refine e_iconst C d_Mo_count_213 ?_
            refine e_goto C 218 d_Mo_count_214 (by decide) ?_
            refine e_iadd C d_Mo_count_218 ?_
            refine e_iret C F rfl d_Mo_count_219 (by omega) ?_
            subst s_5_
            simp only [Int.reduceEq, if_true, if_false]
            first | exact ⟨trivial, _, rfl, hm.fin0⟩ | exact ⟨rfl, _, rfl, hm.fin0⟩ | exact ⟨by omega, _, rfl, hm.fin0⟩
        · refine e_iconst C d_Mo_count_198 ?_
          refine e_goto C 203 d_Mo_count_199 (by decide) ?_
          refine e_iadd C d_Mo_count_203 ?_
          refine e_aload_n C d_Mo_count_204 rfl ?_
          refine e_geta C fl_Mo_137 (by decide) rfl rfl d_Mo_count_205 ?_
          refine e_iconst C d_Mo_count_208 ?_
          refine e_zald (n := 3) C (by decide) rfl (by decide) rfl rfl (by decide) (by omega) (by omega) d_Mo_count_209 (fun r_209 => ?_)
          try simp only [MF_f, MF_51, heN, heG, heS, heH, e55, e52, e2, ne_eq, Nat.reduceEqDiff, not_false_eq_true] at r_209 ⊢
          refine e_if_eq C 217 d_Mo_count_210 (by decide) (by omega) (fun c_210 => ?_) (fun c_210 => ?_)
          · refine e_iconst C d_Mo_count_217 ?_
            refine e_iadd C d_Mo_count_218 ?_
            refine e_iret C F rfl d_Mo_count_219 (by omega) ?_
            subst s_5_
            simp only [Int.reduceEq, if_true, if_false]
            first | exact ⟨trivial, _, rfl, hm.fin0⟩ | exact ⟨rfl, _, rfl, hm.fin0⟩ | exact ⟨by omega, _, rfl, hm.fin0⟩
          · refine e_iconst C d_Mo_count_213 ?_
            refine e_goto C 218 d_Mo_count_214 (by decide) ?_
            refine e_iadd C d_Mo_count_218 ?_
            refine e_iret C F rfl d_Mo_count_219 (by omega) ?_
            subst s_5_
            simp only [Int.reduceEq, if_true, if_false]
            first | exact ⟨trivial, _, rfl, hm.fin0⟩ | exact ⟨rfl, _, rfl, hm.fin0⟩ | exact ⟨by omega, _, rfl, hm.fin0⟩
    · refine e_tableIn (off := 215) C 220 d_Mo_count_5 (by omega) (by omega) (by omega) (by rw [s_5_]; rfl) (by decide) ?_
      refine e_aload_n C d_Mo_count_220 rfl ?_
      refine e_callIV C ok_Mo_sleptOnes lk_Mo_354 (o := 1) (by decide) rfl [] rfl rfl (Nat.le_of_ble_eq_true rfl) (by decide) (Nat.le_of_ble_eq_true rfl) d_Mo_count_221 (k_Mo_sleptOnes hM hG hy) (fun v_221 u_221 q_221 h_221 => ?_)
      obtain ⟨h_221, rfl⟩ := h_221
      refine e_iret C F rfl d_Mo_count_224 (by omega) ?_
      subst s_5_
      simp only [Int.reduceEq, if_true, if_false]
      first | exact ⟨trivial, _, rfl, hm.fin0⟩ | exact ⟨rfl, _, rfl, hm.fin0⟩ | exact ⟨by omega, _, rfl, hm.fin0⟩
