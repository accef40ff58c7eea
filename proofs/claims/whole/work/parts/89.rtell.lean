/-! the class's Reader: what a text tells -/
def XZ (X x : Cs) : Prop := X 4 = x 4 ∧ X 5 = x 5 ∧ X 10 0 = x 10 0 ∧ X 15 0 = x 15 0 ∧ X 16 0 = x 16 0 ∧ X 2 0 = x 2 0
theorem XZ.wu {X x : Cs} {f : Nat} {k v : Int} (h : XZ X x) (h4 : f ≠ 4) (h5 : f ≠ 5) (h10 : f ≠ 10) (h15 : f ≠ 15) (h16 : f ≠ 16) (h2 : f ≠ 2 := by decide) : XZ (cu X f k v) x := ⟨by rw [cf_f (by omega)]; exact h.1, by rw [cf_f (by omega)]; exact h.2.1, by rw [cu_f (by omega)]; exact h.2.2.1, by rw [cu_f (by omega)]; exact h.2.2.2.1, by rw [cu_f (by omega)]; exact h.2.2.2.2.1, by rw [cu_f (by omega)]; exact h.2.2.2.2.2⟩
theorem XZ.wb {X x : Cs} {f : Nat} {k v : Int} (h : XZ X x) : XZ (cu X f k v) (cu x f k v) := by
  obtain ⟨h1, h2, h3, h4, h5, h6⟩ := h
  refine ⟨?_, ?_, ?_, ?_, ?_, ?_⟩
  · funext j; simp only [cu_if]; rw [h1]
  · funext j; simp only [cu_if]; rw [h2]
  · simp only [cu_if]; rw [h3]
  · simp only [cu_if]; rw [h4]
  · simp only [cu_if]; rw [h5]
  · simp only [cu_if]; rw [h6]
theorem XZ.wg {X x : Cs} {f : Nat} {k v : Int} (h : XZ X x) (h4 : f ≠ 4) (h5 : f ≠ 5) (h10 : f ≠ 10) (h15 : f ≠ 15) (h16 : f ≠ 16) (h2 : f ≠ 2 := by decide) : XZ X (cu x f k v) := ⟨by rw [cf_f (by omega)]; exact h.1, by rw [cf_f (by omega)]; exact h.2.1, by rw [cu_f (by omega)]; exact h.2.2.1, by rw [cu_f (by omega)]; exact h.2.2.2.1, by rw [cu_f (by omega)]; exact h.2.2.2.2.1, by rw [cu_f (by omega)]; exact h.2.2.2.2.2⟩
theorem XZ.note {X x : Cs} {f a : Int} (h : XZ X x) : XZ (noteX X f a) (noteX x f a) := by
  unfold noteX
  rw [h.2.2.2.1]
  split
  · exact h.wb.wb
  · exact h
theorem XZ.xs {X X' x : Cs} (h : XZ X x) (hs : XS X X') : XZ X' x := ⟨by rw [hs 4 (by decide) (by decide) (by decide) (by decide) (by decide)]; exact h.1, by rw [hs 5 (by decide) (by decide) (by decide) (by decide) (by decide)]; exact h.2.1, by rw [hs 10 (by decide) (by decide) (by decide) (by decide) (by decide)]; exact h.2.2.1, by rw [hs 15 (by decide) (by decide) (by decide) (by decide) (by decide)]; exact h.2.2.2.1, by rw [hs 16 (by decide) (by decide) (by decide) (by decide) (by decide)]; exact h.2.2.2.2.1, by rw [hs 2 (by decide) (by decide) (by decide) (by decide) (by decide)]; exact h.2.2.2.2.2⟩
/-- a FAULT is told, whatever else was put in -/
def FZ (σ : St) (fp : Int × Int) (u : St) : Prop := ∃ X P l c : Cs, u = RZ σ X P l c ∧ X 12 0 = fp.1 ∧ X 2 0 = fp.2 ∧ P 1 0 = 0 ∧ RdC c
theorem FLx.fz {σ : St} {fp : Int × Int} {x P l c : Cs} {u : St} (h : FLx σ fp x P l c u) (hP : P 1 0 = 0) (hc : RdC c) : FZ σ fp u := by
  obtain ⟨x', e, a, b⟩ := h
  exact ⟨x', P, l, c, e, a, b, hP, hc⟩
section RT
variable {T : Tab} {σ : St} {X x P l c : Cs} {t : Int}
theorem k_Re_takeInt {most : Int} (h : TH T σ X t) (hx : XZ X x) (hm : R32 most) : CtI M_Re_takeInt [.inr (.inr (3, 0)), .inl most] (RZ σ X P l c) (fun r u => (∃ fp, pInt T most t x = .inl fp ∧ r = 0 ∧ FLx σ fp X P l c u) ∨ (∃ x' X', pInt T most t x = .inr (t + 1, x') ∧ r = 1 ∧ t < 400 ∧ T.1 t = 131 ∧ u = RZ σ X' P l c ∧ XZ X' x' ∧ X' 11 0 = t + 1 ∧ X' 13 0 = T.2.2.1 t)) := by
  intro g C F
  have e := h.2.2.1
  have h0 := h.2.2.2.1
  have e61 := h.tok.2.1
  have hp := h.1.p t
  unfold pInt at F
  refine e_aload_n C d_Re_takeInt_0 rfl ?_
  refine e_geto (o2 := 6) C fl_Re_28 (by decide) rfl rfl rfl d_Re_takeInt_1 ?_
  refine e_geta C fl_Re_143 (by decide) rfl rfl d_Re_takeInt_4 ?_
  refine e_aload_n C d_Re_takeInt_7 rfl ?_
  refine e_geti C fl_Re_60 (by decide) rfl rfl d_Re_takeInt_8 (fun r_8 => ?_)
  try simp only [RZ_3, RZ_6, RZ_w3, wr_so, e, e61] at r_8 ⊢
  refine e_iald (n := 402) C (by decide) rfl (by decide) rfl rfl (by decide) (by omega) (by omega) d_Re_takeInt_11 (fun r_11 => ?_)
  try simp only [RZ_3, RZ_6, RZ_w3, wr_so, e, e61] at r_11 ⊢
  refine e_istore_n C d_Re_takeInt_12 (by decide) rfl ?_
  refine e_aload_n C d_Re_takeInt_13 rfl ?_
  refine e_aload_n C d_Re_takeInt_14 rfl ?_
  refine e_geto (o2 := 6) C fl_Re_28 (by decide) rfl rfl rfl d_Re_takeInt_15 ?_
  refine e_geta C fl_Re_215 (by decide) rfl rfl d_Re_takeInt_18 ?_
  refine e_aload_n C d_Re_takeInt_21 rfl ?_
  refine e_geti C fl_Re_60 (by decide) rfl rfl d_Re_takeInt_22 (fun r_22 => ?_)
  try simp only [RZ_3, RZ_6, RZ_w3, wr_so, e, e61] at r_22 ⊢
  refine e_iald (n := 402) C (by decide) rfl (by decide) rfl rfl (by decide) (by omega) (by omega) d_Re_takeInt_25 (fun r_25 => ?_)
  try simp only [RZ_3, RZ_6, RZ_w3, wr_so, e, e61] at r_25 ⊢
  refine e_puti C fp_Re_124 (by decide) rfl rfl (by omega) d_Re_takeInt_26 ?_
  try simp only [RZ_3, RZ_6, RZ_w3, wr_so, e, e61]
  refine e_aload_n C d_Re_takeInt_29 rfl ?_
  refine e_sipush C d_Re_takeInt_30 (by decide) ?_
  refine e_callIV C ok_Re_take lk_Re_108 (o := 3) (by decide) rfl [_] rfl rfl (Nat.le_of_ble_eq_true rfl) (by decide) (Nat.le_of_ble_eq_true rfl) d_Re_takeInt_33 (k_Re_take (h.x (x' := cu X 13 0 (σ 6 2 t)) (cu_f (by decide))) (by omega)) (fun v_33 u_33 q_33 h_33 => ?_)
  refine e_if_ne C 41 d_Re_takeInt_36 (by decide) (by omega) (fun c_36 => ?_) (fun c_36 => ?_)
  · obtain ⟨a1, a2, a3, a4, rfl⟩ := h_33.resolve_left (fun z => by obtain ⟨fp, _, z2, _⟩ := z; exact c_36 z2)
    rw [a1, bnd_r] at F
    have e62 := h.tok.2.2.1 a4
    have hv := h.1.2.2.2.1 t a4
    refine e_aload_n C d_Re_takeInt_41 rfl ?_
    refine e_geti C fl_Re_124 (by decide) rfl rfl d_Re_takeInt_42 (fun r_42 => ?_)
    try simp only [RZ_3, RZ_6, RZ_w3, wr_so, e, e61] at r_42 ⊢
    rw [cu_f (by decide), cu_s, e62] at r_42 ⊢
    refine e_iload_n C d_Re_takeInt_45 rfl ?_
    refine e_icmp_le C 55 d_Re_takeInt_46 (by decide) (by omega) (by omega) (fun c_46 => ?_) (fun c_46 => ?_)
    · rw [if_neg (by omega)] at F
      refine e_iconst C d_Re_takeInt_55 ?_
      refine e_zret C F rfl d_Re_takeInt_56 (by omega) ?_
      first | exact Or.inr ⟨_, _, rfl, rfl, a3, a4, rfl, ((hx.wu (f := 13) (by decide) (by decide) (by decide) (by decide) (by decide)).wu (f := 11) (by decide) (by decide) (by decide) (by decide) (by decide)).note, by rw [noteX_f (by decide) (by decide), cu_s], by rw [noteX_f (by decide) (by decide), cu_f (by decide), cu_s]⟩ | exact Or.inr ⟨_, _, rfl, rfl, a3, a4, rfl, (hx.wu (f := 13) (by decide) (by decide) (by decide) (by decide) (by decide)).wu (f := 11) (by decide) (by decide) (by decide) (by decide) (by decide), cu_s _ _ _ _, by rw [cu_f (by decide), cu_s]⟩
    · rw [if_pos (by omega)] at F
      refine e_aload_n C d_Re_takeInt_49 rfl ?_
      refine e_iconst C d_Re_takeInt_50 ?_
      refine e_iload_n C d_Re_takeInt_51 rfl ?_
      refine e_callVV C ok_Re_note lk_Re_151 (o := 3) (by decide) rfl [_, _] rfl rfl (Nat.le_of_ble_eq_true rfl) (by decide) (Nat.le_of_ble_eq_true rfl) d_Re_takeInt_52 (k_Re_note (by omega) (by omega)) (fun u_52 h_52 => ?_)
      subst h_52
      refine e_iconst C d_Re_takeInt_55 ?_
      refine e_zret C F rfl d_Re_takeInt_56 (by omega) ?_
      first | exact Or.inr ⟨_, _, rfl, rfl, a3, a4, rfl, ((hx.wu (f := 13) (by decide) (by decide) (by decide) (by decide) (by decide)).wu (f := 11) (by decide) (by decide) (by decide) (by decide) (by decide)).note, by rw [noteX_f (by decide) (by decide), cu_s], by rw [noteX_f (by decide) (by decide), cu_f (by decide), cu_s]⟩ | exact Or.inr ⟨_, _, rfl, rfl, a3, a4, rfl, (hx.wu (f := 13) (by decide) (by decide) (by decide) (by decide) (by decide)).wu (f := 11) (by decide) (by decide) (by decide) (by decide) (by decide), cu_s _ _ _ _, by rw [cu_f (by decide), cu_s]⟩
  · obtain ⟨fp, a1, a2, a3⟩ := h_33.resolve_right (fun z => by have := z.2.1; omega)
    rw [a1, bnd_l] at F
    refine e_iconst C d_Re_takeInt_39 ?_
    refine e_zret C F rfl d_Re_takeInt_40 (by omega) ?_
    exact Or.inl ⟨fp, rfl, rfl, a3⟩
theorem l_Re_newName {g : Mach} {a p : Int} (C : Cx M_Re_takeNewName g) (hp : R32 p) (h10 : 0 ≤ X 10 0 ∧ X 10 0 ≤ 20) (h14 : X 14 0 = a) (ha : R64 a) (hE : Ev g 77 [some (.inr (.inr (3, 0))), some (.inl p), none] [] (RZ σ (twx X a p) P l c)) :
    ∀ (n : Nat) (i : Int) (Y : Cs), 0 ≤ i → i + n = X 10 0 → (Y = X ∨ Y = noteX X 3 p) → (if fnd (fun k => X 4 k == a) n i = -2 then Y else noteX Y 3 p) = twx X a p → Ev g 43 [some (.inr (.inr (3, 0))), some (.inl p), some (.inl i)] [] (RZ σ Y P l c) := by
  intro n
  induction n with
  | zero =>
    intro i Y h0 h1 hY hf
    have e10 : Y 10 0 = X 10 0 := by rcases hY with rfl | rfl <;> first | rfl | rw [noteX_f (by decide) (by decide)]
    have hf : Y = twx X a p := hf
    refine e_iload_n C d_Re_takeNewName_43 rfl ?_
    refine e_aload_n C d_Re_takeNewName_44 rfl ?_
    refine e_geti C fl_Re_56 (by decide) rfl rfl d_Re_takeNewName_45 (fun r_45 => ?_)
    try simp only [RZ_3, e10] at r_45 ⊢
    refine e_icmp_ge C 77 d_Re_takeNewName_48 (by decide) (by omega) (by omega) (fun c_48 => ?_) (fun c_48 => ?_)
    · refine e_drop 2 ?_
      rw [hf]
      exact hE
    · exact absurd h1 (by omega)
  | succ n ih =>
    intro i Y h0 h1 hY hf
    have e10 : Y 10 0 = X 10 0 := by rcases hY with rfl | rfl <;> first | rfl | rw [noteX_f (by decide) (by decide)]
    have e4 : Y 4 = X 4 := by rcases hY with rfl | rfl <;> first | rfl | rw [noteX_f (by decide) (by decide)]
    have e14 : Y 14 0 = a := by rcases hY with rfl | rfl <;> first | exact h14 | (rw [noteX_f (by decide) (by decide)]; exact h14)
    have hfs := fnd_some (q := fun k => X 4 k == a) n (i + 1) (by omega)
    unfold fnd at hf
    refine e_iload_n C d_Re_takeNewName_43 rfl ?_
    refine e_aload_n C d_Re_takeNewName_44 rfl ?_
    refine e_geti C fl_Re_56 (by decide) rfl rfl d_Re_takeNewName_45 (fun r_45 => ?_)
    try simp only [RZ_3, e10, e14, e4] at r_45 ⊢
    refine e_icmp_ge C 77 d_Re_takeNewName_48 (by decide) (by omega) (by omega) (fun c_48 => ?_) (fun c_48 => ?_)
    · exact absurd h1 (by omega)
    · refine e_aload_n C d_Re_takeNewName_51 rfl ?_
      refine e_geta C fl_Re_32 (by decide) rfl rfl d_Re_takeNewName_52 ?_
      refine e_iload_n C d_Re_takeNewName_55 rfl ?_
      refine e_lald (n := 20) C (by decide) rfl (by decide) rfl rfl (by decide) (by omega) (by omega) d_Re_takeNewName_56 (fun r_56 => ?_)
      try simp only [RZ_3, e10, e14, e4] at r_56 ⊢
      refine e_aload_n C d_Re_takeNewName_57 rfl ?_
      refine e_getl C fl_Re_114 (by decide) rfl rfl d_Re_takeNewName_58 (fun r_58 => ?_)
      try simp only [RZ_3, e10, e14, e4] at r_58 ⊢
      refine e_lcmp C d_Re_takeNewName_61 r_56 ha ?_
      refine e_if_ne C 71 d_Re_takeNewName_62 (by decide) (z_cmp_r _ _) (fun c_62 => ?_) (fun c_62 => ?_)
      · have e : ¬ X 4 i = a := fun z => c_62 (z_cmp_eq.mpr z)
        rw [if_neg (fun z => e (eq_of_beq z))] at hf
        refine e_iinc C d_Re_takeNewName_71 rfl (by decide) rfl ?_
        refine e_goto C 43 d_Re_takeNewName_74 (by decide) ?_
        first | exact ih (i + 1) _ (by omega) (by omega) (Or.inr hnn) (by rw [noteX_2 (by decide), hf]; split <;> rfl) | exact ih (i + 1) _ (by omega) (by omega) hY hf
      · have e := z_cmp_eq.mp c_62
        rw [if_pos (beq_iff_eq.mpr e), if_neg (by omega)] at hf
        refine e_aload_n C d_Re_takeNewName_65 rfl ?_
        refine e_iconst C d_Re_takeNewName_66 ?_
        refine e_iload_n C d_Re_takeNewName_67 rfl ?_
        refine e_callVV C ok_Re_note lk_Re_151 (o := 3) (by decide) rfl [_, _] rfl rfl (Nat.le_of_ble_eq_true rfl) (by decide) (Nat.le_of_ble_eq_true rfl) d_Re_takeNewName_68 (k_Re_note (by omega) hp) (fun u_68 h_68 => ?_)
        subst h_68
        have hnn : noteX Y 3 p = noteX X 3 p := by rcases hY with rfl | rfl <;> first | rfl | exact noteX_2 (by decide)
        refine e_iinc C d_Re_takeNewName_71 rfl (by decide) rfl ?_
        refine e_goto C 43 d_Re_takeNewName_74 (by decide) ?_
        first | exact ih (i + 1) _ (by omega) (by omega) (Or.inr hnn) (by rw [noteX_2 (by decide), hf]; split <;> rfl) | exact ih (i + 1) _ (by omega) (by omega) hY hf
set_option maxHeartbeats 1000000 in
theorem k_Re_takeNewName {s : Int} (h : TH T σ X t) (hx : XZ X x) (h10 : 0 ≤ x 10 0 ∧ x 10 0 < 20) : CtI M_Re_takeNewName [.inr (.inr (3, 0))] (RZ σ X P l c) (fun r u => (∃ fp, pMu T 130 t = .inl fp ∧ r = 0 ∧ FLx σ fp X P l c u) ∨ (∃ X', pMu T 130 t = .inr (t + 1) ∧ r = 1 ∧ t < 400 ∧ T.1 t = 130 ∧ u = RZ σ X' P l c ∧ XZ X' (nameX T x t s) ∧ X' 11 0 = t + 1 ∧ X' 14 0 = T.2.2.2.1 t)) := by
  intro g C F
  have e := h.2.2.1
  have h0 := h.2.2.2.1
  have e61 := h.tok.2.1
  have hp := h.1.p t
  have x4 := hx.1
  have x10 := hx.2.2.1
  refine e_aload_n C d_Re_takeNewName_0 rfl ?_
  refine e_geto (o2 := 6) C fl_Re_28 (by decide) rfl rfl rfl d_Re_takeNewName_1 ?_
  refine e_geta C fl_Re_143 (by decide) rfl rfl d_Re_takeNewName_4 ?_
  refine e_aload_n C d_Re_takeNewName_7 rfl ?_
  refine e_geti C fl_Re_60 (by decide) rfl rfl d_Re_takeNewName_8 (fun r_8 => ?_)
  try simp only [RZ_3, RZ_6, RZ_w3, wr_so, e, e61] at r_8 ⊢
  refine e_iald (n := 402) C (by decide) rfl (by decide) rfl rfl (by decide) (by omega) (by omega) d_Re_takeNewName_11 (fun r_11 => ?_)
  try simp only [RZ_3, RZ_6, RZ_w3, wr_so, e, e61] at r_11 ⊢
  refine e_istore_n C d_Re_takeNewName_12 (by decide) rfl ?_
  refine e_aload_n C d_Re_takeNewName_13 rfl ?_
  refine e_aload_n C d_Re_takeNewName_14 rfl ?_
  refine e_geto (o2 := 6) C fl_Re_28 (by decide) rfl rfl rfl d_Re_takeNewName_15 ?_
  refine e_geta C fl_Re_146 (by decide) rfl rfl d_Re_takeNewName_18 ?_
  refine e_aload_n C d_Re_takeNewName_21 rfl ?_
  refine e_geti C fl_Re_60 (by decide) rfl rfl d_Re_takeNewName_22 (fun r_22 => ?_)
  try simp only [RZ_3, RZ_6, RZ_w3, wr_so, e, e61] at r_22 ⊢
  refine e_lald (n := 402) C (by decide) rfl (by decide) rfl rfl (by decide) (by omega) (by omega) d_Re_takeNewName_25 (fun r_25 => ?_)
  try simp only [RZ_3, RZ_6, RZ_w3, wr_so, e, e61] at r_25 ⊢
  refine e_putl C fp_Re_114 (by decide) rfl rfl r_25 d_Re_takeNewName_26 ?_
  try simp only [RZ_3, RZ_6, RZ_w3, wr_so, e, e61]
  refine e_aload_n C d_Re_takeNewName_29 rfl ?_
  refine e_sipush C d_Re_takeNewName_30 (by decide) ?_
  refine e_callIV C ok_Re_take lk_Re_108 (o := 3) (by decide) rfl [_] rfl rfl (Nat.le_of_ble_eq_true rfl) (by decide) (Nat.le_of_ble_eq_true rfl) d_Re_takeNewName_33 (k_Re_take (h.x (x' := cu X 14 0 (σ 6 3 t)) (cu_f (by decide))) (by omega)) (fun v_33 u_33 q_33 h_33 => ?_)
  refine e_if_ne C 41 d_Re_takeNewName_36 (by decide) (by omega) (fun c_36 => ?_) (fun c_36 => ?_)
  · obtain ⟨a1, a2, a3, a4, rfl⟩ := h_33.resolve_left (fun z => by obtain ⟨fp, _, z2, _⟩ := z; exact c_36 z2)
    rw [a1] at F
    have e63 := h.tok.2.2.2 a4
    rw [e63] at r_25 ⊢
    refine e_iconst C d_Re_takeNewName_41 ?_
    refine e_istore_n C d_Re_takeNewName_42 (by decide) rfl ?_
    have hX2 : XZ (cu (cu X 14 0 (T.2.2.2.1 t)) 11 0 (t + 1)) x := (hx.wu (f := 14) (by decide) (by decide) (by decide) (by decide) (by decide)).wu (f := 11) (by decide) (by decide) (by decide) (by decide) (by decide)
    have g14 : cu (cu X 14 0 (T.2.2.2.1 t)) 11 0 (t + 1) 14 0 = T.2.2.2.1 t := by rw [cu_f (by decide), cu_s]
    have g11 : cu (cu X 14 0 (T.2.2.2.1 t)) 11 0 (t + 1) 11 0 = t + 1 := cu_s _ _ _ _
    generalize cu (cu X 14 0 (T.2.2.2.1 t)) 11 0 (t + 1) = X2 at hX2 g14 g11
    have etw : XZ (twx X2 (T.2.2.2.1 t) (T.2.1 t)) (twx x (T.2.2.2.1 t) (T.2.1 t)) := by
      unfold twx
      rw [hX2.1, hX2.2.2.1]
      split
      · exact hX2
      · exact hX2.note
    have ef : ∀ f, f ≠ 15 → f ≠ 16 → twx X2 (T.2.2.2.1 t) (T.2.1 t) f = X2 f := by
      intro f f1 f2
      unfold twx
      split
      · rfl
      · exact noteX_f f1 f2
    refine l_Re_newName (a := T.2.2.2.1 t) (p := T.2.1 t) C (by omega) (by rw [hX2.2.2.1]; omega) g14 r_25 ?_ (X2 10 0).toNat 0 X2 (by omega) (by rw [hX2.2.2.1]; omega) (Or.inl rfl) (by unfold twx; split <;> rfl)
    have t10 : twx X2 (T.2.2.2.1 t) (T.2.1 t) 10 0 = x 10 0 := by rw [ef 10 (by decide) (by decide)]; exact hX2.2.2.1
    have t14 : twx X2 (T.2.2.2.1 t) (T.2.1 t) 14 0 = T.2.2.2.1 t := by rw [ef 14 (by decide) (by decide)]; exact g14
    refine e_aload_n C d_Re_takeNewName_77 rfl ?_
    refine e_geti C fl_Re_56 (by decide) rfl rfl d_Re_takeNewName_78 (fun r_78 => ?_)
    try simp only [RZ_3, RZ_w3, wr_so, t10, t14, cu_s, cu_f, ne_eq, Nat.reduceEqDiff, not_false_eq_true] at r_78 ⊢
    refine e_aload_n C d_Re_takeNewName_81 rfl ?_
    refine e_geta C fl_Re_32 (by decide) rfl rfl d_Re_takeNewName_82 ?_
    refine e_alen (n := 20) C (by decide) rfl (by decide) rfl rfl d_Re_takeNewName_85 ?_
    refine e_icmp_ge C 109 d_Re_takeNewName_86 (by decide) (by omega) (by omega) (fun c_86 => ?_) (fun c_86 => ?_)
    · exact absurd h10.2 (by omega)
    · refine e_aload_n C d_Re_takeNewName_89 rfl ?_
      refine e_geta C fl_Re_32 (by decide) rfl rfl d_Re_takeNewName_90 ?_
      refine e_aload_n C d_Re_takeNewName_93 rfl ?_
      refine e_dup C d_Re_takeNewName_94 rfl ?_
      refine e_geti C fl_Re_56 (by decide) rfl rfl d_Re_takeNewName_95 (fun r_95 => ?_)
      try simp only [RZ_3, RZ_w3, wr_so, t10, t14, cu_s, cu_f, ne_eq, Nat.reduceEqDiff, not_false_eq_true] at r_95 ⊢
      refine e_dup_x1 C d_Re_takeNewName_98 rfl rfl ?_
      refine e_iconst C d_Re_takeNewName_99 ?_
      refine e_iadd C d_Re_takeNewName_100 ?_
      refine e_puti C fp_Re_56 (by decide) rfl rfl (by omega) d_Re_takeNewName_101 ?_
      try simp only [RZ_3, RZ_w3, wr_so, t10, t14, cu_s, cu_f, ne_eq, Nat.reduceEqDiff, not_false_eq_true]
      refine e_aload_n C d_Re_takeNewName_104 rfl ?_
      refine e_getl C fl_Re_114 (by decide) rfl rfl d_Re_takeNewName_105 (fun r_105 => ?_)
      try simp only [RZ_3, RZ_w3, wr_so, t10, t14, cu_s, cu_f, ne_eq, Nat.reduceEqDiff, not_false_eq_true] at r_105 ⊢
      refine e_last (n := 20) C (by decide) rfl (by decide) rfl rfl (by decide) (by omega) (by omega) r_25 d_Re_takeNewName_108 ?_
      try simp only [RZ_3, RZ_w3, wr_so, t10, t14, cu_s, cu_f, ne_eq, Nat.reduceEqDiff, not_false_eq_true]
      refine e_iconst C d_Re_takeNewName_109 ?_
      refine e_zret C F rfl d_Re_takeNewName_110 (by omega) ?_
      refine Or.inr ⟨_, rfl, rfl, a3, a4, rfl, ?_, ?_, ?_⟩
      · unfold nameX
        exact ((etw.wb.wb).wg (by decide) (by decide) (by decide) (by decide) (by decide)).wg (by decide) (by decide) (by decide) (by decide) (by decide)
      · rw [cu_f (by decide), cu_f (by decide), ef 11 (by decide) (by decide)]; exact g11
      · rw [cu_f (by decide), cu_f (by decide), ef 14 (by decide) (by decide)]; exact g14
  · obtain ⟨fp, a1, a2, a3⟩ := h_33.resolve_right (fun z => by have := z.2.1; omega)
    rw [a1] at F
    refine e_iconst C d_Re_takeNewName_39 ?_
    refine e_zret C F rfl d_Re_takeNewName_40 (by omega) ?_
    exact Or.inl ⟨fp, rfl, rfl, a3⟩
end RT
