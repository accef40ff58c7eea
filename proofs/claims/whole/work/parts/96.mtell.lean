/-! the reference's tells: small methods, what they may change -/
/-- what reading may change, on side s -/
def PF (s : Int) (m m' : Cs) : Prop := (∀ f, f ≤ 10 ∨ (17 ≤ f ∧ f ≤ 19) ∨ 47 ≤ f → m' f = m f) ∧ ∀ f k, 24 ≤ f → f ≤ 44 → f ≠ 36 → f ≠ 42 → (k < szS f * s ∨ szS f * s + szS f ≤ k) → m' f k = m f k
theorem PF.rf (s : Int) (m : Cs) : PF s m m := ⟨fun _ _ => rfl, fun _ _ _ _ _ _ _ => rfl⟩
theorem PF.tr {s : Int} {m m1 m2 : Cs} (h : PF s m m1) (h2 : PF s m1 m2) : PF s m m2 := ⟨fun f a => (h2.1 f a).trans (h.1 f a), fun f k a b c d e => (h2.2 f k a b c d e).trans (h.2 f k a b c d e)⟩
theorem PF.w1 {s : Int} {m m' : Cs} {f : Nat} {k v : Int} (h : PF s m m') (hf : (11 ≤ f ∧ f ≤ 16) ∨ (20 ≤ f ∧ f ≤ 23) ∨ f = 36 ∨ f = 42 ∨ f = 45 ∨ f = 46) : PF s m (cu m' f k v) := ⟨fun g a => by rw [cf_f (by omega)]; exact h.1 g a, fun g j a b c d e => by rw [cu_f (by omega)]; exact h.2 g j a b c d e⟩
theorem PF.w2 {s : Int} {m m' : Cs} {f : Nat} {k v : Int} (h : PF s m m') (hf : 24 ≤ f ∧ f ≤ 44) (h1 : szS f * s ≤ k) (h2 : k < szS f * s + szS f) : PF s m (cu m' f k v) := ⟨fun g a => by rw [cf_f (by omega)]; exact h.1 g a, fun g j a b c d e => by
  rw [cu_if]
  by_cases w : g = f ∧ j = k
  · exfalso; rw [w.1, w.2] at e; omega
  · rw [if_neg w]; exact h.2 g j a b c d e⟩
theorem PF.fl {s : Int} {m m' : Cs} {f p : Int} (h : PF s m m') : PF s m (flt m' f p) := by unfold flt; exact (h.w1 (by omega)).w1 (by omega)
theorem PF.lo {s : Int} {m m' : Cs} (h : PF s m m') : ∀ f, f ≤ 10 → m' f = m f := fun f hf => h.1 f (by omega)
theorem PF.mx {s c0 : Int} {m0 m m' : Cs} (h : PF s m0 m) (hx : MXr s c0 m m') (hc : 420 * s ≤ c0) : PF s m0 m' := by
  refine h.tr ⟨fun f hf => hx.1 f (by omega) (by omega) (by omega) (by omega) (by omega) (by omega) (by omega) (by omega) (by omega), fun f k a b c d e => ?_⟩
  by_cases w : f = 43 ∨ f = 44
  · have e : k < 420 * s ∨ 420 * s + 420 ≤ k := by
      rcases w with rfl | rfl
      · exact e
      · exact e
    have := hx.2 k (by omega)
    rcases w with rfl | rfl
    · exact this.1
    · exact this.2
  · rw [hx.1 f (by omega) (by omega) (by omega) (by omega) (by omega) (by omega) (by omega) (by omega) (by omega)]
def noteM (m : Cs) (f a : Int) : Cs := if m 15 0 = 0 then cu (cu m 15 0 f) 16 0 a else m
theorem noteM_f {m : Cs} {f a : Int} {g : Nat} (h : g ≠ 15) (h2 : g ≠ 16) : noteM m f a g = m g := by
  unfold noteM
  split
  · rw [cf_f h2, cf_f h]
  · rfl
theorem PF.nt {s : Int} {m m' : Cs} {f a : Int} (h : PF s m m') : PF s m (noteM m' f a) := by
  unfold noteM
  split
  · exact (h.w1 (by omega)).w1 (by omega)
  · exact h
/-- a FAULT stands -/
def Ft (fp : Int × Int) (m : Cs) : Prop := m 13 0 = fp.1 ∧ m 14 0 = fp.2 ∧ 1 ≤ fp.1 ∧ (0 ≤ m 11 0 ∧ m 11 0 ≤ 400)
theorem Ft.w {fp : Int × Int} {m : Cs} {f : Nat} {k v : Int} (h : Ft fp m) (hf : f ≠ 11) (h1 : f ≠ 13) (h2 : f ≠ 14) : Ft fp (cu m f k v) := ⟨by rw [cu_f (by omega)]; exact h.1, by rw [cu_f (by omega)]; exact h.2.1, h.2.2.1, by rw [cu_f (by omega)]; exact h.2.2.2⟩
theorem Ft.f {fp : Int × Int} {m : Cs} (h : Ft fp m) : 1 ≤ m 13 0 := by rw [h.1]; exact h.2.2.1
theorem Ft.mk {T : Tab} {m : Cs} {t f p : Int} (h : MH T m t) (hf : 1 ≤ f) : Ft (f, p) (flt m f p) := by
  unfold flt
  exact ⟨by rw [cu_f (by decide), cu_s], cu_s _ _ _ _, hf, by rw [cu_f (by decide), cu_f (by decide), h.2.2.1]; exact h.2.2.2.1⟩
section MT
variable {T : Tab} {σ : St} {m x : Cs} {t : Int}
theorem k_Mo_wrong {k q : Int} (hT : TF T) (hTM : TM T m) (hq : 0 ≤ q ∧ q ≤ 400) (hl : q = 0 ∨ T.1 (q - 1) ≠ 128) (h13 : m 13 0 = 0) (hk : R32 k) (hw : m 15 0 = 0 ∨ m 16 0 < T.2.1 q ∨ (m 16 0 = T.2.1 q ∧ m 15 0 ≤ k)) : CtV M_Mo_wrong [.inr (.inr (1, 0)), .inl k, .inl q] (so σ 1 m) (fun u => u = so σ 1 (noteM m k (T.2.1 q))) := by
  intro g C F
  have e6 := (hTM q hq.1 hq.2 hl).2.1
  have hp := hT.p q
  unfold noteM at F
  refine e_aload_n C d_Mo_wrong_0 rfl ?_
  refine e_geta C fl_Mo_24 (by decide) rfl rfl d_Mo_wrong_1 ?_
  refine e_iload_n C d_Mo_wrong_4 rfl ?_
  refine e_iald (n := 403) C (by decide) rfl (by decide) rfl rfl (by decide) (by omega) (by omega) d_Mo_wrong_5 (fun r_5 => ?_)
  try simp only [so_at, so_so, wr_so, e6, h13] at r_5 ⊢
  refine e_istore_n C d_Mo_wrong_6 (by decide) rfl ?_
  refine e_aload_n C d_Mo_wrong_7 rfl ?_
  refine e_geti C fl_Mo_185 (by decide) rfl rfl d_Mo_wrong_8 (fun r_8 => ?_)
  try simp only [so_at, so_so, wr_so, e6, h13] at r_8 ⊢
  refine e_if_gt C 45 d_Mo_wrong_11 (by decide) (by omega) (fun c_11 => ?_) (fun c_11 => ?_)
  · exact absurd c_11 (by decide)
  · refine e_aload_n C d_Mo_wrong_14 rfl ?_
    refine e_geti C fl_Mo_194 (by decide) rfl rfl d_Mo_wrong_15 (fun r_15 => ?_)
    try simp only [so_at, so_so, wr_so, e6, h13] at r_15 ⊢
    refine e_if_eq C 46 d_Mo_wrong_18 (by decide) (by omega) (fun c_18 => ?_) (fun c_18 => ?_)
    · rw [if_pos c_18] at F
      refine e_aload_n C d_Mo_wrong_46 rfl ?_
      refine e_iload_n C d_Mo_wrong_47 rfl ?_
      refine e_puti C fp_Mo_194 (by decide) rfl rfl (by omega) d_Mo_wrong_48 ?_
      try simp only [so_at, so_so, wr_so, e6, h13]
      refine e_aload_n C d_Mo_wrong_51 rfl ?_
      refine e_iload_n C d_Mo_wrong_52 rfl ?_
      refine e_puti C fp_Mo_197 (by decide) rfl rfl (by omega) d_Mo_wrong_53 ?_
      try simp only [so_at, so_so, wr_so, e6, h13]
      refine e_vret C F rfl d_Mo_wrong_56 ?_
      first | rfl | (exfalso; omega)
    · rw [if_neg c_18] at F
      refine e_iload_n C d_Mo_wrong_21 rfl ?_
      refine e_aload_n C d_Mo_wrong_22 rfl ?_
      refine e_geti C fl_Mo_197 (by decide) rfl rfl d_Mo_wrong_23 (fun r_23 => ?_)
      try simp only [so_at, so_so, wr_so, e6, h13] at r_23 ⊢
      refine e_icmp_gt C 45 d_Mo_wrong_26 (by decide) (by omega) (by omega) (fun c_26 => ?_) (fun c_26 => ?_)
      · refine e_vret C F rfl d_Mo_wrong_45 ?_
        rfl
      · refine e_iload_n C d_Mo_wrong_29 rfl ?_
        refine e_aload_n C d_Mo_wrong_30 rfl ?_
        refine e_geti C fl_Mo_197 (by decide) rfl rfl d_Mo_wrong_31 (fun r_31 => ?_)
        try simp only [so_at, so_so, wr_so, e6, h13] at r_31 ⊢
        refine e_icmp_ne C 46 d_Mo_wrong_34 (by decide) (by omega) (by omega) (fun c_34 => ?_) (fun c_34 => ?_)
        · refine e_aload_n C d_Mo_wrong_46 rfl ?_
          refine e_iload_n C d_Mo_wrong_47 rfl ?_
          refine e_puti C fp_Mo_194 (by decide) rfl rfl (by omega) d_Mo_wrong_48 ?_
          try simp only [so_at, so_so, wr_so, e6, h13]
          refine e_aload_n C d_Mo_wrong_51 rfl ?_
          refine e_iload_n C d_Mo_wrong_52 rfl ?_
          refine e_puti C fp_Mo_197 (by decide) rfl rfl (by omega) d_Mo_wrong_53 ?_
          try simp only [so_at, so_so, wr_so, e6, h13]
          refine e_vret C F rfl d_Mo_wrong_56 ?_
          first | rfl | (exfalso; omega)
        · refine e_iload_n C d_Mo_wrong_37 rfl ?_
          refine e_aload_n C d_Mo_wrong_38 rfl ?_
          refine e_geti C fl_Mo_194 (by decide) rfl rfl d_Mo_wrong_39 (fun r_39 => ?_)
          try simp only [so_at, so_so, wr_so, e6, h13] at r_39 ⊢
          refine e_icmp_lt C 46 d_Mo_wrong_42 (by decide) (by omega) (by omega) (fun c_42 => ?_) (fun c_42 => ?_)
          · refine e_aload_n C d_Mo_wrong_46 rfl ?_
            refine e_iload_n C d_Mo_wrong_47 rfl ?_
            refine e_puti C fp_Mo_194 (by decide) rfl rfl (by omega) d_Mo_wrong_48 ?_
            try simp only [so_at, so_so, wr_so, e6, h13]
            refine e_aload_n C d_Mo_wrong_51 rfl ?_
            refine e_iload_n C d_Mo_wrong_52 rfl ?_
            refine e_puti C fp_Mo_197 (by decide) rfl rfl (by omega) d_Mo_wrong_53 ?_
            try simp only [so_at, so_so, wr_so, e6, h13]
            refine e_vret C F rfl d_Mo_wrong_56 ?_
            first | rfl | (exfalso; omega)
          · refine e_vret C F rfl d_Mo_wrong_45 ?_
            rfl
def MSl (T : Tab) (m : Cs) (t : Int) : Prop := m 15 0 = 0 ∨ m 16 0 < T.2.1 t
def bdM (T : Tab) (m : Cs) (most t : Int) : Cs := if most < T.2.2.1 t then noteM m 5 (T.2.1 t) else m
theorem bdM_f {most : Int} {g : Nat} (h : g ≠ 15) (h2 : g ≠ 16) : bdM T m most t g = m g := by
  unfold bdM
  split
  · exact noteM_f h h2
  · rfl
theorem k_Mo_bounded {most s : Int} (h : MH T m t) (hs : MSl T m t) (hm : 0 ≤ most ∧ most ≤ 9999) : CtI M_Mo_bounded [.inr (.inr (1, 0)), .inl 0, .inl most] (so σ 1 m) (fun r u => (0 ≤ r ∧ r ≤ 9999) ∧ ((∃ fp m', pInt T most t x = .inl fp ∧ u = so σ 1 m' ∧ Ft fp m' ∧ PF s m m' ∧ (∀ f, f ≠ 13 → f ≠ 14 → f ≠ 15 → f ≠ 16 → m' f = m f)) ∨ (pInt T most t x = .inr (t + 1, if most < T.2.2.1 t then noteX x 5 (T.2.1 t) else x) ∧ t < 400 ∧ T.1 t = 131 ∧ r = T.2.2.1 t ∧ u = so σ 1 (cu (bdM T m most t) 11 0 (t + 1))))) := by
  intro g C F
  have e11 := h.2.2.1
  have h0 := h.2.2.2.1
  have e13 := h.2.2.2.2.2
  unfold pInt pMu pGo at F
  refine e_aload_n C d_Mo_bounded_0 rfl ?_
  refine e_geti C fl_Mo_185 (by decide) rfl rfl d_Mo_bounded_1 (fun r_1 => ?_)
  try simp only [so_at, e11, e13] at r_1 ⊢
  refine e_if_gt C 15 d_Mo_bounded_4 (by decide) (by omega) (fun c_4 => ?_) (fun c_4 => ?_)
  · exact absurd c_4 (by decide)
  · refine e_aload_n C d_Mo_bounded_7 rfl ?_
    refine e_iconst C d_Mo_bounded_8 ?_
    refine e_callIV C ok_Mo_is lk_Mo_203 (o := 1) (by decide) rfl [_] rfl rfl (Nat.le_of_ble_eq_true rfl) (by decide) (Nat.le_of_ble_eq_true rfl) d_Mo_bounded_9 (k_Mo_is h (k' := 131) (by decide) (by decide)) (fun v_9 u_9 q_9 h_9 => ?_)
    obtain ⟨rfl, rfl⟩ := h_9
    refine e_if_ne C 22 d_Mo_bounded_12 (by decide) (by split <;> omega) (fun c_12 => ?_) (fun c_12 => ?_)
    · have hv := if1_t c_12
      rw [if_pos hv] at F
      have e7 := h.tok.2.2.1 hv
      have hvr := h.1.2.2.2.1 t hv
      refine e_aload_n C d_Mo_bounded_22 rfl ?_
      refine e_geta C fl_Mo_27 (by decide) rfl rfl d_Mo_bounded_23 ?_
      refine e_aload_n C d_Mo_bounded_26 rfl ?_
      refine e_geti C fl_Mo_188 (by decide) rfl rfl d_Mo_bounded_27 (fun r_27 => ?_)
      try simp only [so_at, e11, e13] at r_27 ⊢
      refine e_iald (n := 403) C (by decide) rfl (by decide) rfl rfl (by decide) (by omega) (by omega) d_Mo_bounded_30 (fun r_30 => ?_)
      try simp only [so_at, e11, e13] at r_30 ⊢
      rw [e7] at r_30 ⊢
      refine e_istore_n C d_Mo_bounded_31 (by decide) rfl ?_
      refine e_iload_n C d_Mo_bounded_32 rfl ?_
      refine e_iload_n C d_Mo_bounded_33 rfl ?_
      refine e_icmp_lt C 42 d_Mo_bounded_34 (by decide) (by omega) (by omega) (fun c_34 => ?_) (fun c_34 => ?_)
      · exact absurd c_34 (by omega)
      · refine e_iload_n C d_Mo_bounded_37 rfl ?_
        refine e_iload_n C d_Mo_bounded_38 rfl ?_
        refine e_icmp_le C 51 d_Mo_bounded_39 (by decide) (by omega) (by omega) (fun c_39 => ?_) (fun c_39 => ?_)
        · have eb : bdM T m most t = m := by unfold bdM; rw [if_neg (by omega)]
          have hb : MH T (bdM T m most t) t := by rw [eb]; exact h
          rw [← eb]
          refine e_aload_n C d_Mo_bounded_51 rfl ?_
          refine e_callVV C ok_Mo_goesOn lk_Mo_206 (o := 1) (by decide) rfl [] rfl rfl (Nat.le_of_ble_eq_true rfl) (by decide) (Nat.le_of_ble_eq_true rfl) d_Mo_bounded_52 (k_Mo_goesOn hb) (fun u_52 h_52 => ?_)
          refine e_iload_n C d_Mo_bounded_55 rfl ?_
          refine e_iret C F rfl d_Mo_bounded_56 (by omega) ?_
          refine ⟨by omega, ?_⟩
          rcases h_52 with ⟨a, rfl⟩ | ⟨a, rfl⟩
          · rw [if_pos (by omega), bnd_l]
            refine Or.inl ⟨_, _, rfl, rfl, Ft.mk hb (by decide), ?_, fun f a b c d => ?_⟩
            · refine PF.fl ?_
              unfold bdM
              split
              · exact (PF.rf s m).nt
              · exact PF.rf s m
            · unfold flt; rw [cf_f b, cf_f a, bdM_f c d]
          · rw [if_neg (by omega), bnd_r]
            exact Or.inr ⟨rfl, a, hv, rfl, rfl⟩
        · refine e_aload_n C d_Mo_bounded_42 rfl ?_
          refine e_iconst C d_Mo_bounded_43 ?_
          refine e_aload_n C d_Mo_bounded_44 rfl ?_
          refine e_geti C fl_Mo_188 (by decide) rfl rfl d_Mo_bounded_45 (fun r_45 => ?_)
          try simp only [so_at, e11, e13] at r_45 ⊢
          refine e_callVV C ok_Mo_wrong lk_Mo_265 (o := 1) (by decide) rfl [_, _] rfl rfl (Nat.le_of_ble_eq_true rfl) (by decide) (Nat.le_of_ble_eq_true rfl) d_Mo_bounded_48 (k_Mo_wrong h.1 h.2.1 h0 h.2.2.2.2.1 e13 (by omega) (by rcases hs with z | z; exact Or.inl z; exact Or.inr (Or.inl z))) (fun u_48 h_48 => ?_)
          subst h_48
          have eb : bdM T m most t = noteM m 5 (T.2.1 t) := by unfold bdM; rw [if_pos (by omega)]
          have hb : MH T (bdM T m most t) t := h.same (fun f hf => bdM_f (by omega) (by omega)) (by rw [bdM_f (by decide) (by decide)]) (by rw [bdM_f (by decide) (by decide)])
          rw [← eb]
          refine e_aload_n C d_Mo_bounded_51 rfl ?_
          refine e_callVV C ok_Mo_goesOn lk_Mo_206 (o := 1) (by decide) rfl [] rfl rfl (Nat.le_of_ble_eq_true rfl) (by decide) (Nat.le_of_ble_eq_true rfl) d_Mo_bounded_52 (k_Mo_goesOn hb) (fun u_52 h_52 => ?_)
          refine e_iload_n C d_Mo_bounded_55 rfl ?_
          refine e_iret C F rfl d_Mo_bounded_56 (by omega) ?_
          refine ⟨by omega, ?_⟩
          rcases h_52 with ⟨a, rfl⟩ | ⟨a, rfl⟩
          · rw [if_pos (by omega), bnd_l]
            refine Or.inl ⟨_, _, rfl, rfl, Ft.mk hb (by decide), ?_, fun f a b c d => ?_⟩
            · refine PF.fl ?_
              unfold bdM
              split
              · exact (PF.rf s m).nt
              · exact PF.rf s m
            · unfold flt; rw [cf_f b, cf_f a, bdM_f c d]
          · rw [if_neg (by omega), bnd_r]
            exact Or.inr ⟨rfl, a, hv, rfl, rfl⟩
    · have hv := if1_f c_12
      rw [if_neg hv, bnd_l] at F
      refine e_aload_n C d_Mo_bounded_15 rfl ?_
      refine e_iconst C d_Mo_bounded_16 ?_
      refine e_callVV C ok_Mo_fail lk_Mo_200 (o := 1) (by decide) rfl [_] rfl rfl (Nat.le_of_ble_eq_true rfl) (by decide) (Nat.le_of_ble_eq_true rfl) d_Mo_bounded_17 (k_Mo_fail h (by omega)) (fun u_17 h_17 => ?_)
      subst h_17
      refine e_iload_n C d_Mo_bounded_20 rfl ?_
      refine e_iret C F rfl d_Mo_bounded_21 (by omega) ?_
      exact ⟨by omega, Or.inl ⟨_, _, rfl, rfl, Ft.mk h (by decide), (PF.rf s m).fl, fun f a b _ _ => by unfold flt; rw [cf_f b, cf_f a]⟩⟩
theorem k_Mo_boundedF {most : Int} (h : 1 ≤ m 13 0) : CtI M_Mo_bounded [.inr (.inr (1, 0)), .inl 0, .inl most] (so σ 1 m) (fun r u => r = 0 ∧ u = so σ 1 m) := by
  intro g C F
  refine e_aload_n C d_Mo_bounded_0 rfl ?_
  refine e_geti C fl_Mo_185 (by decide) rfl rfl d_Mo_bounded_1 (fun r_1 => ?_)
  try simp only [so_at] at r_1 ⊢
  refine e_if_gt C 15 d_Mo_bounded_4 (by decide) (by omega) (fun c_4 => ?_) (fun c_4 => ?_)
  · refine e_aload_n C d_Mo_bounded_15 rfl ?_
    refine e_iconst C d_Mo_bounded_16 ?_
    refine e_callVV C ok_Mo_fail lk_Mo_200 (o := 1) (by decide) rfl [_] rfl rfl (Nat.le_of_ble_eq_true rfl) (by decide) (Nat.le_of_ble_eq_true rfl) d_Mo_bounded_17 (k_Mo_failF h) (fun u_17 h_17 => ?_)
    subst h_17
    refine e_iload_n C d_Mo_bounded_20 rfl ?_
    refine e_iret C F rfl d_Mo_bounded_21 (by omega) ?_
    exact ⟨rfl, rfl⟩
  · exact absurd c_4 (by omega)
/-- the reference's names are the told ones -/
def MRn (T : Tab) (x : Cs) (m : Cs) : Prop := m 20 0 = x 10 0 ∧ (0 ≤ x 10 0 ∧ x 10 0 ≤ 20) ∧ ∀ k, 0 ≤ k → k < x 10 0 → (m 21 k = T.2.2.2.2 (x 20 k) ∧ x 4 k = T.2.2.2.1 (x 20 k) ∧ T.1 (x 20 k) = 130) ∧ (m 22 k = if x 21 k = -1 then 1 else 0) ∧ (x 21 k ≠ -1 → m 23 k = x 21 k)
theorem MRn.same {x' m' : Cs} (h : MRn T x m) (e20 : m' 20 = m 20) (e21 : m' 21 = m 21) (e22 : m' 22 = m 22) (e23 : m' 23 = m 23) (x10 : x' 10 0 = x 10 0) (x4 : x' 4 = x 4) (x20 : x' 20 = x 20) (x21 : x' 21 = x 21) : MRn T x' m' := by
  unfold MRn
  rw [e20, e21, e22, e23, x10, x4, x20, x21]
  exact h
theorem MRn.fnd {a : Int} (hT : TF T) (h : MRn T x m) (ha : T.1 a = 130) : fnd (fun k => m 21 k == T.2.2.2.2 a) (x 10 0).toNat 0 = fnd (fun k => x 4 k == T.2.2.2.1 a) (x 10 0).toNat 0 := by
  refine fnd_cong _ _ (fun k k0 k1 => ?_)
  obtain ⟨h1, h2, h3⟩ := h
  obtain ⟨⟨a1, a2, a3⟩, _⟩ := h3 k k0 (by omega)
  have := hT.2.2.2.2 (x 20 k) a a3 ha
  rw [a1, a2]
  by_cases w : T.2.2.2.1 (x 20 k) = T.2.2.2.1 a
  · rw [beq_iff_eq.mpr w, beq_iff_eq.mpr (this.mp w)]
  · rw [beq_eq_false_iff_ne.mpr w, beq_eq_false_iff_ne.mpr (fun z => w (this.mpr z))]
def twm (m : Cs) (n a p : Int) : Cs := if fnd (fun k => m 21 k == a) n.toNat 0 = -2 then m else noteM m 3 p
theorem twm_f {n a p : Int} {g : Nat} (h : g ≠ 15) (h2 : g ≠ 16) : twm m n a p g = m g := by
  unfold twm
  split
  · rfl
  · exact noteM_f h h2
theorem noteM_2 {f a : Int} (hf : f ≠ 0) : noteM (noteM m f a) f a = noteM m f a := by
  by_cases h : m 15 0 = 0
  · have e : noteM m f a = cu (cu m 15 0 f) 16 0 a := by unfold noteM; rw [if_pos h]
    rw [e]
    unfold noteM
    rw [if_neg (by rw [cu_f (by decide), cu_s]; exact hf)]
  · have e : noteM m f a = m := by unfold noteM; rw [if_neg h]
    rw [e, e]
theorem l_Mo_named {g : Mach} {Q : Int → St → Prop} (C : Cx M_Mo_named g) (F : FinI M_Mo_named g Q) {q n : Int} (hT : TF T) (hTM : TM T m) (hq : 0 ≤ q ∧ q ≤ 400) (hl : q = 0 ∨ T.1 (q - 1) ≠ 128) (hk : T.1 q = 130) (h13 : m 13 0 = 0) (h20 : m 20 0 = n) (hn : 0 ≤ n ∧ n ≤ 20) (hs : MSl T m q) (hQ : Q q (so σ 1 (twm m n (T.2.2.2.2 q) (T.2.1 q)))) :
    ∀ (j : Nat) (i : Int) (m' : Cs), 0 ≤ i → i + j = n → (m' = m ∨ m' = noteM m 3 (T.2.1 q)) → (if fnd (fun k => m 21 k == T.2.2.2.2 q) j i = -2 then m' else noteM m' 3 (T.2.1 q)) = twm m n (T.2.2.2.2 q) (T.2.1 q) → Ev g 12 [some (.inr (.inr (1, 0))), some (.inl q), some (.inl i)] [] (so σ 1 m') := by
  have e8 := (hTM q hq.1 hq.2 hl).2.2.2 hk
  intro j
  induction j with
  | zero =>
    intro i m' h0 h1 hm hf
    have e20 : m' 20 0 = n := by rcases hm with rfl | rfl <;> first | exact h20 | (rw [noteM_f (by decide) (by decide)]; exact h20)
    have hf : m' = _ := hf
    refine e_iload_n C d_Mo_named_12 rfl ?_
    refine e_aload_n C d_Mo_named_13 rfl ?_
    refine e_geti C fl_Mo_221 (by decide) rfl rfl d_Mo_named_14 (fun r_14 => ?_)
    try simp only [so_at, e20] at r_14 ⊢
    refine e_icmp_ge C 55 d_Mo_named_17 (by decide) (by omega) (by omega) (fun c_17 => ?_) (fun c_17 => ?_)
    · refine e_iload_n C d_Mo_named_55 rfl ?_
      refine e_iret C F rfl d_Mo_named_56 (by omega) ?_
      rw [hf]; exact hQ
    · exact absurd h1 (by omega)
  | succ j ih =>
    intro i m' h0 h1 hm hf
    have ef : ∀ f, f ≠ 15 → f ≠ 16 → m' f = m f := fun f a b => by rcases hm with rfl | rfl <;> first | rfl | exact noteM_f a b
    have e20 : m' 20 0 = n := by rw [ef 20 (by decide) (by decide)]; exact h20
    have g13 : m' 13 0 = 0 := by rw [ef 13 (by decide) (by decide)]; exact h13
    have g8 : m' 8 q = T.2.2.2.2 q := by rw [ef 8 (by decide) (by decide)]; exact e8
    have g21 := ef 21 (by decide) (by decide)
    have gTM : TM T m' := hTM.same (fun f hf => ef f (by omega) (by omega))
    have hfs := fnd_some (q := fun k => m 21 k == T.2.2.2.2 q) j (i + 1) (by omega)
    have hw : m' 15 0 = 0 ∨ m' 16 0 < T.2.1 q ∨ (m' 16 0 = T.2.1 q ∧ m' 15 0 ≤ 3) := by
      rcases hm with rfl | rfl
      · rcases hs with z | z
        · exact Or.inl z
        · exact Or.inr (Or.inl z)
      · unfold noteM
        by_cases w : m 15 0 = 0
        · rw [if_pos w]
          right; right
          rw [cu_s, cu_f (by decide), cu_s]
          exact ⟨rfl, by decide⟩
        · rw [if_neg w]
          rcases hs with z | z
          · exact absurd z w
          · exact Or.inr (Or.inl z)
    unfold fnd at hf
    refine e_iload_n C d_Mo_named_12 rfl ?_
    refine e_aload_n C d_Mo_named_13 rfl ?_
    refine e_geti C fl_Mo_221 (by decide) rfl rfl d_Mo_named_14 (fun r_14 => ?_)
    try simp only [so_at, e20, g13, g8, g21] at r_14 ⊢
    refine e_icmp_ge C 55 d_Mo_named_17 (by decide) (by omega) (by omega) (fun c_17 => ?_) (fun c_17 => ?_)
    · exact absurd h1 (by omega)
    · refine e_aload_n C d_Mo_named_20 rfl ?_
      refine e_geti C fl_Mo_185 (by decide) rfl rfl d_Mo_named_21 (fun r_21 => ?_)
      try simp only [so_at, e20, g13, g8, g21] at r_21 ⊢
      refine e_if_ne C 55 d_Mo_named_24 (by decide) (by omega) (fun c_24 => ?_) (fun c_24 => ?_)
      · exact absurd rfl c_24
      · refine e_aload_n C d_Mo_named_27 rfl ?_
        refine e_geta C fl_Mo_40 (by decide) rfl rfl d_Mo_named_28 ?_
        refine e_iload_n C d_Mo_named_31 rfl ?_
        refine e_lald (n := 20) C (by decide) rfl (by decide) rfl rfl (by decide) (by omega) (by omega) d_Mo_named_32 (fun r_32 => ?_)
        try simp only [so_at, e20, g13, g8, g21] at r_32 ⊢
        refine e_aload_n C d_Mo_named_33 rfl ?_
        refine e_geta C fl_Mo_30 (by decide) rfl rfl d_Mo_named_34 ?_
        refine e_iload_n C d_Mo_named_37 rfl ?_
        refine e_lald (n := 403) C (by decide) rfl (by decide) rfl rfl (by decide) (by omega) (by omega) d_Mo_named_38 (fun r_38 => ?_)
        try simp only [so_at, e20, g13, g8, g21] at r_38 ⊢
        refine e_lcmp C d_Mo_named_39 r_32 r_38 ?_
        refine e_if_ne C 49 d_Mo_named_40 (by decide) (z_cmp_r _ _) (fun c_40 => ?_) (fun c_40 => ?_)
        · have e : ¬ m 21 i = T.2.2.2.2 q := fun z => c_40 (z_cmp_eq.mpr z)
          rw [if_neg (fun z => e (eq_of_beq z))] at hf
          refine e_iinc C d_Mo_named_49 rfl (by decide) rfl ?_
          refine e_goto C 12 d_Mo_named_52 (by decide) ?_
          first | exact ih (i + 1) _ (by omega) (by omega) (Or.inr hnn) (by rw [noteM_2 (by decide), hf]; split <;> rfl) | exact ih (i + 1) _ (by omega) (by omega) hm hf
        · have e := z_cmp_eq.mp c_40
          rw [if_pos (beq_iff_eq.mpr e), if_neg (by omega)] at hf
          refine e_aload_n C d_Mo_named_43 rfl ?_
          refine e_iconst C d_Mo_named_44 ?_
          refine e_iload_n C d_Mo_named_45 rfl ?_
          refine e_callVV C ok_Mo_wrong lk_Mo_265 (o := 1) (by decide) rfl [_, _] rfl rfl (Nat.le_of_ble_eq_true rfl) (by decide) (Nat.le_of_ble_eq_true rfl) d_Mo_named_46 (k_Mo_wrong hT gTM hq hl g13 (by omega) hw) (fun u_46 h_46 => ?_)
          subst h_46
          have hnn : noteM m' 3 (T.2.1 q) = noteM m 3 (T.2.1 q) := by rcases hm with rfl | rfl <;> first | rfl | exact noteM_2 (by decide)
          refine e_iinc C d_Mo_named_49 rfl (by decide) rfl ?_
          refine e_goto C 12 d_Mo_named_52 (by decide) ?_
          first | exact ih (i + 1) _ (by omega) (by omega) (Or.inr hnn) (by rw [noteM_2 (by decide), hf]; split <;> rfl) | exact ih (i + 1) _ (by omega) (by omega) hm hf
theorem k_Mo_named {n : Int} (h : MH T m t) (hs : MSl T m t) (h20 : m 20 0 = n) (hn : 0 ≤ n ∧ n ≤ 20) : CtI M_Mo_named [.inr (.inr (1, 0))] (so σ 1 m) (fun r u => r = t ∧ ((∃ fp, pMu T 130 t = .inl fp ∧ 1 ≤ fp.1 ∧ u = so σ 1 (flt m fp.1 fp.2)) ∨ (pMu T 130 t = .inr (t + 1) ∧ t < 400 ∧ T.1 t = 130 ∧ u = so σ 1 (twm (cu m 11 0 (t + 1)) n (T.2.2.2.2 t) (T.2.1 t))))) := by
  intro g C F
  have e11 := h.2.2.1
  have h0 := h.2.2.2.1
  refine e_aload_n C d_Mo_named_0 rfl ?_
  refine e_geti C fl_Mo_188 (by decide) rfl rfl d_Mo_named_1 (fun r_1 => ?_)
  try simp only [so_at, e11] at r_1 ⊢
  refine e_istore_n C d_Mo_named_4 (by decide) rfl ?_
  refine e_aload_n C d_Mo_named_5 rfl ?_
  refine e_iconst C d_Mo_named_6 ?_
  refine e_callVV C ok_Mo_must lk_Mo_252 (o := 1) (by decide) rfl [_] rfl rfl (Nat.le_of_ble_eq_true rfl) (by decide) (Nat.le_of_ble_eq_true rfl) d_Mo_named_7 (k_Mo_must h (k' := 130) (by decide) (by decide)) (fun u_7 h_7 => ?_)
  refine e_iconst C d_Mo_named_10 ?_
  refine e_istore_n C d_Mo_named_11 (by decide) rfl ?_
  rcases h_7 with ⟨fp, a1, a2, rfl⟩ | ⟨a1, a2, a3, rfl⟩
  · have e13 : flt m fp.1 fp.2 13 0 = fp.1 := by unfold flt; rw [cu_f (by decide), cu_s]
    refine e_iload_n C d_Mo_named_12 rfl ?_
    refine e_aload_n C d_Mo_named_13 rfl ?_
    refine e_geti C fl_Mo_221 (by decide) rfl rfl d_Mo_named_14 (fun r_14 => ?_)
    try simp only [so_at, e13] at r_14 ⊢
    refine e_icmp_ge C 55 d_Mo_named_17 (by decide) (by omega) (by omega) (fun c_17 => ?_) (fun c_17 => ?_)
    · refine e_iload_n C d_Mo_named_55 rfl ?_
      refine e_iret C F rfl d_Mo_named_56 (by omega) ?_
      exact ⟨rfl, Or.inl ⟨fp, a1, a2, rfl⟩⟩
    · refine e_aload_n C d_Mo_named_20 rfl ?_
      refine e_geti C fl_Mo_185 (by decide) rfl rfl d_Mo_named_21 (fun r_21 => ?_)
      try simp only [so_at, e13] at r_21 ⊢
      refine e_if_ne C 55 d_Mo_named_24 (by decide) (by omega) (fun c_24 => ?_) (fun c_24 => ?_)
      · refine e_iload_n C d_Mo_named_55 rfl ?_
        refine e_iret C F rfl d_Mo_named_56 (by omega) ?_
        exact ⟨rfl, Or.inl ⟨fp, a1, a2, rfl⟩⟩
      · exact absurd c_24 (by omega)
  · refine l_Mo_named (m := cu m 11 0 (t + 1)) (q := t) (n := n) C F h.1 (h.2.1.same (fun f hf => cf_f (by omega))) h0 h.2.2.2.2.1 a3 (by rw [cu_f (by decide)]; exact h.2.2.2.2.2) (by rw [cu_f (by decide)]; exact h20) hn (by unfold MSl; rw [cu_f (by decide), cu_f (by decide)]; exact hs) ⟨rfl, Or.inr ⟨a1, a2, a3, rfl⟩⟩ n.toNat 0 _ (by omega) (by omega) (Or.inl rfl) (by unfold twm; split <;> rfl)
theorem k_Mo_notes {q n a b v : Int} (h20 : m 20 0 = n) (hn : 0 ≤ n ∧ n < 20) (hq : 0 ≤ q ∧ q ≤ 400) (h8 : m 8 q = v) (hv : R64 v) (ha : R32 a) (hb : R32 b) : CtV M_Mo_notes [.inr (.inr (1, 0)), .inl q, .inl a, .inl b] (so σ 1 m) (fun u => u = so σ 1 (cu (cu (cu (cu m 21 n v) 22 n a) 23 n b) 20 0 (n + 1))) := by
  intro g C F
  refine e_aload_n C d_Mo_notes_0 rfl ?_
  refine e_geta C fl_Mo_40 (by decide) rfl rfl d_Mo_notes_1 ?_
  refine e_aload_n C d_Mo_notes_4 rfl ?_
  refine e_geti C fl_Mo_221 (by decide) rfl rfl d_Mo_notes_5 (fun r_5 => ?_)
  try simp only [so_at, so_so, wr_so, h20, h8, cu_s, cu_f, ne_eq, Nat.reduceEqDiff, not_false_eq_true] at r_5 ⊢
  refine e_aload_n C d_Mo_notes_8 rfl ?_
  refine e_geta C fl_Mo_30 (by decide) rfl rfl d_Mo_notes_9 ?_
  refine e_iload_n C d_Mo_notes_12 rfl ?_
  refine e_lald (n := 403) C (by decide) rfl (by decide) rfl rfl (by decide) (by omega) (by omega) d_Mo_notes_13 (fun r_13 => ?_)
  try simp only [so_at, so_so, wr_so, h20, h8, cu_s, cu_f, ne_eq, Nat.reduceEqDiff, not_false_eq_true] at r_13 ⊢
  refine e_last (n := 20) C (by decide) rfl (by decide) rfl rfl (by decide) (by omega) (by omega) hv d_Mo_notes_14 ?_
  try simp only [so_at, so_so, wr_so, h20, h8, cu_s, cu_f, ne_eq, Nat.reduceEqDiff, not_false_eq_true]
  refine e_aload_n C d_Mo_notes_15 rfl ?_
  refine e_geta C fl_Mo_43 (by decide) rfl rfl d_Mo_notes_16 ?_
  refine e_aload_n C d_Mo_notes_19 rfl ?_
  refine e_geti C fl_Mo_221 (by decide) rfl rfl d_Mo_notes_20 (fun r_20 => ?_)
  try simp only [so_at, so_so, wr_so, h20, h8, cu_s, cu_f, ne_eq, Nat.reduceEqDiff, not_false_eq_true] at r_20 ⊢
  refine e_iload_n C d_Mo_notes_23 rfl ?_
  refine e_iast (n := 20) C (by decide) rfl (by decide) rfl rfl (by decide) (by omega) (by omega) (by omega) d_Mo_notes_24 ?_
  try simp only [so_at, so_so, wr_so, h20, h8, cu_s, cu_f, ne_eq, Nat.reduceEqDiff, not_false_eq_true]
  refine e_aload_n C d_Mo_notes_25 rfl ?_
  refine e_geta C fl_Mo_46 (by decide) rfl rfl d_Mo_notes_26 ?_
  refine e_aload_n C d_Mo_notes_29 rfl ?_
  refine e_geti C fl_Mo_221 (by decide) rfl rfl d_Mo_notes_30 (fun r_30 => ?_)
  try simp only [so_at, so_so, wr_so, h20, h8, cu_s, cu_f, ne_eq, Nat.reduceEqDiff, not_false_eq_true] at r_30 ⊢
  refine e_iload_n C d_Mo_notes_33 rfl ?_
  refine e_iast (n := 20) C (by decide) rfl (by decide) rfl rfl (by decide) (by omega) (by omega) (by omega) d_Mo_notes_34 ?_
  try simp only [so_at, so_so, wr_so, h20, h8, cu_s, cu_f, ne_eq, Nat.reduceEqDiff, not_false_eq_true]
  refine e_aload_n C d_Mo_notes_35 rfl ?_
  refine e_dup C d_Mo_notes_36 rfl ?_
  refine e_geti C fl_Mo_221 (by decide) rfl rfl d_Mo_notes_37 (fun r_37 => ?_)
  try simp only [so_at, so_so, wr_so, h20, h8, cu_s, cu_f, ne_eq, Nat.reduceEqDiff, not_false_eq_true] at r_37 ⊢
  refine e_iconst C d_Mo_notes_40 ?_
  refine e_iadd C d_Mo_notes_41 ?_
  refine e_puti C fp_Mo_221 (by decide) rfl rfl (by omega) d_Mo_notes_42 ?_
  try simp only [so_at, so_so, wr_so, h20, h8, cu_s, cu_f, ne_eq, Nat.reduceEqDiff, not_false_eq_true]
  refine e_vret C F rfl d_Mo_notes_45 ?_
  rfl
theorem k_Mo_roomFor {a b : Int} (h : MH T m t) (ha : R32 a) (hb : R32 b) : CtV M_Mo_roomFor [.inr (.inr (1, 0)), .inl a, .inl b] (so σ 1 m) (fun u => (a = b ∧ u = so σ 1 (flt m 2 (T.2.1 t))) ∨ (a ≠ b ∧ t = 400 ∧ u = so σ 1 (flt m 2 (T.2.1 t))) ∨ (a ≠ b ∧ t < 400 ∧ u = so σ 1 (cu m 11 0 (t + 1)))) := by
  intro g C F
  have e13 := h.2.2.2.2.2
  have f13 : flt m 2 (T.2.1 t) 13 0 = 2 := by unfold flt; rw [cu_f (by decide), cu_s]
  refine e_iload_n C d_Mo_roomFor_0 rfl ?_
  refine e_iload_n C d_Mo_roomFor_1 rfl ?_
  refine e_icmp_ne C 10 d_Mo_roomFor_2 (by decide) (by omega) (by omega) (fun c_2 => ?_) (fun c_2 => ?_)
  · refine e_aload_n C d_Mo_roomFor_10 rfl ?_
    refine e_geti C fl_Mo_185 (by decide) rfl rfl d_Mo_roomFor_11 (fun r_11 => ?_)
    try simp only [so_at, e13, f13] at r_11 ⊢
    refine e_if_ne C 21 d_Mo_roomFor_14 (by decide) (by omega) (fun c_14 => ?_) (fun c_14 => ?_)
    · exact absurd rfl c_14
    · refine e_aload_n C d_Mo_roomFor_17 rfl ?_
      refine e_callVV C ok_Mo_goesOn lk_Mo_206 (o := 1) (by decide) rfl [] rfl rfl (Nat.le_of_ble_eq_true rfl) (by decide) (Nat.le_of_ble_eq_true rfl) d_Mo_roomFor_18 (k_Mo_goesOn h) (fun u_18 h_18 => ?_)
      refine e_vret C F rfl d_Mo_roomFor_21 ?_
      rcases h_18 with ⟨z, rfl⟩ | ⟨z, rfl⟩ <;> first | exact Or.inr (Or.inl ⟨c_2, z, rfl⟩) | exact Or.inr (Or.inr ⟨c_2, z, rfl⟩)
  · have z2 := c_2
    refine e_aload_n C d_Mo_roomFor_5 rfl ?_
    refine e_iconst C d_Mo_roomFor_6 ?_
    refine e_callVV C ok_Mo_fail lk_Mo_200 (o := 1) (by decide) rfl [_] rfl rfl (Nat.le_of_ble_eq_true rfl) (by decide) (Nat.le_of_ble_eq_true rfl) d_Mo_roomFor_7 (k_Mo_fail h (by omega)) (fun u_7 h_7 => ?_)
    subst h_7
    refine e_aload_n C d_Mo_roomFor_10 rfl ?_
    refine e_geti C fl_Mo_185 (by decide) rfl rfl d_Mo_roomFor_11 (fun r_11 => ?_)
    try simp only [so_at, f13] at r_11 ⊢
    refine e_if_ne C 21 d_Mo_roomFor_14 (by decide) (by omega) (fun c_14 => ?_) (fun c_14 => ?_)
    · refine e_vret C F rfl d_Mo_roomFor_21 ?_
      exact Or.inl ⟨c_2, rfl⟩
    · exact absurd c_14 (by decide)
end MT
