/-! the reference's posts and guards -/
def MRp (s : Int) (P c m : Cs) : Prop := (0 ≤ s ∧ s ≤ 1) ∧ m 19 0 = s ∧ (m 24 s = P 3 0 ∧ m 29 s = P 4 0 ∧ m 31 s = P 5 0 ∧ m 33 s = P 6 0) ∧ (∀ p, 0 ≤ p → p < P 3 0 → m 25 (8 * s + p) = c 0 p ∧ m 26 (8 * s + p) = c 1 p ∧ m 27 (8 * s + p) = P 0 p ∧ m 28 (8 * s + p) = em (c 2 p) ∧ (c 2 p = -2 ∨ 0 ≤ c 2 p)) ∧ (∀ g, 0 ≤ g → g < P 4 0 → m 30 (12 * s + g) = em (c 6 g)) ∧ (∀ k, 0 ≤ k → k < P 5 0 → m 32 (24 * s + k) = P 1 (k + 1)) ∧ (∀ p, P 3 0 ≤ p → p < 8 → c 2 p = -2) ∧ (∀ g, P 4 0 ≤ g → g < 12 → c 6 g = -2)
theorem MRp.same {s : Int} {P c m m' : Cs} (h : MRp s P c m) (e : ∀ f, f = 19 ∨ (24 ≤ f ∧ f ≤ 33) → m' f = m f) : MRp s P c m' := by
  unfold MRp
  rw [e 19 (by decide), e 24 (by decide), e 25 (by decide), e 26 (by decide), e 27 (by decide), e 28 (by decide), e 29 (by decide), e 30 (by decide), e 31 (by decide), e 32 (by decide), e 33 (by decide)]
  exact h
def WX (T : Tab) (x m : Cs) (t : Int) : Prop := m 15 0 = x 15 0 ∧ (x 15 0 ≠ 0 → m 16 0 = x 16 0) ∧ (x 15 0 = 0 ∨ x 16 0 < T.2.1 t)
theorem WX.sl {T : Tab} {x m : Cs} {t : Int} (h : WX T x m t) : MSl T m t := by
  obtain ⟨h1, h2, h3⟩ := h
  unfold MSl
  rw [h1]
  by_cases w : x 15 0 = 0
  · exact Or.inl w
  · right
    rw [h2 w]
    omega
theorem WX.go {T : Tab} {x m x' m' : Cs} {t : Int} (h : WX T x m t) (hT : TF T) (ht : 0 ≤ t) (hk : T.1 t ≠ 128) (e15 : x' 15 0 = x 15 0) (e16 : x' 16 0 = x 16 0) (f15 : m' 15 0 = m 15 0) (f16 : m' 16 0 = m 16 0) : WX T x' m' (t + 1) := by
  obtain ⟨h1, h2, h3⟩ := h
  have := hT.2.1 t ht hk
  unfold WX
  rw [e15, e16, f15, f16]
  exact ⟨h1, h2, by omega⟩
theorem WX.nt {T : Tab} {x m : Cs} {t f : Int} (h : WX T x m t) (hT : TF T) (ht : 0 ≤ t) (hk : T.1 t ≠ 128) : WX T (noteX x f (T.2.1 t)) (noteM m f (T.2.1 t)) (t + 1) := by
  obtain ⟨h1, h2, h3⟩ := h
  have := hT.2.1 t ht hk
  unfold noteX noteM
  rw [h1]
  by_cases w : x 15 0 = 0
  · rw [if_pos w, if_pos w]
    refine ⟨by rw [cu_f (by decide), cu_s, cu_f (by decide), cu_s], fun _ => by rw [cu_s, cu_s], Or.inr ?_⟩
    rw [cu_s]
    exact this
  · rw [if_neg w, if_neg w]
    exact ⟨h1, h2, by omega⟩
theorem WX.bd {T : Tab} {x m : Cs} {t most : Int} (h : WX T x m t) (hT : TF T) (ht : 0 ≤ t) (hk : T.1 t ≠ 128) : WX T (if most < T.2.2.1 t then noteX x 5 (T.2.1 t) else x) (cu (bdM T m most t) 11 0 (t + 1)) (t + 1) := by
  have key : WX T (if most < T.2.2.1 t then noteX x 5 (T.2.1 t) else x) (bdM T m most t) (t + 1) := by
    unfold bdM
    split
    · exact h.nt hT ht hk
    · exact h.go hT ht hk rfl rfl rfl rfl
  exact ⟨by rw [cu_f (by decide)]; exact key.1, by rw [cu_f (by decide)]; exact key.2.1, key.2.2⟩
theorem WX.tw {T : Tab} {x m : Cs} {t n : Int} (h : WX T x m t) (hT : TF T) (ht : 0 ≤ t) (hk : T.1 t = 130) (hn : MRn T x m) (e : n = x 10 0) : WX T (twx x (T.2.2.2.1 t) (T.2.1 t)) (twm (cu m 11 0 (t + 1)) n (T.2.2.2.2 t) (T.2.1 t)) (t + 1) := by
  have hf := hn.fnd hT hk
  have e21 : cu m 11 0 (t + 1) 21 = m 21 := cf_f (by decide)
  unfold twm twx
  rw [e21, e, hf]
  split
  · exact h.go hT ht (by omega) rfl rfl (cu_f (by decide)) (cu_f (by decide))
  · have := h.nt (f := 3) hT ht (by omega)
    have e2 : ∀ g, noteM (cu m 11 0 (t + 1)) 3 (T.2.1 t) g 0 = if g = 11 then t + 1 else noteM m 3 (T.2.1 t) g 0 := by
      intro g
      unfold noteM
      rw [cu_f (by decide)]
      by_cases w : m 15 0 = 0
      · rw [if_pos w, if_pos w]
        simp only [cu_if, and_true]
        by_cases w2 : g = 11
        · rw [if_neg (by omega), if_neg (by omega), if_pos w2, if_pos w2]
        · rw [if_neg w2, if_neg w2]
      · rw [if_neg w, if_neg w]
        simp only [cu_if, and_true]
    exact ⟨by rw [e2]; exact this.1, by rw [e2]; exact this.2.1, this.2.2⟩
theorem MRn.tw {T : Tab} {x m : Cs} {t n a p : Int} (h : MRn T x m) : MRn T x (twm (cu m 11 0 (t + 1)) n a p) := h.same (by rw [twm_f (by decide) (by decide), cf_f (by decide)]) (by rw [twm_f (by decide) (by decide), cf_f (by decide)]) (by rw [twm_f (by decide) (by decide), cf_f (by decide)]) (by rw [twm_f (by decide) (by decide), cf_f (by decide)]) rfl rfl rfl rfl
/-- names of posts among the names -/
def NS (T : Tab) (x : Cs) (n : Int) : Prop := (∀ p, 0 ≤ p → p < n → x 5 p = T.2.2.2.1 (x 22 p)) ∧ (∀ k, 0 ≤ k → k < x 10 0 → x 21 k = -1 ∨ (0 ≤ x 21 k ∧ x 21 k < n ∧ x 22 (x 21 k) = x 20 k)) ∧ (∀ p, 0 ≤ p → p < n → ∃ k, 0 ≤ k ∧ k < x 10 0 ∧ x 21 k = p) ∧ (∀ j k, 0 ≤ j → j < k → k < x 10 0 → x 21 j ≠ -1 → x 21 k ≠ -1 → x 21 j < x 21 k)
theorem NS.same {T : Tab} {x x' : Cs} {n : Int} (h : NS T x n) (e5 : x' 5 = x 5) (e22 : x' 22 = x 22) (e10 : x' 10 0 = x 10 0) (e21 : x' 21 = x 21) (e20 : x' 20 = x 20) : NS T x' n := by
  unfold NS
  rw [e5, e22, e10, e21, e20]
  exact h
theorem fnd_is {q : Int → Bool} : ∀ (n : Nat) (i p : Int), 0 ≤ i → i ≤ p → p < i + n → q p = true → (∀ j, i ≤ j → j < p → q j = false) → fnd q n i = p
  | 0, i, p, _, h1, h2, _, _ => by omega
  | n + 1, i, p, h0, h1, h2, h3, h4 => by
    unfold fnd
    by_cases w : i = p
    · subst w; rw [if_pos h3]
    · rw [if_neg (by rw [h4 i (by omega) (by omega)]; decide)]
      exact fnd_is n (i + 1) p (by omega) (by omega) (by omega) h3 (fun j a b => h4 j (by omega) b)
theorem nameX_all {T : Tab} {x : Cs} {t s : Int} : (∀ k, nameX T x t s 4 k = if k = x 10 0 then T.2.2.2.1 t else x 4 k) ∧ (∀ k, nameX T x t s 20 k = if k = x 10 0 then t else x 20 k) ∧ (∀ k, nameX T x t s 21 k = if k = x 10 0 then s else x 21 k) ∧ nameX T x t s 22 = x 22 ∧ (nameX T x t s 15 = twx x (T.2.2.2.1 t) (T.2.1 t) 15 ∧ nameX T x t s 16 = twx x (T.2.2.2.1 t) (T.2.1 t) 16) := by
  have e : ∀ f, f ≠ 15 → f ≠ 16 → twx x (T.2.2.2.1 t) (T.2.1 t) f = x f := fun f a b => twx_f a b
  unfold nameX
  refine ⟨fun k => ?_, fun k => ?_, fun k => ?_, ?_, ?_, ?_⟩
  · rw [cu_f (by decide), cu_f (by decide), cu_if, cu_f (by decide), e 4 (by decide) (by decide)]; simp only [true_and]
  · rw [cu_f (by decide), cu_if, cu_f (by decide), cu_f (by decide), e 20 (by decide) (by decide)]; simp only [true_and]
  · rw [cu_if, cu_f (by decide), cu_f (by decide), cu_f (by decide), e 21 (by decide) (by decide)]; simp only [true_and]
  · rw [cf_f (by decide), cf_f (by decide), cf_f (by decide), cf_f (by decide), e 22 (by decide) (by decide)]
  · rw [cf_f (by decide), cf_f (by decide), cf_f (by decide), cf_f (by decide)]
  · rw [cf_f (by decide), cf_f (by decide), cf_f (by decide), cf_f (by decide)]
theorem MRn.name {T : Tab} {x m m' : Cs} {t s n : Int} (h : MRn T x m) (hn : n = x 10 0) (hn2 : n < 20) (hk : T.1 t = 130) (hs : s = -1 ∨ 0 ≤ s) (e20 : m' 20 0 = n + 1) (e21 : ∀ k, m' 21 k = if k = n then T.2.2.2.2 t else m 21 k) (e22 : ∀ k, m' 22 k = if k = n then (if s = -1 then 1 else 0) else m 22 k) (e23 : ∀ k, k ≠ n → m' 23 k = m 23 k) (e23s : s ≠ -1 → m' 23 n = s) : MRn T (nameX T x t s) m' := by
  obtain ⟨h1, h2, h3⟩ := h
  obtain ⟨n4, n20, n21, n22, _⟩ := nameX_all (T := T) (x := x) (t := t) (s := s)
  have n10 := nameX_10 T x t s
  refine ⟨by rw [e20, n10, hn], by rw [n10]; omega, fun k k0 k1 => ?_⟩
  rw [n10] at k1
  subst hn
  rw [e21, e22, n4, n20, n21]
  by_cases w : k = x 10 0
  · simp only [if_pos w]
    exact ⟨⟨trivial, trivial, hk⟩, trivial, fun z => by rw [w]; exact e23s z⟩
  · simp only [if_neg w]
    rw [e23 k w]
    exact h3 k k0 (by omega)
theorem NS.guard {T : Tab} {x : Cs} {t n : Int} (h : NS T x n) : NS T (nameX T x t (-1)) n := by
  obtain ⟨h1, h2, h3, h4⟩ := h
  obtain ⟨n4, n20, n21, n22, _⟩ := nameX_all (T := T) (x := x) (t := t) (s := -1)
  have n10 := nameX_10 T x t (-1)
  have n5 := nameX_5 (s := -1) T x t
  refine ⟨fun p p0 p1 => ?_, fun k k0 k1 => ?_, fun p p0 p1 => ?_, fun j k j0 jk k1 a b => ?_⟩
  · rw [n5, n22]; exact h1 p p0 p1
  · rw [n10] at k1
    rw [n21, n20, n22]
    by_cases w : k = x 10 0
    · rw [if_pos w]; exact Or.inl rfl
    · rw [if_neg w, if_neg w]; exact h2 k k0 (by omega)
  · obtain ⟨k, a, b, d⟩ := h3 p p0 p1
    exact ⟨k, a, by rw [n10]; omega, by rw [n21, if_neg (by omega)]; exact d⟩
  · rw [n10] at k1
    rw [n21] at a b
    rw [n21, n21]
    by_cases w : k = x 10 0
    · rw [if_pos w] at b; exact absurd rfl b
    · rw [if_neg w] at b ⊢
      rw [if_neg (by omega)] at a ⊢
      exact h4 j k j0 jk (by omega) a b
theorem NS.post {T : Tab} {x : Cs} {t n : Int} (h : NS T x n) (hn : 0 ≤ n) (h10 : 0 ≤ x 10 0) : NS T (postX T x t n) (n + 1) := by
  obtain ⟨h1, h2, h3, h4⟩ := h
  obtain ⟨n4, n20, n21, n22, _⟩ := nameX_all (T := T) (x := x) (t := t) (s := n)
  have n10 := postX_10 T x t n
  have n5 := nameX_5 (s := n) T x t
  have p5 : ∀ p, postX T x t n 5 p = if p = n then T.2.2.2.1 t else x 5 p := fun p => by unfold postX; rw [cu_f (by decide), cu_if, n5]; simp only [true_and]
  have p22 : ∀ p, postX T x t n 22 p = if p = n then t else x 22 p := fun p => by unfold postX; rw [cu_if, cu_f (by decide), n22]; simp only [true_and]
  have p20 : ∀ p, postX T x t n 20 p = if p = x 10 0 then t else x 20 p := fun p => by unfold postX; rw [cu_f (by decide), cu_f (by decide), n20]
  have p21 : ∀ p, postX T x t n 21 p = if p = x 10 0 then n else x 21 p := fun p => by unfold postX; rw [cu_f (by decide), cu_f (by decide), n21]
  refine ⟨fun p q0 q1 => ?_, fun k k0 k1 => ?_, fun p q0 q1 => ?_, fun j k j0 jk k1 a b => ?_⟩
  · rw [p5, p22]
    by_cases w : p = n
    · rw [if_pos w, if_pos w]
    · rw [if_neg w, if_neg w]; exact h1 p q0 (by omega)
  · rw [n10] at k1
    rw [p21, p20]
    by_cases w : k = x 10 0
    · rw [if_pos w, if_pos w, p22, if_pos rfl]; right; exact ⟨hn, by omega, rfl⟩
    · rw [if_neg w, if_neg w]
      rcases h2 k k0 (by omega) with z | ⟨z1, z2, z3⟩
      · exact Or.inl z
      · right; exact ⟨z1, by omega, by rw [p22, if_neg (by omega)]; exact z3⟩
  · by_cases w : p = n
    · exact ⟨x 10 0, h10, by rw [n10]; omega, by rw [p21, if_pos rfl]; exact w.symm⟩
    · obtain ⟨k, a, b, d⟩ := h3 p q0 (by omega)
      exact ⟨k, a, by rw [n10]; omega, by rw [p21, if_neg (by omega)]; exact d⟩
  · rw [n10] at k1
    rw [p21] at a b
    rw [p21, p21]
    rw [if_neg (by omega)] at a ⊢
    by_cases w : k = x 10 0
    · rw [if_pos w]
      rcases h2 j j0 (by omega) with z | ⟨z1, z2, z3⟩
      · exact absurd z a
      · exact z2
    · rw [if_neg w] at b ⊢
      exact h4 j k j0 jk (by omega) a b
section MT2
variable {T : Tab} {σ : St} {m x P c : Cs} {t : Int}
/-- what a tell of a post or a guard leaves of the law -/
def SmL (m m' : Cs) : Prop := ∀ f, 34 ≤ f → f ≤ 46 → m' f = m f
theorem SmL.rf (m : Cs) : SmL m m := fun _ _ _ => rfl
theorem SmL.w {m m' : Cs} {f : Nat} {k v : Int} (h : SmL m m') (hf : f < 34) : SmL m (cu m' f k v) := fun g a b => by rw [cf_f (by omega)]; exact h g a b
theorem sz8 : szS 25 = 8 ∧ szS 26 = 8 ∧ szS 27 = 8 ∧ szS 28 = 8 ∧ szS 24 = 1 ∧ szS 29 = 1 ∧ szS 30 = 12 ∧ szS 31 = 1 ∧ szS 32 = 24 ∧ szS 33 = 1 := by decide
def telM (σ : St) (T : Tab) (s : Int) (m : Cs) (res : (Int × Int) ⊕ (Int × Cs × Cs × Cs)) (u : St) : Prop := match res with
  | .inl fp => ∃ m', u = so σ 1 m' ∧ PF s m m' ∧ Ft fp m'
  | .inr p => ∃ m', u = so σ 1 m' ∧ PF s m m' ∧ SmL m m' ∧ m' 13 0 = 0 ∧ m' 12 0 = m 12 0 ∧ m' 11 0 = p.1 ∧ MRp s p.2.2.1 p.2.2.2 m' ∧ MRn T p.2.1 m' ∧ NS T p.2.1 (p.2.2.1 3 0) ∧ WX T p.2.1 m' p.1
set_option maxHeartbeats 4000000 in
theorem k_Mo_tellPost {s : Int} (h : MH T m (t + 1)) (hk0 : 0 ≤ t) (h3 : 0 ≤ P 3 0 ∧ P 3 0 < 8) (hp : MRp s P c m) (hn : MRn T x m) (h10 : x 10 0 < 20) (hN : NS T x (P 3 0)) (hw : WX T x m (t + 1)) (hgo : pGo T t = .inr (t + 1)) : CtV M_Mo_tellPost [.inr (.inr (1, 0))] (so σ 1 m) (fun u => telM σ T s m (zPost T t x P c) u) := by
  intro g C F
  have hs := hp.1
  obtain ⟨_, p19, ⟨p24, p29, p31, p33⟩, pA, pG, pD, pE, pE2⟩ := hp
  obtain ⟨z25, z26, z27, z28, z24, z29, z30, z31, z32, z33⟩ := sz8
  have hn20 := hn.1
  have hn10 := hn.2.1
  have h0 := h.2.2.2.1
  unfold zPost at F
  rw [if_neg (by omega), hgo, bnd_r] at F
  -- behind a FAULT: to the end
  have d71 : ∀ (fp : Int × Int) (m' : Cs) (q : Int), Ft fp m' → PF s m m' → (∀ u, (∃ m2, u = so σ 1 m2 ∧ PF s m m2 ∧ Ft fp m2) → telM σ T s m (.inl fp) u) → FinV M_Mo_tellPost g (fun u => telM σ T s m (.inl fp) u) → Ev g 71 [some (.inr (.inr (1, 0))), some (.inl (8 * s + P 3 0)), some (.inl q)] [] (so σ 1 m') := by
    intro fp m' q hf hpf _ F
    have := hf.f
    refine e_aload_n C d_Mo_tellPost_71 rfl ?_
    refine e_iconst C d_Mo_tellPost_72 ?_
    refine e_callVV C ok_Mo_must lk_Mo_252 (o := 1) (by decide) rfl [_] rfl rfl (Nat.le_of_ble_eq_true rfl) (by decide) (Nat.le_of_ble_eq_true rfl) d_Mo_tellPost_73 (k_Mo_mustF hf.f) (fun u_73 h_73 => ?_)
    subst h_73
    refine e_aload_n C d_Mo_tellPost_76 rfl ?_
    refine e_geti C fl_Mo_185 (by decide) rfl rfl d_Mo_tellPost_77 (fun r_77 => ?_)
    try simp only [so_at] at r_77 ⊢
    refine e_if_le C 84 d_Mo_tellPost_80 (by decide) (by omega) (fun c_80 => ?_) (fun c_80 => ?_)
    · exact absurd c_80 (by omega)
    · refine e_vret C F rfl d_Mo_tellPost_83 ?_
      exact ⟨m', rfl, hpf, hf⟩
  have d64 : ∀ (fp : Int × Int) (m' : Cs) (q : Int), Ft fp m' → PF s m m' → FinV M_Mo_tellPost g (fun u => telM σ T s m (.inl fp) u) → Ev g 64 [some (.inr (.inr (1, 0))), some (.inl (8 * s + P 3 0)), some (.inl q)] [] (so σ 1 m') := by
    intro fp m' q hf hpf F
    refine e_aload_n C d_Mo_tellPost_64 rfl ?_
    refine e_geta C fl_Mo_61 (by decide) rfl rfl d_Mo_tellPost_65 ?_
    refine e_iload_n C d_Mo_tellPost_68 rfl ?_
    refine e_iconst C d_Mo_tellPost_69 ?_
    refine e_iast (n := 16) C (by decide) rfl (by decide) rfl rfl (by decide) (by omega) (by omega) (by omega) d_Mo_tellPost_70 ?_
    try simp only [so_at, so_so, wr_so]
    exact d71 fp _ q (hf.w (by decide) (by decide) (by decide)) (hpf.w2 (by decide) (by rw [z28]; omega) (by rw [z28]; omega)) (fun u z => z) F
  have d51 : ∀ (fp : Int × Int) (m' : Cs) (q : Int), Ft fp m' → PF s m m' → FinV M_Mo_tellPost g (fun u => telM σ T s m (.inl fp) u) → Ev g 51 [some (.inr (.inr (1, 0))), some (.inl (8 * s + P 3 0)), some (.inl q)] [] (so σ 1 m') := by
    intro fp m' q hf hpf F
    refine e_aload_n C d_Mo_tellPost_51 rfl ?_
    refine e_geta C fl_Mo_58 (by decide) rfl rfl d_Mo_tellPost_52 ?_
    refine e_iload_n C d_Mo_tellPost_55 rfl ?_
    refine e_aload_n C d_Mo_tellPost_56 rfl ?_
    refine e_iconst C d_Mo_tellPost_57 ?_
    refine e_bipush C d_Mo_tellPost_58 (by decide) ?_
    refine e_callIV C ok_Mo_bounded lk_Mo_261 (o := 1) (by decide) rfl [_, _] rfl rfl (Nat.le_of_ble_eq_true rfl) (by decide) (Nat.le_of_ble_eq_true rfl) d_Mo_tellPost_60 (k_Mo_boundedF hf.f) (fun v_60 u_60 q_60 h_60 => ?_)
    obtain ⟨rfl, rfl⟩ := h_60
    refine e_iast (n := 16) C (by decide) rfl (by decide) rfl rfl (by decide) (by omega) (by omega) (by omega) d_Mo_tellPost_63 ?_
    try simp only [so_at, so_so, wr_so]
    exact d64 fp _ q (hf.w (by decide) (by decide) (by decide)) (hpf.w2 (by decide) (by rw [z27]; omega) (by rw [z27]; omega)) F
  have d37 : ∀ (fp : Int × Int) (m' : Cs) (q : Int), Ft fp m' → PF s m m' → FinV M_Mo_tellPost g (fun u => telM σ T s m (.inl fp) u) → Ev g 37 [some (.inr (.inr (1, 0))), some (.inl (8 * s + P 3 0)), some (.inl q)] [] (so σ 1 m') := by
    intro fp m' q hf hpf F
    refine e_aload_n C d_Mo_tellPost_37 rfl ?_
    refine e_geta C fl_Mo_55 (by decide) rfl rfl d_Mo_tellPost_38 ?_
    refine e_iload_n C d_Mo_tellPost_41 rfl ?_
    refine e_aload_n C d_Mo_tellPost_42 rfl ?_
    refine e_iconst C d_Mo_tellPost_43 ?_
    refine e_sipush C d_Mo_tellPost_44 (by decide) ?_
    refine e_callIV C ok_Mo_bounded lk_Mo_261 (o := 1) (by decide) rfl [_, _] rfl rfl (Nat.le_of_ble_eq_true rfl) (by decide) (Nat.le_of_ble_eq_true rfl) d_Mo_tellPost_47 (k_Mo_boundedF hf.f) (fun v_47 u_47 q_47 h_47 => ?_)
    obtain ⟨rfl, rfl⟩ := h_47
    refine e_iast (n := 16) C (by decide) rfl (by decide) rfl rfl (by decide) (by omega) (by omega) (by omega) d_Mo_tellPost_50 ?_
    try simp only [so_at, so_so, wr_so]
    exact d51 fp _ q (hf.w (by decide) (by decide) (by decide)) (hpf.w2 (by decide) (by rw [z26]; omega) (by rw [z26]; omega)) F
  have d23 : ∀ (fp : Int × Int) (m' : Cs) (q : Int), Ft fp m' → PF s m m' → FinV M_Mo_tellPost g (fun u => telM σ T s m (.inl fp) u) → Ev g 23 [some (.inr (.inr (1, 0))), some (.inl (8 * s + P 3 0)), some (.inl q)] [] (so σ 1 m') := by
    intro fp m' q hf hpf F
    refine e_aload_n C d_Mo_tellPost_23 rfl ?_
    refine e_geta C fl_Mo_52 (by decide) rfl rfl d_Mo_tellPost_24 ?_
    refine e_iload_n C d_Mo_tellPost_27 rfl ?_
    refine e_aload_n C d_Mo_tellPost_28 rfl ?_
    refine e_iconst C d_Mo_tellPost_29 ?_
    refine e_sipush C d_Mo_tellPost_30 (by decide) ?_
    refine e_callIV C ok_Mo_bounded lk_Mo_261 (o := 1) (by decide) rfl [_, _] rfl rfl (Nat.le_of_ble_eq_true rfl) (by decide) (Nat.le_of_ble_eq_true rfl) d_Mo_tellPost_33 (k_Mo_boundedF hf.f) (fun v_33 u_33 q_33 h_33 => ?_)
    obtain ⟨rfl, rfl⟩ := h_33
    refine e_iast (n := 16) C (by decide) rfl (by decide) rfl rfl (by decide) (by omega) (by omega) (by omega) d_Mo_tellPost_36 ?_
    try simp only [so_at, so_so, wr_so]
    exact d37 fp _ q (hf.w (by decide) (by decide) (by decide)) (hpf.w2 (by decide) (by rw [z25]; omega) (by rw [z25]; omega)) F
  refine e_bipush C d_Mo_tellPost_0 (by decide) ?_
  refine e_aload_n C d_Mo_tellPost_2 rfl ?_
  refine e_geti C fl_Mo_218 (by decide) rfl rfl d_Mo_tellPost_3 (fun r_3 => ?_)
  try simp only [so_at, p19, p24] at r_3 ⊢
  refine e_imul C d_Mo_tellPost_6 ?_
  refine e_aload_n C d_Mo_tellPost_7 rfl ?_
  refine e_geta C fl_Mo_49 (by decide) rfl rfl d_Mo_tellPost_8 ?_
  refine e_aload_n C d_Mo_tellPost_11 rfl ?_
  refine e_geti C fl_Mo_218 (by decide) rfl rfl d_Mo_tellPost_12 (fun r_12 => ?_)
  try simp only [so_at, p19, p24] at r_12 ⊢
  refine e_iald (n := 2) C (by decide) rfl (by decide) rfl rfl (by decide) (by omega) (by omega) d_Mo_tellPost_15 (fun r_15 => ?_)
  try simp only [so_at, p19, p24] at r_15 ⊢
  refine e_iadd C d_Mo_tellPost_16 ?_
  refine e_istore_n C d_Mo_tellPost_17 (by decide) rfl ?_
  refine e_aload_n C d_Mo_tellPost_18 rfl ?_
  refine e_callIV C ok_Mo_named lk_Mo_268 (o := 1) (by decide) rfl [] rfl rfl (Nat.le_of_ble_eq_true rfl) (by decide) (Nat.le_of_ble_eq_true rfl) d_Mo_tellPost_19 (k_Mo_named h hw.sl hn20 hn10) (fun v_19 u_19 q_19 h_19 => ?_)
  obtain ⟨rfl, h_19⟩ := h_19
  refine e_istore_n C d_Mo_tellPost_22 (by decide) rfl ?_
  rcases h_19 with ⟨fp, a1, a2, rfl⟩ | ⟨a1, a2, a3, rfl⟩
  · rw [a1, bnd_l] at F
    exact d23 fp _ (t + 1) (Ft.mk h a2) (PF.rf s m).fl F
  · rw [a1, bnd_r] at F
    have ewx : WX T (postX T x (t + 1) (P 3 0)) (twm (cu m 11 0 (t + 1 + 1)) (x 10 0) (T.2.2.2.2 (t + 1)) (T.2.1 (t + 1))) (t + 1 + 1) := by
      have := hw.tw h.1 (by omega) a3 hn rfl
      have q := (nameX_all (T := T) (x := x) (t := t + 1) (s := P 3 0)).2.2.2.2
      have e15 : postX T x (t + 1) (P 3 0) 15 0 = twx x (T.2.2.2.1 (t + 1)) (T.2.1 (t + 1)) 15 0 := by unfold postX; rw [cu_f (by decide), cu_f (by decide), q.1]
      have e16 : postX T x (t + 1) (P 3 0) 16 0 = twx x (T.2.2.2.1 (t + 1)) (T.2.1 (t + 1)) 16 0 := by unfold postX; rw [cu_f (by decide), cu_f (by decide), q.2]
      unfold WX
      rw [e15, e16]
      exact this
    have ef : ∀ f, f ≠ 11 → f ≠ 15 → f ≠ 16 → twm (cu m 11 0 (t + 1 + 1)) (x 10 0) (T.2.2.2.2 (t + 1)) (T.2.1 (t + 1)) f = m f := fun f b1 b2 b3 => by rw [twm_f b2 b3, cf_f b1]
    have e11 : twm (cu m 11 0 (t + 1 + 1)) (x 10 0) (T.2.2.2.2 (t + 1)) (T.2.1 (t + 1)) 11 0 = t + 1 + 1 := by rw [twm_f (by decide) (by decide), cu_s]
    have hpf1 : PF s m (twm (cu m 11 0 (t + 1 + 1)) (x 10 0) (T.2.2.2.2 (t + 1)) (T.2.1 (t + 1))) := by
      unfold twm
      split
      · exact (PF.rf s m).w1 (by omega)
      · exact ((PF.rf s m).w1 (by omega)).nt
    have hsm1 : SmL m (twm (cu m 11 0 (t + 1 + 1)) (x 10 0) (T.2.2.2.2 (t + 1)) (T.2.1 (t + 1))) := fun f b1 b2 => ef f (by omega) (by omega) (by omega)
    have hM1 : MH T (twm (cu m 11 0 (t + 1 + 1)) (x 10 0) (T.2.2.2.2 (t + 1)) (T.2.1 (t + 1))) (t + 1 + 1) := h.go (fun f hf => ef f (by omega) (by omega) (by omega)) e11 (by rw [ef 13 (by decide) (by decide) (by decide)]) a2 (by omega)
    have hkt := hM1.2.1
    generalize twm (cu m 11 0 (t + 1 + 1)) (x 10 0) (T.2.2.2.2 (t + 1)) (T.2.1 (t + 1)) = m1 at ewx ef e11 hpf1 hsm1 hM1 hkt ⊢
    refine e_aload_n C d_Mo_tellPost_23 rfl ?_
    refine e_geta C fl_Mo_52 (by decide) rfl rfl d_Mo_tellPost_24 ?_
    refine e_iload_n C d_Mo_tellPost_27 rfl ?_
    refine e_aload_n C d_Mo_tellPost_28 rfl ?_
    refine e_iconst C d_Mo_tellPost_29 ?_
    refine e_sipush C d_Mo_tellPost_30 (by decide) ?_
    refine e_callIV C ok_Mo_bounded lk_Mo_261 (o := 1) (by decide) rfl [_, _] rfl rfl (Nat.le_of_ble_eq_true rfl) (by decide) (Nat.le_of_ble_eq_true rfl) d_Mo_tellPost_33 (k_Mo_bounded (x := postX T x (t + 1) (P 3 0)) (s := s) hM1 ewx.sl (by omega)) (fun v_33 u_33 q_33 h_33 => ?_)
    obtain ⟨r33, h_33⟩ := h_33
    refine e_iast (n := 16) C (by decide) rfl (by decide) rfl rfl (by decide) (by omega) (by omega) (by omega) d_Mo_tellPost_36 ?_
    try simp only [so_at, so_so, wr_so]
    rcases h_33 with ⟨fp, m2, b1, rfl, b3, b4, b5⟩ | ⟨b1, b2, b3, rfl, rfl⟩
    · rw [b1, bnd_l] at F
      rw [so_at, so_so]
      exact d37 fp _ (t + 1) (b3.w (by decide) (by decide) (by decide)) ((hpf1.tr b4).w2 (by decide) (by rw [z25]; omega) (by rw [z25]; omega)) F
    · rw [b1, bnd_r] at F
      have ewx2 := ewx.bd (most := 999) h.1 (by omega) (by omega)
      have ef2 : ∀ f, f ≠ 11 → f ≠ 15 → f ≠ 16 → f ≠ 25 → cu (cu (bdM T m1 999 (t + 1 + 1)) 11 0 (t + 1 + 1 + 1)) 25 (8 * s + P 3 0) (T.2.2.1 (t + 1 + 1)) f = m f := fun f c1 c2 c3 c4 => by rw [cf_f c4, cf_f c1, bdM_f c2 c3]; exact ef f c1 c2 c3
      have e25 : ∀ j, cu (cu (bdM T m1 999 (t + 1 + 1)) 11 0 (t + 1 + 1 + 1)) 25 (8 * s + P 3 0) (T.2.2.1 (t + 1 + 1)) 25 j = if j = 8 * s + P 3 0 then T.2.2.1 (t + 1 + 1) else m 25 j := fun j => by rw [cu_if, cu_f (by decide), bdM_f (by decide) (by decide), ef 25 (by decide) (by decide) (by decide)]; simp only [true_and]
      have hpf2 : PF s m (cu (cu (bdM T m1 999 (t + 1 + 1)) 11 0 (t + 1 + 1 + 1)) 25 (8 * s + P 3 0) (T.2.2.1 (t + 1 + 1))) := by
        refine PF.w2 (PF.w1 ?_ (by omega)) (by decide) (by rw [z25]; omega) (by rw [z25]; omega)
        unfold bdM
        split
        · exact hpf1.nt
        · exact hpf1
      have hM2 : MH T (cu (cu (bdM T m1 999 (t + 1 + 1)) 11 0 (t + 1 + 1 + 1)) 25 (8 * s + P 3 0) (T.2.2.1 (t + 1 + 1))) (t + 1 + 1 + 1) := hM1.go (fun f hf => by rw [cf_f (by omega), cf_f (by omega), bdM_f (by omega) (by omega)]) (by rw [cu_f (by decide), cu_s]) (by rw [cu_f (by decide), cu_f (by decide), bdM_f (by decide) (by decide)]) b2 (by omega)
      have ewx3 : WX T (if 999 < T.2.2.1 (t + 1 + 1) then noteX (postX T x (t + 1) (P 3 0)) 5 (T.2.1 (t + 1 + 1)) else postX T x (t + 1) (P 3 0)) (cu (cu (bdM T m1 999 (t + 1 + 1)) 11 0 (t + 1 + 1 + 1)) 25 (8 * s + P 3 0) (T.2.2.1 (t + 1 + 1))) (t + 1 + 1 + 1) := ⟨by rw [cu_f (by decide)]; exact ewx2.1, by rw [cu_f (by decide)]; exact ewx2.2.1, ewx2.2.2⟩
      have hxf : ∀ f, f ≠ 15 → f ≠ 16 → (if 999 < T.2.2.1 (t + 1 + 1) then noteX (postX T x (t + 1) (P 3 0)) 5 (T.2.1 (t + 1 + 1)) else postX T x (t + 1) (P 3 0)) f = postX T x (t + 1) (P 3 0) f := fun f c1 c2 => by split <;> first | exact noteX_f c1 c2 | rfl
      rw [so_at, so_so]
      generalize cu (cu (bdM T m1 999 (t + 1 + 1)) 11 0 (t + 1 + 1 + 1)) 25 (8 * s + P 3 0) (T.2.2.1 (t + 1 + 1)) = m2 at ef2 e25 hpf2 hM2 ewx3 ⊢
      generalize (if 999 < T.2.2.1 (t + 1 + 1) then noteX (postX T x (t + 1) (P 3 0)) 5 (T.2.1 (t + 1 + 1)) else postX T x (t + 1) (P 3 0)) = x3 at F ewx3 hxf
      refine e_aload_n C d_Mo_tellPost_37 rfl ?_
      refine e_geta C fl_Mo_55 (by decide) rfl rfl d_Mo_tellPost_38 ?_
      refine e_iload_n C d_Mo_tellPost_41 rfl ?_
      refine e_aload_n C d_Mo_tellPost_42 rfl ?_
      refine e_iconst C d_Mo_tellPost_43 ?_
      refine e_sipush C d_Mo_tellPost_44 (by decide) ?_
      refine e_callIV C ok_Mo_bounded lk_Mo_261 (o := 1) (by decide) rfl [_, _] rfl rfl (Nat.le_of_ble_eq_true rfl) (by decide) (Nat.le_of_ble_eq_true rfl) d_Mo_tellPost_47 (k_Mo_bounded (x := x3) (s := s) hM2 ewx3.sl (by omega)) (fun v_47 u_47 q_47 h_47 => ?_)
      obtain ⟨r47, h_47⟩ := h_47
      refine e_iast (n := 16) C (by decide) rfl (by decide) rfl rfl (by decide) (by omega) (by omega) (by omega) d_Mo_tellPost_50 ?_
      try simp only [so_at, so_so, wr_so]
      rcases h_47 with ⟨fp, m3, d1, rfl, d3, d4, d5⟩ | ⟨d1, d2, d3, rfl, rfl⟩
      · have F2 : FinV M_Mo_tellPost g (fun u => telM σ T s m (.inl fp) u) := by
          have d1' : pInt T 999 (t + 1 + 1 + 1) x3 = .inl fp := d1
          simp only [d1', bnd_l] at F
          exact F
        rw [so_at, so_so]
        exact d51 fp _ (t + 1) (d3.w (by decide) (by decide) (by decide)) ((hpf2.tr d4).w2 (by decide) (by rw [z26]; omega) (by rw [z26]; omega)) F2
      · simp only [d1, bnd_r] at F
        have ewx4 := ewx3.bd (most := 999) h.1 (by omega) (by omega)
        have ef3 : ∀ f, f ≠ 11 → f ≠ 15 → f ≠ 16 → f ≠ 25 → f ≠ 26 → cu (cu (bdM T m2 999 (t + 1 + 1 + 1)) 11 0 (t + 1 + 1 + 1 + 1)) 26 (8 * s + P 3 0) (T.2.2.1 (t + 1 + 1 + 1)) f = m f := fun f c1 c2 c3 c4 c5 => by rw [cf_f c5, cf_f c1, bdM_f c2 c3]; exact ef2 f c1 c2 c3 c4
        have g25 : ∀ j, cu (cu (bdM T m2 999 (t + 1 + 1 + 1)) 11 0 (t + 1 + 1 + 1 + 1)) 26 (8 * s + P 3 0) (T.2.2.1 (t + 1 + 1 + 1)) 25 j = if j = 8 * s + P 3 0 then T.2.2.1 (t + 1 + 1) else m 25 j := fun j => by rw [cu_f (by decide), cu_f (by decide), bdM_f (by decide) (by decide)]; exact e25 j
        have g26 : ∀ j, cu (cu (bdM T m2 999 (t + 1 + 1 + 1)) 11 0 (t + 1 + 1 + 1 + 1)) 26 (8 * s + P 3 0) (T.2.2.1 (t + 1 + 1 + 1)) 26 j = if j = 8 * s + P 3 0 then T.2.2.1 (t + 1 + 1 + 1) else m 26 j := fun j => by rw [cu_if, cu_f (by decide), bdM_f (by decide) (by decide), ef2 26 (by decide) (by decide) (by decide) (by decide)]; simp only [true_and]
        have hpf3 : PF s m (cu (cu (bdM T m2 999 (t + 1 + 1 + 1)) 11 0 (t + 1 + 1 + 1 + 1)) 26 (8 * s + P 3 0) (T.2.2.1 (t + 1 + 1 + 1))) := by
          refine PF.w2 (PF.w1 ?_ (by omega)) (by decide) (by rw [z26]; omega) (by rw [z26]; omega)
          unfold bdM
          split
          · exact hpf2.nt
          · exact hpf2
        have hM3 : MH T (cu (cu (bdM T m2 999 (t + 1 + 1 + 1)) 11 0 (t + 1 + 1 + 1 + 1)) 26 (8 * s + P 3 0) (T.2.2.1 (t + 1 + 1 + 1))) (t + 1 + 1 + 1 + 1) := hM2.go (fun f hf => by rw [cf_f (by omega), cf_f (by omega), bdM_f (by omega) (by omega)]) (by rw [cu_f (by decide), cu_s]) (by rw [cu_f (by decide), cu_f (by decide), bdM_f (by decide) (by decide)]) d2 (by omega)
        have ewx5 : WX T (if 999 < T.2.2.1 (t + 1 + 1 + 1) then noteX x3 5 (T.2.1 (t + 1 + 1 + 1)) else x3) (cu (cu (bdM T m2 999 (t + 1 + 1 + 1)) 11 0 (t + 1 + 1 + 1 + 1)) 26 (8 * s + P 3 0) (T.2.2.1 (t + 1 + 1 + 1))) (t + 1 + 1 + 1 + 1) := ⟨by rw [cu_f (by decide)]; exact ewx4.1, by rw [cu_f (by decide)]; exact ewx4.2.1, ewx4.2.2⟩
        have hxf2 : ∀ f, f ≠ 15 → f ≠ 16 → (if 999 < T.2.2.1 (t + 1 + 1 + 1) then noteX x3 5 (T.2.1 (t + 1 + 1 + 1)) else x3) f = postX T x (t + 1) (P 3 0) f := fun f c1 c2 => by rw [← hxf f c1 c2]; split <;> first | exact noteX_f c1 c2 | rfl
        rw [so_at, so_so]
        generalize cu (cu (bdM T m2 999 (t + 1 + 1 + 1)) 11 0 (t + 1 + 1 + 1 + 1)) 26 (8 * s + P 3 0) (T.2.2.1 (t + 1 + 1 + 1)) = m3 at ef3 g25 g26 hpf3 hM3 ewx5 ⊢
        generalize (if 999 < T.2.2.1 (t + 1 + 1 + 1) then noteX x3 5 (T.2.1 (t + 1 + 1 + 1)) else x3) = x4 at F ewx5 hxf2
        refine e_aload_n C d_Mo_tellPost_51 rfl ?_
        refine e_geta C fl_Mo_58 (by decide) rfl rfl d_Mo_tellPost_52 ?_
        refine e_iload_n C d_Mo_tellPost_55 rfl ?_
        refine e_aload_n C d_Mo_tellPost_56 rfl ?_
        refine e_iconst C d_Mo_tellPost_57 ?_
        refine e_bipush C d_Mo_tellPost_58 (by decide) ?_
        refine e_callIV C ok_Mo_bounded lk_Mo_261 (o := 1) (by decide) rfl [_, _] rfl rfl (Nat.le_of_ble_eq_true rfl) (by decide) (Nat.le_of_ble_eq_true rfl) d_Mo_tellPost_60 (k_Mo_bounded (x := x4) (s := s) hM3 ewx5.sl (by omega)) (fun v_60 u_60 q_60 h_60 => ?_)
        obtain ⟨r60, h_60⟩ := h_60
        refine e_iast (n := 16) C (by decide) rfl (by decide) rfl rfl (by decide) (by omega) (by omega) (by omega) d_Mo_tellPost_63 ?_
        try simp only [so_at, so_so, wr_so]
        rcases h_60 with ⟨fp, m4, f1, rfl, f3, f4, f5⟩ | ⟨f1, f2, f3, rfl, rfl⟩
        · simp only [f1, bnd_l] at F
          rw [so_at, so_so]
          exact d64 fp _ (t + 1) (f3.w (by decide) (by decide) (by decide)) ((hpf3.tr f4).w2 (by decide) (by rw [z27]; omega) (by rw [z27]; omega)) F
        · simp only [f1, bnd_r] at F
          have ewx6 := ewx5.bd (most := 99) h.1 (by omega) (by omega)
          have ef4 : ∀ f, f ≠ 11 → f ≠ 15 → f ≠ 16 → f ≠ 25 → f ≠ 26 → f ≠ 27 → cu (cu (bdM T m3 99 (t + 1 + 1 + 1 + 1)) 11 0 (t + 1 + 1 + 1 + 1 + 1)) 27 (8 * s + P 3 0) (T.2.2.1 (t + 1 + 1 + 1 + 1)) f = m f := fun f c1 c2 c3 c4 c5 c6 => by rw [cf_f c6, cf_f c1, bdM_f c2 c3]; exact ef3 f c1 c2 c3 c4 c5
          have i25 : ∀ j, cu (cu (bdM T m3 99 (t + 1 + 1 + 1 + 1)) 11 0 (t + 1 + 1 + 1 + 1 + 1)) 27 (8 * s + P 3 0) (T.2.2.1 (t + 1 + 1 + 1 + 1)) 25 j = if j = 8 * s + P 3 0 then T.2.2.1 (t + 1 + 1) else m 25 j := fun j => by rw [cu_f (by decide), cu_f (by decide), bdM_f (by decide) (by decide)]; exact g25 j
          have i26 : ∀ j, cu (cu (bdM T m3 99 (t + 1 + 1 + 1 + 1)) 11 0 (t + 1 + 1 + 1 + 1 + 1)) 27 (8 * s + P 3 0) (T.2.2.1 (t + 1 + 1 + 1 + 1)) 26 j = if j = 8 * s + P 3 0 then T.2.2.1 (t + 1 + 1 + 1) else m 26 j := fun j => by rw [cu_f (by decide), cu_f (by decide), bdM_f (by decide) (by decide)]; exact g26 j
          have i27 : ∀ j, cu (cu (bdM T m3 99 (t + 1 + 1 + 1 + 1)) 11 0 (t + 1 + 1 + 1 + 1 + 1)) 27 (8 * s + P 3 0) (T.2.2.1 (t + 1 + 1 + 1 + 1)) 27 j = if j = 8 * s + P 3 0 then T.2.2.1 (t + 1 + 1 + 1 + 1) else m 27 j := fun j => by rw [cu_if, cu_f (by decide), bdM_f (by decide) (by decide), ef3 27 (by decide) (by decide) (by decide) (by decide) (by decide)]; simp only [true_and]
          have hpf4 : PF s m (cu (cu (bdM T m3 99 (t + 1 + 1 + 1 + 1)) 11 0 (t + 1 + 1 + 1 + 1 + 1)) 27 (8 * s + P 3 0) (T.2.2.1 (t + 1 + 1 + 1 + 1))) := by
            refine PF.w2 (PF.w1 ?_ (by omega)) (by decide) (by rw [z27]; omega) (by rw [z27]; omega)
            unfold bdM
            split
            · exact hpf3.nt
            · exact hpf3
          have hM4 : MH T (cu (cu (bdM T m3 99 (t + 1 + 1 + 1 + 1)) 11 0 (t + 1 + 1 + 1 + 1 + 1)) 27 (8 * s + P 3 0) (T.2.2.1 (t + 1 + 1 + 1 + 1))) (t + 1 + 1 + 1 + 1 + 1) := hM3.go (fun f hf => by rw [cf_f (by omega), cf_f (by omega), bdM_f (by omega) (by omega)]) (by rw [cu_f (by decide), cu_s]) (by rw [cu_f (by decide), cu_f (by decide), bdM_f (by decide) (by decide)]) f2 (by omega)
          have ewx7 : WX T (if 99 < T.2.2.1 (t + 1 + 1 + 1 + 1) then noteX x4 5 (T.2.1 (t + 1 + 1 + 1 + 1)) else x4) (cu (cu (bdM T m3 99 (t + 1 + 1 + 1 + 1)) 11 0 (t + 1 + 1 + 1 + 1 + 1)) 27 (8 * s + P 3 0) (T.2.2.1 (t + 1 + 1 + 1 + 1))) (t + 1 + 1 + 1 + 1 + 1) := ⟨by rw [cu_f (by decide)]; exact ewx6.1, by rw [cu_f (by decide)]; exact ewx6.2.1, ewx6.2.2⟩
          have hxf3 : ∀ f, f ≠ 15 → f ≠ 16 → (if 99 < T.2.2.1 (t + 1 + 1 + 1 + 1) then noteX x4 5 (T.2.1 (t + 1 + 1 + 1 + 1)) else x4) f = postX T x (t + 1) (P 3 0) f := fun f c1 c2 => by rw [← hxf2 f c1 c2]; split <;> first | exact noteX_f c1 c2 | rfl
          rw [so_at, so_so]
          generalize cu (cu (bdM T m3 99 (t + 1 + 1 + 1 + 1)) 11 0 (t + 1 + 1 + 1 + 1 + 1)) 27 (8 * s + P 3 0) (T.2.2.1 (t + 1 + 1 + 1 + 1)) = m4 at ef4 i25 i26 i27 hpf4 hM4 ewx7 ⊢
          generalize (if 99 < T.2.2.1 (t + 1 + 1 + 1 + 1) then noteX x4 5 (T.2.1 (t + 1 + 1 + 1 + 1)) else x4) = x5 at F ewx7 hxf3
          have hM5 : MH T (cu m4 28 (8 * s + P 3 0) (-1)) (t + 1 + 1 + 1 + 1 + 1) := hM4.same (fun f hf => cf_f (by omega)) (cu_f (by decide)) (cu_f (by decide))
          have hpf5 : PF s m (cu m4 28 (8 * s + P 3 0) (-1)) := hpf4.w2 (by decide) (by rw [z28]; omega) (by rw [z28]; omega)
          refine e_aload_n C d_Mo_tellPost_64 rfl ?_
          refine e_geta C fl_Mo_61 (by decide) rfl rfl d_Mo_tellPost_65 ?_
          refine e_iload_n C d_Mo_tellPost_68 rfl ?_
          refine e_iconst C d_Mo_tellPost_69 ?_
          refine e_iast (n := 16) C (by decide) rfl (by decide) rfl rfl (by decide) (by omega) (by omega) (by omega) d_Mo_tellPost_70 ?_
          try simp only [so_at, so_so, wr_so]
          refine e_aload_n C d_Mo_tellPost_71 rfl ?_
          refine e_iconst C d_Mo_tellPost_72 ?_
          refine e_callVV C ok_Mo_must lk_Mo_252 (o := 1) (by decide) rfl [_] rfl rfl (Nat.le_of_ble_eq_true rfl) (by decide) (Nat.le_of_ble_eq_true rfl) d_Mo_tellPost_73 (k_Mo_must hM5 (k' := 59) (by decide) (by decide)) (fun u_73 h_73 => ?_)
          rcases h_73 with ⟨fp, g1, g2, rfl⟩ | ⟨g1, g2, g3, rfl⟩
          · simp only [g1, bnd_l] at F
            have e13 : flt (cu m4 28 (8 * s + P 3 0) (-1)) fp.1 fp.2 13 0 = fp.1 := by unfold flt; rw [cu_f (by decide), cu_s]
            refine e_aload_n C d_Mo_tellPost_76 rfl ?_
            refine e_geti C fl_Mo_185 (by decide) rfl rfl d_Mo_tellPost_77 (fun r_77 => ?_)
            try simp only [so_at, e13] at r_77 ⊢
            refine e_if_le C 84 d_Mo_tellPost_80 (by decide) (by omega) (fun c_80 => ?_) (fun c_80 => ?_)
            · exact absurd c_80 (by omega)
            · refine e_vret C F rfl d_Mo_tellPost_83 ?_
              exact ⟨_, rfl, hpf5.fl, Ft.mk hM5 g2⟩
          · simp only [g1, bnd_r] at F
            have q13 : cu (cu m4 28 (8 * s + P 3 0) (-1)) 11 0 (t + 1 + 1 + 1 + 1 + 1 + 1) 13 0 = 0 := by rw [cu_f (by decide)]; exact hM5.2.2.2.2.2
            have qf : ∀ f, f ≠ 11 → f ≠ 15 → f ≠ 16 → f ≠ 25 → f ≠ 26 → f ≠ 27 → f ≠ 28 → cu (cu m4 28 (8 * s + P 3 0) (-1)) 11 0 (t + 1 + 1 + 1 + 1 + 1 + 1) f = m f := fun f c1 c2 c3 c4 c5 c6 c7 => by rw [cf_f c1, cf_f c7]; exact ef4 f c1 c2 c3 c4 c5 c6
            have q19 : cu (cu m4 28 (8 * s + P 3 0) (-1)) 11 0 (t + 1 + 1 + 1 + 1 + 1 + 1) 19 0 = s := by rw [qf 19 (by decide) (by decide) (by decide) (by decide) (by decide) (by decide) (by decide)]; exact p19
            have q24 : cu (cu m4 28 (8 * s + P 3 0) (-1)) 11 0 (t + 1 + 1 + 1 + 1 + 1 + 1) 24 s = P 3 0 := by rw [qf 24 (by decide) (by decide) (by decide) (by decide) (by decide) (by decide) (by decide)]; exact p24
            have q20 : cu (cu m4 28 (8 * s + P 3 0) (-1)) 11 0 (t + 1 + 1 + 1 + 1 + 1 + 1) 20 0 = x 10 0 := by rw [qf 20 (by decide) (by decide) (by decide) (by decide) (by decide) (by decide) (by decide)]; exact hn20
            have hTM6 : TM T (cu (cu m4 28 (8 * s + P 3 0) (-1)) 11 0 (t + 1 + 1 + 1 + 1 + 1 + 1)) := hM5.2.1.same (fun f hf => cf_f (by omega))
            have q8 := (hTM6 (t + 1) (by omega) (by omega) h.2.2.2.2.1).2.2.2 a3
            have j25 : ∀ j, cu (cu m4 28 (8 * s + P 3 0) (-1)) 11 0 (t + 1 + 1 + 1 + 1 + 1 + 1) 25 j = if j = 8 * s + P 3 0 then T.2.2.1 (t + 1 + 1) else m 25 j := fun j => by rw [cu_f (by decide), cu_f (by decide)]; exact i25 j
            have j26 : ∀ j, cu (cu m4 28 (8 * s + P 3 0) (-1)) 11 0 (t + 1 + 1 + 1 + 1 + 1 + 1) 26 j = if j = 8 * s + P 3 0 then T.2.2.1 (t + 1 + 1 + 1) else m 26 j := fun j => by rw [cu_f (by decide), cu_f (by decide)]; exact i26 j
            have j27 : ∀ j, cu (cu m4 28 (8 * s + P 3 0) (-1)) 11 0 (t + 1 + 1 + 1 + 1 + 1 + 1) 27 j = if j = 8 * s + P 3 0 then T.2.2.1 (t + 1 + 1 + 1 + 1) else m 27 j := fun j => by rw [cu_f (by decide), cu_f (by decide)]; exact i27 j
            have j28 : ∀ j, cu (cu m4 28 (8 * s + P 3 0) (-1)) 11 0 (t + 1 + 1 + 1 + 1 + 1 + 1) 28 j = if j = 8 * s + P 3 0 then -1 else m 28 j := fun j => by rw [cu_f (by decide), cu_if, ef4 28 (by decide) (by decide) (by decide) (by decide) (by decide) (by decide)]; simp only [true_and]
            have j11 : cu (cu m4 28 (8 * s + P 3 0) (-1)) 11 0 (t + 1 + 1 + 1 + 1 + 1 + 1) 11 0 = t + 1 + 1 + 1 + 1 + 1 + 1 := cu_s _ _ _ _
            have hpf6 : PF s m (cu (cu m4 28 (8 * s + P 3 0) (-1)) 11 0 (t + 1 + 1 + 1 + 1 + 1 + 1)) := hpf5.w1 (by omega)
            have ewx8 : WX T x5 (cu (cu m4 28 (8 * s + P 3 0) (-1)) 11 0 (t + 1 + 1 + 1 + 1 + 1 + 1)) (t + 1 + 1 + 1 + 1 + 1 + 1) := ewx7.go h.1 (by omega) (by omega) rfl rfl (by rw [cu_f (by decide), cu_f (by decide)]) (by rw [cu_f (by decide), cu_f (by decide)])
            generalize cu (cu m4 28 (8 * s + P 3 0) (-1)) 11 0 (t + 1 + 1 + 1 + 1 + 1 + 1) = m6 at q13 qf q19 q24 q20 hTM6 q8 j25 j26 j27 j28 j11 hpf6 ewx8 ⊢
            refine e_aload_n C d_Mo_tellPost_76 rfl ?_
            refine e_geti C fl_Mo_185 (by decide) rfl rfl d_Mo_tellPost_77 (fun r_77 => ?_)
            try simp only [so_at, so_so, wr_so, q13, q19, q24, cu_s, cu_f, ne_eq, Nat.reduceEqDiff, not_false_eq_true] at r_77 ⊢
            refine e_if_le C 84 d_Mo_tellPost_80 (by decide) (by omega) (fun c_80 => ?_) (fun c_80 => ?_)
            · refine e_rng (fun hrng => ?_)
              have hr8 : R64 (m6 8 (t + 1)) := by have := hrng 1 8 (t + 1); rw [so_at] at this; exact this
              refine e_aload_n C d_Mo_tellPost_84 rfl ?_
              refine e_iload_n C d_Mo_tellPost_85 rfl ?_
              refine e_iconst C d_Mo_tellPost_86 ?_
              refine e_aload_n C d_Mo_tellPost_87 rfl ?_
              refine e_geta C fl_Mo_49 (by decide) rfl rfl d_Mo_tellPost_88 ?_
              refine e_aload_n C d_Mo_tellPost_91 rfl ?_
              refine e_geti C fl_Mo_218 (by decide) rfl rfl d_Mo_tellPost_92 (fun r_92 => ?_)
              try simp only [so_at, so_so, wr_so, q13, q19, q24, cu_s, cu_f, ne_eq, Nat.reduceEqDiff, not_false_eq_true] at r_92 ⊢
              refine e_iald (n := 2) C (by decide) rfl (by decide) rfl rfl (by decide) (by omega) (by omega) d_Mo_tellPost_95 (fun r_95 => ?_)
              try simp only [so_at, so_so, wr_so, q13, q19, q24, cu_s, cu_f, ne_eq, Nat.reduceEqDiff, not_false_eq_true] at r_95 ⊢
              refine e_callVV C ok_Mo_notes lk_Mo_272 (o := 1) (by decide) rfl [_, _, _] rfl rfl (Nat.le_of_ble_eq_true rfl) (by decide) (Nat.le_of_ble_eq_true rfl) d_Mo_tellPost_96 (k_Mo_notes (v := T.2.2.2.2 (t + 1)) q20 (by omega) (by omega) q8 (by rw [← q8]; exact hr8) (by omega) (by omega)) (fun u_96 h_96 => ?_)
              subst h_96
              refine e_aload_n C d_Mo_tellPost_99 rfl ?_
              refine e_geta C fl_Mo_49 (by decide) rfl rfl d_Mo_tellPost_100 ?_
              refine e_aload_n C d_Mo_tellPost_103 rfl ?_
              refine e_geti C fl_Mo_218 (by decide) rfl rfl d_Mo_tellPost_104 (fun r_104 => ?_)
              try simp only [so_at, so_so, wr_so, q13, q19, q24, cu_s, cu_f, ne_eq, Nat.reduceEqDiff, not_false_eq_true] at r_104 ⊢
              refine e_dup2 C d_Mo_tellPost_107 rfl rfl ?_
              refine e_iald (n := 2) C (by decide) rfl (by decide) rfl rfl (by decide) (by omega) (by omega) d_Mo_tellPost_108 (fun r_108 => ?_)
              try simp only [so_at, so_so, wr_so, q13, q19, q24, cu_s, cu_f, ne_eq, Nat.reduceEqDiff, not_false_eq_true] at r_108 ⊢
              refine e_iconst C d_Mo_tellPost_109 ?_
              refine e_iadd C d_Mo_tellPost_110 ?_
              refine e_iast (n := 2) C (by decide) rfl (by decide) rfl rfl (by decide) (by omega) (by omega) (by omega) d_Mo_tellPost_111 ?_
              try simp only [so_at, so_so, wr_so, q13, q19, q24, cu_s, cu_f, ne_eq, Nat.reduceEqDiff, not_false_eq_true]
              refine e_vret C F rfl d_Mo_tellPost_112 ?_
              refine ⟨_, rfl, ?_, ?_, ?_, ?_, ?_, ?_, ?_, ?_, ?_⟩
              · exact (((((hpf6.w1 (by omega)).w1 (by omega)).w1 (by omega)).w1 (by omega)).w2 (by decide) (by rw [z24]; omega) (by rw [z24]; omega))
              · intro f b1 b2
                rw [cf_f (by omega), cf_f (by omega), cf_f (by omega), cf_f (by omega), cf_f (by omega)]
                exact qf f (by omega) (by omega) (by omega) (by omega) (by omega) (by omega) (by omega)
              · rw [cu_f (by decide), cu_f (by decide), cu_f (by decide), cu_f (by decide), cu_f (by decide)]; exact q13
              · rw [cu_f (by decide), cu_f (by decide), cu_f (by decide), cu_f (by decide), cu_f (by decide), qf 12 (by decide) (by decide) (by decide) (by decide) (by decide) (by decide) (by decide)]
              · rw [cu_f (by decide), cu_f (by decide), cu_f (by decide), cu_f (by decide), cu_f (by decide)]; exact j11
              · show MRp s (cu (cu P 3 0 (P 3 0 + 1)) 0 (P 3 0) (T.2.2.1 (t + 1 + 1 + 1 + 1))) (cu (cu c 0 (P 3 0) (T.2.2.1 (t + 1 + 1))) 1 (P 3 0) (T.2.2.1 (t + 1 + 1 + 1))) _
                have y3 : cu (cu P 3 0 (P 3 0 + 1)) 0 (P 3 0) (T.2.2.1 (t + 1 + 1 + 1 + 1)) 3 0 = P 3 0 + 1 := by rw [cu_f (by decide), cu_s]
                have yf : ∀ f k, f ≠ 0 → f ≠ 3 → cu (cu P 3 0 (P 3 0 + 1)) 0 (P 3 0) (T.2.2.1 (t + 1 + 1 + 1 + 1)) f k = P f k := fun f k c1 c2 => by rw [cu_f c1, cu_f c2]
                have wf : ∀ f, f ≠ 20 → f ≠ 21 → f ≠ 22 → f ≠ 23 → f ≠ 24 → cu (cu (cu (cu (cu m6 21 (x 10 0) (T.2.2.2.2 (t + 1))) 22 (x 10 0) 0) 23 (x 10 0) (P 3 0)) 20 0 (x 10 0 + 1)) 24 s (P 3 0 + 1) f = m6 f := fun f c1 c2 c3 c4 c5 => by rw [cf_f c5, cf_f c1, cf_f c4, cf_f c3, cf_f c2]
                refine ⟨hs, ?_, ⟨?_, ?_, ?_, ?_⟩, fun p p0 p1 => ?_, fun gg g0 g1' => ?_, fun k k0 k1 => ?_, fun p p0 p1 => ?_, fun gg g0 g1' => ?_⟩
                · rw [wf 19 (by decide) (by decide) (by decide) (by decide) (by decide)]; exact q19
                · rw [cu_s, y3]
                · rw [wf 29 (by decide) (by decide) (by decide) (by decide) (by decide), qf 29 (by decide) (by decide) (by decide) (by decide) (by decide) (by decide) (by decide), yf 4 0 (by decide) (by decide)]; exact p29
                · rw [wf 31 (by decide) (by decide) (by decide) (by decide) (by decide), qf 31 (by decide) (by decide) (by decide) (by decide) (by decide) (by decide) (by decide), yf 5 0 (by decide) (by decide)]; exact p31
                · rw [wf 33 (by decide) (by decide) (by decide) (by decide) (by decide), qf 33 (by decide) (by decide) (by decide) (by decide) (by decide) (by decide) (by decide), yf 6 0 (by decide) (by decide)]; exact p33
                · rw [y3] at p1
                  rw [wf 25 (by decide) (by decide) (by decide) (by decide) (by decide), wf 26 (by decide) (by decide) (by decide) (by decide) (by decide), wf 27 (by decide) (by decide) (by decide) (by decide) (by decide), wf 28 (by decide) (by decide) (by decide) (by decide) (by decide), j25, j26, j27, j28]
                  by_cases w : p = P 3 0
                  · rw [if_pos (by omega), if_pos (by omega), if_pos (by omega), if_pos (by omega)]
                    rw [w]
                    have := pE (P 3 0) (by omega) (by omega)
                    refine ⟨by rw [cu_f (by decide), cu_s], by rw [cu_s], by rw [cu_s], ?_, ?_⟩
                    · rw [cu_f (by decide), cu_f (by decide), this]; rfl
                    · rw [cu_f (by decide), cu_f (by decide)]; exact Or.inl this
                  · rw [if_neg (by omega), if_neg (by omega), if_neg (by omega), if_neg (by omega)]
                    have := pA p p0 (by omega)
                    rw [cu_f (show (0 : Nat) ≠ 1 by decide), cu_k w, cu_k w, cu_f (show (1 : Nat) ≠ 0 by decide), cu_k w, cu_f (show (0 : Nat) ≠ 3 by decide), cu_f (show (2 : Nat) ≠ 1 by decide), cu_f (show (2 : Nat) ≠ 0 by decide)]
                    exact this
                · rw [yf 4 0 (by decide) (by decide)] at g1'
                  rw [wf 30 (by decide) (by decide) (by decide) (by decide) (by decide), qf 30 (by decide) (by decide) (by decide) (by decide) (by decide) (by decide) (by decide), cu_f (by decide), cu_f (by decide)]
                  exact pG gg g0 g1'
                · rw [yf 5 0 (by decide) (by decide)] at k1
                  rw [wf 32 (by decide) (by decide) (by decide) (by decide) (by decide), qf 32 (by decide) (by decide) (by decide) (by decide) (by decide) (by decide) (by decide), yf 1 _ (by decide) (by decide)]
                  exact pD k k0 k1
                · rw [y3] at p0
                  rw [cu_f (by decide), cu_f (by decide)]
                  exact pE p (by omega) p1
                · rw [yf 4 0 (by decide) (by decide)] at g0
                  rw [cu_f (by decide), cu_f (by decide)]
                  exact pE2 gg g0 g1'
              · show MRn T x5 _
                have hnm : MRn T (nameX T x (t + 1) (P 3 0)) (cu (cu (cu (cu (cu m6 21 (x 10 0) (T.2.2.2.2 (t + 1))) 22 (x 10 0) 0) 23 (x 10 0) (P 3 0)) 20 0 (x 10 0 + 1)) 24 s (P 3 0 + 1)) := by
                  refine hn.name (n := x 10 0) rfl h10 a3 (Or.inr (by omega)) ?_ (fun k => ?_) (fun k => ?_) (fun k hk => ?_) (fun _ => ?_)
                  · rw [cu_f (by decide), cu_s]
                  · rw [cu_f (by decide), cu_f (by decide), cu_f (by decide), cu_f (by decide), cu_if, qf 21 (by decide) (by decide) (by decide) (by decide) (by decide) (by decide) (by decide)]; simp only [true_and]
                  · rw [cu_f (by decide), cu_f (by decide), cu_f (by decide), cu_if, cu_f (by decide), qf 22 (by decide) (by decide) (by decide) (by decide) (by decide) (by decide) (by decide), if_neg (show ¬ P 3 0 = -1 by omega)]; simp only [true_and]
                  · rw [cu_f (by decide), cu_f (by decide), cu_k hk, cu_f (by decide), cu_f (by decide), qf 23 (by decide) (by decide) (by decide) (by decide) (by decide) (by decide) (by decide)]
                  · rw [cu_f (by decide), cu_f (by decide), cu_s]
                refine hnm.same rfl rfl rfl rfl ?_ ?_ ?_ ?_
                · rw [hxf3 10 (by decide) (by decide)]; unfold postX; rw [cu_f (by decide), cu_f (by decide)]
                · rw [hxf3 4 (by decide) (by decide)]; unfold postX; rw [cf_f (by decide), cf_f (by decide)]
                · rw [hxf3 20 (by decide) (by decide)]; unfold postX; rw [cf_f (by decide), cf_f (by decide)]
                · rw [hxf3 21 (by decide) (by decide)]; unfold postX; rw [cf_f (by decide), cf_f (by decide)]
              · show NS T x5 (cu (cu P 3 0 (P 3 0 + 1)) 0 (P 3 0) (T.2.2.1 (t + 1 + 1 + 1 + 1)) 3 0)
                rw [cu_f (by decide), cu_s]
                exact (hN.post (by omega) hn10.1).same (hxf3 5 (by decide) (by decide)) (hxf3 22 (by decide) (by decide)) (by rw [hxf3 10 (by decide) (by decide)]) (hxf3 21 (by decide) (by decide)) (hxf3 20 (by decide) (by decide))
              · exact ⟨by rw [cu_f (by decide), cu_f (by decide), cu_f (by decide), cu_f (by decide), cu_f (by decide)]; exact ewx8.1, by rw [cu_f (by decide), cu_f (by decide), cu_f (by decide), cu_f (by decide), cu_f (by decide)]; exact ewx8.2.1, ewx8.2.2⟩
            · exact absurd c_80 (by decide)
end MT2
