/-! the class's Reader: a whole text -/
section RX
variable {T : Tab}
theorem pInt_x {most t : Int} {x : Cs} {p : Int × Cs} (h : pInt T most t x = .inr p) {f : Nat} (h1 : f ≠ 15) (h2 : f ≠ 16) : p.2 f = x f := by
  obtain ⟨_, _, _, e⟩ := pInt_i h
  rw [e]
  split
  · exact noteX_f h1 h2
  · rfl
theorem twx_f {x : Cs} {a p : Int} {f : Nat} (h1 : f ≠ 15) (h2 : f ≠ 16) : twx x a p f = x f := by
  unfold twx
  split
  · rfl
  · exact noteX_f h1 h2
theorem nameX_10 (T : Tab) (x : Cs) (t s : Int) : nameX T x t s 10 0 = x 10 0 + 1 := by unfold nameX; rw [cu_f (by decide), cu_f (by decide), cu_f (by decide), cu_s]
theorem postX_10 (T : Tab) (x : Cs) (t p : Int) : postX T x t p 10 0 = x 10 0 + 1 := by unfold postX; rw [cu_f (by decide), cu_f (by decide), nameX_10]
theorem atX_f {x P c : Cs} {t : Int} {f : Nat} (h1 : f ≠ 15) (h2 : f ≠ 16) : atX T x P c t f = x f := by
  unfold atX
  split
  · exact noteX_f h1 h2
  · split
    · rfl
    · exact noteX_f h1 h2
theorem zPost_i {t : Int} {x P c : Cs} {q : Int × Cs × Cs × Cs} (h : zPost T t x P c = .inr q) : P 3 0 < 8 ∧ T.1 (t + 1) = 130 ∧ T.1 (t + 2) = 131 ∧ T.1 (t + 3) = 131 ∧ T.1 (t + 4) = 131 ∧ T.1 (t + 5) = 59 ∧ t + 5 < 400 ∧ ∃ x3 x4 : Cs, pInt T 999 (t + 2) (postX T x (t + 1) (P 3 0)) = .inr (t + 3, x3) ∧ pInt T 999 (t + 3) x3 = .inr (t + 4, x4) ∧ pInt T 99 (t + 4) x4 = .inr (t + 5, q.2.1) ∧ q.1 = t + 6 ∧ q.2.2.1 = cu (cu P 3 0 (P 3 0 + 1)) 0 (P 3 0) (T.2.2.1 (t + 4)) ∧ q.2.2.2 = cu (cu c 0 (P 3 0) (T.2.2.1 (t + 2))) 1 (P 3 0) (T.2.2.1 (t + 3)) := by
  unfold zPost at h
  by_cases c8 : 8 ≤ P 3 0
  · rw [if_pos c8] at h; cases h
  rw [if_neg c8] at h
  obtain ⟨t1, e1, h⟩ := bnd_i h
  obtain ⟨t2, e2, h⟩ := bnd_i h
  obtain ⟨p3, e3, h⟩ := bnd_i h
  obtain ⟨p4, e4, h⟩ := bnd_i h
  obtain ⟨p5, e5, h⟩ := bnd_i h
  obtain ⟨t6, e6, h⟩ := bnd_i h
  cases h
  obtain ⟨a1, a2⟩ := pGo_i e1
  subst a1
  obtain ⟨b1, b2, b3⟩ := pMu_i e2
  subst b1
  rw [show t + 1 + 1 = t + 2 by omega] at e3 ⊢
  have f3 := pInt_i e3
  obtain ⟨q3, y3⟩ := p3
  have g3 : q3 = t + 3 := by have := f3.1; have this : q3 = t + 2 + 1 := this; omega
  subst g3
  have f4 := pInt_i e4
  obtain ⟨q4, y4⟩ := p4
  have g4 : q4 = t + 4 := by have := f4.1; have this : q4 = t + 3 + 1 := this; omega
  subst g4
  have f5 := pInt_i e5
  obtain ⟨q5, y5⟩ := p5
  have g5 : q5 = t + 5 := by have := f5.1; have this : q5 = t + 4 + 1 := this; omega
  subst g5
  obtain ⟨d1, d2, d3⟩ := pMu_i e6
  exact ⟨by omega, b3, f3.2.2.1, f4.2.2.1, f5.2.2.1, d3, d2, y3, y4, e3, e4, e5, by show t6 = t + 6; have d1 : t6 = t + 5 + 1 := d1; omega, rfl, rfl⟩
theorem zGuard_i {t : Int} {x P c : Cs} {q : Int × Cs × Cs × Cs} (h : zGuard T t x P c = .inr q) : P 4 0 < 12 ∧ T.1 (t + 1) = 130 ∧ q.2.2.1 = cu P 4 0 (P 4 0 + 1) ∧ ((T.1 (t + 2) = 139 ∧ T.1 (t + 3) = 130 ∧ T.1 (t + 4) = 59 ∧ t + 4 < 400 ∧ q.1 = t + 5 ∧ q.2.1 = atX T (nameX T x (t + 1) (-1)) P c (t + 3) ∧ q.2.2.2 = atC T (nameX T x (t + 1) (-1)) P c (t + 3) (P 4 0)) ∨ (T.1 (t + 2) = 59 ∧ t + 2 < 400 ∧ q.1 = t + 3 ∧ q.2.1 = nameX T x (t + 1) (-1) ∧ q.2.2.2 = c_lie c (P 4 0))) := by
  unfold zGuard at h
  by_cases c8 : 12 ≤ P 4 0
  · rw [if_pos c8] at h; cases h
  rw [if_neg c8] at h
  obtain ⟨t1, e1, h⟩ := bnd_i h
  obtain ⟨t2, e2, h⟩ := bnd_i h
  obtain ⟨a1, a2⟩ := pGo_i e1
  subst a1
  obtain ⟨b1, b2, b3⟩ := pMu_i e2
  subst b1
  rw [show t + 1 + 1 = t + 2 by omega] at h
  by_cases c9 : T.1 (t + 2) = 139
  · rw [if_pos c9] at h
    obtain ⟨t3, e3, h⟩ := bnd_i h
    obtain ⟨t4, e4, h⟩ := bnd_i h
    obtain ⟨t5, e5, h⟩ := bnd_i h
    cases h
    obtain ⟨d1, d2⟩ := pGo_i e3
    have g3 : t3 = t + 3 := by omega
    subst g3
    obtain ⟨f1, f2, f3⟩ := pMu_i e4
    have g4 : t4 = t + 4 := by omega
    subst g4
    obtain ⟨i1, i2, i3⟩ := pMu_i e5
    exact ⟨by omega, b3, rfl, Or.inl ⟨c9, f3, i3, i2, by show t5 = t + 5; omega, rfl, rfl⟩⟩
  · rw [if_neg c9] at h
    obtain ⟨t3, e3, h⟩ := bnd_i h
    cases h
    obtain ⟨d1, d2, d3⟩ := pMu_i e3
    exact ⟨by omega, b3, rfl, Or.inr ⟨d3, d2, by show t3 = t + 3; omega, rfl, rfl⟩⟩
theorem zSleep_i {t : Int} {x P : Cs} {q : Int × Cs × Cs} (h : zSleep T t x P = .inr q) : T.1 (t + 1) = 131 ∧ T.1 (t + 2) = 59 ∧ t + 2 < 400 ∧ q.1 = t + 3 ∧ pInt T 9999 (t + 1) x = .inr (t + 2, q.2.1) ∧ q.2.2 = cu P 6 0 (T.2.2.1 (t + 1)) := by
  unfold zSleep at h
  obtain ⟨t1, e1, h⟩ := bnd_i h
  obtain ⟨p2, e2, h⟩ := bnd_i h
  obtain ⟨t3, e3, h⟩ := bnd_i h
  cases h
  obtain ⟨a1, a2⟩ := pGo_i e1
  subst a1
  have f2 := pInt_i e2
  obtain ⟨q2, y2⟩ := p2
  have g2 : q2 = t + 2 := by have := f2.1; have this : q2 = t + 1 + 1 := this; omega
  subst g2
  obtain ⟨d1, d2, d3⟩ := pMu_i e3
  exact ⟨f2.2.2.1, d3, d2, by show t3 = t + 3; have d1 : t3 = t + 2 + 1 := d1; omega, e2, rfl⟩
/-- a property of what a damp's numbers change, kept step by step -/
theorem zD_ind {R : Int → Int → Cs → Cs → Prop} (hstep : ∀ i t x P x', R i t x P → i < 24 → T.1 t = 131 → t < 400 → pInt T 99 t x = .inr (t + 1, x') → R (i + 1) (t + 1) x' (cu (cu P 5 0 (i + 1)) 1 (i + 1) (T.2.2.1 t))) : ∀ (n : Nat) (i t : Int) (x P : Cs) (q : Int × Cs × Cs), 0 ≤ i → i ≤ 24 → i + n = 25 → R i t x P → zD T n i t x P = .inr q → ∃ i' t', i ≤ i' ∧ i' ≤ 24 ∧ t ≤ t' ∧ R i' t' q.2.1 q.2.2 ∧ T.1 t' = 59 ∧ t' < 400 ∧ q.1 = t' + 1 := by
  intro n
  induction n with
  | zero =>
    intro i t x P q h0 h2 h1 hR h
    exact absurd h1 (by omega)
  | succ n ih =>
    intro i t x P q h0 h2 h1 hR h
    unfold zD at h
    by_cases c1 : T.1 t = 131
    · rw [if_pos c1] at h
      by_cases c2 : i = 24
      · rw [if_pos c2] at h; cases h
      · rw [if_neg c2] at h
        obtain ⟨p, e1, h⟩ := bnd_i h
        have f := pInt_i e1
        obtain ⟨a, y⟩ := p
        have g : a = t + 1 := f.1
        subst g
        obtain ⟨i', t', k1, k2, k3, k4⟩ := ih (i + 1) (t + 1) y _ q (by omega) (by omega) (by omega) (hstep i t x P y hR (by omega) c1 f.2.1 e1) h
        exact ⟨i', t', by omega, k2, by omega, k4⟩
    · rw [if_neg c1] at h
      obtain ⟨t2, e1, h⟩ := bnd_i h
      obtain ⟨d1, d2, d3⟩ := pMu_i e1
      cases h
      exact ⟨i, t, by omega, by omega, by omega, hR, d3, d2, d1⟩
/-- a branch of a law as it should be -/
def brk (b : Br) : Prop := (b.1 = true → okd b.2.1 0 = some 1 ∧ okd b.2.2.1 0 = some 1 ∧ (∀ c ∈ b.2.1, cok c) ∧ ∀ c ∈ b.2.2.1, cok c) ∧ okd b.2.2.2 0 = some 1 ∧ ∀ c ∈ b.2.2.2, cok c
def brn (b : Br) : Int := (b.2.1.length : Int) + b.2.2.1.length + b.2.2.2.length
theorem zE_ok {t t' : Int} {L L' : List Br} (hT : TF T) (h0 : 0 ≤ t ∧ t ≤ 400) (hl : t = 0 ∨ T.1 (t - 1) ≠ 128) (e : zE T t L = .inr (t', L')) : t + 1 < t' ∧ t' ≤ 400 ∧ T.1 (t' - 1) ≠ 128 ∧ ∃ pf, L' = L ++ [(false, [], [], pf)] ∧ okd pf 0 = some 1 ∧ (∀ c ∈ pf, cok c) ∧ (pf.length : Int) + t + 1 ≤ t' := by
  unfold zE at e
  obtain ⟨a, e1, e⟩ := bnd_i e
  obtain ⟨t2, e2, e⟩ := bnd_i e
  cases e
  obtain ⟨x1, x2, x3, x4, x5, x6⟩ := xE_ok hT h0.1 h0.2 hl (show xE T t = .inr (a.1, a.2) from e1)
  obtain ⟨p1, p2, p3⟩ := pMu_i e2
  subst p1
  exact ⟨by omega, by omega, by rw [Int.add_sub_cancel]; omega, a.2, rfl, x4, x5, by omega⟩
theorem zL_ok (hT : TF T) : ∀ (n : Nat) (t t' : Int) (L L' : List Br), (0 ≤ t ∧ t ≤ 400) → (t = 0 ∨ T.1 (t - 1) ≠ 128) → zL T n t L = .inr (t', L') → t < t' ∧ t' ≤ 400 ∧ T.1 (t' - 1) ≠ 128 ∧ ∃ (M : List Br) (pf : List Cd), L' = L ++ M ++ [(false, [], [], pf)] ∧ M.length ≤ n ∧ (∀ b ∈ M, b.1 = true ∧ brk b) ∧ okd pf 0 = some 1 ∧ (∀ c ∈ pf, cok c) ∧ (M.map brn).sum + 4 * M.length + pf.length + t + 1 ≤ t' := by
  intro n
  induction n with
  | zero =>
    intro t t' L L' h0 hl e
    unfold zL at e
    by_cases c : T.1 t = 141
    · rw [if_pos c] at e; cases e
    · rw [if_neg c] at e
      obtain ⟨a1, a2, a3, pf, a4, a5, a6, a7⟩ := zE_ok hT h0 hl e
      exact ⟨by omega, a2, a3, [], pf, by rw [List.append_nil]; exact a4, Nat.le_refl _, fun b hb => (by cases hb), a5, a6, by show (0 : Int) + 4 * ((0 : Nat) : Int) + pf.length + t + 1 ≤ t'; omega⟩
  | succ n ih =>
    intro t t' L L' h0 hl e
    unfold zL at e
    by_cases c : T.1 t = 141
    · rw [if_pos c] at e
      obtain ⟨p, e1, e⟩ := bnd_i e
      obtain ⟨b1, b2, b3, b4, b5, b6, b7⟩ := zIf_ok hT h0 (by omega) (show zIf T t = .inr (p.1, p.2) from e1)
      obtain ⟨a1, a2, a3, M, pf, a4, a5, a6, a7, a8, a9⟩ := ih p.1 t' (L ++ [p.2]) L' ⟨by omega, b2⟩ (Or.inr b3) e
      refine ⟨by omega, a2, a3, p.2 :: M, pf, ?_, ?_, ?_, a7, a8, ?_⟩
      · rw [a4, List.append_assoc L [p.2] M]; rfl
      · show M.length + 1 ≤ n + 1; omega
      · intro b hb
        rcases List.mem_cons.mp hb with hb | hb
        · rw [hb]; exact ⟨b4, fun _ => ⟨b5.1, b5.2.1, b6.1, b6.2.1⟩, b5.2.2, b6.2.2⟩
        · exact a6 b hb
      · show (brn p.2 + (M.map brn).sum) + 4 * ((M.length + 1 : Nat) : Int) + pf.length + t + 1 ≤ t'
        have eb : brn p.2 = (p.2.2.1.length : Int) + p.2.2.2.1.length + p.2.2.2.2.length := rfl
        omega
    · rw [if_neg c] at e
      obtain ⟨a1, a2, a3, pf, a4, a5, a6, a7⟩ := zE_ok hT h0 hl e
      exact ⟨by omega, a2, a3, [], pf, by rw [List.append_nil]; exact a4, Nat.zero_le _, fun b hb => (by cases hb), a5, a6, by show (0 : Int) + 4 * ((0 : Nat) : Int) + pf.length + t + 1 ≤ t'; omega⟩
theorem zFlow_ok {t t' : Int} {L' : List Br} (hT : TF T) (h0 : 0 ≤ t ∧ t ≤ 400) (e : zFlow T t = .inr (t', L')) : t + 2 < t' ∧ t' ≤ 400 ∧ T.1 (t' - 1) ≠ 128 ∧ ∃ (M : List Br) (pf : List Cd), L' = M ++ [(false, [], [], pf)] ∧ M.length ≤ 4 ∧ (∀ b ∈ M, b.1 = true ∧ brk b) ∧ okd pf 0 = some 1 ∧ (∀ c ∈ pf, cok c) ∧ (M.map brn).sum + 4 * M.length + pf.length + t + 3 ≤ t' := by
  unfold zFlow at e
  obtain ⟨t1, e1, e⟩ := bnd_i e
  obtain ⟨t2, e2, e⟩ := bnd_i e
  obtain ⟨p1, p2⟩ := pGo_i e1
  subst p1
  obtain ⟨p3, p4, p5⟩ := pMu_i e2
  subst p3
  obtain ⟨a1, a2, a3, M, pf, a4, a5, a6, a7, a8, a9⟩ := zL_ok hT 4 (t + 1 + 1) t' [] L' (by omega) (Or.inr (by rw [Int.add_sub_cancel]; omega)) e
  exact ⟨by omega, a2, a3, M, pf, a4, a5, a6, a7, a8, by omega⟩
theorem c_lie_11 {c : Cs} {a : Int} (h : 0 ≤ c 11 0) : 0 ≤ c_lie c a 11 0 := by
  unfold c_lie
  split
  · rw [cu_f (by decide), cu_s]; omega
  · rw [cu_f (by decide), cu_f (by decide)]; exact h
theorem zTell_e (T : Tab) (t : Int) (x P l c : Cs) (L : List Br) : zTell T (t, x, P, l, c, L) = (if T.1 t = 137 then bnd (zPost T t x P c) fun p => .inr (p.1, p.2.1, p.2.2.1, l, p.2.2.2, L)
  else if T.1 t = 138 then bnd (zGuard T t x P c) fun p => .inr (p.1, p.2.1, p.2.2.1, l, p.2.2.2, L)
  else if T.1 t = 140 then bnd (zFlow T t) fun p => .inr (p.1, x, P, lawOf l p.2, c, p.2)
  else if T.1 t = 144 then bnd (zDamp T t x P) fun p => .inr (p.1, p.2.1, p.2.2, l, c, L)
  else if T.1 t = 145 then bnd (zSleep T t x P) fun p => .inr (p.1, p.2.1, p.2.2, l, c, L)
  else .inl (1, T.2.1 t)) := rfl
theorem zTell_J {z z' : Zs} (hT : TF T) (h : ZJ T z) (e : zTell T z = .inr z') : ZJ T z' ∧ zt z + 1 < zt z' := by
  obtain ⟨t, x, P, l, c, L⟩ := z
  obtain ⟨h1, h2, h3, h4, h5, h6, h7, h8⟩ := h
  have h1 : 0 ≤ t ∧ t ≤ 400 := h1
  have h3 : 0 ≤ P 3 0 ∧ P 3 0 ≤ 8 := h3
  have h4 : 0 ≤ P 4 0 ∧ P 4 0 ≤ 12 := h4
  have h5 : x 10 0 = P 3 0 + P 4 0 := h5
  have h6 : P 1 0 = 0 := h6
  have h7 : RdC c := h7
  have h8 : 0 ≤ c 11 0 := h8
  rw [zTell_e] at e
  by_cases k1 : T.1 t = 137
  · rw [if_pos k1] at e
    obtain ⟨q, e1, e⟩ := bnd_i e
    cases e
    obtain ⟨a1, a2, a3, a4, a5, a6, a7, x3, x4, a8, a9, a10, a11, a12, a13⟩ := zPost_i e1
    have e10 : q.2.1 10 0 = x 10 0 + 1 := by rw [show q.2.1 10 = x4 10 from pInt_x a10 (f := 10) (by decide) (by decide), show x4 10 = x3 10 from pInt_x a9 (f := 10) (by decide) (by decide), show x3 10 = _ from pInt_x a8 (f := 10) (by decide) (by decide), postX_10]
    refine ⟨⟨?_, ?_, ?_, ?_, ?_, ?_, ?_, ?_⟩, ?_⟩
    · show 0 ≤ q.1 ∧ q.1 ≤ 400; omega
    · show q.1 = 0 ∨ T.1 (q.1 - 1) ≠ 128; right; rw [a11, show t + 6 - 1 = t + 5 by omega]; omega
    · show 0 ≤ q.2.2.1 3 0 ∧ q.2.2.1 3 0 ≤ 8; rw [a12, cu_f (by decide), cu_s]; omega
    · show 0 ≤ q.2.2.1 4 0 ∧ q.2.2.1 4 0 ≤ 12; rw [a12, cu_f (by decide), cu_f (by decide)]; omega
    · show q.2.1 10 0 = q.2.2.1 3 0 + q.2.2.1 4 0; rw [e10, a12, cu_f (by decide), cu_s, cu_f (by decide), cu_f (by decide)]; omega
    · show q.2.2.1 1 0 = 0; rw [a12, cu_f (by decide), cu_f (by decide)]; exact h6
    · show RdC q.2.2.2; rw [a13]; exact (h7.w0 (by omega) (hT.2.2.2.1 _ a3)).w0 (by omega) (hT.2.2.2.1 _ a4)
    · show 0 ≤ q.2.2.2 11 0; rw [a13, cu_f (by decide), cu_f (by decide)]; exact h8
    · show t + 1 < q.1; omega
  rw [if_neg k1] at e
  by_cases k2 : T.1 t = 138
  · rw [if_pos k2] at e
    obtain ⟨q, e1, e⟩ := bnd_i e
    cases e
    obtain ⟨a1, a2, a3, a4⟩ := zGuard_i e1
    have e10 : q.2.1 10 0 = x 10 0 + 1 := by
      rcases a4 with ⟨_, _, _, _, _, b, _⟩ | ⟨_, _, _, b, _⟩
      · rw [b, atX_f (by decide) (by decide), nameX_10]
      · rw [b, nameX_10]
    have ec : RdC q.2.2.2 ∧ 0 ≤ q.2.2.2 11 0 := by
      rcases a4 with ⟨_, _, _, _, _, _, b⟩ | ⟨_, _, _, _, b⟩
      · rw [b]
        refine ⟨atC_rd h7, ?_⟩
        unfold atC
        split
        · exact h8
        · split
          · rw [c_stand_f (by decide) (by decide) (by decide)]; exact h8
          · exact h8
      · rw [b]; exact ⟨h7.li, c_lie_11 h8⟩
    have et : t + 1 < q.1 ∧ q.1 ≤ 400 ∧ T.1 (q.1 - 1) = 59 := by
      rcases a4 with ⟨_, _, b1, b2, b, _⟩ | ⟨b1, b2, b, _⟩
      · rw [b, show t + 5 - 1 = t + 4 by omega]; exact ⟨by omega, by omega, b1⟩
      · rw [b, show t + 3 - 1 = t + 2 by omega]; exact ⟨by omega, by omega, b1⟩
    refine ⟨⟨?_, ?_, ?_, ?_, ?_, ?_, ec.1, ec.2⟩, et.1⟩
    · show 0 ≤ q.1 ∧ q.1 ≤ 400; omega
    · show q.1 = 0 ∨ T.1 (q.1 - 1) ≠ 128; right; omega
    · show 0 ≤ q.2.2.1 3 0 ∧ q.2.2.1 3 0 ≤ 8; rw [a3, cu_f (by decide)]; omega
    · show 0 ≤ q.2.2.1 4 0 ∧ q.2.2.1 4 0 ≤ 12; rw [a3, cu_s]; omega
    · show q.2.1 10 0 = q.2.2.1 3 0 + q.2.2.1 4 0; rw [e10, a3, cu_f (by decide), cu_s]; omega
    · show q.2.2.1 1 0 = 0; rw [a3, cu_f (by decide)]; exact h6
  rw [if_neg k2] at e
  by_cases k3 : T.1 t = 140
  · rw [if_pos k3] at e
    obtain ⟨q, e1, e⟩ := bnd_i e
    cases e
    obtain ⟨a1, a2, a3, _⟩ := zFlow_ok hT h1 (show zFlow T t = .inr (q.1, q.2) from e1)
    exact ⟨⟨⟨by show 0 ≤ q.1; omega, a2⟩, Or.inr a3, h3, h4, h5, h6, h7, h8⟩, by show t + 1 < q.1; omega⟩
  rw [if_neg k3] at e
  by_cases k4 : T.1 t = 144
  · rw [if_pos k4] at e
    obtain ⟨q, e1, e⟩ := bnd_i e
    cases e
    unfold zDamp at e1
    obtain ⟨t1, f1, e1⟩ := bnd_i e1
    obtain ⟨p1, p2⟩ := pGo_i f1
    subst p1
    obtain ⟨i', t', g1, g2, g3, ⟨g4, g5, g6, g7⟩, g8, g9, g10⟩ := zD_ind (T := T) (R := fun i s y Q => y 10 0 = x 10 0 ∧ Q 3 0 = P 3 0 ∧ Q 4 0 = P 4 0 ∧ (0 ≤ i ∧ Q 1 0 = 0)) (fun i s y Q y' hR hi hk hs hp => ⟨by rw [show y' 10 = y 10 from pInt_x hp (f := 10) (by decide) (by decide)]; exact hR.1, by rw [cu_f (by decide), cu_f (by decide)]; exact hR.2.1, by rw [cu_f (by decide), cu_f (by decide)]; exact hR.2.2.1, by have := hR.2.2.2.1; omega, by have := hR.2.2.2.1; rw [cu_k (by omega), cu_f (by decide)]; exact hR.2.2.2.2⟩) 25 0 (t + 1) x (cu P 5 0 0) q (by omega) (by omega) (by omega) ⟨rfl, cu_f (by decide), cu_f (by decide), by omega, by rw [cu_f (by decide)]; exact h6⟩ e1
    refine ⟨⟨?_, ?_, ?_, ?_, ?_, ?_, h7, h8⟩, ?_⟩
    · show 0 ≤ q.1 ∧ q.1 ≤ 400; omega
    · show q.1 = 0 ∨ T.1 (q.1 - 1) ≠ 128; right; rw [g10, Int.add_sub_cancel]; omega
    · show 0 ≤ q.2.2 3 0 ∧ q.2.2 3 0 ≤ 8; omega
    · show 0 ≤ q.2.2 4 0 ∧ q.2.2 4 0 ≤ 12; omega
    · show q.2.1 10 0 = q.2.2 3 0 + q.2.2 4 0; omega
    · exact g7.2
    · show t + 1 < q.1
      omega
  rw [if_neg k4] at e
  by_cases k5 : T.1 t = 145
  · rw [if_pos k5] at e
    obtain ⟨q, e1, e⟩ := bnd_i e
    cases e
    obtain ⟨a1, a2, a3, a4, a5, a6⟩ := zSleep_i e1
    refine ⟨⟨?_, ?_, ?_, ?_, ?_, ?_, h7, h8⟩, ?_⟩
    · show 0 ≤ q.1 ∧ q.1 ≤ 400; omega
    · show q.1 = 0 ∨ T.1 (q.1 - 1) ≠ 128; right; rw [a4, show t + 3 - 1 = t + 2 by omega]; omega
    · show 0 ≤ q.2.2 3 0 ∧ q.2.2 3 0 ≤ 8; rw [a6, cu_f (by decide)]; omega
    · show 0 ≤ q.2.2 4 0 ∧ q.2.2 4 0 ≤ 12; rw [a6, cu_f (by decide)]; omega
    · show q.2.1 10 0 = q.2.2 3 0 + q.2.2 4 0; rw [show q.2.1 10 = x 10 from pInt_x a5 (f := 10) (by decide) (by decide), a6, cu_f (by decide), cu_f (by decide)]; exact h5
    · show q.2.2 1 0 = 0; rw [a6, cu_f (by decide)]; exact h6
    · show t + 1 < q.1; omega
  rw [if_neg k5] at e
  cases e
end RX
