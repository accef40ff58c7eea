/-! what holds of a text told without a slip -/
def FQ {α : Type} (r : (Int × Int) ⊕ α) : Prop := ∀ fp, r = .inl fp → fp.1 = 1 ∨ fp.1 = 2
theorem FQ_1 {α : Type} {a : Int} : FQ (.inl (1, a) : (Int × Int) ⊕ α) := fun fp h => by cases h; exact Or.inl rfl
theorem FQ_2 {α : Type} {a : Int} : FQ (.inl (2, a) : (Int × Int) ⊕ α) := fun fp h => by cases h; exact Or.inr rfl
theorem FQ_r {α : Type} {a : α} : FQ (.inr a : (Int × Int) ⊕ α) := fun fp h => by cases h
theorem FQ_if {α : Type} {q : Prop} [Decidable q] {a b : (Int × Int) ⊕ α} (h1 : FQ a) (h2 : FQ b) : FQ (if q then a else b) := by
  split
  · exact h1
  · exact h2
theorem FQ_bnd {α β : Type} {r : (Int × Int) ⊕ α} {f : α → (Int × Int) ⊕ β} (h : FQ r) (h2 : ∀ a, FQ (f a)) : FQ (bnd r f) := by
  cases r with
  | inl e => intro fp z; cases z; exact h _ rfl
  | inr a => exact h2 a
section ZIN
variable {T : Tab}
theorem pGo_F {t : Int} : FQ (pGo T t) := FQ_if FQ_2 FQ_r
theorem pMu_F {k t : Int} : FQ (pMu T k t) := FQ_if pGo_F FQ_1
theorem pInt_F {k t : Int} {x : Cs} : FQ (pInt T k t x) := FQ_bnd pMu_F fun _ => FQ_r
theorem xrun_F : ∀ (n : Nat) (t : Int) (w : Bool) (ws : List Int) (pf : List Cd), FQ (xrun T n t w ws pf)
  | 0, t, w, ws, pf => by unfold xrun; exact FQ_2
  | n + 1, t, w, ws, pf => by
    unfold xrun
    exact FQ_if (FQ_if (FQ_if FQ_2 (FQ_if FQ_2 (xrun_F n _ _ _ _))) (FQ_if (FQ_if FQ_2 (xrun_F n _ _ _ _)) (FQ_if (FQ_if FQ_2 (xrun_F n _ _ _ _)) FQ_1))) (FQ_if (FQ_if FQ_2 (xrun_F n _ _ _ _)) (FQ_if (FQ_if FQ_2 (xrun_F n _ _ _ _)) (FQ_if FQ_r FQ_1)))
theorem xE_F {t : Int} : FQ (xE T t) := xrun_F _ _ _ _ _
theorem zD_F : ∀ (n : Nat) (i t : Int) (x P : Cs), FQ (zD T n i t x P)
  | 0, i, t, x, P => by unfold zD; exact FQ_bnd pMu_F fun _ => FQ_r
  | n + 1, i, t, x, P => by unfold zD; exact FQ_if (FQ_if FQ_2 (FQ_bnd pInt_F fun p => zD_F n _ _ _ _)) (FQ_bnd pMu_F fun _ => FQ_r)
theorem zE_F {t : Int} {L : List Br} : FQ (zE T t L) := FQ_bnd xE_F fun _ => FQ_bnd pMu_F fun _ => FQ_r
theorem zIf_F {t : Int} : FQ (zIf T t) := FQ_bnd pGo_F fun _ => FQ_bnd xE_F fun _ => FQ_bnd pMu_F fun _ => FQ_bnd xE_F fun _ => FQ_bnd pMu_F fun _ => FQ_bnd xE_F fun _ => FQ_bnd pMu_F fun _ => FQ_r
theorem zL_F : ∀ (n : Nat) (t : Int) (L : List Br), FQ (zL T n t L)
  | 0, t, L => by unfold zL; exact FQ_if FQ_2 zE_F
  | n + 1, t, L => by unfold zL; exact FQ_if (FQ_bnd zIf_F fun p => zL_F n _ _) zE_F
theorem zTell_F (z : Zs) : FQ (zTell T z) := by
  unfold zTell zPost zGuard zFlow zDamp zSleep
  refine FQ_if (FQ_bnd (FQ_if FQ_2 (FQ_bnd pGo_F fun _ => FQ_bnd pMu_F fun _ => FQ_bnd pInt_F fun _ => FQ_bnd pInt_F fun _ => FQ_bnd pInt_F fun _ => FQ_bnd pMu_F fun _ => FQ_r)) fun _ => FQ_r) ?_
  refine FQ_if (FQ_bnd (FQ_if FQ_2 (FQ_bnd pGo_F fun _ => FQ_bnd pMu_F fun _ => FQ_if (FQ_bnd pGo_F fun _ => FQ_bnd pMu_F fun _ => FQ_bnd pMu_F fun _ => FQ_r) (FQ_bnd pMu_F fun _ => FQ_r))) fun _ => FQ_r) ?_
  refine FQ_if (FQ_bnd (FQ_bnd pGo_F fun _ => FQ_bnd pMu_F fun _ => zL_F _ _ _) fun _ => FQ_r) ?_
  refine FQ_if (FQ_bnd (FQ_bnd pGo_F fun _ => zD_F _ _ _ _ _) fun _ => FQ_r) ?_
  exact FQ_if (FQ_bnd (FQ_bnd pGo_F fun _ => FQ_bnd pInt_F fun _ => FQ_bnd pMu_F fun _ => FQ_r) fun _ => FQ_r) FQ_1
theorem zTells_F : ∀ (n : Nat) (z : Zs), FQ (zTells T n z)
  | 0, z => by unfold zTells; exact FQ_r
  | n + 1, z => by unfold zTells; exact FQ_if FQ_r (FQ_bnd (zTell_F z) fun z' => zTells_F n z')
/-- the slip stays -/
def XN (x x' : Cs) : Prop := x' 2 0 = x 2 0 ∧ (0 ≤ x 15 0 → 0 ≤ x' 15 0) ∧ (x' 15 0 = 0 → x 15 0 = 0)
theorem XN.rf (x : Cs) : XN x x := ⟨rfl, id, id⟩
theorem XN.tr {x x1 x2 : Cs} (h : XN x x1) (h2 : XN x1 x2) : XN x x2 := ⟨h2.1.trans h.1, fun a => h2.2.1 (h.2.1 a), fun a => h.2.2 (h2.2.2 a)⟩
theorem XN.wu {x x1 : Cs} {f : Nat} {k v : Int} (h : XN x x1) (h1 : f ≠ 2) (h2 : f ≠ 15) : XN x (cu x1 f k v) := by
  unfold XN
  rw [cu_f (Ne.symm h1), cu_f (Ne.symm h2)]
  exact h
theorem noteX_z {x : Cs} {f a : Int} (hf : f ≠ 0) : noteX x f a 15 0 ≠ 0 := by
  unfold noteX
  split
  · rw [cu_f (by decide), cu_s]; exact hf
  · assumption
theorem noteX_n {x : Cs} {f a : Int} (hf : 0 < f) : XN x (noteX x f a) := by
  refine ⟨by rw [noteX_f (by decide) (by decide)], fun h => ?_, fun h => absurd h (noteX_z (by omega))⟩
  unfold noteX
  split
  · rw [cu_f (by decide), cu_s]; omega
  · exact h
theorem pInt_n {k t : Int} {x : Cs} {p : Int × Cs} (h : pInt T k t x = .inr p) : XN x p.2 ∧ (p.2 15 0 = 0 → T.2.2.1 t ≤ k) := by
  obtain ⟨_, _, _, e⟩ := pInt_i h
  rw [e]
  by_cases c : k < T.2.2.1 t
  · rw [if_pos c]; exact ⟨noteX_n (by decide), fun z => absurd z (noteX_z (by decide))⟩
  · rw [if_neg c]; exact ⟨XN.rf x, fun _ => by omega⟩
theorem nameX_n {x : Cs} {t s : Int} : XN x (nameX T x t s) := by
  unfold nameX
  refine XN.wu (XN.wu (XN.wu (XN.wu ?_ (by decide) (by decide)) (by decide) (by decide)) (by decide) (by decide)) (by decide) (by decide)
  unfold twx
  split
  · exact XN.rf x
  · exact noteX_n (by decide)
theorem postX_n {x : Cs} {t p : Int} : XN x (postX T x t p) := (nameX_n.wu (by decide) (by decide)).wu (by decide) (by decide)
theorem atX_n {x P c : Cs} {t : Int} : XN x (atX T x P c t) := by
  unfold atX
  split
  · exact noteX_n (by decide)
  · split
    · exact XN.rf x
    · exact noteX_n (by decide)
theorem atX_z {x P c : Cs} {t : Int} (h : atX T x P c t 15 0 = 0) : pnm x (P 3 0) (T.2.2.2.1 t) ≠ -2 ∧ c 2 (pnm x (P 3 0) (T.2.2.2.1 t)) = -2 := by
  unfold atX at h
  split at h
  · exact absurd h (noteX_z (by decide))
  · rename_i h1
    split at h
    · rename_i h2; exact ⟨h1, h2⟩
    · exact absurd h (noteX_z (by decide))
/-- the castle that is told, in order -/
def PO (P c : Cs) : Prop := (∀ f p, f ≤ 1 → 0 ≤ p → p < P 3 0 → c f p ≤ 999) ∧ PW P c ∧ ∀ j k, 0 ≤ j → j < k → k < c 11 0 → c 10 j < c 10 k
def ZB (z : Zs) : Prop := ((0 ≤ zp z 5 0 ∧ zp z 5 0 ≤ 24) ∧ 0 ≤ zp z 6 0 ∧ zp z 6 0 ≤ 9999) ∧ (0 ≤ zx z 15 0 ∧ zx z 2 0 = -1) ∧ ((∀ p, zp z 3 0 ≤ p → p < 8 → zc z 2 p = -2) ∧ ∀ g, zp z 4 0 ≤ g → g < 12 → zc z 6 g = -2) ∧ (zx z 15 0 = 0 → PO (zp z) (zc z))
theorem PO.P {P P' c : Cs} (h : PO P c) (h3 : P' 3 0 = P 3 0) (h4 : P' 4 0 = P 4 0) : PO P' c := by
  unfold PO PW at h ⊢
  rw [h3, h4]
  exact h
theorem PO.post {P P' c : Cs} {a b : Int} (h : PO P c) (h3 : P' 3 0 = P 3 0 + 1) (h4 : P' 4 0 = P 4 0) (ha : a ≤ 999) (hb : b ≤ 999) (hn : c 2 (P 3 0) = -2) : PO P' (cu (cu c 0 (P 3 0) a) 1 (P 3 0) b) := by
  obtain ⟨h1, ⟨w1, w2, w3, w4, w5⟩, h2⟩ := h
  have e : ∀ f k, f ≠ 0 → f ≠ 1 → cu (cu c 0 (P 3 0) a) 1 (P 3 0) b f k = c f k := fun f k a b => by rw [cu_f b, cu_f a]
  unfold PO PW
  rw [h3, h4]
  simp only [e 11 _ (by decide) (by decide), e 10 _ (by decide) (by decide), e 6 _ (by decide) (by decide), e 2 _ (by decide) (by decide)]
  refine ⟨fun f p f1 p0 p1 => ?_, ⟨w1, w2, w3, fun p p0 p1 => ?_, fun g g0 g1 => ?_⟩, h2⟩
  · rw [cu_if, cu_if]
    by_cases q : p = P 3 0
    · have : f = 0 ∨ f = 1 := by omega
      rcases this with f0 | f0
      · rw [if_neg (by omega), if_pos ⟨f0, q⟩]; exact ha
      · rw [if_pos ⟨f0, q⟩]; exact hb
    · rw [if_neg (fun z => q z.2), if_neg (fun z => q z.2)]
      exact h1 f p f1 p0 (by omega)
  · by_cases q : p = P 3 0
    · rw [q]; exact Or.inl hn
    · exact w4 p p0 (by omega)
  · rcases w5 g g0 g1 with z | ⟨z1, z2, z3⟩
    · exact Or.inl z
    · exact Or.inr ⟨z1, by omega, z3⟩
theorem PO.stand {P P' c : Cs} {p : Int} (h : PO P c) (h3 : P' 3 0 = P 3 0) (h4 : P' 4 0 = P 4 0 + 1) (h40 : 0 ≤ P 4 0) (hp : 0 ≤ p ∧ p < P 3 0) (hn : c 2 p = -2) : PO P' (c_stand c (P 4 0) p) := by
  obtain ⟨h1, ⟨w1, w2, w3, w4, w5⟩, h2⟩ := h
  have e : ∀ f k, f ≠ 2 → f ≠ 6 → f ≠ 8 → c_stand c (P 4 0) p f k = c f k := fun f k a b d => c_stand_f a b d
  have e2 : ∀ k, c_stand c (P 4 0) p 2 k = if k = p then P 4 0 else c 2 k := fun k => by
    unfold c_stand; rw [cu_f (by decide), cu_f (by decide), cu_if]; simp only [true_and]
  have e6 : ∀ k, c_stand c (P 4 0) p 6 k = if k = P 4 0 then p else c 6 k := fun k => by
    unfold c_stand; rw [cu_f (by decide), cu_if, cu_f (by decide)]; simp only [true_and]
  unfold PO PW
  rw [h3, h4]
  simp only [e 11 _ (by decide) (by decide) (by decide), e 10 _ (by decide) (by decide) (by decide)]
  refine ⟨fun f q f1 p0 p1 => ?_, ⟨by omega, fun k k0 k1 => ?_, w3, fun q p0 p1 => ?_, fun g g0 g1 => ?_⟩, h2⟩
  · rw [e f q (by omega) (by omega) (by omega)]; exact h1 f q f1 p0 p1
  · obtain ⟨a1, a2, a3⟩ := w2 k k0 k1
    exact ⟨a1, by omega, by rw [e6, if_neg (by omega)]; exact a3⟩
  · rw [e2]
    by_cases w : q = p
    · rw [if_pos w, e6, if_pos rfl]; exact Or.inr ⟨h40, by omega, w.symm⟩
    · rw [if_neg w]
      rcases w4 q p0 p1 with z | ⟨z1, z2, z3⟩
      · exact Or.inl z
      · exact Or.inr ⟨z1, by omega, by rw [e6, if_neg (by omega)]; exact z3⟩
  · rw [e6]
    by_cases w : g = P 4 0
    · rw [if_pos w, e2, if_pos rfl]; exact Or.inr ⟨hp.1, hp.2, w.symm⟩
    · rw [if_neg w]
      rcases w5 g g0 (by omega) with z | ⟨z1, z2, z3⟩
      · exact Or.inl z
      · exact Or.inr ⟨z1, z2, by rw [e2, if_neg (fun q => by rw [q, hn] at z3; omega)]; exact z3⟩
theorem PO.lie {P P' c : Cs} (h : PO P c) (h3 : P' 3 0 = P 3 0) (h4 : P' 4 0 = P 4 0 + 1) (h40 : 0 ≤ P 4 0) (h41 : P 4 0 < 12) : PO P' (c_lie c (P 4 0)) := by
  obtain ⟨h1, ⟨w1, w2, w3, w4, w5⟩, h2⟩ := h
  have el : c_lie c (P 4 0) = cu (cu (cu (cu c 6 (P 4 0) (-2)) 8 (P 4 0) 0) 11 0 (c 11 0 + 1)) 10 (c 11 0) (P 4 0) := by unfold c_lie; rw [if_pos (by omega)]
  have e : ∀ f k, f ≠ 6 → f ≠ 8 → f ≠ 11 → f ≠ 10 → c_lie c (P 4 0) f k = c f k := fun f k a b d g => by rw [el, cu_f g, cu_f d, cu_f b, cu_f a]
  have e6 : ∀ k, c_lie c (P 4 0) 6 k = if k = P 4 0 then -2 else c 6 k := fun k => by
    rw [el, cu_f (by decide), cu_f (by decide), cu_f (by decide), cu_if]; simp only [true_and]
  have e11 : c_lie c (P 4 0) 11 0 = c 11 0 + 1 := by rw [el, cu_f (by decide), cu_s]
  have e10 : ∀ k, c_lie c (P 4 0) 10 k = if k = c 11 0 then P 4 0 else c 10 k := fun k => by
    rw [el, cu_if, cu_f (by decide), cu_f (by decide), cu_f (by decide)]; simp only [true_and]
  unfold PO PW
  rw [h3, h4]
  simp only [e11, e 2 _ (by decide) (by decide) (by decide) (by decide)]
  refine ⟨fun f q f1 p0 p1 => ?_, ⟨by omega, fun k k0 k1 => ?_, fun j k j0 jk k1 => ?_, fun q p0 p1 => ?_, fun g g0 g1 => ?_⟩, fun j k j0 jk k1 => ?_⟩
  · rw [e f q (by omega) (by omega) (by omega) (by omega)]; exact h1 f q f1 p0 p1
  · rw [e10]
    by_cases w : k = c 11 0
    · rw [if_pos w, e6, if_pos rfl]; exact ⟨h40, by omega, rfl⟩
    · rw [if_neg w]
      obtain ⟨a1, a2, a3⟩ := w2 k k0 (by omega)
      exact ⟨a1, by omega, by rw [e6, if_neg (by omega)]; exact a3⟩
  · rw [e10, e10, if_neg (by omega)]
    by_cases w : k = c 11 0
    · rw [if_pos w]; have := w2 j j0 (by omega); omega
    · rw [if_neg w]; exact w3 j k j0 jk (by omega)
  · rcases w4 q p0 p1 with z | ⟨z1, z2, z3⟩
    · exact Or.inl z
    · exact Or.inr ⟨z1, by omega, by rw [e6, if_neg (by omega)]; exact z3⟩
  · rw [e6]
    by_cases w : g = P 4 0
    · rw [if_pos w]; exact Or.inl ⟨rfl, c 11 0, by omega, by omega, by rw [e10, if_pos rfl]; exact w.symm⟩
    · rw [if_neg w]
      rcases w5 g g0 (by omega) with ⟨z1, k, z2, z3, z4⟩ | z
      · exact Or.inl ⟨z1, k, z2, by omega, by rw [e10, if_neg (by omega)]; exact z4⟩
      · exact Or.inr z
  · rw [e10, e10, if_neg (by omega)]
    by_cases w : k = c 11 0
    · rw [if_pos w]; have := w2 j j0 (by omega); omega
    · rw [if_neg w]; exact h2 j k j0 jk (by omega)
theorem zTell_B {z z' : Zs} (hT : TF T) (hJ : ZJ T z) (h : ZB z) (e : zTell T z = .inr z') : ZB z' := by
  obtain ⟨t, x, P, l, c, L⟩ := z
  obtain ⟨_, _, j3, j4, _, _, _, _⟩ := hJ
  obtain ⟨⟨h1, h2⟩, ⟨h3, h4⟩, ⟨h5, h6⟩, h7⟩ := h
  have j3 : 0 ≤ P 3 0 ∧ P 3 0 ≤ 8 := j3
  have j4 : 0 ≤ P 4 0 ∧ P 4 0 ≤ 12 := j4
  have h1 : 0 ≤ P 5 0 ∧ P 5 0 ≤ 24 := h1
  have h2 : 0 ≤ P 6 0 ∧ P 6 0 ≤ 9999 := h2
  have h3 : 0 ≤ x 15 0 := h3
  have h4 : x 2 0 = -1 := h4
  have h5 : ∀ p, P 3 0 ≤ p → p < 8 → c 2 p = -2 := h5
  have h6 : ∀ g, P 4 0 ≤ g → g < 12 → c 6 g = -2 := h6
  have h7 : x 15 0 = 0 → PO P c := h7
  rw [zTell_e] at e
  by_cases k1 : T.1 t = 137
  · rw [if_pos k1] at e
    obtain ⟨q, e1, e⟩ := bnd_i e
    cases e
    obtain ⟨a1, a2, a3, a4, a5, a6, a7, x3, x4, a8, a9, a10, a11, a12, a13⟩ := zPost_i e1
    obtain ⟨n1, v1⟩ := pInt_n a8
    obtain ⟨n2, v2⟩ := pInt_n a9
    obtain ⟨n3, v3⟩ := pInt_n a10
    have nn : XN x q.2.1 := ((postX_n.tr n1).tr n2).tr n3
    have eP : ∀ f k, f ≠ 3 → f ≠ 0 → q.2.2.1 f k = P f k := fun f k a b => by rw [a12, cu_f b, cu_f a]
    have e3 : q.2.2.1 3 0 = P 3 0 + 1 := by rw [a12, cu_f (by decide), cu_s]
    refine ⟨⟨?_, ?_⟩, ⟨nn.2.1 h3, nn.1.trans h4⟩, ⟨fun p p0 p1 => ?_, fun g g0 g1 => ?_⟩, fun z => ?_⟩
    · show 0 ≤ q.2.2.1 5 0 ∧ q.2.2.1 5 0 ≤ 24; rw [eP 5 0 (by decide) (by decide)]; exact h1
    · show 0 ≤ q.2.2.1 6 0 ∧ q.2.2.1 6 0 ≤ 9999; rw [eP 6 0 (by decide) (by decide)]; exact h2
    · have p0 : q.2.2.1 3 0 ≤ p := p0
      show q.2.2.2 2 p = -2; rw [a13, cu_f (by decide), cu_f (by decide)]; exact h5 p (by omega) p1
    · have g0 : q.2.2.1 4 0 ≤ g := g0
      rw [eP 4 0 (by decide) (by decide)] at g0
      show q.2.2.2 6 g = -2; rw [a13, cu_f (by decide), cu_f (by decide)]; exact h6 g (by omega) g1
    · have z : q.2.1 15 0 = 0 := z
      show PO q.2.2.1 q.2.2.2
      rw [a13]
      exact (h7 (nn.2.2 z)).post e3 (eP 4 0 (by decide) (by decide)) (v1 (n2.2.2 (n3.2.2 z))) (v2 (n3.2.2 z)) (h5 _ (by omega) (by omega))
  rw [if_neg k1] at e
  by_cases k2 : T.1 t = 138
  · rw [if_pos k2] at e
    obtain ⟨q, e1, e⟩ := bnd_i e
    cases e
    obtain ⟨a1, a2, a3, a4⟩ := zGuard_i e1
    have eP : ∀ f k, f ≠ 4 → q.2.2.1 f k = P f k := fun f k a => by rw [a3, cu_f a]
    have e4 : q.2.2.1 4 0 = P 4 0 + 1 := by rw [a3, cu_s]
    have key : XN x q.2.1 ∧ ((∀ p, P 3 0 ≤ p → p < 8 → q.2.2.2 2 p = -2) ∧ ∀ g, P 4 0 + 1 ≤ g → g < 12 → q.2.2.2 6 g = -2) ∧ (q.2.1 15 0 = 0 → PO q.2.2.1 q.2.2.2) := by
      rcases a4 with ⟨_, _, _, _, _, b, d⟩ | ⟨_, _, _, b, d⟩
      · rw [b, d]
        refine ⟨nameX_n.tr atX_n, ?_, fun z => ?_⟩
        · unfold atC
          split
          · exact ⟨h5, fun g g0 g1 => h6 g (by omega) g1⟩
          · rename_i y1
            split
            · rename_i y2
              have hw := fnd_some (q := fun p => nameX T x (t + 1) (-1) 5 p == T.2.2.2.1 (t + 3)) (P 3 0).toNat 0 (by omega)
              have hr : pnm (nameX T x (t + 1) (-1)) (P 3 0) (T.2.2.2.1 (t + 3)) < P 3 0 := by
                rcases hw with ⟨w1, _⟩ | ⟨_, w2, _⟩
                · exact absurd w1 y1
                · unfold pnm; omega
              refine ⟨fun p p0 p1 => ?_, fun g g0 g1 => ?_⟩
              · unfold c_stand; rw [cu_f (by decide), cu_f (by decide), cu_k (by omega)]; exact h5 p p0 p1
              · unfold c_stand; rw [cu_f (by decide), cu_k (by omega), cu_f (by decide)]; exact h6 g (by omega) g1
            · exact ⟨h5, fun g g0 g1 => h6 g (by omega) g1⟩
        · obtain ⟨y1, y2⟩ := atX_z z
          have hw := fnd_some (q := fun p => nameX T x (t + 1) (-1) 5 p == T.2.2.2.1 (t + 3)) (P 3 0).toNat 0 (by omega)
          have hr : 0 ≤ pnm (nameX T x (t + 1) (-1)) (P 3 0) (T.2.2.2.1 (t + 3)) ∧ pnm (nameX T x (t + 1) (-1)) (P 3 0) (T.2.2.2.1 (t + 3)) < P 3 0 := by
            rcases hw with ⟨w1, _⟩ | ⟨w0, w2, _⟩
            · exact absurd w1 y1
            · unfold pnm; omega
          unfold atC
          rw [if_neg y1, if_pos y2]
          exact (h7 ((nameX_n.tr atX_n).2.2 z)).stand (eP 3 0 (by decide)) e4 j4.1 hr y2
      · rw [b, d]
        refine ⟨nameX_n, ?_, fun z => (h7 (nameX_n.2.2 z)).lie (eP 3 0 (by decide)) e4 j4.1 a1⟩
        unfold c_lie
        split
        · refine ⟨fun p p0 p1 => ?_, fun g g0 g1 => ?_⟩
          · rw [cu_f (by decide), cu_f (by decide), cu_f (by decide), cu_f (by decide)]; exact h5 p p0 p1
          · rw [cu_f (by decide), cu_f (by decide), cu_f (by decide), cu_k (by omega)]; exact h6 g (by omega) g1
        · refine ⟨fun p p0 p1 => ?_, fun g g0 g1 => ?_⟩
          · rw [cu_f (by decide), cu_f (by decide)]; exact h5 p p0 p1
          · rw [cu_f (by decide), cu_k (by omega)]; exact h6 g (by omega) g1
    obtain ⟨nn, ⟨y1, y2⟩, y3⟩ := key
    refine ⟨⟨?_, ?_⟩, ⟨nn.2.1 h3, nn.1.trans h4⟩, ⟨fun p p0 p1 => ?_, fun g g0 g1 => ?_⟩, y3⟩
    · show 0 ≤ q.2.2.1 5 0 ∧ q.2.2.1 5 0 ≤ 24; rw [eP 5 0 (by decide)]; exact h1
    · show 0 ≤ q.2.2.1 6 0 ∧ q.2.2.1 6 0 ≤ 9999; rw [eP 6 0 (by decide)]; exact h2
    · have p0 : q.2.2.1 3 0 ≤ p := p0
      rw [eP 3 0 (by decide)] at p0
      exact y1 p p0 p1
    · have g0 : q.2.2.1 4 0 ≤ g := g0
      rw [e4] at g0
      exact y2 g g0 g1
  rw [if_neg k2] at e
  by_cases k3 : T.1 t = 140
  · rw [if_pos k3] at e
    obtain ⟨q, e1, e⟩ := bnd_i e
    cases e
    exact ⟨⟨h1, h2⟩, ⟨h3, h4⟩, ⟨h5, h6⟩, h7⟩
  rw [if_neg k3] at e
  by_cases k4 : T.1 t = 144
  · rw [if_pos k4] at e
    obtain ⟨q, e1, e⟩ := bnd_i e
    cases e
    unfold zDamp at e1
    obtain ⟨t1, e0, e1⟩ := bnd_i e1
    obtain ⟨i', t', g1, g2, g3, ⟨g4, g5, g6, g7, g8⟩, _, _, _⟩ := zD_ind (T := T) (R := fun i s y Q => XN x y ∧ Q 3 0 = P 3 0 ∧ Q 4 0 = P 4 0 ∧ Q 6 0 = P 6 0 ∧ Q 5 0 = i) (fun i s y Q y' hR hi hk hs hp => ⟨hR.1.tr (pInt_n hp).1, by rw [cu_f (by decide), cu_f (by decide)]; exact hR.2.1, by rw [cu_f (by decide), cu_f (by decide)]; exact hR.2.2.1, by rw [cu_f (by decide), cu_f (by decide)]; exact hR.2.2.2.1, by rw [cu_f (by decide), cu_s]⟩) 25 0 t1 x (cu P 5 0 0) q (by omega) (by omega) (by omega) ⟨XN.rf x, cu_f (by decide), cu_f (by decide), cu_f (by decide), cu_s _ _ _ _⟩ e1
    refine ⟨⟨?_, ?_⟩, ⟨g4.2.1 h3, g4.1.trans h4⟩, ⟨fun p p0 p1 => ?_, fun g g0 g1 => ?_⟩, fun z => (h7 (g4.2.2 z)).P g5 g6⟩
    · show 0 ≤ q.2.2 5 0 ∧ q.2.2 5 0 ≤ 24; omega
    · show 0 ≤ q.2.2 6 0 ∧ q.2.2 6 0 ≤ 9999; omega
    · have p0 : q.2.2 3 0 ≤ p := p0
      exact h5 p (by omega) p1
    · have g0 : q.2.2 4 0 ≤ g := g0
      exact h6 g (by omega) g1
  rw [if_neg k4] at e
  by_cases k5 : T.1 t = 145
  · rw [if_pos k5] at e
    obtain ⟨q, e1, e⟩ := bnd_i e
    cases e
    obtain ⟨a1, a2, a3, a4, a5, a6⟩ := zSleep_i e1
    obtain ⟨nn, _⟩ := pInt_n a5
    have hv := hT.2.2.2.1 (t + 1) (by first | exact a1 | exact a2 | exact a3)
    have eP : ∀ f k, f ≠ 6 → q.2.2 f k = P f k := fun f k a => by rw [a6, cu_f a]
    refine ⟨⟨?_, ?_⟩, ⟨nn.2.1 h3, nn.1.trans h4⟩, ⟨fun p p0 p1 => ?_, fun g g0 g1 => ?_⟩, fun z => (h7 (nn.2.2 z)).P (eP 3 0 (by decide)) (eP 4 0 (by decide))⟩
    · show 0 ≤ q.2.2 5 0 ∧ q.2.2 5 0 ≤ 24; rw [eP 5 0 (by decide)]; exact h1
    · show 0 ≤ q.2.2 6 0 ∧ q.2.2 6 0 ≤ 9999; rw [a6, cu_s]; exact hv
    · have p0 : q.2.2 3 0 ≤ p := p0
      rw [eP 3 0 (by decide)] at p0
      exact h5 p p0 p1
    · have g0 : q.2.2 4 0 ≤ g := g0
      rw [eP 4 0 (by decide)] at g0
      exact h6 g g0 g1
  rw [if_neg k5] at e
  cases e
end ZIN
