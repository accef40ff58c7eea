/-! what a text tells, token by token -/
abbrev Br : Type := Bool × List Cd × List Cd × List Cd
abbrev Zs : Type := Int × Cs × Cs × Cs × Cs × List Br
def bnd {α β : Type} (r : (Int × Int) ⊕ α) (f : α → (Int × Int) ⊕ β) : (Int × Int) ⊕ β := match r with
  | .inl e => .inl e
  | .inr a => f a
theorem bnd_l {α β : Type} {e : Int × Int} {f : α → (Int × Int) ⊕ β} : bnd (.inl e) f = .inl e := rfl
theorem bnd_r {α β : Type} {a : α} {f : α → (Int × Int) ⊕ β} : bnd (.inr a) f = f a := rfl
theorem bnd_i {α β : Type} {r : (Int × Int) ⊕ α} {f : α → (Int × Int) ⊕ β} {b : β} (h : bnd r f = .inr b) : ∃ a, r = .inr a ∧ f a = .inr b := by
  cases r with
  | inl e => cases h
  | inr a => exact ⟨a, rfl, h⟩
def pInt (T : Tab) (most t : Int) (x : Cs) : (Int × Int) ⊕ (Int × Cs) := bnd (pMu T 131 t) fun t' => .inr (t', if most < T.2.2.1 t then noteX x 5 (T.2.1 t) else x)
/-- a new name: it is noted if it was told already -/
def twx (x : Cs) (a p : Int) : Cs := if fnd (fun k => x 4 k == a) (x 10 0).toNat 0 = -2 then x else noteX x 3 p
def nameX (T : Tab) (x : Cs) (t s : Int) : Cs := cu (cu (cu (cu (twx x (T.2.2.2.1 t) (T.2.1 t)) 10 0 (x 10 0 + 1)) 4 (x 10 0) (T.2.2.2.1 t)) 20 (x 10 0) t) 21 (x 10 0) s
def postX (T : Tab) (x : Cs) (t p : Int) : Cs := cu (cu (nameX T x t p) 5 p (T.2.2.2.1 t)) 22 p t
def zPost (T : Tab) (t : Int) (x P c : Cs) : (Int × Int) ⊕ (Int × Cs × Cs × Cs) :=
  if 8 ≤ P 3 0 then .inl (2, T.2.1 t) else
  bnd (pGo T t) fun t1 => bnd (pMu T 130 t1) fun t2 => bnd (pInt T 999 t2 (postX T x t1 (P 3 0))) fun p3 => bnd (pInt T 999 p3.1 p3.2) fun p4 => bnd (pInt T 99 p4.1 p4.2) fun p5 => bnd (pMu T 59 p5.1) fun t6 =>
  .inr (t6, p5.2, cu (cu P 3 0 (P 3 0 + 1)) 0 (P 3 0) (T.2.2.1 p4.1), cu (cu c 0 (P 3 0) (T.2.2.1 t2)) 1 (P 3 0) (T.2.2.1 p3.1))
/-- which POST a name is -/
def pnm (x : Cs) (n a : Int) : Int := fnd (fun p => x 5 p == a) n.toNat 0
def atX (T : Tab) (x P c : Cs) (t : Int) : Cs := if pnm x (P 3 0) (T.2.2.2.1 t) = -2 then noteX x 4 (T.2.1 t) else if c 2 (pnm x (P 3 0) (T.2.2.2.1 t)) = -2 then x else noteX x 3 (T.2.1 t)
def atC (T : Tab) (x P c : Cs) (t g : Int) : Cs := if pnm x (P 3 0) (T.2.2.2.1 t) = -2 then c else if c 2 (pnm x (P 3 0) (T.2.2.2.1 t)) = -2 then c_stand c g (pnm x (P 3 0) (T.2.2.2.1 t)) else c
def zGuard (T : Tab) (t : Int) (x P c : Cs) : (Int × Int) ⊕ (Int × Cs × Cs × Cs) :=
  if 12 ≤ P 4 0 then .inl (2, T.2.1 t) else
  bnd (pGo T t) fun t1 => bnd (pMu T 130 t1) fun t2 =>
  if T.1 t2 = 139 then
    bnd (pGo T t2) fun t3 => bnd (pMu T 130 t3) fun t4 => bnd (pMu T 59 t4) fun t5 =>
    .inr (t5, atX T (nameX T x t1 (-1)) P c t3, cu P 4 0 (P 4 0 + 1), atC T (nameX T x t1 (-1)) P c t3 (P 4 0))
  else bnd (pMu T 59 t2) fun t3 => .inr (t3, nameX T x t1 (-1), cu P 4 0 (P 4 0 + 1), c_lie c (P 4 0))
def zD (T : Tab) : Nat → Int → Int → Cs → Cs → (Int × Int) ⊕ (Int × Cs × Cs)
  | 0, _, t, x, P => bnd (pMu T 59 t) fun t' => .inr (t', x, P)
  | n + 1, i, t, x, P => if T.1 t = 131 then (if i = 24 then .inl (2, T.2.1 t) else bnd (pInt T 99 t x) fun p => zD T n (i + 1) p.1 p.2 (cu (cu P 5 0 (i + 1)) 1 (i + 1) (T.2.2.1 t))) else bnd (pMu T 59 t) fun t' => .inr (t', x, P)
def zDamp (T : Tab) (t : Int) (x P : Cs) : (Int × Int) ⊕ (Int × Cs × Cs) := bnd (pGo T t) fun t1 => zD T 25 0 t1 x (cu P 5 0 0)
def zSleep (T : Tab) (t : Int) (x P : Cs) : (Int × Int) ⊕ (Int × Cs × Cs) := bnd (pGo T t) fun t1 => bnd (pInt T 9999 t1 x) fun p => bnd (pMu T 59 p.1) fun t3 => .inr (t3, p.2, cu P 6 0 (T.2.2.1 t1))
def zIf (T : Tab) (t : Int) : (Int × Int) ⊕ (Int × Br) := bnd (pGo T t) fun t1 => bnd (xE T t1) fun a => bnd (pMu T 60 a.1) fun t2 => bnd (xE T t2) fun b => bnd (pMu T 142 b.1) fun t3 => bnd (xE T t3) fun d => bnd (pMu T 143 d.1) fun t4 => .inr (t4, (true, a.2, b.2, d.2))
def zE (T : Tab) (t : Int) (L : List Br) : (Int × Int) ⊕ (Int × List Br) := bnd (xE T t) fun a => bnd (pMu T 59 a.1) fun t2 => .inr (t2, L ++ [(false, [], [], a.2)])
def zL (T : Tab) : Nat → Int → List Br → (Int × Int) ⊕ (Int × List Br)
  | 0, t, L => if T.1 t = 141 then .inl (2, T.2.1 t) else zE T t L
  | n + 1, t, L => if T.1 t = 141 then bnd (zIf T t) fun p => zL T n p.1 (L ++ [p.2]) else zE T t L
def zFlow (T : Tab) (t : Int) : (Int × Int) ⊕ (Int × List Br) := bnd (pGo T t) fun t1 => bnd (pMu T 61 t1) fun t2 => zL T 4 t2 []
def hdU (U : List Int) : Int := U.headD 0
def lf1 (l : Cs) (a b : List Cd) : Cs := addS (cg (cg l a).1 b).1 4 (hdU (cg l a).2) (hdU (cg (cg l a).1 b).2)
def lf2 (l : Cs) (d : List Cd) : Cs := addS (cg l d).1 5 (hdU (cg l d).2) (hdU (cg l d).2)
def cbr (l : Cs) (b : Br) : Cs := if b.1 = true then cu (lf2 (lf1 l b.2.1 b.2.2.1) b.2.2.2) 5 ((cg (cg l b.2.1).1 b.2.2.1).1 7 0) (lf2 (lf1 l b.2.1 b.2.2.1) b.2.2.2 7 0) else lf2 l b.2.2.2
def lawOf (l : Cs) (L : List Br) : Cs := L.foldl cbr (clr l)
def zt (z : Zs) : Int := z.1
def zx (z : Zs) : Cs := z.2.1
def zp (z : Zs) : Cs := z.2.2.1
def zl (z : Zs) : Cs := z.2.2.2.1
def zc (z : Zs) : Cs := z.2.2.2.2.1
def zb (z : Zs) : List Br := z.2.2.2.2.2
def zTell (T : Tab) (z : Zs) : (Int × Int) ⊕ Zs :=
  if T.1 (zt z) = 137 then bnd (zPost T (zt z) (zx z) (zp z) (zc z)) fun p => .inr (p.1, p.2.1, p.2.2.1, zl z, p.2.2.2, zb z)
  else if T.1 (zt z) = 138 then bnd (zGuard T (zt z) (zx z) (zp z) (zc z)) fun p => .inr (p.1, p.2.1, p.2.2.1, zl z, p.2.2.2, zb z)
  else if T.1 (zt z) = 140 then bnd (zFlow T (zt z)) fun p => .inr (p.1, zx z, zp z, lawOf (zl z) p.2, zc z, p.2)
  else if T.1 (zt z) = 144 then bnd (zDamp T (zt z) (zx z) (zp z)) fun p => .inr (p.1, p.2.1, p.2.2, zl z, zc z, zb z)
  else if T.1 (zt z) = 145 then bnd (zSleep T (zt z) (zx z) (zp z)) fun p => .inr (p.1, p.2.1, p.2.2, zl z, zc z, zb z)
  else .inl (1, T.2.1 (zt z))
def zTells (T : Tab) : Nat → Zs → (Int × Int) ⊕ Zs
  | 0, z => .inr z
  | n + 1, z => if T.1 (zt z) = 128 then .inr z else bnd (zTell T z) (zTells T n)
/-! what is kept while a text is read -/
def RdC (c : Cs) : Prop := (∀ f k, (f = 3 ∨ f = 4 ∨ f = 5) → 0 ≤ k → k < 8 → c f k = 0) ∧ (∀ f k, 7 ≤ f → f ≤ 9 → 0 ≤ k → k < 12 → c f k = 0) ∧ c 12 0 = 0 ∧ ∀ f p, f ≤ 1 → 0 ≤ p → p < 8 → 0 ≤ c f p ∧ c f p ≤ 9999
theorem RdC.wu {c : Cs} {f : Nat} {k v : Int} (h : RdC c) (hf : f = 2 ∨ f = 6 ∨ f = 10 ∨ f = 11) : RdC (cu c f k v) := ⟨fun g j a b d => by rw [cu_f (by omega)]; exact h.1 g j a b d, fun g j a b d e => by rw [cu_f (by omega)]; exact h.2.1 g j a b d e, by rw [cu_f (by omega)]; exact h.2.2.1, fun g j a b d => by rw [cu_f (by omega)]; exact h.2.2.2 g j a b d⟩
theorem RdC.w0 {c : Cs} {f : Nat} {k v : Int} (h : RdC c) (hf : f ≤ 1) (hv : 0 ≤ v ∧ v ≤ 9999) : RdC (cu c f k v) := ⟨fun g j a b d => by rw [cu_f (by omega)]; exact h.1 g j a b d, fun g j a b d e => by rw [cu_f (by omega)]; exact h.2.1 g j a b d e, by rw [cu_f (by omega)]; exact h.2.2.1, fun g j a b d => by rw [cu_if]; split <;> first | exact hv | exact h.2.2.2 g j a b d⟩
theorem RdC.w8 {c : Cs} {k : Int} (h : RdC c) : RdC (cu c 8 k 0) := ⟨fun g j a b d => by rw [cu_f (by omega)]; exact h.1 g j a b d, fun g j a b d e => by rw [cu_if]; split <;> first | rfl | exact h.2.1 g j a b d e, by rw [cu_f (by omega)]; exact h.2.2.1, fun g j a b d => by rw [cu_f (by omega)]; exact h.2.2.2 g j a b d⟩
theorem RdC.st {c : Cs} {a p : Int} (h : RdC c) : RdC (c_stand c a p) := ((h.wu (by omega)).wu (by omega)).w8
theorem RdC.li {c : Cs} {a : Int} (h : RdC c) : RdC (c_lie c a) := by
  unfold c_lie
  split
  · exact (((h.wu (by omega)).w8).wu (by omega)).wu (by omega)
  · exact (h.wu (by omega)).w8
theorem noteX_f {x : Cs} {f a : Int} {g : Nat} (h : g ≠ 15) (h2 : g ≠ 16) : noteX x f a g = x g := by
  unfold noteX
  split
  · rw [cf_f h2, cf_f h]
  · rfl
theorem noteX_2 {x : Cs} {f a : Int} (hf : f ≠ 0) : noteX (noteX x f a) f a = noteX x f a := by
  by_cases h : x 15 0 = 0
  · have e : noteX x f a = cu (cu x 15 0 f) 16 0 a := by unfold noteX; rw [if_pos h]
    rw [e]
    unfold noteX
    rw [if_neg (by rw [cu_f (by decide), cu_s]; exact hf)]
  · have e : noteX x f a = x := by unfold noteX; rw [if_neg h]
    rw [e, e]
theorem pGo_i {T : Tab} {t t' : Int} (h : pGo T t = .inr t') : t' = t + 1 ∧ t < 400 := by
  unfold pGo at h
  by_cases c : 400 ≤ t
  · rw [if_pos c] at h; cases h
  · rw [if_neg c] at h; cases h; exact ⟨rfl, by omega⟩
theorem pMu_i {T : Tab} {k t t' : Int} (h : pMu T k t = .inr t') : t' = t + 1 ∧ t < 400 ∧ T.1 t = k := by
  unfold pMu at h
  by_cases c : T.1 t = k
  · rw [if_pos c] at h
    have := pGo_i h
    exact ⟨this.1, this.2, c⟩
  · rw [if_neg c] at h; cases h
theorem pInt_i {T : Tab} {most t : Int} {x : Cs} {p : Int × Cs} (h : pInt T most t x = .inr p) : p.1 = t + 1 ∧ t < 400 ∧ T.1 t = 131 ∧ p.2 = if most < T.2.2.1 t then noteX x 5 (T.2.1 t) else x := by
  unfold pInt at h
  obtain ⟨a, h1, h2⟩ := bnd_i h
  obtain ⟨e1, e2, e3⟩ := pMu_i h1
  cases h2
  exact ⟨e1, e2, e3, rfl⟩
