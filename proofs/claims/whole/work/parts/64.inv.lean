/-! the state that class and reference share; what holds of it; what the reference's object keeps of it -/
abbrev SS : Type := Phi × Cs × (Cs × Cs) × ((Int → Cs) × Int) × ((Int → Int) × (Int → Cs)) × (Int × (Int → Int) × (Int → Int)) × ((Int → Int) × Int) × Int
def sF (S : SS) : Phi := S.1
def sP (S : SS) : Cs := S.2.1
def sY (S : SS) : Cs := S.2.2.1.1
def sB (S : SS) : Cs := S.2.2.1.2
def sHn (S : SS) : Int → Cs := S.2.2.2.1.1
def sHz (S : SS) : Int := S.2.2.2.1.2
def sKf (S : SS) : Int → Int := S.2.2.2.2.1.1
def sKs (S : SS) : Int → Cs := S.2.2.2.2.1.2
def sTn (S : SS) : Int := S.2.2.2.2.2.1.1
def sTp (S : SS) : Int → Int := S.2.2.2.2.2.1.2.1
def sTm (S : SS) : Int → Int := S.2.2.2.2.2.1.2.2
def sTb (S : SS) : Int → Int := S.2.2.2.2.2.2.1.1
def sTz (S : SS) : Int := S.2.2.2.2.2.2.1.2
def sFp (S : SS) : Int := S.2.2.2.2.2.2.2
/-- a thing is done: the castle ahead of it is kept -/
def upS (S : SS) (y : Cs) : SS := (sF S, sP S, (y, sB S), ((fun j => if j = 0 then sY S else sHn S (j - 1)), min (sHz S + 1) 40), (sKf S, sKs S), (sTn S, sTp S, sTm S), (sTb S, sTz S), sFp S)
def unS (S : SS) : SS := (sF S, sP S, (sHn S 0, sB S), ((fun j => sHn S (j + 1)), sHz S - 1), (sKf S, sKs S), (sTn S, sTp S, sTm S), (sTb S, sTz S), sFp S)
def hoS (S : SS) (s : Int) : SS := (sF S, sP S, (sY S, sB S), (sHn S, sHz S), ((fun j => if j = s then 1 else sKf S j), (fun j => if j = s then sY S else sKs S j)), (sTn S, sTp S, sTm S), (sTb S, sTz S), sFp S)
def reS (S : SS) (s : Int) : SS := (sF S, sP S, (sKs S s, sB S), (sHn S, 0), (sKf S, sKs S), (sTn S, sTp S, sTm S), (sTb S, sTz S), sFp S)
def teS (S : SS) (p t : Int) : SS := (sF S, sP S, (sY S, sB S), (sHn S, sHz S), (sKf S, sKs S), (sTn S + 1, (fun i => if i = sTn S then p else sTp S i), (fun i => if i = sTn S then t else sTm S i)), (sTb S, sTz S), sFp S)
def foS (S : SS) : SS := (sF S, sP S, (sY S, sB S), (sHn S, sHz S), (sKf S, sKs S), (0, sTp S, sTm S), (sTb S, sTz S), sFp S)
def taS (S : SS) (b : Int → Int) (z : Int) : SS := (sF S, sP S, (sY S, sB S), (sHn S, sHz S), (sKf S, sKs S), (sTn S, sTp S, sTm S), (b, z), sFp S)
/-- what holds of a castle behind n calls -/
def CYp (P : Cs) (n : Int) (y : Cs) : Prop := QY P (20000 * n) y ∧ (∀ p, 0 ≤ p → p < P 3 0 → y 0 p + y 1 p ≤ 2000 + 10000 * n ∧ 0 ≤ y 0 p + y 1 p - y 5 p ∧ y 0 p + y 1 p - y 5 p ≤ 2000 ∧ (y 3 p = 0 ∨ y 3 p = 1)) ∧ (∀ k, 0 ≤ k → k < P 4 0 → 0 ≤ y 7 k) ∧ ∀ p, P 3 0 ≤ p → p < 8 → y 0 p = 0 ∧ y 1 p = 0
theorem CYp.mono {P y : Cs} {n : Int} (h : CYp P n y) : CYp P (n + 1) y := ⟨h.1.mono (by omega), fun p a b => by have := h.2.1 p a b; omega, h.2.2.1, h.2.2.2⟩
theorem CYp_min {φ : Phi} {P l y : Cs} (hP : PlanOk P l φ) : ∀ (k : Nat) (B : Int) (y : Cs), QY P B y → 0 ≤ B → (∀ q, mits φ P k y 0 q + mits φ P k y 1 q = y 0 q + y 1 q ∧ (q < 0 ∨ P 3 0 ≤ q → mits φ P k y 0 q = y 0 q ∧ mits φ P k y 1 q = y 1 q)) ∧ (∀ q, mits φ P k y 3 q = y 3 q ∧ mits φ P k y 5 q = y 5 q)
  | 0, _, _, _, _ => ⟨fun q => ⟨rfl, fun _ => ⟨rfl, rfl⟩⟩, fun q => ⟨rfl, rfl⟩⟩
  | k + 1, B, y, hQ, hB => by
    obtain ⟨a, b⟩ := CYp_min (y := y) hP k (B + 9) (mmin φ P y) (QY_min hQ hB hP) (by omega)
    refine ⟨fun q => ?_, fun q => ?_⟩
    · obtain ⟨a1, a2⟩ := a q
      obtain ⟨b1, b2⟩ := min_sum hP hQ hB q
      exact ⟨a1.trans b1, fun z => ⟨(a2 z).1.trans (b2 z).1, (a2 z).2.trans (b2 z).2⟩⟩
    · obtain ⟨a1, a2⟩ := b q
      exact ⟨a1.trans (min_3 (Or.inl rfl) q), a2.trans (min_3 (Or.inr rfl) q)⟩
theorem CYp_its {φ : Phi} {P l y : Cs} {n : Int} {k : Nat} (hP : PlanOk P l φ) (h : CYp P n y) (hn : 0 ≤ n) (hk : k ≤ 2000) : CYp P (n + 1) (mits φ P k y) := by
  obtain ⟨a, b⟩ := CYp_min (y := y) hP k (20000 * n) y h.1 (by omega)
  refine ⟨(QY_its hP k _ y h.1 (by omega)).mono (by omega), fun p p0 p1 => ?_, fun j j0 j1 => ?_, fun p p0 p1 => ?_⟩
  · have h1 := h.2.1 p p0 p1
    have h2 := (a p).1
    have h3 := b p
    omega
  · have h1 := h.2.2.1 j j0 j1
    have h2 := (its_7 hP k _ y h.1 (by omega) j j0 j1).1
    omega
  · have h1 := h.2.2.2 p p0 p1
    have h2 := (a p).2 (Or.inr p0)
    omega
def PI (S : SS) (n : Int) : Prop := (0 ≤ n ∧ n ≤ 600) ∧ (∃ l, PlanOk (sP S) l (sF S)) ∧ CYp (sP S) n (sY S) ∧ CYp (sP S) n (sB S) ∧ (0 ≤ sHz S ∧ sHz S ≤ 40) ∧ (∀ j, 0 ≤ j → j < sHz S → CYp (sP S) n (sHn S j)) ∧ (∀ s, 0 ≤ s → s < 3 → (sKf S s = 0 ∨ sKf S s = 1) ∧ (sKf S s ≠ 0 → CYp (sP S) n (sKs S s))) ∧ (0 ≤ sTn S ∧ sTn S ≤ 20) ∧ (∀ i, 0 ≤ i → i < sTn S → (0 ≤ sTp S i ∧ sTp S i < sP S 3 0) ∧ 0 ≤ sTm S i ∧ sTm S i ≤ 2000) ∧ (0 ≤ sTz S ∧ sTz S ≤ 2000) ∧ UF (sP S) (sF S)
theorem PI.n {S : SS} {n : Int} (h : PI S n) : 0 ≤ n ∧ n ≤ 600 := h.1
theorem PI.pl {S : SS} {n : Int} (h : PI S n) : ∃ l, PlanOk (sP S) l (sF S) := h.2.1
theorem PI.y {S : SS} {n : Int} (h : PI S n) : CYp (sP S) n (sY S) := h.2.2.1
theorem PI.b {S : SS} {n : Int} (h : PI S n) : CYp (sP S) n (sB S) := h.2.2.2.1
theorem PI.hz {S : SS} {n : Int} (h : PI S n) : 0 ≤ sHz S ∧ sHz S ≤ 40 := h.2.2.2.2.1
theorem PI.hn {S : SS} {n : Int} (h : PI S n) : ∀ j, 0 ≤ j → j < sHz S → CYp (sP S) n (sHn S j) := h.2.2.2.2.2.1
theorem PI.k {S : SS} {n : Int} (h : PI S n) : ∀ s, 0 ≤ s → s < 3 → (sKf S s = 0 ∨ sKf S s = 1) ∧ (sKf S s ≠ 0 → CYp (sP S) n (sKs S s)) := h.2.2.2.2.2.2.1
theorem PI.tn {S : SS} {n : Int} (h : PI S n) : 0 ≤ sTn S ∧ sTn S ≤ 20 := h.2.2.2.2.2.2.2.1
theorem PI.t {S : SS} {n : Int} (h : PI S n) : ∀ i, 0 ≤ i → i < sTn S → (0 ≤ sTp S i ∧ sTp S i < sP S 3 0) ∧ 0 ≤ sTm S i ∧ sTm S i ≤ 2000 := h.2.2.2.2.2.2.2.2.1
theorem PI.tz {S : SS} {n : Int} (h : PI S n) : 0 ≤ sTz S ∧ sTz S ≤ 2000 := h.2.2.2.2.2.2.2.2.2.1
theorem PI.uf {S : SS} {n : Int} (h : PI S n) : UF (sP S) (sF S) := h.2.2.2.2.2.2.2.2.2.2
theorem PI.mono {S : SS} {n : Int} (h : PI S n) (hn : n < 600) : PI S (n + 1) := ⟨by have := h.n; omega, h.pl, h.y.mono, h.b.mono, h.hz, fun j a b => (h.hn j a b).mono, fun s a b => ⟨(h.k s a b).1, fun z => ((h.k s a b).2 z).mono⟩, h.tn, h.t, h.tz, h.uf⟩
theorem PI_up {S : SS} {n : Int} {y : Cs} (h : PI S n) (hn : n < 600) (hy : CYp (sP S) (n + 1) y) : PI (upS S y) (n + 1) := by
  have h2 := h.mono hn
  have hz := h.hz
  refine ⟨h2.n, h2.pl, hy, h2.b, ?_, fun j a b => ?_, h2.k, h2.tn, h2.t, h2.tz, h2.uf⟩
  · show 0 ≤ min (sHz S + 1) 40 ∧ min (sHz S + 1) 40 ≤ 40
    omega
  · have b : j < min (sHz S + 1) 40 := b
    show CYp (sP S) (n + 1) (if j = 0 then sY S else sHn S (j - 1))
    split
    · exact h2.y
    · exact h2.hn (j - 1) (by omega) (by omega)
theorem PI_un {S : SS} {n : Int} (h : PI S n) (hn : n < 600) (hz : 0 < sHz S) : PI (unS S) (n + 1) := by
  have h2 := h.mono hn
  have hz2 := h.hz
  refine ⟨h2.n, h2.pl, h2.hn 0 (by omega) hz, h2.b, ?_, fun j a b => ?_, h2.k, h2.tn, h2.t, h2.tz, h2.uf⟩
  · show 0 ≤ sHz S - 1 ∧ sHz S - 1 ≤ 40
    omega
  · have b : j < sHz S - 1 := b
    exact h2.hn (j + 1) (by omega) (by omega)
theorem PI_ho {S : SS} {n s : Int} (h : PI S n) (hn : n < 600) : PI (hoS S s) (n + 1) := by
  have h2 := h.mono hn
  refine ⟨h2.n, h2.pl, h2.y, h2.b, h2.hz, h2.hn, fun j a b => ?_, h2.tn, h2.t, h2.tz, h2.uf⟩
  show ((if j = s then 1 else sKf S j) = 0 ∨ (if j = s then 1 else sKf S j) = 1) ∧ ((if j = s then 1 else sKf S j) ≠ 0 → CYp (sP S) (n + 1) (if j = s then sY S else sKs S j))
  split
  · exact ⟨Or.inr rfl, fun _ => h2.y⟩
  · exact h2.k j a b
theorem PI_re {S : SS} {n s : Int} (h : PI S n) (hn : n < 600) (hs : 0 ≤ s ∧ s < 3) (hk : sKf S s ≠ 0) : PI (reS S s) (n + 1) := by
  have h2 := h.mono hn
  refine ⟨h2.n, h2.pl, (h2.k s hs.1 hs.2).2 hk, h2.b, ?_, fun j a b => ?_, h2.k, h2.tn, h2.t, h2.tz, h2.uf⟩
  · show (0 : Int) ≤ 0 ∧ (0 : Int) ≤ 40
    omega
  · have b : j < 0 := b
    omega
theorem PI_te {S : SS} {n p t : Int} (h : PI S n) (hn : n < 600) (hp : 0 ≤ p ∧ p < sP S 3 0) (ht : 0 ≤ t ∧ t ≤ 2000) (htn : sTn S < 20) : PI (teS S p t) (n + 1) := by
  have h2 := h.mono hn
  have h3 := h.tn
  refine ⟨h2.n, h2.pl, h2.y, h2.b, h2.hz, h2.hn, h2.k, ?_, fun i a b => ?_, h2.tz, h2.uf⟩
  · show 0 ≤ sTn S + 1 ∧ sTn S + 1 ≤ 20
    omega
  · have b : i < sTn S + 1 := b
    show (0 ≤ (if i = sTn S then p else sTp S i) ∧ (if i = sTn S then p else sTp S i) < sP S 3 0) ∧ 0 ≤ (if i = sTn S then t else sTm S i) ∧ (if i = sTn S then t else sTm S i) ≤ 2000
    by_cases z : i = sTn S
    · rw [if_pos z, if_pos z]; exact ⟨hp, ht⟩
    · rw [if_neg z, if_neg z]; exact h2.t i a (by omega)
theorem PI_fo {S : SS} {n : Int} (h : PI S n) (hn : n < 600) : PI (foS S) (n + 1) := by
  have h2 := h.mono hn
  refine ⟨h2.n, h2.pl, h2.y, h2.b, h2.hz, h2.hn, h2.k, ?_, fun i a b => ?_, h2.tz, h2.uf⟩
  · show (0 : Int) ≤ 0 ∧ (0 : Int) ≤ 20
    omega
  · have b : i < 0 := b
    omega
theorem PI_ta {S : SS} {n : Int} {b : Int → Int} {z : Int} (h : PI S n) (hn : n < 600) (hz : 0 ≤ z ∧ z ≤ 2000) : PI (taS S b z) (n + 1) := by
  have h2 := h.mono hn
  exact ⟨h2.n, h2.pl, h2.y, h2.b, h2.hz, h2.hn, h2.k, h2.tn, h2.t, hz, h2.uf⟩
/-! what the reference's object keeps -/
def bg0 (P : Cs) (A Bl W : Int → Int) : Cs := fun f p => if f = 0 then (if 0 ≤ p ∧ p < P 3 0 then A p else 0) else if f = 1 then (if 0 ≤ p ∧ p < P 3 0 then Bl p else 0) else if f = 2 then (if 0 ≤ p ∧ p < P 3 0 ∧ 0 ≤ W p then W p else -2) else 0
def bgs (T : Int → Int) (a : Int) (y : Cs) : Cs := if T a < 0 then mlie y a else y
def bgn (P : Cs) (A Bl W T : Int → Int) : Cs := itr (bgs T) (P 4 0).toNat 0 (bg0 P A Bl W)
/-- the reference's words -/
def kyT : List Int := [326396, 4134649, 47, 127274, 79828, 10337371, 249, 399641, 107681, 279299, 16922, 582341, 1170473, 191610176]
def KY (m : Cs) : Prop := ∀ k, 0 ≤ k → k < 14 → m 9 k = kyT.getD k.toNat 0
def BG (P m ys : Cs) : Prop := ∃ A Bl W T : Int → Int, (∀ p, 0 ≤ p → p < P 3 0 → m 25 (8 * m 18 0 + p) = A p ∧ m 26 (8 * m 18 0 + p) = Bl p ∧ m 28 (8 * m 18 0 + p) = W p ∧ -1 ≤ W p) ∧ (∀ a, 0 ≤ a → a < P 4 0 → m 30 (12 * m 18 0 + a) = T a) ∧ ys = bgn P A Bl W T ∧ KY m
theorem BG.same {P m m' ys : Cs} (h : BG P m ys) (hs : MP m m') : BG P m' ys := by
  obtain ⟨A, Bl, W, T, a, b, c, d⟩ := h
  refine ⟨A, Bl, W, T, fun p p0 p1 => ?_, fun x x0 x1 => ?_, c, fun k k0 k1 => by rw [hs 9 (by decide) (by decide)]; exact d k k0 k1⟩
  · rw [hs 25 (by decide) (by decide), hs 26 (by decide) (by decide), hs 28 (by decide) (by decide), hs 18 (by decide) (by decide)]
    exact a p p0 p1
  · rw [hs 30 (by decide) (by decide), hs 18 (by decide) (by decide)]
    exact b x x0 x1
def IVm (S : SS) (m : Cs) : Prop := (MPl (sP S) m ∧ FlowC (sF S) (sP S) m ∧ m 31 (m 18 0) = sP S 5 0 ∧ BG (sP S) m (sB S)) ∧ RY (m 50) (sY S) ∧ (m 52 0 = sHz S ∧ ∀ j, 0 ≤ j → j < sHz S → RY (fun k => m 53 (100 * (sHz S - 1 - j) + k)) (sHn S j)) ∧ (∀ s, 0 ≤ s → s < 3 → m 59 s = sKf S s ∧ (sKf S s ≠ 0 → RY (fun k => m 60 (100 * s + k)) (sKs S s))) ∧ (m 55 0 = sTn S ∧ ∀ i, 0 ≤ i → i < sTn S → m 56 i = sTp S i ∧ m 57 i = sTm S i) ∧ (m 2 0 = sTz S ∧ ∀ i, 0 ≤ i → i < sTz S → m 1 i = sTb S i) ∧ m 17 0 = sFp S
/-- the same but for scratch fields -/
def MK (m m' : Cs) : Prop := ∀ f, f ≠ 47 → f ≠ 48 → f ≠ 49 → f ≠ 51 → f ≠ 54 → f ≠ 58 → m' f = m f
theorem MK.rf (m : Cs) : MK m m := fun _ _ _ _ _ _ _ => rfl
theorem MK.tr {m m1 m2 : Cs} (h : MK m m1) (h2 : MK m1 m2) : MK m m2 := fun f a b c d e g => (h2 f a b c d e g).trans (h f a b c d e g)
theorem MS.mk {m m' : Cs} (h : MS m m') : MK m m' := fun f a b c d _ _ => h f a b c d
theorem MK.mp {m m' : Cs} (h : MK m m') : MP m m' := fun f a b => h f (by omega) (by omega) (by omega) (by omega) (by omega) (by omega)
theorem MK_51 (m : Cs) (R : Int → Int) : MK m (lnm m 51 R) := fun f _ _ _ d _ _ => lnm_f d
theorem MS_51 (m : Cs) (R : Int → Int) : MS m (lnm m 51 R) := fun f _ _ _ d => lnm_f d
theorem IVm.pl {S : SS} {m m' : Cs} (h : IVm S m) (hs : MP m m') : MPl (sP S) m' ∧ FlowC (sF S) (sP S) m' ∧ m' 31 (m' 18 0) = sP S 5 0 ∧ BG (sP S) m' (sB S) := by
  refine ⟨h.1.1.same hs, h.1.2.1.same hs, ?_, h.1.2.2.2.same hs⟩
  rw [hs 31 (by decide) (by decide), hs 18 (by decide) (by decide)]
  exact h.1.2.2.1
theorem IVm.mk {S : SS} {m m' : Cs} (h : IVm S m) (hs : MK m m') : IVm S m' := by
  have e : ∀ f, f ≠ 47 → f ≠ 48 → f ≠ 49 → f ≠ 51 → f ≠ 54 → f ≠ 58 → m' f = m f := hs
  refine ⟨h.pl hs.mp, ?_⟩
  rw [e 50 (by decide) (by decide) (by decide) (by decide) (by decide) (by decide), e 52 (by decide) (by decide) (by decide) (by decide) (by decide) (by decide), e 53 (by decide) (by decide) (by decide) (by decide) (by decide) (by decide), e 59 (by decide) (by decide) (by decide) (by decide) (by decide) (by decide), e 60 (by decide) (by decide) (by decide) (by decide) (by decide) (by decide), e 55 (by decide) (by decide) (by decide) (by decide) (by decide) (by decide), e 56 (by decide) (by decide) (by decide) (by decide) (by decide) (by decide), e 57 (by decide) (by decide) (by decide) (by decide) (by decide) (by decide), e 2 (by decide) (by decide) (by decide) (by decide) (by decide) (by decide), e 1 (by decide) (by decide) (by decide) (by decide) (by decide) (by decide), e 17 (by decide) (by decide) (by decide) (by decide) (by decide) (by decide)]
  exact h.2
/-- a thing is done: what keeps does -/
def KP (m : Cs) (R : Int → Int) (m' : Cs) : Prop := (∀ f, f ≠ 47 → f ≠ 48 → f ≠ 49 → f ≠ 50 → f ≠ 51 → f ≠ 52 → f ≠ 53 → m' f = m f) ∧ (∀ j, 0 ≤ j → j < 100 → m' 50 j = R j) ∧ m' 52 0 = min (m 52 0 + 1) 40 ∧ ∀ j k, 0 ≤ j → j < min (m 52 0 + 1) 40 → 0 ≤ k → k < 100 → m' 53 (100 * (min (m 52 0 + 1) 40 - 1 - j) + k) = if j = 0 then m 50 k else m 53 (100 * (m 52 0 - j) + k)
theorem RY_on {R R' : Int → Int} {y : Cs} (h : RY R y) (e : ∀ j, 0 ≤ j → j < 100 → R' j = R j) : RY R' y := by
  refine ⟨fun p a b => ?_, fun k a b => ?_, ?_, ?_⟩
  · rw [e p a (by omega), e (8 + p) (by omega) (by omega), e (16 + p) (by omega) (by omega), e (24 + p) (by omega) (by omega), e (32 + p) (by omega) (by omega), e (40 + p) (by omega) (by omega)]
    exact h.1 p a b
  · rw [e (48 + k) (by omega) (by omega), e (60 + k) (by omega) (by omega), e (72 + k) (by omega) (by omega), e (84 + k) (by omega) (by omega)]
    exact h.2.1 k a b
  · rw [e 96 (by omega) (by omega)]; exact h.2.2.1
  · rw [e 97 (by omega) (by omega)]; exact h.2.2.2
theorem IVm.up {S : SS} {m m' y : Cs} {R : Int → Int} (h : IVm S m) (hz : 0 ≤ sHz S ∧ sHz S ≤ 40) (hy : RY R y) (hk : KP m R m') : IVm (upS S y) m' := by
  obtain ⟨k1, k2, k3, k4⟩ := hk
  have hmp : MP m m' := fun f a b => k1 f (by omega) (by omega) (by omega) (by omega) (by omega) (by omega) (by omega)
  have h52 := h.2.2.1.1
  refine ⟨h.pl hmp, RY_on hy k2, ⟨?_, fun j a b => ?_⟩, ?_⟩
  · show m' 52 0 = min (sHz S + 1) 40
    rw [k3, h52]
  · have b : j < min (sHz S + 1) 40 := b
    show RY (fun k => m' 53 (100 * (min (sHz S + 1) 40 - 1 - j) + k)) (if j = 0 then sY S else sHn S (j - 1))
    rw [h52] at k4
    by_cases z : j = 0
    · rw [if_pos z]
      refine RY_on h.2.1 (fun k x w => ?_)
      rw [k4 j k a b x w, if_pos z]
    · rw [if_neg z]
      refine RY_on (h.2.2.1.2 (j - 1) (by omega) (by omega)) (fun k x w => ?_)
      rw [k4 j k a b x w, if_neg z, show sHz S - 1 - (j - 1) = sHz S - j by omega]
  · rw [k1 59 (by decide) (by decide) (by decide) (by decide) (by decide) (by decide) (by decide), k1 60 (by decide) (by decide) (by decide) (by decide) (by decide) (by decide) (by decide), k1 55 (by decide) (by decide) (by decide) (by decide) (by decide) (by decide) (by decide), k1 56 (by decide) (by decide) (by decide) (by decide) (by decide) (by decide) (by decide), k1 57 (by decide) (by decide) (by decide) (by decide) (by decide) (by decide) (by decide), k1 2 (by decide) (by decide) (by decide) (by decide) (by decide) (by decide) (by decide), k1 1 (by decide) (by decide) (by decide) (by decide) (by decide) (by decide) (by decide), k1 17 (by decide) (by decide) (by decide) (by decide) (by decide) (by decide) (by decide)]
    exact h.2.2.2
