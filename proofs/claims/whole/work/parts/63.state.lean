/-! what both keep: pure facts of the reference's castles -/
theorem send_sim {P c y : Cs} {p k : Int} (h : SIM P c y) (hp : 0 ≤ p ∧ p < P 3 0) (hk : 0 ≤ k ∧ k < c 11 0) (h2 : c 2 p = -2) : SIM P (c_stand (c_up c k) (c 10 k) p) (mstand (c_up y k) (c 10 k) p) := by
  obtain ⟨hE, hW⟩ := h
  have e11 := hE.2.2.2.1
  obtain ⟨hL, hb, hbi, hw, hg⟩ := hW
  have hb0 := hb k hk.1 hk.2
  have hne : ∀ j, 0 ≤ j → j < c 11 0 → j ≠ k → c 10 j ≠ c 10 k := fun j a b d => by
    rcases Int.lt_or_gt_of_ne d with w | w
    · exact hbi j k a w hk.2
    · exact fun q => hbi k j hk.1 w b q.symm
  have s2 : ∀ j, c_stand (c_up c k) (c 10 k) p 2 j = if j = p then c 10 k else c 2 j := fun j => by simp [c_stand, cu_if, c_up]
  have s6 : ∀ j, c_stand (c_up c k) (c 10 k) p 6 j = if j = c 10 k then p else c 6 j := fun j => by simp [c_stand, cu_if, c_up]
  have s10 : ∀ j, c_stand (c_up c k) (c 10 k) p 10 j = if k ≤ j ∧ j < c 11 0 - 1 then c 10 (j + 1) else c 10 j := fun j => by simp [c_stand, cu_if, c_up]
  have s11 : c_stand (c_up c k) (c 10 k) p 11 0 = c 11 0 - 1 := by simp [c_stand, cu_if, c_up]
  refine ⟨⟨fun f j a b d => ?_, fun f j a b d g => ?_, fun j a b => ?_, ?_, ?_⟩, ?_, ?_, ?_, ?_, ?_⟩
  · have := hE.1 f j a b d
    by_cases z : f = 2
    · subst z; rw [s2]; simp only [mstand, cu_if, c_up, Nat.reduceEqDiff, false_and, if_false, true_and]; (split; rfl; exact this)
    · rw [c_stand_f z (by omega) (by omega), c_up_f (by omega) (by omega)]
      unfold mstand
      rw [cu_f (by omega), cu_f z, c_up_f (by omega) (by omega)]
      exact this
  · have := hE.2.1 f j a b d g
    by_cases z : f = 8
    · subst z
      simp only [c_stand, mstand, cu_if, c_up, Nat.reduceEqDiff, false_and, if_false, true_and]
      rw [this]
    · rw [c_stand_f (by omega) (by omega) z, c_up_f (by omega) (by omega)]
      unfold mstand
      rw [cu_f z, cu_f (by omega), c_up_f (by omega) (by omega)]
      exact this
  · rw [s11] at b
    rw [s10]
    simp only [mstand, cu_if, c_up, Nat.reduceEqDiff, false_and, if_false, true_and]
    rw [e11]
    by_cases z : k ≤ j ∧ j < c 11 0 - 1
    · rw [if_pos z, if_pos z]; exact hE.2.2.1 (j + 1) (by omega) (by omega)
    · rw [if_neg z, if_neg z]; exact hE.2.2.1 j a (by omega)
  · rw [s11]; simp [mstand, cu_if, c_up, e11]
  · rw [c_stand_f (by decide) (by decide) (by decide), c_up_f (by decide) (by decide)]
    unfold mstand
    rw [cu_f (by decide), cu_f (by decide), c_up_f (by decide) (by decide)]
    exact hE.2.2.2.2
  · rw [s11]; omega
  · intro j a b
    rw [s11] at b
    rw [s10]
    by_cases z : k ≤ j ∧ j < c 11 0 - 1
    · rw [if_pos z, s6, if_neg (hne (j + 1) (by omega) (by omega) (by omega))]
      exact hb (j + 1) (by omega) (by omega)
    · rw [if_neg z, s6, if_neg (hne j a (by omega) (by omega))]
      exact hb j a (by omega)
  · intro i j a b d
    rw [s11] at d
    rw [s10, s10]
    by_cases z : k ≤ i ∧ i < c 11 0 - 1
    · rw [if_pos z, if_pos (by omega)]
      exact hbi (i + 1) (j + 1) (by omega) (by omega) (by omega)
    · rw [if_neg z]
      by_cases z2 : k ≤ j ∧ j < c 11 0 - 1
      · rw [if_pos z2]; exact hbi i (j + 1) a (by omega) (by omega)
      · rw [if_neg z2]; exact hbi i j a b (by omega)
  · intro q a b
    rw [s2]
    by_cases z : q = p
    · rw [if_pos z, s6, if_pos rfl]; right; omega
    · rw [if_neg z]
      rcases hw q a b with hq | hq
      · exact Or.inl hq
      · right
        rw [s6, if_neg (fun r => by have := hb0.2.2; rw [← r] at this; omega)]
        exact hq
  · intro g a b
    rw [s6]
    by_cases z : g = c 10 k
    · rw [if_pos z]; right; rw [s2, if_pos rfl]; exact ⟨hp.1, hp.2, z.symm⟩
    · rw [if_neg z]
      rcases hg g a b with ⟨q1, j, k0, k1, k2⟩ | ⟨q1, q2, q3⟩
      · left
        have hjk : j ≠ k := fun r => z (by rw [← k2, r])
        by_cases w : j < k
        · refine ⟨q1, j, k0, by rw [s11]; omega, ?_⟩
          rw [s10, if_neg (by omega)]
          exact k2
        · refine ⟨q1, j - 1, by omega, by rw [s11]; omega, ?_⟩
          rw [s10, if_pos (by omega), show j - 1 + 1 = j by omega]
          exact k2
      · right
        refine ⟨q1, q2, ?_⟩
        rw [s2, if_neg (fun r => by rw [r, h2] at q3; omega)]
        exact q3
theorem CK_send {B : Int} {c : Cs} {p k : Int} (h : CK B c) (hB : 0 ≤ B) (hk : 0 ≤ k ∧ k < c 11 0) : CK B (c_stand (c_up c k) (c 10 k) p) := by
  have ha := h.1.2.1 k hk.1 hk.2
  refine ⟨CI_stand (CI_up h.1 hk.1 (by omega)) ha, fun q a b => ?_, fun j a b => ?_, ?_⟩
  · rw [c_stand_f (by decide) (by decide) (by decide), c_stand_f (by decide) (by decide) (by decide), c_stand_f (by decide) (by decide) (by decide), c_up_f (by decide) (by decide), c_up_f (by decide) (by decide), c_up_f (by decide) (by decide)]
    exact h.2.1 q a b
  · rw [c_stand_f (f := 7) (by decide) (by decide) (by decide), c_stand_f (f := 9) (by decide) (by decide) (by decide), c_up_f (by decide) (by decide), c_up_f (by decide) (by decide)]
    have hj := h.2.2.1 j a b
    refine ⟨hj.1, ?_, hj.2.2⟩
    unfold c_stand
    rw [cu_if]
    split
    · omega
    · rw [cu_f (by decide), cu_f (by decide), c_up_f (by decide) (by decide)]
      exact hj.2.1
  · rw [c_stand_f (by decide) (by decide) (by decide), c_up_f (by decide) (by decide)]
    exact h.2.2.2
theorem fnd_some {q : Int → Bool} : ∀ (n : Nat) (i : Int), 0 ≤ i → (fnd q n i = -2 ∧ ∀ k, i ≤ k → k < i + n → q k = false) ∨ (i ≤ fnd q n i ∧ fnd q n i < i + n ∧ q (fnd q n i) = true)
  | 0, i, _ => Or.inl ⟨rfl, fun k a b => by omega⟩
  | n + 1, i, h => by
    unfold fnd
    by_cases z : q i = true
    · rw [if_pos z]; right; exact ⟨Int.le_refl _, by omega, z⟩
    · rw [if_neg z]
      rcases fnd_some (q := q) n (i + 1) (by omega) with ⟨a, b⟩ | ⟨a, b, c⟩
      · left
        refine ⟨a, fun k k0 k1 => ?_⟩
        by_cases w : k = i
        · rw [w]; simpa using z
        · exact b k (by omega) (by omega)
      · right; exact ⟨by omega, by omega, c⟩
theorem psf_eq {P c y : Cs} {a : Int} (h : SIM P c y) (hN : 0 ≤ P 3 0) (ha : 0 ≤ a ∧ a < P 4 0) : psf P y a = c 6 a := by
  unfold psf
  rcases fnd_some (q := fun p => y 2 p == a) (P 3 0).toNat 0 (by omega) with ⟨z1, z2⟩ | ⟨z1, z2, z3⟩
  · rw [z1]
    rcases h.2.2.2.2.2 a ha.1 ha.2 with ⟨w, _⟩ | ⟨w1, w2, w3⟩
    · exact w.symm
    · have := z2 (c 6 a) w1 (by omega)
      rw [h.1.1 2 (c 6 a) (by decide) w1 w2, w3] at this
      simp at this
  · have e : y 2 (fnd (fun p => y 2 p == a) (P 3 0).toNat 0) = a := by simpa using z3
    generalize fnd (fun p => y 2 p == a) (P 3 0).toNat 0 = q at z1 z2 e ⊢
    rw [h.1.1 2 q (by decide) z1 (by omega)] at e
    rcases h.2.2.2.2.1 q z1 (by omega) with w | ⟨w1, w2, w3⟩
    · omega
    · rw [e] at w3; exact w3.symm
theorem fnd_cong {q r : Int → Bool} : ∀ (n : Nat) (i : Int), (∀ k, i ≤ k → k < i + n → q k = r k) → fnd q n i = fnd r n i
  | 0, _, _ => rfl
  | n + 1, i, h => by
    unfold fnd
    rw [h i (by omega) (by omega), fnd_cong n (i + 1) (fun k a b => h k (by omega) (by omega))]
theorem bdf_eq {P c y : Cs} {a : Int} (h : SIM P c y) : bdf y a = c_place c a := by
  unfold bdf c_place
  rw [h.1.2.2.2.1]
  have hL := h.2.1
  exact fnd_cong _ _ (fun k x z => by rw [h.1.2.2.1 k x (by omega)])
theorem est_eq {P c y : Cs} (h : SIM P c y) (hN : 0 ≤ P 3 0) : itr (estep y) (P 3 0).toNat 0 0 = itr (estep c) (P 3 0).toNat 0 0 := by
  refine itr_cong _ _ _ (fun k x a b => ?_)
  unfold estep
  rw [h.1.1 2 k (by decide) a (by omega)]
/-! sand is neither made nor lost -/
theorem mrel_1 {N p q : Int} {y : Cs} (h : q ≠ p) : mrel N p y 1 q = y 1 q := by
  unfold mrel
  split
  · rfl
  · unfold mlie mnext mturn mstand
    split <;> simp [cu_if, c_up, h]
theorem mrel_sum {N p q : Int} {y : Cs} (h0 : 0 ≤ y 0 p) : mrel N p y 0 q + mrel N p y 1 q = y 0 q + y 1 q := by
  by_cases z : q = p
  · subst z
    unfold mrel
    split
    · rfl
    · rename_i w
      have : y 0 q = 0 := by omega
      unfold mlie mnext mturn mstand
      split <;> simp [cu_if, c_up, this]
  · rw [mrel_0 z, mrel_1 z]
theorem fil_01 {f : Nat} (hf : f = 0 ∨ f = 1) : ∀ (n : Nat) (i : Int) (y : Cs), itr mfil n i y f = y f
  | 0, _, _ => rfl
  | n + 1, i, y => by
    rw [itr_S, fil_01 hf n]
    funext k
    unfold mfil mstand
    rcases hf with h | h <;> subst h <;> split <;> simp [cu_if, c_up]
theorem bed_01 {f : Nat} (hf : f = 0 ∨ f = 1) : ∀ (n : Nat) (i : Int) (y : Cs), itr mbed n i y f = y f
  | 0, _, _ => rfl
  | n + 1, i, y => by
    rw [itr_S, bed_01 hf n]
    funext k
    unfold mbed
    rcases hf with h | h <;> subst h <;> simp [cu_if]
theorem wat_01 {f : Nat} (hf : f = 0 ∨ f = 1) : ∀ (n : Nat) (i : Int) (y : Cs), itr mwat n i y f = y f
  | 0, _, _ => rfl
  | n + 1, i, y => by
    rw [itr_S, wat_01 hf n]
    funext k
    unfold mwat
    rcases hf with h | h <;> subst h <;> split <;> simp [cu_if]
theorem relN_sum {P : Cs} {q : Int} (hN : P 3 0 ≤ 8) (hG : P 4 0 ≤ 12) : ∀ (n : Nat) (i B : Int) (y : Cs), QY P B y → 0 ≤ B → 0 ≤ i → i + n ≤ P 3 0 → itr (mrel (P 3 0)) n i y 0 q + itr (mrel (P 3 0)) n i y 1 q = y 0 q + y 1 q ∧ (q < i ∨ i + n ≤ q → itr (mrel (P 3 0)) n i y 0 q = y 0 q ∧ itr (mrel (P 3 0)) n i y 1 q = y 1 q)
  | 0, _, _, _, _, _, _, _ => ⟨rfl, fun _ => ⟨rfl, rfl⟩⟩
  | n + 1, i, B, y, hQ, hB, h0, h1 => by
    rw [itr_S]
    have h2 := (hQ.post hN hG (p := i) (by omega)).1.1
    obtain ⟨a, b⟩ := relN_sum (q := q) hN hG n (i + 1) (B + 1) _ (QY_rel hQ hB hN hG (p := i) (by omega)) (by omega) (by omega) (by omega)
    refine ⟨a.trans (mrel_sum h2), fun z => ?_⟩
    have := b (by omega)
    rw [mrel_0 (by omega), mrel_1 (by omega)] at this
    exact this
theorem min_sum {φ : Phi} {P l y : Cs} {B : Int} (hP : PlanOk P l φ) (hQ : QY P B y) (hB : 0 ≤ B) (q : Int) : mmin φ P y 0 q + mmin φ P y 1 q = y 0 q + y 1 q ∧ (q < 0 ∨ P 3 0 ≤ q → mmin φ P y 0 q = y 0 q ∧ mmin φ P y 1 q = y 1 q) := by
  have hN := hP.1
  have hG := hP.2.1
  obtain ⟨a, b⟩ := relN_sum (q := q) hN.2 hG.2 (P 3 0).toNat 0 B _ (QY_run (φ := φ) hQ hP) hB (by omega) (by omega)
  obtain ⟨c1, c2, c3⟩ := mrun_all φ P (P 3 0).toNat 0 y
  unfold mmin mcnt
  rw [cu_f (by decide), cu_f (by decide), wat_01 (Or.inl rfl), wat_01 (Or.inr rfl), bed_01 (Or.inl rfl), bed_01 (Or.inr rfl), fil_01 (Or.inl rfl), fil_01 (Or.inr rfl)]
  refine ⟨?_, fun z => ?_⟩
  · rw [a]
    by_cases w : 0 ≤ q ∧ q < P 3 0
    · have := c2 q w.1 (by omega); omega
    · have := c3 q (by omega); omega
  · have := b (by omega)
    have := c3 q (by omega)
    omega
/-! of whom there are too few -/
theorem pigeon : ∀ n S : Nat, ∀ f : Nat → Nat, (∀ i, i < n → f i < S) → (∀ i j, i < j → j < n → f i ≠ f j) → n ≤ S := by
  intro n
  induction n with
  | zero => intro S f _ _; omega
  | succ n ih =>
    intro S f h1 h3
    have hS : 0 < S := by have := h1 n (by omega); omega
    have := ih (S - 1) (fun i => if f i < f n then f i else f i - 1) (fun i hi => by
      have a1 := h1 i (by omega)
      have a2 := h1 n (by omega)
      have a3 := h3 i n (by omega) (by omega)
      split <;> omega) (fun i j hi hj => by
      have a1 := h3 i n (by omega) (by omega)
      have a2 := h3 j n (by omega) (by omega)
      have a3 := h3 i j hi (by omega)
      split <;> split <;> omega)
    omega
theorem filN_full {P : Cs} (hN : P 3 0 ≤ 8) (hG : P 4 0 ≤ 12) : ∀ (n : Nat) (i B : Int) (y : Cs), QY P B y → 0 ≤ B → 0 ≤ i → i + n = P 3 0 → (∀ p, 0 ≤ p → p < i → y 2 p ≠ -2 ∨ y 11 0 ≤ 0) → ∀ p, 0 ≤ p → p < P 3 0 → itr mfil n i y 2 p ≠ -2 ∨ itr mfil n i y 11 0 ≤ 0
  | 0, i, B, y, _, _, _, h1, h => by
    intro p a b
    exact h p a (by omega)
  | n + 1, i, B, y, hQ, hB, h0, h1, h => by
    rw [itr_S]
    refine filN_full hN hG n (i + 1) B _ (QY_fil hQ hB (by omega)) hB (by omega) (by omega) (fun p a b => ?_)
    have hb := hQ.bed
    unfold mfil
    by_cases z : y 2 i = -2 ∧ 0 < y 11 0
    · rw [if_pos z]
      have hb0 := hb.2.1 0 (by omega) z.2
      have e2 : ∀ q, mstand (c_up y 0) (y 10 0) i 2 q = if q = i then y 10 0 else y 2 q := fun q => by simp [mstand, cu_if, c_up]
      rw [e2]
      by_cases w : p = i
      · rw [if_pos w]; left; omega
      · rw [if_neg w]
        left
        rcases h p a (by omega) with q | q
        · exact q
        · omega
    · rw [if_neg z]
      by_cases w : p = i
      · subst w
        by_cases q : y 2 p = -2
        · right; omega
        · exact Or.inl q
      · exact h p a (by omega)
theorem weak_fact {φ : Phi} {P l y : Cs} {B : Int} (hP : PlanOk P l φ) (hQ : QY P B y) (hB : 0 ≤ B) : (∃ p, 0 ≤ p ∧ p < P 3 0 ∧ mmin φ P y 2 p = -2) ↔ P 4 0 < P 3 0 := by
  have hN := hP.1
  have hG := hP.2.1
  have hQm := QY_min (φ := φ) hQ hB hP
  have h1 := QY_relN hN.2 hG.2 (P 3 0).toNat 0 B _ (QY_run (φ := φ) hQ hP) hB (by omega) (by omega)
  have hf := filN_full hN.2 hG.2 (P 3 0).toNat 0 _ _ h1 (by omega) (by omega) (by omega) (fun p a b => by omega)
  have hwc : ∀ (z : Cs) (f : Nat), f ≠ 7 → f ≠ 8 → f ≠ 12 → mcnt (P 3 0) z f = z f := by
    intro z f f7 f8 f12
    have hb : ∀ (n : Nat) (i : Int) (z : Cs), itr mbed n i z f = z f := by
      intro n
      induction n with
      | zero => intro i z; rfl
      | succ n ih => intro i z; rw [itr_S, ih]; funext k; unfold mbed; rw [cu_f f7]
    have hw : ∀ (n : Nat) (i : Int) (z : Cs), itr mwat n i z f = z f := by
      intro n
      induction n with
      | zero => intro i z; rfl
      | succ n ih =>
        intro i z
        rw [itr_S, ih]
        funext k
        unfold mwat
        split
        · rfl
        · rw [cu_f f8]
    funext k
    unfold mcnt
    rw [cu_f f12, hw, hb]
  have e2 : mmin φ P y 2 = itr mfil (P 3 0).toNat 0 (itr (mrel (P 3 0)) (P 3 0).toNat 0 (itr (mrun φ P) (P 3 0).toNat 0 y)) 2 := by
    unfold mmin; rw [hwc _ 2 (by decide) (by decide) (by decide)]
  have e11 : mmin φ P y 11 = itr mfil (P 3 0).toNat 0 (itr (mrel (P 3 0)) (P 3 0).toNat 0 (itr (mrun φ P) (P 3 0).toNat 0 y)) 11 := by
    unfold mmin; rw [hwc _ 11 (by decide) (by decide) (by decide)]
  rw [← e2, ← e11] at hf
  obtain ⟨c, hS, hK⟩ := hQm
  obtain ⟨hL, hb, hbi, hw, hg⟩ := hS.2
  have ec2 : ∀ p, 0 ≤ p → p < P 3 0 → mmin φ P y 2 p = c 2 p := fun p a b => hS.1.1 2 p (by decide) a b
  have ec11 : mmin φ P y 11 0 = c 11 0 := hS.1.2.2.2.1
  constructor
  · rintro ⟨p, p0, p1, p2⟩
    -- nobody lies in bed, each guard has a post of his own, and this post is none of them
    have hbz : c 11 0 = 0 := by
      rcases hf p p0 p1 with q | q
      · exact absurd p2 q
      · omega
    have hst : ∀ g, 0 ≤ g → g < P 4 0 → 0 ≤ c 6 g ∧ c 6 g < P 3 0 ∧ c 2 (c 6 g) = g := fun g a b => by
      rcases hg g a b with ⟨_, k, k0, k1, _⟩ | q
      · omega
      · exact q
    rw [ec2 p p0 p1] at p2
    have := pigeon ((P 4 0).toNat + 1) (P 3 0).toNat (fun i => if i < (P 4 0).toNat then (c 6 i).toNat else p.toNat) (fun i hi => by
      split
      · have := hst i (by omega) (by omega); omega
      · omega) (fun i j hi hj => by
      rw [if_pos (by omega)]
      have b1 := hst i (by omega) (by omega)
      split
      · have b2 := hst j (by omega) (by omega)
        intro q
        have : c 6 i = c 6 j := by omega
        have := congrArg (c 2) this
        omega
      · intro q
        have : c 6 i = p := by omega
        rw [this] at b1
        omega)
    omega
  · intro hlt
    apply Classical.byContradiction
    intro hno
    have hall : ∀ p, 0 ≤ p → p < P 3 0 → 0 ≤ c 2 p ∧ c 2 p < P 4 0 ∧ c 6 (c 2 p) = p := fun p a b => by
      rcases hw p a b with q | q
      · exact absurd ⟨p, a, b, (ec2 p a b).trans q⟩ hno
      · exact q
    have := pigeon (P 3 0).toNat (P 4 0).toNat (fun i => (c 2 i).toNat) (fun i hi => by
      have := hall i (by omega) (by omega); omega) (fun i j hi hj => by
      have b1 := hall i (by omega) (by omega)
      have b2 := hall j (by omega) (by omega)
      intro q
      have : c 2 i = c 2 j := by omega
      have := congrArg (c 6) this
      omega)
    omega
theorem est_pos {y : Cs} : ∀ (n : Nat) (i w : Int), w ≤ itr (estep y) n i w ∧ (itr (estep y) n i w = w ↔ ∀ p, i ≤ p → p < i + n → y 2 p ≠ -2)
  | 0, i, w => ⟨Int.le_refl _, ⟨fun _ p a b => by omega, fun _ => rfl⟩⟩
  | n + 1, i, w => by
    rw [itr_S]
    obtain ⟨a, b⟩ := est_pos (y := y) n (i + 1) (estep y i w)
    by_cases z : y 2 i = -2
    · have e : estep y i w = w + 1 := by unfold estep; rw [if_pos z]
      rw [e] at a b ⊢
      exact ⟨by omega, ⟨fun h => by omega, fun h => absurd z (h i (by omega) (by omega))⟩⟩
    · have e : estep y i w = w := by unfold estep; rw [if_neg z, Int.add_zero]
      rw [e] at a b ⊢
      refine ⟨a, b.trans ⟨fun h p c d => ?_, fun h p c d => h p (by omega) (by omega)⟩⟩
      by_cases q : p = i
      · rw [q]; exact z
      · exact h p (by omega) (by omega)
theorem weak_est {φ : Phi} {P l y : Cs} {B : Int} (hP : PlanOk P l φ) (hQ : QY P B y) (hB : 0 ≤ B) : itr (estep (mmin φ P y)) (P 3 0).toNat 0 0 = 0 ↔ ¬ P 4 0 < P 3 0 := by
  rw [← weak_fact hP hQ hB, (est_pos _ _ _).2]
  have hN := hP.1
  constructor
  · rintro h ⟨p, a, b, c⟩
    exact h p a (by omega) c
  · intro h p a b c
    exact h ⟨p, a, by omega, c⟩
/-- a guard's goings to bed only become more -/
theorem mrel_9 {N p k : Int} {y : Cs} : y 9 k ≤ mrel N p y 9 k := by
  unfold mrel
  split
  · exact Int.le_refl _
  · rw [cu_if]
    split
    · rename_i z; rw [z.2]; omega
    · unfold mlie mnext mturn mstand
      split <;> simp [cu_if, c_up]
theorem min_9 {φ : Phi} {P y : Cs} (k : Int) : y 9 k ≤ mmin φ P y 9 k := by
  have hr : ∀ (n : Nat) (i : Int) (z : Cs), z 9 k ≤ itr (mrel (P 3 0)) n i z 9 k := by
    intro n
    induction n with
    | zero => intro i z; exact Int.le_refl _
    | succ n ih => intro i z; rw [itr_S]; exact Int.le_trans mrel_9 (ih (i + 1) _)
  have hf : ∀ (n : Nat) (i : Int) (z : Cs), itr mfil n i z 9 k = z 9 k := by
    intro n
    induction n with
    | zero => intro i z; rfl
    | succ n ih => intro i z; rw [itr_S, ih]; unfold mfil mstand; split <;> simp [cu_if, c_up]
  have hb : ∀ (n : Nat) (i : Int) (z : Cs), itr mbed n i z 9 k = z 9 k := by
    intro n
    induction n with
    | zero => intro i z; rfl
    | succ n ih => intro i z; rw [itr_S, ih]; unfold mbed; simp [cu_if]
  have hw : ∀ (n : Nat) (i : Int) (z : Cs), itr mwat n i z 9 k = z 9 k := by
    intro n
    induction n with
    | zero => intro i z; rfl
    | succ n ih => intro i z; rw [itr_S, ih]; unfold mwat; split <;> simp [cu_if]
  unfold mmin mcnt
  rw [cu_f (by decide), hw, hb, hf]
  have := hr (P 3 0).toNat 0 (itr (mrun φ P) (P 3 0).toNat 0 y)
  rw [(mrun_all φ P (P 3 0).toNat 0 y).1 9 (by decide) (by decide)] at this
  exact this
