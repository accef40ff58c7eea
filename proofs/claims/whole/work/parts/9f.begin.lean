/-! how a castle begins: the class's beside the reference's -/
theorem bg_ord {Tq : Int → Int} {c : Cs} {G : Int} (h11 : 0 ≤ c 11 0) (hb : ∀ k, 0 ≤ k → k < c 11 0 → 0 ≤ c 10 k ∧ c 10 k < G ∧ Tq (c 10 k) < 0) (ho : ∀ j k, 0 ≤ j → j < k → k < c 11 0 → c 10 j < c 10 k) (ha : ∀ g, 0 ≤ g → g < G → Tq g < 0 → ∃ k, 0 ≤ k ∧ k < c 11 0 ∧ c 10 k = g) :
    ∀ (n : Nat) (i : Int) (y : Cs), 0 ≤ i → i + n = G → (0 ≤ y 11 0 ∧ y 11 0 ≤ c 11 0) → (∀ k, 0 ≤ k → k < c 11 0 → (c 10 k < i ↔ k < y 11 0)) → (∀ k, 0 ≤ k → k < y 11 0 → y 10 k = c 10 k) → itr (bgs Tq) n i y 11 0 = c 11 0 ∧ (∀ k, 0 ≤ k → k < c 11 0 → itr (bgs Tq) n i y 10 k = c 10 k) ∧ ∀ f, f ≠ 10 → f ≠ 11 → itr (bgs Tq) n i y f = y f := by
  intro n
  induction n with
  | zero =>
    intro i y h0 h1 hm hk hy
    show y 11 0 = c 11 0 ∧ (∀ k, 0 ≤ k → k < c 11 0 → y 10 k = c 10 k) ∧ ∀ f, f ≠ 10 → f ≠ 11 → y f = y f
    have e : y 11 0 = c 11 0 := by
      by_cases q : y 11 0 < c 11 0
      · have a := hb (y 11 0) hm.1 q
        have b := (hk (y 11 0) hm.1 q).mp (by omega)
        omega
      · omega
    exact ⟨e, fun k a b => hy k a (by omega), fun f _ _ => rfl⟩
  | succ n ih =>
    intro i y h0 h1 hm hk hy
    rw [itr_S]
    by_cases w : Tq i < 0
    · have es : bgs Tq i y = mlie y i := by unfold bgs; rw [if_pos w]
      have e11 : mlie y i 11 0 = y 11 0 + 1 := cu_s _ _ _ _
      have e10 : ∀ k, mlie y i 10 k = if k = y 11 0 then i else y 10 k := fun k => by unfold mlie; rw [cu_f (by decide), cu_if]; simp only [true_and]
      have ef : ∀ f, f ≠ 10 → f ≠ 11 → mlie y i f = y f := fun f a b => by unfold mlie; rw [cf_f b, cf_f a]
      obtain ⟨k, k0, k1, k2⟩ := ha i h0 (by omega) w
      have hkm : k = y 11 0 := by
        have a := hk k k0 k1
        by_cases q : y 11 0 < k
        · have b := hk (y 11 0) hm.1 (by omega)
          have d := ho (y 11 0) k hm.1 q k1
          have := b.mp (by omega)
          omega
        · by_cases q2 : k < y 11 0
          · have := a.mpr q2; omega
          · omega
      subst hkm
      rw [es]
      obtain ⟨r1, r2, r3⟩ := ih (i + 1) (mlie y i) (by omega) (by omega) (by omega) (fun j j0 j1 => by
        rw [e11]
        by_cases q : j < y 11 0
        · have := (hk j j0 j1).mpr q; omega
        · by_cases q2 : j = y 11 0
          · rw [q2]; omega
          · have := ho (y 11 0) j hm.1 (by omega) j1; omega) (fun j j0 j1 => by
        rw [e11] at j1
        rw [e10]
        by_cases q : j = y 11 0
        · rw [if_pos q, q]; exact k2.symm
        · rw [if_neg q]; exact hy j j0 (by omega))
      exact ⟨r1, r2, fun f a b => by rw [r3 f a b, ef f a b]⟩
    · have es : bgs Tq i y = y := by unfold bgs; rw [if_neg w]
      rw [es]
      exact ih (i + 1) y (by omega) (by omega) hm (fun j j0 j1 => by
        have a := hk j j0 j1
        have b := hb j j0 j1
        by_cases q : c 10 j = i
        · rw [q] at b; exact absurd b.2.2 w
        · omega) hy
/-- the reference's castle, out of the class's -/
def yN (P c : Cs) : Cs := bgn P (c 0) (c 1) (fun p => em (c 2 p)) (fun g => em (c 6 g))
theorem em_n {v : Int} (h : v = -2 ∨ 0 ≤ v) : (em v < 0 ↔ v = -2) ∧ (0 ≤ v → em v = v) := by
  unfold em
  refine ⟨?_, fun a => if_neg (by omega)⟩
  split <;> omega
section BGN
variable {P c : Cs}
theorem yN_f (h3 : 0 ≤ P 3 0 ∧ P 3 0 ≤ 8) (h4 : 0 ≤ P 4 0 ∧ P 4 0 ≤ 12) (hpo : PO P c) : yN P c 11 0 = c 11 0 ∧ (∀ k, 0 ≤ k → k < c 11 0 → yN P c 10 k = c 10 k) ∧ ∀ f, f ≠ 10 → f ≠ 11 → yN P c f = bg0 P (c 0) (c 1) (fun p => em (c 2 p)) f := by
  obtain ⟨h1, ⟨w1, w2, w3, w4, w5⟩, h2⟩ := hpo
  have b11 : bg0 P (c 0) (c 1) (fun p => em (c 2 p)) 11 0 = 0 := by unfold bg0; rw [if_neg (by decide), if_neg (by decide), if_neg (by decide)]
  refine bg_ord (Tq := fun g => em (c 6 g)) (c := c) (G := P 4 0) w1.1 (fun k a b => ?_) h2 (fun g a b d => ?_) (P 4 0).toNat 0 _ (by omega) (by omega) (by omega) (fun k a b => ?_) (fun k a b => by omega)
  · obtain ⟨a1, a2, a3⟩ := w2 k a b
    exact ⟨a1, a2, (em_n (Or.inl a3)).1.mpr a3⟩
  · rcases w5 g a b with ⟨z1, z⟩ | ⟨z1, z2, z3⟩
    · exact z
    · exact absurd ((em_n (Or.inr z1)).1.mp d) (by omega)
  · have := w2 k a b
    omega
theorem yN_sim (h3 : 0 ≤ P 3 0 ∧ P 3 0 ≤ 8) (h4 : 0 ≤ P 4 0 ∧ P 4 0 ≤ 12) (hr : RdC c) (hpo : PO P c) : SIM P c (yN P c) := by
  obtain ⟨e11, e10, ef⟩ := yN_f h3 h4 hpo
  have w4 := hpo.2.1.2.2.2.1
  refine ⟨⟨fun f p hf p0 p1 => ?_, fun f k f0 f1 k0 k1 => ?_, e10, e11, ?_⟩, hpo.2.1⟩
  · rw [ef f (by omega) (by omega)]
    have hz : f = 0 ∨ f = 1 ∨ f = 2 ∨ (f = 3 ∨ f = 4 ∨ f = 5) := by omega
    unfold bg0
    rcases hz with z | z | z | z
    · rw [if_pos z, if_pos ⟨p0, p1⟩, z]
    · rw [if_neg (by omega), if_pos z, if_pos ⟨p0, p1⟩, z]
    · rw [if_neg (by omega), if_neg (by omega), if_pos z, z]
      show (if 0 ≤ p ∧ p < P 3 0 ∧ 0 ≤ em (c 2 p) then em (c 2 p) else -2) = c 2 p
      rcases w4 p p0 p1 with q | q
      · rw [if_neg (fun y => by have := (em_n (Or.inl q)).1.mpr q; omega), q]
      · have := (em_n (Or.inr q.1)).2 q.1
        rw [if_pos ⟨p0, p1, by omega⟩]
        exact this
    · rw [if_neg (by omega), if_neg (by omega), if_neg (by omega)]
      exact (hr.1 f p z p0 (by omega)).symm
  · rw [ef f (by omega) (by omega)]
    unfold bg0
    rw [if_neg (by omega), if_neg (by omega), if_neg (by omega)]
    exact (hr.2.1 f k f0 f1 k0 (by omega)).symm
  · rw [ef 12 (by decide) (by decide)]
    unfold bg0
    rw [if_neg (by decide), if_neg (by decide), if_neg (by decide)]
    exact hr.2.2.1.symm
theorem yN_ck (h3 : 0 ≤ P 3 0 ∧ P 3 0 ≤ 8) (h4 : 0 ≤ P 4 0 ∧ P 4 0 ≤ 12) (hr : RdC c) (hpo : PO P c) (hc2 : ∀ p, P 3 0 ≤ p → p < 8 → c 2 p = -2) {B : Int} (hB : 0 ≤ B) : CK B c := by
  obtain ⟨h1, ⟨w1, w2, w3, w4, w5⟩, h2⟩ := hpo
  refine ⟨⟨by omega, fun k a b => ?_, fun p a b => ?_⟩, fun p a b => ?_, fun k a b => ?_, ?_⟩
  · have := w2 k a b; omega
  · by_cases q : p < P 3 0
    · rcases w4 p a q with z | z
      · exact Or.inl z
      · exact Or.inr (by omega)
    · exact Or.inl (hc2 p (by omega) b)
  · have q0 := hr.2.2.2 0 p (by decide) a b
    have q1 := hr.2.2.2 1 p (by decide) a b
    have q4 := hr.1 4 p (by decide) a b
    omega
  · have q7 := hr.2.1 7 k (by decide) (by decide) a b
    have q8 := hr.2.1 8 k (by decide) (by decide) a b
    have q9 := hr.2.1 9 k (by decide) (by decide) a b
    omega
  · have := hr.2.2.1; omega
theorem yN_cy (h3 : 0 ≤ P 3 0 ∧ P 3 0 ≤ 8) (h4 : 0 ≤ P 4 0 ∧ P 4 0 ≤ 12) (hr : RdC c) (hpo : PO P c) (hc2 : ∀ p, P 3 0 ≤ p → p < 8 → c 2 p = -2) {n : Int} (hn : 0 ≤ n) : CYp P n (yN P c) := by
  have hS := yN_sim h3 h4 hr hpo
  obtain ⟨e11, e10, ef⟩ := yN_f h3 h4 hpo
  refine ⟨⟨c, hS, yN_ck h3 h4 hr hpo hc2 (by omega)⟩, fun p a b => ?_, fun k a b => ?_, fun p a b => ?_⟩
  · rw [hS.1.1 0 p (by decide) a b, hS.1.1 1 p (by decide) a b, hS.1.1 5 p (by decide) a b, hS.1.1 3 p (by decide) a b]
    have q0 := hr.2.2.2 0 p (by decide) a (by omega)
    have q1 := hr.2.2.2 1 p (by decide) a (by omega)
    have q3 := hr.1 3 p (by decide) a (by omega)
    have q5 := hr.1 5 p (by decide) a (by omega)
    have r0 := hpo.1 0 p (by decide) a b
    have r1 := hpo.1 1 p (by decide) a b
    omega
  · rw [hS.1.2.1 7 k (by decide) (by decide) a b, hr.2.1 7 k (by decide) (by decide) a (by omega)]
    exact Int.le_refl _
  · rw [ef 0 (by decide) (by decide), ef 1 (by decide) (by decide)]
    unfold bg0
    rw [if_pos rfl, if_neg (by omega), if_neg (by decide), if_pos rfl, if_neg (by omega)]
    exact ⟨rfl, rfl⟩
end BGN
