/-! the castle minute by minute (as the reference goes), and what a relief does, field by field -/
def mstand (y : Cs) (a p : Int) : Cs := cu (cu y 2 p a) 8 a 0
def mlie (y : Cs) (a : Int) : Cs := cu (cu y 10 (y 11 0) a) 11 0 (y 11 0 + 1)
def mnext (y : Cs) (a : Int) : Cs := if 0 < y 11 0 then mstand (c_up y 0) (y 10 0) a else y
def mturn (y : Cs) (p : Int) : Cs := cu (cu (cu y 0 p (y 1 p)) 1 p 0) 4 p (y 4 p + 1)
def mrel (N p : Int) (y : Cs) : Cs := if N < 2 ∨ 0 < y 0 p ∨ y 2 p = -2 ∨ y 2 (ahd N p) = -2 then y else cu (cu (mlie (mnext (cu (mturn (mstand y (y 2 (ahd N p)) p) p) 2 (ahd N p) (-2)) (ahd N p)) (y 2 p)) 8 (y 2 p) 0) 9 (y 2 p) (y 9 (y 2 p) + 1)
def mfil (p : Int) (y : Cs) : Cs := if y 2 p = -2 ∧ 0 < y 11 0 then mstand (c_up y 0) (y 10 0) p else y
def mrun (φ : Phi) (P : Cs) (p : Int) (y : Cs) : Cs := c_down y p (c_fls φ P y p)
def mbed (k : Int) (y : Cs) : Cs := cu y 7 (y 10 k) (y 7 (y 10 k) + 1)
def mwat (p : Int) (y : Cs) : Cs := if y 2 p = -2 then y else cu y 8 (y 2 p) (y 8 (y 2 p) + 1)
def mcnt (N : Int) (y : Cs) : Cs := cu (itr mwat N.toNat 0 (itr mbed (y 11 0).toNat 0 y)) 12 0 (y 12 0 + 1)
def mmin (φ : Phi) (P y : Cs) : Cs := mcnt (P 3 0) (itr mfil (P 3 0).toNat 0 (itr (mrel (P 3 0)) (P 3 0).toNat 0 (itr (mrun φ P) (P 3 0).toNat 0 y)))
/-- each guard stands at one post, or lies in bed once -/
def PW (P c : Cs) : Prop := (0 ≤ c 11 0 ∧ c 11 0 ≤ P 4 0) ∧ (∀ k, 0 ≤ k → k < c 11 0 → 0 ≤ c 10 k ∧ c 10 k < P 4 0 ∧ c 6 (c 10 k) = -2) ∧ (∀ j k, 0 ≤ j → j < k → k < c 11 0 → c 10 j ≠ c 10 k) ∧ (∀ p, 0 ≤ p → p < P 3 0 → c 2 p = -2 ∨ (0 ≤ c 2 p ∧ c 2 p < P 4 0 ∧ c 6 (c 2 p) = p)) ∧ (∀ g, 0 ≤ g → g < P 4 0 → (c 6 g = -2 ∧ ∃ k, 0 ≤ k ∧ k < c 11 0 ∧ c 10 k = g) ∨ (0 ≤ c 6 g ∧ c 6 g < P 3 0 ∧ c 2 (c 6 g) = g))
/-- what the reference's row tells of a castle -/
def EQc (P c y : Cs) : Prop := (∀ f p, f ≤ 5 → 0 ≤ p → p < P 3 0 → y f p = c f p) ∧ (∀ f k, 7 ≤ f → f ≤ 9 → 0 ≤ k → k < P 4 0 → y f k = c f k) ∧ (∀ k, 0 ≤ k → k < c 11 0 → y 10 k = c 10 k) ∧ y 11 0 = c 11 0 ∧ y 12 0 = c 12 0
/-- a relief, field by field -/
def rl (c : Cs) (p a w : Int) : Cs := fun f k =>
  if f = 0 then (if k = p then c 1 p else c 0 k)
  else if f = 1 then (if k = p then 0 else c 1 k)
  else if f = 2 then (if k = a then (if 0 < c 11 0 then c 10 0 else -2) else if k = p then w else c 2 k)
  else if f = 4 then (if k = p then c 4 p + 1 else c 4 k)
  else if f = 6 then (if k = c 2 p then -2 else if 0 < c 11 0 ∧ k = c 10 0 then a else if k = w then p else c 6 k)
  else if f = 8 then (if k = c 2 p ∨ (0 < c 11 0 ∧ k = c 10 0) ∨ k = w then 0 else c 8 k)
  else if f = 9 then (if k = c 2 p then c 9 (c 2 p) + 1 else c 9 k)
  else if f = 10 then (if k = (if 0 < c 11 0 then c 11 0 - 1 else c 11 0) then c 2 p else if 0 < c 11 0 ∧ 0 ≤ k ∧ k < c 11 0 - 1 then c 10 (k + 1) else c 10 k)
  else if f = 11 then (if k = 0 then (if 0 < c 11 0 then c 11 0 else c 11 0 + 1) else c 11 k)
  else c f k
theorem rl_c {c : Cs} {p a : Int} (hw : c_comer c p a ≠ -2) (hap : a ≠ p) (hl : c 11 0 ≤ 12) (f : Nat) (k : Int) (hf : f ≠ 13) : c_relieve c p a f k = rl c p a (c_comer c p a) f k := by
  unfold c_relieve
  rw [if_neg hw]
  generalize c_comer c p a = w
  have e11 : ∀ z, c_stand (c_turn c p a) w p 11 z = c 11 z := fun z => by rw [c_stand_f (by decide) (by decide) (by decide), c_turn_f (by decide) (by decide) (by decide) (by decide) (by decide)]
  have e10 : ∀ z, c_stand (c_turn c p a) w p 10 z = c 10 z := fun z => by rw [c_stand_f (by decide) (by decide) (by decide), c_turn_f (by decide) (by decide) (by decide) (by decide) (by decide)]
  by_cases hL : 0 < c 11 0
  · have en : c_next (c_stand (c_turn c p a) w p) a = c_stand (c_up (c_stand (c_turn c p a) w p) 0) (c 10 0) a := by
      unfold c_next
      rw [e11, if_pos hL, e10]
    rw [en]
    unfold c_tired c_lie
    have el : (cu (c_stand (c_up (c_stand (c_turn c p a) w p) 0) (c 10 0) a) 9 (c 2 p) (c_stand (c_up (c_stand (c_turn c p a) w p) 0) (c 10 0) a 9 (c 2 p) + 1)) 11 0 = c 11 0 - 1 := by
      rw [cu_f (by decide), c_stand_f (by decide) (by decide) (by decide), c_up_11, e11]
    rw [el, if_pos (by omega)]
    unfold rl
    simp only [if_pos hL, hL, true_and]
    by_cases h0 : f = 0
    · subst h0; simp [cu_if, c_stand, c_up, c_turn]
    · by_cases h1 : f = 1
      · subst h1; simp [cu_if, c_stand, c_up, c_turn]
      · by_cases h2 : f = 2
        · subst h2; simp [cu_if, c_stand, c_up, c_turn]
          by_cases z1 : k = a
          · simp [z1]
          · simp [z1]
        · by_cases h4 : f = 4
          · subst h4; simp [cu_if, c_stand, c_up, c_turn]
          · by_cases h6 : f = 6
            · subst h6; simp [cu_if, c_stand, c_up, c_turn]
            · by_cases h8 : f = 8
              · subst h8; simp [cu_if, c_stand, c_up, c_turn]
                by_cases z1 : k = c 2 p
                · simp [z1]
                · by_cases z2 : k = c 10 0
                  · simp [z2]
                  · simp [z1, z2]
              · by_cases h9 : f = 9
                · subst h9; simp [cu_if, c_stand, c_up, c_turn]
                · by_cases h10 : f = 10
                  · subst h10; simp [cu_if, c_stand, c_up, c_turn]
                  · by_cases h11 : f = 11
                    · subst h11; simp [cu_if, c_stand, c_up, c_turn]
                      by_cases z : k = 0 <;> simp [z]
                    · simp [cu_if, c_stand, c_up, c_turn, h0, h1, h2, h4, h6, h8, h9, h10, h11, hf]
  · have en : c_next (c_stand (c_turn c p a) w p) a = c_stand (c_turn c p a) w p := by
      unfold c_next
      rw [e11, if_neg hL]
    rw [en]
    unfold c_tired c_lie
    have el : (cu (c_stand (c_turn c p a) w p) 9 (c 2 p) (c_stand (c_turn c p a) w p 9 (c 2 p) + 1)) 11 0 = c 11 0 := by
      rw [cu_f (by decide), e11]
    rw [el, if_pos (by omega)]
    unfold rl
    simp only [if_neg hL, hL, false_and, false_or, if_false]
    by_cases h0 : f = 0
    · subst h0; simp [cu_if, c_stand, c_turn]
    · by_cases h1 : f = 1
      · subst h1; simp [cu_if, c_stand, c_turn]
      · by_cases h2 : f = 2
        · subst h2; simp [cu_if, c_stand, c_turn]
          by_cases z1 : k = a
          · simp [z1, hap]
          · simp [z1]
        · by_cases h4 : f = 4
          · subst h4; simp [cu_if, c_stand, c_turn]
          · by_cases h6 : f = 6
            · subst h6; simp [cu_if, c_stand, c_turn]
            · by_cases h8 : f = 8
              · subst h8; simp [cu_if, c_stand, c_turn]
                by_cases z1 : k = c 2 p
                · simp [z1]
                · simp [z1]
              · by_cases h9 : f = 9
                · subst h9; simp [cu_if, c_stand, c_turn]
                · by_cases h10 : f = 10
                  · subst h10; simp [cu_if, c_stand, c_turn]
                  · by_cases h11 : f = 11
                    · subst h11; simp [cu_if, c_stand, c_turn]
                    · simp [cu_if, c_stand, c_turn, h0, h1, h2, h4, h6, h8, h9, h10, h11, hf]
theorem rl_m {N p : Int} {y : Cs} (h : ¬ (N < 2 ∨ 0 < y 0 p ∨ y 2 p = -2 ∨ y 2 (ahd N p) = -2)) (hap : ahd N p ≠ p) (f : Nat) (k : Int) (hf : f ≠ 6) : mrel N p y f k = rl y p (ahd N p) (y 2 (ahd N p)) f k := by
  unfold mrel
  rw [if_neg h]
  generalize y 2 (ahd N p) = w
  generalize ahd N p = a at hap ⊢
  have e11 : ∀ z, cu (mturn (mstand y w p) p) 2 a (-2) 11 z = y 11 z := fun z => by unfold mturn mstand; simp [cu_if]
  have e10 : ∀ z, cu (mturn (mstand y w p) p) 2 a (-2) 10 z = y 10 z := fun z => by unfold mturn mstand; simp [cu_if]
  by_cases hL : 0 < y 11 0
  · have en : mnext (cu (mturn (mstand y w p) p) 2 a (-2)) a = mstand (c_up (cu (mturn (mstand y w p) p) 2 a (-2)) 0) (y 10 0) a := by
      unfold mnext
      rw [e11, if_pos hL, e10]
    rw [en]
    unfold rl mlie mturn mstand
    simp only [if_pos hL, hL, true_and]
    by_cases h0 : f = 0
    · subst h0; simp [cu_if, c_up]
    · by_cases h1 : f = 1
      · subst h1; simp [cu_if, c_up]
      · by_cases h2 : f = 2
        · subst h2; simp [cu_if, c_up]
          by_cases z1 : k = a
          · simp [z1]
          · simp [z1]
        · by_cases h4 : f = 4
          · subst h4; simp [cu_if, c_up]
          · by_cases h8 : f = 8
            · subst h8; simp [cu_if, c_up]
              by_cases z1 : k = y 2 p
              · simp [z1]
              · by_cases z2 : k = y 10 0
                · simp [z2]
                · simp [z1, z2]
            · by_cases h9 : f = 9
              · subst h9; simp [cu_if, c_up]
              · by_cases h10 : f = 10
                · subst h10; simp [cu_if, c_up]
                · by_cases h11 : f = 11
                  · subst h11; simp [cu_if, c_up]
                    by_cases z : k = 0 <;> simp [z]
                  · simp [cu_if, c_up, h0, h1, h2, h4, h8, h9, h10, h11, hf]
  · have en : mnext (cu (mturn (mstand y w p) p) 2 a (-2)) a = cu (mturn (mstand y w p) p) 2 a (-2) := by
      unfold mnext
      rw [e11, if_neg hL]
    rw [en]
    unfold rl mlie mturn mstand
    simp only [if_neg hL, hL, false_and, false_or, if_false]
    by_cases h0 : f = 0
    · subst h0; simp [cu_if]
    · by_cases h1 : f = 1
      · subst h1; simp [cu_if]
      · by_cases h2 : f = 2
        · subst h2; simp [cu_if]
        · by_cases h4 : f = 4
          · subst h4; simp [cu_if]
          · by_cases h8 : f = 8
            · subst h8; simp [cu_if]
              by_cases z1 : k = y 2 p
              · simp [z1]
              · simp [z1]
            · by_cases h9 : f = 9
              · subst h9; simp [cu_if]
              · by_cases h10 : f = 10
                · subst h10; simp [cu_if]
                · by_cases h11 : f = 11
                  · subst h11; simp [cu_if]
                  · simp [cu_if, h0, h1, h2, h4, h8, h9, h10, h11, hf]
theorem PW_rl {P c : Cs} {p a : Int} (h : PW P c) (hp : 0 ≤ p ∧ p < P 3 0) (ha : 0 ≤ a ∧ a < P 3 0) (hap : a ≠ p) (h2 : c 2 p ≠ -2) (h2a : c 2 a ≠ -2) : PW P (rl c p a (c 2 a)) := by
  obtain ⟨hL, hb, hbi, hw, hg⟩ := h
  have hwp := hw p hp.1 hp.2
  have hwa := hw a ha.1 ha.2
  have e2 : ∀ k, rl c p a (c 2 a) 2 k = (if k = a then (if 0 < c 11 0 then c 10 0 else -2) else if k = p then c 2 a else c 2 k) := fun k => by simp [rl]
  have e6 : ∀ k, rl c p a (c 2 a) 6 k = (if k = c 2 p then -2 else if 0 < c 11 0 ∧ k = c 10 0 then a else if k = c 2 a then p else c 6 k) := fun k => by simp [rl]
  have e10 : ∀ k, rl c p a (c 2 a) 10 k = (if k = (if 0 < c 11 0 then c 11 0 - 1 else c 11 0) then c 2 p else if 0 < c 11 0 ∧ 0 ≤ k ∧ k < c 11 0 - 1 then c 10 (k + 1) else c 10 k) := fun k => by simp [rl]
  have e11 : rl c p a (c 2 a) 11 0 = (if 0 < c 11 0 then c 11 0 else c 11 0 + 1) := by simp [rl]
  have hne : c 2 a ≠ c 2 p := fun z => hap (by have h1 := hwp.resolve_left h2; have h3 := hwa.resolve_left h2a; rw [← h3.2.2, z, h1.2.2])
  by_cases h0 : 0 < c 11 0
  · have hb0 := hb 0 (by omega) h0
    have n1 : c 10 0 ≠ c 2 p := fun z => by rw [z] at hb0; have := (hwp.resolve_left h2).2.2; omega
    have n2 : c 10 0 ≠ c 2 a := fun z => by rw [z] at hb0; have := (hwa.resolve_left h2a).2.2; omega
    simp only [h0, true_and, if_true] at e2 e6 e10 e11
    refine ⟨?_, ?_, ?_, ?_, ?_⟩
    · rw [e11]; exact hL
    · intro k k0 k1
      rw [e11] at k1
      rw [e10]
      by_cases z : k = c 11 0 - 1
      · rw [if_pos z, e6, if_pos rfl]
        have := hwp.resolve_left h2
        omega
      · rw [if_neg z, if_pos (by omega), e6]
        have hk := hb (k + 1) (by omega) (by omega)
        have m1 : c 10 (k + 1) ≠ c 2 p := fun q => by rw [q] at hk; have := (hwp.resolve_left h2).2.2; omega
        have m2 : c 10 (k + 1) ≠ c 10 0 := fun q => hbi 0 (k + 1) (by omega) (by omega) (by omega) q.symm
        have m3 : c 10 (k + 1) ≠ c 2 a := fun q => by rw [q] at hk; have := (hwa.resolve_left h2a).2.2; omega
        rw [if_neg m1, if_neg m2, if_neg m3]
        exact hk
    · intro j k j0 jk k1
      rw [e11] at k1
      rw [e10, e10, if_neg (by omega), if_pos (show 0 ≤ j ∧ j < c 11 0 - 1 by omega)]
      by_cases z : k = c 11 0 - 1
      · rw [if_pos z]
        intro q
        have hk := hb (j + 1) (by omega) (by omega)
        rw [q] at hk
        have := (hwp.resolve_left h2).2.2
        omega
      · rw [if_neg z, if_pos (by omega)]
        exact hbi (j + 1) (k + 1) (by omega) (by omega) (by omega)
    · intro q q0 q1
      rw [e2]
      by_cases z : q = a
      · rw [if_pos z, e6, if_neg n1, if_pos rfl]
        right; omega
      · rw [if_neg z]
        by_cases z2 : q = p
        · rw [if_pos z2, e6, if_neg hne, if_neg n2.symm, if_pos rfl]
          have := hwa.resolve_left h2a
          right; omega
        · rw [if_neg z2]
          rcases hw q q0 q1 with hq | hq
          · exact Or.inl hq
          · right
            have m1 : c 2 q ≠ c 2 p := fun r => z2 (by have := (hwp.resolve_left h2).2.2; rw [← r] at this; omega)
            have m2 : c 2 q ≠ c 10 0 := fun r => by have := hb0.2.2; rw [← r] at this; omega
            have m3 : c 2 q ≠ c 2 a := fun r => z (by have := (hwa.resolve_left h2a).2.2; rw [← r] at this; omega)
            rw [e6, if_neg m1, if_neg m2, if_neg m3]
            exact hq
    · intro g g0 g1
      rw [e6]
      by_cases z : g = c 2 p
      · rw [if_pos z]
        left
        refine ⟨rfl, c 11 0 - 1, by omega, by rw [e11]; omega, ?_⟩
        rw [e10, if_pos rfl, z]
      · rw [if_neg z]
        by_cases z2 : g = c 10 0
        · rw [if_pos z2]
          right
          rw [e2, if_pos rfl]
          exact ⟨ha.1, ha.2, z2.symm⟩
        · rw [if_neg z2]
          by_cases z3 : g = c 2 a
          · rw [if_pos z3]
            right
            rw [e2, if_neg hap.symm, if_pos rfl]
            exact ⟨hp.1, hp.2, z3.symm⟩
          · rw [if_neg z3]
            rcases hg g g0 g1 with ⟨q1, k, k0, k1, k2⟩ | ⟨q1, q2, q3⟩
            · left
              have : k ≠ 0 := fun r => z2 (by rw [← k2, r])
              refine ⟨q1, k - 1, by omega, by rw [e11]; omega, ?_⟩
              rw [e10, if_neg (by omega), if_pos (by omega), show k - 1 + 1 = k by omega]
              exact k2
            · right
              refine ⟨q1, q2, ?_⟩
              have m1 : c 6 g ≠ a := fun r => z3 (by rw [← q3, r])
              have m2 : c 6 g ≠ p := fun r => z (by rw [← q3, r])
              rw [e2, if_neg m1, if_neg m2]
              exact q3
  · have hL0 : c 11 0 = 0 := by omega
    simp only [h0, false_and, if_false] at e2 e6 e10 e11
    rw [hL0] at e10 e11
    refine ⟨?_, ?_, ?_, ?_, ?_⟩
    · rw [e11]; have := hwp.resolve_left h2; omega
    · intro k k0 k1
      rw [e11] at k1
      rw [e10, if_pos (by omega), e6, if_pos rfl]
      have := hwp.resolve_left h2
      omega
    · intro j k j0 jk k1
      rw [e11] at k1
      omega
    · intro q q0 q1
      rw [e2]
      by_cases z : q = a
      · rw [if_pos z]; exact Or.inl rfl
      · rw [if_neg z]
        by_cases z2 : q = p
        · rw [if_pos z2, e6, if_neg hne, if_pos rfl]
          have := hwa.resolve_left h2a
          right; omega
        · rw [if_neg z2]
          rcases hw q q0 q1 with hq | hq
          · exact Or.inl hq
          · right
            have m1 : c 2 q ≠ c 2 p := fun r => z2 (by have := (hwp.resolve_left h2).2.2; rw [← r] at this; omega)
            have m3 : c 2 q ≠ c 2 a := fun r => z (by have := (hwa.resolve_left h2a).2.2; rw [← r] at this; omega)
            rw [e6, if_neg m1, if_neg m3]
            exact hq
    · intro g g0 g1
      rw [e6]
      by_cases z : g = c 2 p
      · rw [if_pos z]
        left
        refine ⟨rfl, 0, by omega, by rw [e11]; omega, ?_⟩
        rw [e10, if_pos rfl, z]
      · rw [if_neg z]
        by_cases z3 : g = c 2 a
        · rw [if_pos z3]
          right
          rw [e2, if_neg hap.symm, if_pos rfl]
          exact ⟨hp.1, hp.2, z3.symm⟩
        · rw [if_neg z3]
          rcases hg g g0 g1 with ⟨q1, k, k0, k1, k2⟩ | ⟨q1, q2, q3⟩
          · omega
          · right
            refine ⟨q1, q2, ?_⟩
            have m1 : c 6 g ≠ a := fun r => z3 (by rw [← q3, r])
            have m2 : c 6 g ≠ p := fun r => z (by rw [← q3, r])
            rw [e2, if_neg m1, if_neg m2]
            exact q3
