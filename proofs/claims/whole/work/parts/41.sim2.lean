/-! a class's minute beside the reference's: reliefs, filling, counting -/
def SIM (P c y : Cs) : Prop := EQc P c y ∧ PW P c
theorem PW_cong {P c d : Cs} (h2 : ∀ k, d 2 k = c 2 k) (h6 : ∀ k, d 6 k = c 6 k) (h10 : ∀ k, d 10 k = c 10 k) (h11 : d 11 0 = c 11 0) (h : PW P c) : PW P d := by
  have e2 : d 2 = c 2 := funext h2
  have e6 : d 6 = c 6 := funext h6
  have e10 : d 10 = c 10 := funext h10
  unfold PW
  rw [e2, e6, e10, h11]
  exact h
theorem EQc_cong {P c d y : Cs} (h : EQc P c y) (h5 : ∀ f k, f ≤ 5 → 0 ≤ k → k < P 3 0 → d f k = c f k) (h9 : ∀ f k, 7 ≤ f → f ≤ 9 → 0 ≤ k → k < P 4 0 → d f k = c f k) (h10 : ∀ k, d 10 k = c 10 k) (h11 : d 11 0 = c 11 0) (h12 : d 12 0 = c 12 0) : EQc P d y :=
  ⟨fun f p a b e => (h.1 f p a b e).trans (h5 f p a b e).symm, fun f k a b e g => (h.2.1 f k a b e g).trans (h9 f k a b e g).symm, fun k a b => by rw [h11] at b; exact (h.2.2.1 k a b).trans (h10 k).symm, by rw [h11]; exact h.2.2.2.1, by rw [h12]; exact h.2.2.2.2⟩
theorem EQ_rl {P c y : Cs} {p a : Int} (h : EQc P c y) (hW : PW P c) (hp : 0 ≤ p ∧ p < P 3 0) (ha : 0 ≤ a ∧ a < P 3 0) (h2 : c 2 p ≠ -2) : EQc P (rl c p a (c 2 a)) (rl y p a (y 2 a)) := by
  obtain ⟨q5, q9, q10, q11, q12⟩ := h
  have hwp := (hW.2.2.2.1 p hp.1 hp.2).resolve_left h2
  have e2p := q5 2 p (by decide) hp.1 hp.2
  have e2a := q5 2 a (by decide) ha.1 ha.2
  have eb : 0 < c 11 0 → y 10 0 = c 10 0 := fun z => q10 0 (by omega) z
  have hL := hW.1
  refine ⟨fun f k f5 k0 k1 => ?_, fun f k f7 f9 k0 k1 => ?_, fun k k0 k1 => ?_, ?_, ?_⟩
  · have e0 := q5 0 k (by decide) k0 k1
    have e1 := q5 1 k (by decide) k0 k1
    have e1p := q5 1 p (by decide) hp.1 hp.2
    have e4p := q5 4 p (by decide) hp.1 hp.2
    have e2 := q5 2 k (by decide) k0 k1
    have e4 := q5 4 k (by decide) k0 k1
    rcases (show f = 0 ∨ f = 1 ∨ f = 2 ∨ f = 3 ∨ f = 4 ∨ f = 5 by omega) with z | z | z | z | z | z <;> subst z
    · simp [rl, e0, e1p]
    · simp [rl, e1]
    · simp only [rl, Nat.reduceEqDiff, if_false, if_true]
      rw [q11]
      by_cases z0 : 0 < c 11 0
      · rw [eb z0, e2a, e2]
      · rw [if_neg z0, if_neg z0, e2a, e2]
    · simp [rl]; exact q5 3 k (by decide) k0 k1
    · simp [rl, e4, e4p]
    · simp [rl]; exact q5 5 k (by decide) k0 k1
  · have e7 := q9 7 k (by decide) (by decide) k0 k1
    have e8 := q9 8 k (by decide) (by decide) k0 k1
    have e9 := q9 9 k (by decide) (by decide) k0 k1
    have e9p := q9 9 (c 2 p) (by decide) (by decide) hwp.1 hwp.2.1
    rcases (show f = 7 ∨ f = 8 ∨ f = 9 by omega) with z | z | z <;> subst z
    · simp [rl]; exact e7
    · simp only [rl, Nat.reduceEqDiff, if_false, if_true]
      rw [q11, e2p, e2a, e8]
      by_cases z0 : 0 < c 11 0
      · rw [eb z0]
      · simp only [z0, false_and]
    · simp only [rl, Nat.reduceEqDiff, if_false, if_true]
      rw [e2p, e9, e9p]
  · have k1 : k < (if 0 < c 11 0 then c 11 0 else c 11 0 + 1) := by simpa [rl] using k1
    simp only [rl, Nat.reduceEqDiff, if_false, if_true]
    rw [q11, e2p]
    by_cases z0 : 0 < c 11 0
    · simp only [z0, if_true, true_and] at k1 ⊢
      by_cases z1 : k = c 11 0 - 1
      · rw [if_pos z1, if_pos z1]
      · rw [if_neg z1, if_neg z1, if_pos (by omega), if_pos (by omega)]
        exact q10 (k + 1) (by omega) (by omega)
    · simp only [z0, if_false, false_and] at k1 ⊢
      rw [if_pos (by omega), if_pos (by omega)]
  · simp [rl, q11]
  · simp [rl, q12]
theorem ahd_in {N p : Int} (h : 0 ≤ p ∧ p < N) : 0 ≤ ahd N p ∧ ahd N p < N := by unfold ahd; split <;> omega
theorem ahd_ne {N p : Int} (h : 0 ≤ p ∧ p < N) (h2 : 2 ≤ N) : ahd N p ≠ p := by unfold ahd; split <;> omega
theorem rstep_sim {P c y : Cs} {p : Int} (h : SIM P c y) (h0 : 0 ≤ c 0 p) (hG : P 4 0 ≤ 12) (hp : 0 ≤ p ∧ p < P 3 0) : SIM P (rstep (P 3 0) p c) (mrel (P 3 0) p y) := by
  obtain ⟨hE, hW⟩ := h
  have ha := ahd_in hp
  have e0 := hE.1 0 p (by decide) hp.1 hp.2
  have e2p := hE.1 2 p (by decide) hp.1 hp.2
  have e2a := hE.1 2 _ (by decide) ha.1 ha.2
  have er : rstep (P 3 0) p c = if c 0 p = 0 then c_relieve c p (ahd (P 3 0) p) else c := rfl
  rw [er]
  by_cases hm : P 3 0 < 2 ∨ 0 < y 0 p ∨ y 2 p = -2 ∨ y 2 (ahd (P 3 0) p) = -2
  · have em : mrel (P 3 0) p y = y := by unfold mrel; rw [if_pos hm]
    rw [em]
    split
    · have ec : c_relieve c p (ahd (P 3 0) p) = c := by
        unfold c_relieve
        rw [if_pos]
        unfold c_comer
        rcases hm with z | z | z | z
        · have : ahd (P 3 0) p = p := by unfold ahd; split <;> omega
          rw [this, if_pos (Or.inr rfl)]
        · omega
        · rw [if_pos (Or.inl (by omega))]
        · split
          · rfl
          · omega
      rw [ec]
      exact ⟨hE, hW⟩
    · exact ⟨hE, hW⟩
  · have hap := ahd_ne hp (by omega)
    have h2 : c 2 p ≠ -2 := by omega
    have h2a : c 2 (ahd (P 3 0) p) ≠ -2 := by omega
    have hne : c 2 (ahd (P 3 0) p) ≠ c 2 p := fun z => hap (by
      have h1 := (hW.2.2.2.1 p hp.1 hp.2).resolve_left h2
      have h3 := (hW.2.2.2.1 _ ha.1 ha.2).resolve_left h2a
      rw [← h3.2.2, z, h1.2.2])
    have ew : c_comer c p (ahd (P 3 0) p) = c 2 (ahd (P 3 0) p) := by
      unfold c_comer
      rw [if_neg (by omega)]
    rw [if_pos (by omega)]
    have e1 : ∀ f k, f ≠ 13 → c_relieve c p (ahd (P 3 0) p) f k = rl c p (ahd (P 3 0) p) (c 2 (ahd (P 3 0) p)) f k := fun f k hf => by
      rw [rl_c (by rw [ew]; exact h2a) hap (by have := hW.1; omega) f k hf, ew]
    have e2 : ∀ f k, f ≠ 6 → mrel (P 3 0) p y f k = rl y p (ahd (P 3 0) p) (y 2 (ahd (P 3 0) p)) f k := fun f k hf => rl_m hm hap f k hf
    have hE2 := EQ_rl (a := ahd (P 3 0) p) hE hW hp ha h2
    refine ⟨⟨fun f k a b d => ?_, fun f k a b d g => ?_, fun k a b => ?_, ?_, ?_⟩, PW_cong (fun k => e1 2 k (by decide)) (fun k => e1 6 k (by decide)) (fun k => e1 10 k (by decide)) (e1 11 0 (by decide)) (PW_rl hW hp ha hap h2 h2a)⟩
    · rw [e1 f k (by omega), e2 f k (by omega)]; exact hE2.1 f k a b d
    · rw [e1 f k (by omega), e2 f k (by omega)]; exact hE2.2.1 f k a b d g
    · rw [e1 11 0 (by decide)] at b; rw [e1 10 k (by decide), e2 10 k (by decide)]; exact hE2.2.2.1 k a b
    · rw [e1 11 0 (by decide), e2 11 0 (by decide)]; exact hE2.2.2.2.1
    · rw [e1 12 0 (by decide), e2 12 0 (by decide)]; exact hE2.2.2.2.2
theorem relAll_sim {P : Cs} (hN : P 3 0 ≤ 8) (hG : P 4 0 ≤ 12) : ∀ (n : Nat) (i B : Int) (c y : Cs), SIM P c y → CK B c → 0 ≤ B → 0 ≤ i → i + n = P 3 0 → SIM P (itr (rstep (P 3 0)) n i c) (itr (mrel (P 3 0)) n i y)
  | 0, _, _, _, _, h, _, _, _, _ => h
  | n + 1, i, B, c, y, h, hK, hB, h0, h1 => by
    rw [itr_S, itr_S]
    exact relAll_sim hN hG n (i + 1) (B + 1) _ _ (rstep_sim h (hK.2.1 i h0 (by omega)).1 hG (by omega)) (CK_rstep hK hB (by omega) hN) (by omega) (by omega) (by omega)
theorem fstep_sim {P c y : Cs} {p : Int} (h : SIM P c y) (hp : 0 ≤ p ∧ p < P 3 0) : SIM P (fstep p c) (mfil p y) := by
  obtain ⟨hE, hW⟩ := h
  have e2p := hE.1 2 p (by decide) hp.1 hp.2
  have e11 := hE.2.2.2.1
  unfold fstep mfil
  by_cases hc : 0 < c 11 0 ∧ c 2 p = -2
  · rw [if_pos hc, if_pos ⟨by omega, by omega⟩]
    obtain ⟨hL, hb, hbi, hw, hg⟩ := hW
    have hb0 := hb 0 (by omega) hc.1
    have eb := hE.2.2.1 0 (by omega) hc.1
    have s2 : ∀ k, c_stand (c_up c 0) (c 10 0) p 2 k = if k = p then c 10 0 else c 2 k := fun k => by simp [c_stand, cu_if, c_up]
    have s6 : ∀ k, c_stand (c_up c 0) (c 10 0) p 6 k = if k = c 10 0 then p else c 6 k := fun k => by simp [c_stand, cu_if, c_up]
    have s10 : ∀ k, c_stand (c_up c 0) (c 10 0) p 10 k = if 0 ≤ k ∧ k < c 11 0 - 1 then c 10 (k + 1) else c 10 k := fun k => by simp [c_stand, cu_if, c_up]
    have s11 : c_stand (c_up c 0) (c 10 0) p 11 0 = c 11 0 - 1 := by simp [c_stand, cu_if, c_up]
    refine ⟨⟨fun f k a b d => ?_, fun f k a b d g => ?_, fun k a b => ?_, ?_, ?_⟩, ?_, ?_, ?_, ?_, ?_⟩
    · rw [eb]
      have := hE.1 f k a b d
      by_cases z : f = 2
      · subst z; rw [s2]; simp only [mstand, cu_if, c_up, Nat.reduceEqDiff, false_and, if_false, true_and]; (split; rfl; exact this)
      · rw [c_stand_f z (by omega) (by omega), c_up_f (by omega) (by omega)]
        unfold mstand
        rw [cu_f (by omega), cu_f z, c_up_f (by omega) (by omega)]
        exact this
    · rw [eb]
      have := hE.2.1 f k a b d g
      by_cases z : f = 8
      · subst z
        simp only [c_stand, mstand, cu_if, c_up, Nat.reduceEqDiff, false_and, if_false, true_and]
        rw [this]
      · rw [c_stand_f (by omega) (by omega) z, c_up_f (by omega) (by omega)]
        unfold mstand
        rw [cu_f z, cu_f (by omega), c_up_f (by omega) (by omega)]
        exact this
    · rw [s11] at b
      rw [s10, if_pos ⟨a, b⟩]
      have := hE.2.2.1 (k + 1) (by omega) (by omega)
      simp only [mstand, cu_if, c_up, Nat.reduceEqDiff, false_and, if_false, true_and]
      rw [e11, if_pos (by omega)]
      exact this
    · rw [s11]; simp [mstand, cu_if, c_up, e11]
    · rw [c_stand_f (by decide) (by decide) (by decide), c_up_f (by decide) (by decide)]
      unfold mstand
      rw [cu_f (by decide), cu_f (by decide), c_up_f (by decide) (by decide)]
      exact hE.2.2.2.2
    · rw [s11]; omega
    · intro k a b
      rw [s11] at b
      rw [s10, if_pos ⟨a, b⟩, s6]
      have hk := hb (k + 1) (by omega) (by omega)
      rw [if_neg (fun q => hbi 0 (k + 1) (by omega) (by omega) (by omega) q.symm)]
      exact hk
    · intro j k a b d
      rw [s11] at d
      rw [s10, s10, if_pos ⟨a, by omega⟩, if_pos ⟨by omega, d⟩]
      exact hbi (j + 1) (k + 1) (by omega) (by omega) (by omega)
    · intro q a b
      rw [s2]
      by_cases z : q = p
      · rw [if_pos z, s6, if_pos rfl]; right; omega
      · rw [if_neg z]
        rcases hw q a b with hq | hq
        · exact Or.inl hq
        · right
          rw [s6, if_neg (fun r => by have := hb0.2.2; rw [← r] at this; omega)]
          exact hq
    · intro g a b
      rw [s6]
      by_cases z : g = c 10 0
      · rw [if_pos z]; right; rw [s2, if_pos rfl]; exact ⟨hp.1, hp.2, z.symm⟩
      · rw [if_neg z]
        rcases hg g a b with ⟨q1, k, k0, k1, k2⟩ | ⟨q1, q2, q3⟩
        · left
          have : k ≠ 0 := fun r => z (by rw [← k2, r])
          refine ⟨q1, k - 1, by omega, by rw [s11]; omega, ?_⟩
          rw [s10, if_pos (by omega), show k - 1 + 1 = k by omega]
          exact k2
        · right
          refine ⟨q1, q2, ?_⟩
          rw [s2, if_neg (fun r => by rw [r, hc.2] at q3; omega)]
          exact q3
  · rw [if_neg hc, if_neg (fun z => hc ⟨by omega, by omega⟩)]
    exact ⟨hE, hW⟩
theorem fill_sim {P : Cs} : ∀ (n : Nat) (i : Int) (c y : Cs), SIM P c y → 0 ≤ i → i + n = P 3 0 → SIM P (itr fstep n i c) (itr mfil n i y)
  | 0, _, _, _, h, _, _ => h
  | n + 1, i, c, y, h, h0, h1 => by
    rw [itr_S, itr_S]
    exact fill_sim n (i + 1) _ _ (fstep_sim h (by omega)) (by omega) (by omega)
theorem mbed_all : ∀ (n : Nat) (i : Int) (y : Cs), (∀ j k, i ≤ j → j < k → k < i + n → y 10 j ≠ y 10 k) → (∀ f, f ≠ 7 → itr mbed n i y f = y f) ∧ (∀ g, (∃ k, i ≤ k ∧ k < i + n ∧ y 10 k = g) → itr mbed n i y 7 g = y 7 g + 1) ∧ (∀ g, (∀ k, i ≤ k → k < i + n → y 10 k ≠ g) → itr mbed n i y 7 g = y 7 g)
  | 0, i, y, _ => ⟨fun _ _ => rfl, fun g ⟨k, a, b, _⟩ => by omega, fun _ _ => rfl⟩
  | n + 1, i, y, h => by
    have hf : ∀ f, f ≠ 7 → mbed i y f = y f := fun f hf => by
      funext k
      exact cu_f hf
    have h10 := hf 10 (by decide)
    obtain ⟨a1, a2, a3⟩ := mbed_all n (i + 1) (mbed i y) (fun j k p q r => by rw [h10]; exact h j k (by omega) q (by omega))
    rw [h10] at a2 a3
    refine ⟨fun f z => ?_, fun g ⟨k, p, q, r⟩ => ?_, fun g z => ?_⟩
    · rw [itr_S, a1 f z, hf f z]
    · rw [itr_S]
      by_cases e : k = i
      · subst e
        rw [a3 g (fun j u v w => h k j (by omega) (by omega) (by omega) (by rw [r, w]))]
        unfold mbed
        rw [← r, cu_s]
      · rw [a2 g ⟨k, by omega, by omega, r⟩]
        unfold mbed
        rw [cu_k (fun z => h i k (by omega) (by omega) (by omega) (by rw [r, z]))]
    · rw [itr_S, a3 g (fun j u v => z j (by omega) (by omega))]
      unfold mbed
      rw [cu_k (fun w => z i (by omega) (by omega) w.symm)]
theorem mwat_all : ∀ (n : Nat) (i : Int) (y : Cs), (∀ j k, i ≤ j → j < k → k < i + n → y 2 j = -2 ∨ y 2 j ≠ y 2 k) → (∀ f, f ≠ 8 → itr mwat n i y f = y f) ∧ (∀ g, g ≠ -2 → (∃ k, i ≤ k ∧ k < i + n ∧ y 2 k = g) → itr mwat n i y 8 g = y 8 g + 1) ∧ (∀ g, (∀ k, i ≤ k → k < i + n → y 2 k ≠ g) → itr mwat n i y 8 g = y 8 g)
  | 0, i, y, _ => ⟨fun _ _ => rfl, fun g _ ⟨k, a, b, _⟩ => by omega, fun _ _ => rfl⟩
  | n + 1, i, y, h => by
    have hf : ∀ f, f ≠ 8 → mwat i y f = y f := fun f hf => by
      funext k
      unfold mwat
      split
      · rfl
      · exact cu_f hf
    have h2 := hf 2 (by decide)
    obtain ⟨a1, a2, a3⟩ := mwat_all n (i + 1) (mwat i y) (fun j k p q r => by rw [h2]; exact h j k (by omega) q (by omega))
    rw [h2] at a2 a3
    refine ⟨fun f z => ?_, fun g gz ⟨k, p, q, r⟩ => ?_, fun g z => ?_⟩
    · rw [itr_S, a1 f z, hf f z]
    · rw [itr_S]
      by_cases e : k = i
      · subst e
        rw [a3 g (fun j u v w => by
          rcases h k j (by omega) (by omega) (by omega) with t | t
          · exact gz (by rw [← r, t])
          · exact t (by rw [r, w]))]
        unfold mwat
        rw [if_neg (by rw [r]; exact gz), r, cu_s]
      · rw [a2 g gz ⟨k, by omega, by omega, r⟩]
        unfold mwat
        split
        · rfl
        · rename_i t
          rw [cu_k (fun z => by
            rcases h i k (by omega) (by omega) (by omega) with u | u
            · exact t u
            · exact u (by rw [r, z]))]
    · rw [itr_S, a3 g (fun j u v => z j (by omega) (by omega))]
      unfold mwat
      split
      · rfl
      · rw [cu_k (fun w => z i (by omega) (by omega) w.symm)]
theorem count_sim {P c y : Cs} (h : SIM P c y) (hN : 0 ≤ P 3 0) : SIM P (c_count c (P 4 0) 1) (mcnt (P 3 0) y) := by
  obtain ⟨hE, hL, hb, hbi, hw, hg⟩ := h
  have e11 := hE.2.2.2.1
  have e12 := hE.2.2.2.2
  obtain ⟨a1, a2, a3⟩ := mbed_all (y 11 0).toNat 0 y (fun j k p q r => by
    rw [hE.2.2.1 j (by omega) (by omega), hE.2.2.1 k (by omega) (by omega)]
    exact hbi j k (by omega) q (by omega))
  obtain ⟨b1, b2, b3⟩ := mwat_all (P 3 0).toNat 0 (itr mbed (y 11 0).toNat 0 y) (fun j k p q r => by
    rw [a1 2 (by decide), hE.1 2 j (by decide) (by omega) (by omega), hE.1 2 k (by decide) (by omega) (by omega)]
    rcases hw j (by omega) (by omega) with t | t
    · exact Or.inl t
    · right
      intro z
      rcases hw k (by omega) (by omega) with u | u
      · omega
      · have := t.2.2
        rw [z, u.2.2] at this
        omega)
  rw [a1 2 (by decide), a1 8 (by decide)] at b2 b3
  unfold mcnt c_count
  refine ⟨⟨fun f k p q r => ?_, fun f k p q r s => ?_, fun k p q => ?_, ?_, ?_⟩, PW_cong (fun k => by rw [cu_f (by decide), c_cnt_f (by decide) (by decide)]) (fun k => by rw [cu_f (by decide), c_cnt_f (by decide) (by decide)]) (fun k => by rw [cu_f (by decide), c_cnt_f (by decide) (by decide)]) (by rw [cu_f (by decide), c_cnt_f (by decide) (by decide)]) ⟨hL, hb, hbi, hw, hg⟩⟩
  · rw [cu_f (by omega), cu_f (by omega), c_cnt_f (by omega) (by omega), b1 f (by omega), a1 f (by omega)]
    exact hE.1 f k p q r
  · rw [cu_f (by omega), cu_f (by omega)]
    rcases (show f = 7 ∨ f = 8 ∨ f = 9 by omega) with z | z | z <;> subst z
    · rw [b1 7 (by decide)]
      have e7 := hE.2.1 7 k (by decide) (by decide) r s
      unfold c_cnt
      rcases hg k r s with ⟨u, j, j0, j1, j2⟩ | ⟨u, v, w⟩
      · rw [if_pos ⟨rfl, r, s, u⟩, a2 k ⟨j, j0, by omega, by rw [hE.2.2.1 j j0 j1]; exact j2⟩, e7]
      · rw [if_neg (by omega), if_neg (by omega), a3 k (fun j j0 j1 j2 => ?_), e7]
        rw [hE.2.2.1 j j0 (by omega)] at j2
        have := (hb j j0 (by omega)).2.2
        rw [j2] at this
        omega
    · have e8 := hE.2.1 8 k (by decide) (by decide) r s
      unfold c_cnt
      rcases hg k r s with ⟨u, j, j0, j1, j2⟩ | ⟨u, v, w⟩
      · rw [if_neg (by omega), if_neg (by omega), b3 k (fun q q0 q1 q2 => ?_), e8]
        rw [hE.1 2 q (by decide) q0 (by omega)] at q2
        rcases hw q q0 (by omega) with t | t
        · omega
        · have := t.2.2
          rw [q2] at this
          omega
      · rw [if_neg (by omega), if_pos ⟨rfl, r, s, by omega⟩, b2 k (by omega) ⟨c 6 k, u, by omega, by rw [hE.1 2 _ (by decide) u v]; exact w⟩, e8]
    · rw [c_cnt_f (by decide) (by decide), b1 9 (by decide), a1 9 (by decide)]
      exact hE.2.1 9 k (by decide) (by decide) r s
  · rw [cu_f (by decide), c_cnt_f (by decide) (by decide)] at q
    rw [cu_f (by decide), cu_f (by decide), c_cnt_f (by decide) (by decide), b1 10 (by decide), a1 10 (by decide)]
    exact hE.2.2.1 k p q
  · rw [cu_f (by decide), cu_f (by decide), c_cnt_f (by decide) (by decide), b1 11 (by decide), a1 11 (by decide)]
    exact e11
  · rw [cu_s, cu_s, e12]
