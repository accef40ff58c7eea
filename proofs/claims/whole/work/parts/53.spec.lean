/-! by when all have slept: class's leaps beside minutes -/
theorem slp_cong {P c y : Cs} (h : ∀ k, 0 ≤ k → k < P 4 0 → y 7 k = c 7 k) : ∀ (n : Nat) (i w : Int), 0 ≤ i → i + n ≤ P 4 0 → itr (gstep P y) n i w = itr (gstep P c) n i w
  | 0, _, _, _, _ => rfl
  | n + 1, i, w, h0, h1 => by
    rw [itr_S, itr_S]
    have : gstep P y i w = gstep P c i w := by unfold gstep; rw [h i h0 (by omega)]
    rw [this]
    exact slp_cong h n (i + 1) _ (by omega) (by omega)
theorem slepts_cong {P c y : Cs} (hG : 0 ≤ P 4 0) (h : ∀ k, 0 ≤ k → k < P 4 0 → y 7 k = c 7 k) : c_slepts P y = c_slepts P c := slp_cong h _ 0 0 (by omega) (by omega)
theorem slp_le {P c : Cs} : ∀ (n : Nat) (i w : Int), itr (gstep P c) n i w ≤ w + n
  | 0, _, w => by simp [itr]
  | n + 1, i, w => by
    rw [itr_S]
    have := slp_le (P := P) (c := c) n (i + 1) (gstep P c i w)
    have h2 : gstep P c i w ≤ w + 1 := by unfold gstep; split <;> omega
    omega
theorem slp_all {P c : Cs} : ∀ (n : Nat) (i w : Int), itr (gstep P c) n i w = w + n ↔ ∀ k, i ≤ k → k < i + n → P 6 0 ≤ c 7 k
  | 0, i, w => ⟨fun _ k a b => by omega, fun _ => by simp [itr]⟩
  | n + 1, i, w => by
    rw [itr_S]
    have hle := slp_le (P := P) (c := c) n (i + 1) (gstep P c i w)
    have ih := slp_all (P := P) (c := c) n (i + 1) (gstep P c i w)
    by_cases z : P 6 0 ≤ c 7 i
    · have e : gstep P c i w = w + 1 := by unfold gstep; rw [if_pos z]
      rw [e] at ih hle ⊢
      rw [show w + ((n + 1 : Nat) : Int) = w + 1 + n by omega, ih]
      refine ⟨fun h k a b => ?_, fun h k a b => h k (by omega) (by omega)⟩
      by_cases e2 : k = i
      · subst e2; exact z
      · exact h k (by omega) (by omega)
    · have e : gstep P c i w = w := by unfold gstep; rw [if_neg z]; omega
      rw [e] at hle ⊢
      refine ⟨fun h => by omega, fun h => absurd (h i (by omega) (by omega)) z⟩
theorem slepts_all {P c : Cs} (hG : 0 ≤ P 4 0) : c_slepts P c = P 4 0 ↔ ∀ k, 0 ≤ k → k < P 4 0 → P 6 0 ≤ c 7 k := by
  have := slp_all (P := P) (c := c) (P 4 0).toNat 0 0
  unfold c_slepts
  rw [show (0 : Int) + ((P 4 0).toNat : Int) = P 4 0 by omega] at this
  exact this
theorem want_ge {P c : Cs} : ∀ (n : Nat) (i w : Int), w ≤ itr (wstep P c) n i w ∧ (∀ k, i ≤ k → k < i + n → P 6 0 - c 7 k ≤ itr (wstep P c) n i w) ∧ (itr (wstep P c) n i w = w ∨ ∃ k, i ≤ k ∧ k < i + n ∧ itr (wstep P c) n i w = P 6 0 - c 7 k)
  | 0, i, w => ⟨Int.le_refl w, fun k a b => by omega, Or.inl rfl⟩
  | n + 1, i, w => by
    obtain ⟨a1, a2, a3⟩ := want_ge (P := P) (c := c) n (i + 1) (wstep P c i w)
    have e : wstep P c i w = max w (P 6 0 - c 7 i) := rfl
    rw [itr_S]
    refine ⟨by omega, fun k a b => ?_, ?_⟩
    · by_cases z : k = i
      · subst z; omega
      · exact a2 k (by omega) (by omega)
    · rcases a3 with z | ⟨k, k0, k1, k2⟩
      · by_cases z2 : w ≤ P 6 0 - c 7 i
        · right; exact ⟨i, by omega, by omega, by omega⟩
        · left; omega
      · right; exact ⟨k, by omega, by omega, k2⟩
theorem want_facts {P c : Cs} (hG : 0 ≤ P 4 0) : 0 ≤ c_want P c ∧ (∀ k, 0 ≤ k → k < P 4 0 → P 6 0 - c 7 k ≤ c_want P c) ∧ (c_want P c = 0 ∨ ∃ k, 0 ≤ k ∧ k < P 4 0 ∧ c_want P c = P 6 0 - c 7 k) := by
  obtain ⟨a1, a2, a3⟩ := want_ge (P := P) (c := c) (P 4 0).toNat 0 0
  refine ⟨a1, fun k a b => a2 k a (by omega), ?_⟩
  rcases a3 with z | ⟨k, k0, k1, k2⟩
  · exact Or.inl z
  · exact Or.inr ⟨k, k0, by omega, k2⟩
theorem want_0 {P c : Cs} (hG : 0 ≤ P 4 0) : c_want P c = 0 ↔ c_slepts P c = P 4 0 := by
  obtain ⟨a1, a2, a3⟩ := want_facts (P := P) (c := c) hG
  rw [slepts_all hG]
  refine ⟨fun h k a b => by have := a2 k a b; omega, fun h => ?_⟩
  rcases a3 with z | ⟨k, k0, k1, k2⟩
  · exact z
  · have := h k k0 k1; omega
/-- nobody sleeps more than a minute in a minute -/
theorem rl_7 (c : Cs) (p a : Int) (k : Int) : c_relieve c p a 7 k = c 7 k := by
  unfold c_relieve
  split
  · rfl
  · unfold c_tired
    rw [c_lie_f (by decide) (by decide) (by decide) (by decide), cu_f (by decide), c_next_f (by decide) (by decide) (by decide) (by decide) (by decide), c_stand_f (by decide) (by decide) (by decide), c_turn_f (by decide) (by decide) (by decide) (by decide) (by decide)]
theorem relN_7 (N : Int) : ∀ (n : Nat) (i : Int) (c : Cs) (k : Int), itr (rstep N) n i c 7 k = c 7 k
  | 0, _, _, _ => rfl
  | n + 1, i, c, k => by
    rw [itr_S, relN_7 N n]
    unfold rstep
    split
    · exact rl_7 c i _ k
    · rfl
theorem filN_7 : ∀ (n : Nat) (i : Int) (c : Cs) (k : Int), itr fstep n i c 7 k = c 7 k
  | 0, _, _, _ => rfl
  | n + 1, i, c, k => by
    rw [itr_S, filN_7 n]
    unfold fstep
    split
    · rw [c_stand_f (by decide) (by decide) (by decide), c_up_f (by decide) (by decide)]
    · rfl
theorem cnt_7 (c : Cs) (G m k : Int) (hm : 0 ≤ m) : c 7 k ≤ c_count c G m 7 k ∧ c_count c G m 7 k ≤ c 7 k + m := by
  unfold c_count
  rw [cu_f (by decide), cnt_if]
  split
  · omega
  · rw [if_neg (by omega)]; omega
theorem sand_7 (m : Int) : ∀ (n : Nat) (i : Int) (c : Cs) (k : Int), itr (sstep m) n i c 7 k = c 7 k
  | 0, _, _, _ => rfl
  | n + 1, i, c, k => by
    rw [itr_S, sand_7 m n]
    unfold sstep
    split
    · exact c_down_f (by decide) (by decide)
    · rfl
theorem min_7 {φ : Phi} {P l y : Cs} {B : Int} (hP : PlanOk P l φ) (hQ : QY P B y) (hB : 0 ≤ B) {k : Int} (hk : 0 ≤ k ∧ k < P 4 0) : y 7 k ≤ mmin φ P y 7 k ∧ mmin φ P y 7 k ≤ y 7 k + 1 := by
  have hN := hP.1
  have hG := hP.2.1
  have h1 := QY_run (φ := φ) hQ hP
  obtain ⟨c, hS, hK⟩ := h1
  have h2 := relAll_sim hN.2 hG.2 (P 3 0).toNat 0 B c _ hS hK hB (by omega) (by omega)
  have h3 := fill_sim (P 3 0).toNat 0 _ _ h2 (by omega) (by omega)
  have h4 := count_sim h3 hN.1
  have e := h4.1.2.1 7 k (by decide) (by decide) hk.1 hk.2
  have e2 := hS.1.2.1 7 k (by decide) (by decide) hk.1 hk.2
  have e3 := (mrun_all φ P (P 3 0).toNat 0 y).1 7 (by decide) (by decide)
  have e4 := cnt_7 (itr fstep (P 3 0).toNat 0 (itr (rstep (P 3 0)) (P 3 0).toNat 0 c)) (P 4 0) 1 k (by omega)
  rw [filN_7, relN_7] at e4
  rw [e3] at e2
  unfold mmin
  omega
theorem its_7 {φ : Phi} {P l : Cs} (hP : PlanOk P l φ) : ∀ (n : Nat) (B : Int) (y : Cs), QY P B y → 0 ≤ B → ∀ k, 0 ≤ k → k < P 4 0 → y 7 k ≤ mits φ P n y 7 k ∧ mits φ P n y 7 k ≤ y 7 k + n
  | 0, _, _, _, _, _, _, _ => by simp [mits]
  | n + 1, B, y, hQ, hB, k, k0, k1 => by
    have h1 := min_7 hP hQ hB ⟨k0, k1⟩
    have h2 := its_7 hP n (B + 9) _ (QY_min hQ hB hP) (by omega) k k0 k1
    show y 7 k ≤ mits φ P n (mmin φ P y) 7 k ∧ _
    rw [show mits φ P (n + 1) y = mits φ P n (mmin φ P y) from rfl]
    omega
/-- behind how many minutes all have slept, of n looks from the k-th minute on -/
def mso (φ : Phi) (P : Cs) : Nat → Int → Cs → Int
  | 0, _, _ => -2
  | n + 1, k, y => if c_slepts P y = P 4 0 then k else mso φ P n (k + 1) (mmin φ P y)
theorem mso_S (φ : Phi) (P : Cs) (n : Nat) (k : Int) (y : Cs) : mso φ P (n + 1) k y = if c_slepts P y = P 4 0 then k else mso φ P n (k + 1) (mmin φ P y) := rfl
theorem mso_skip {φ : Phi} {P : Cs} : ∀ (j n : Nat) (k : Int) (y : Cs), (∀ t : Nat, t < j → c_slepts P (mits φ P t y) ≠ P 4 0) → mso φ P (j + n) k y = mso φ P n (k + j) (mits φ P j y)
  | 0, n, k, y, _ => by simp [mits]
  | j + 1, n, k, y, h => by
    have h0 : c_slepts P y ≠ P 4 0 := h 0 (by omega)
    rw [show j + 1 + n = (j + n) + 1 by omega, mso_S, if_neg h0, mso_skip j n (k + 1) (mmin φ P y) (fun t ht => h (t + 1) (by omega)), show k + 1 + (j : Int) = k + ((j + 1 : Nat) : Int) by omega]
    rfl
theorem mso_none {φ : Phi} {P : Cs} (n : Nat) (k : Int) (y : Cs) (h : ∀ t : Nat, t < n → c_slepts P (mits φ P t y) ≠ P 4 0) : mso φ P n k y = -2 := by
  have := mso_skip (φ := φ) n 0 k y h
  rw [Nat.add_zero] at this
  rw [this]
  rfl
/-- nobody's wish is fulfilled before its time -/
theorem want_keep {φ : Phi} {P l y : Cs} {B : Int} (hP : PlanOk P l φ) (hQ : QY P B y) (hB : 0 ≤ B) (t : Nat) (ht : (t : Int) < c_want P y) : c_slepts P (mits φ P t y) ≠ P 4 0 := by
  have hG := hP.2.1
  rw [Ne, slepts_all hG.1]
  intro h
  obtain ⟨a1, a2, a3⟩ := want_facts (P := P) (c := y) hG.1
  rcases a3 with z | ⟨k, k0, k1, k2⟩
  · omega
  · have := h k k0 k1
    have h2 := (its_7 hP t B y hQ hB k k0 k1).2
    omega
/-- the class's way: leaps of as many minutes as the one who wants most wants -/
def g_soon (φ : Phi) (P : Cs) (z most : Int) : Nat → Int → Cs → Int
  | 0, _, _ => -2
  | n + 1, i, c => if most < i then -2 else if c_want P c = 0 then i else if most - i < c_want P c then -2 else g_soon φ P z most n (i + max 1 (c_some φ P z c (c_want P c))) (c_pass φ P z c (c_want P c))
theorem want_cong {P c y : Cs} (hG : 0 ≤ P 4 0) (h : ∀ k, 0 ≤ k → k < P 4 0 → y 7 k = c 7 k) : c_want P y = c_want P c := by
  have key : ∀ (n : Nat) (i w : Int), 0 ≤ i → i + n ≤ P 4 0 → itr (wstep P y) n i w = itr (wstep P c) n i w := by
    intro n
    induction n with
    | zero => intro i w _ _; rfl
    | succ n ih =>
      intro i w h0 h1
      rw [itr_S, itr_S]
      have : wstep P y i w = wstep P c i w := by unfold wstep; rw [h i h0 (by omega)]
      rw [this]
      exact ih (i + 1) _ (by omega) (by omega)
  exact key _ 0 0 (by omega) (by omega)
theorem soon_eq {φ : Phi} {P l : Cs} {most : Int} (hP : PlanOk P l φ) : ∀ (n : Nat) (i B : Int) (c y : Cs), SIM P c y → CK B c → 0 ≤ B → most + 1 - i ≤ n → 0 ≤ i → g_soon φ P (l 0 0) most n i c = mso φ P (most + 1 - i).toNat i y
  | 0, i, B, c, y, _, _, _, h1, _ => by
    rw [show (most + 1 - i).toNat = 0 by omega]
    rfl
  | n + 1, i, B, c, y, hS, hK, hB, h1, h0 => by
    have hG := hP.2.1
    have hQ : QY P B y := ⟨c, hS, hK⟩
    have ew : c_want P y = c_want P c := want_cong hG.1 (fun k a b => hS.1.2.1 7 k (by decide) (by decide) a b)
    have es : c_slepts P y = c_slepts P c := slepts_cong hG.1 (fun k a b => hS.1.2.1 7 k (by decide) (by decide) a b)
    unfold g_soon
    by_cases z1 : most < i
    · rw [if_pos z1, show (most + 1 - i).toNat = 0 by omega]
      rfl
    · rw [if_neg z1]
      by_cases z2 : c_want P c = 0
      · rw [if_pos z2]
        rw [show (most + 1 - i).toNat = (most - i).toNat + 1 by omega]
        unfold mso
        rw [if_pos (by rw [es]; exact (want_0 hG.1).mp z2)]
      · rw [if_neg z2]
        have hw := (want_facts (P := P) (c := c) hG.1).1
        by_cases z3 : most - i < c_want P c
        · rw [if_pos z3, mso_none _ _ _ (fun t ht => want_keep hP hQ hB t (by omega))]
        · rw [if_neg z3]
          have hs := c_some_in (z := l 0 0) (most := c_want P c) hP hK (by omega)
          have hq := c_q_in (z := l 0 0) (most := c_want P c) hP hK (by omega)
          have hp := pass_sim (most := c_want P c) hP hK hB (by omega) hS
          have ih := soon_eq (most := most) hP n (i + max 1 (c_some φ P (l 0 0) c (c_want P c))) _ _ _ hp (CK_pass (z := l 0 0) (most := c_want P c) hP hK hB (by omega)) (by omega) (by omega) (by omega)
          rw [ih]
          have := mso_skip (φ := φ) (P := P) (c_some φ P (l 0 0) c (c_want P c)).toNat (most + 1 - (i + max 1 (c_some φ P (l 0 0) c (c_want P c)))).toNat i y (fun t ht => want_keep hP hQ hB t (by omega))
          rw [show (c_some φ P (l 0 0) c (c_want P c)).toNat + (most + 1 - (i + max 1 (c_some φ P (l 0 0) c (c_want P c)))).toNat = (most + 1 - i).toNat by omega] at this
          rw [this, show i + ((c_some φ P (l 0 0) c (c_want P c)).toNat : Int) = i + max 1 (c_some φ P (l 0 0) c (c_want P c)) by omega]
/-- until a guard goes to bed, of n minutes, i gone already -/
def mbd (φ : Phi) (P : Cs) (a b : Int) : Nat → Int → Cs → Int
  | 0, _, _ => -2
  | n + 1, i, y => if mmin φ P y 9 a = b then mbd φ P a b n (i + 1) (mmin φ P y) else i + 1
theorem mbd_S (φ : Phi) (P : Cs) (a b : Int) (n : Nat) (i : Int) (y : Cs) : mbd φ P a b (n + 1) i y = if mmin φ P y 9 a = b then mbd φ P a b n (i + 1) (mmin φ P y) else i + 1 := rfl
theorem mbd_skip {φ : Phi} {P : Cs} {a b : Int} : ∀ (j n : Nat) (i : Int) (y : Cs), (∀ t : Nat, t < j → mits φ P (t + 1) y 9 a = b) → mbd φ P a b (j + n) i y = mbd φ P a b n (i + j) (mits φ P j y)
  | 0, n, i, y, _ => by simp [mits]
  | j + 1, n, i, y, h => by
    have h0 : mmin φ P y 9 a = b := h 0 (by omega)
    rw [show j + 1 + n = (j + n) + 1 by omega, mbd_S, if_pos h0, mbd_skip j n (i + 1) (mmin φ P y) (fun t ht => h (t + 1) (by omega)), show i + 1 + (j : Int) = i + ((j + 1 : Nat) : Int) by omega]
    rfl
theorem bed_eq {φ : Phi} {P l : Cs} {m a b : Int} (hP : PlanOk P l φ) (ha : 0 ≤ a ∧ a < P 4 0) : ∀ (n : Nat) (i B : Int) (c y : Cs), SIM P c y → CK B c → 0 ≤ B → m - i < n → 0 ≤ i → i ≤ m → c 9 a = b → g_bed φ P (l 0 0) m a b n i c = mbd φ P a b (m - i).toNat i y
  | 0, i, B, c, y, _, _, _, h1, _, h2, _ => by omega
  | n + 1, i, B, c, y, hS, hK, hB, h1, h0, h2, hb => by
    unfold g_bed
    by_cases z1 : m ≤ i
    · rw [if_pos z1, show (m - i).toNat = 0 by omega]
      rfl
    · rw [if_neg z1]
      have hs := c_some_in (z := l 0 0) (most := m - i) hP hK (by omega)
      have hq := c_q_in (z := l 0 0) (most := m - i) hP hK (by omega)
      have e1 : c_some φ P (l 0 0) c (m - i) = min (c_q φ P (l 0 0) c (m - i) + 1) (c_lim P c (m - i)) := rfl
      have hp := pass_sim (most := m - i) hP hK hB (by omega) hS
      have e9 := hp.1.2.1 9 a (by decide) (by decide) ha.1 ha.2
      have hquiet : ∀ t : Nat, t < (c_some φ P (l 0 0) c (m - i)).toNat - 1 → mits φ P (t + 1) y 9 a = b := by
        intro t ht
        have := quiet_sim hP hK (most := m - i) (by omega) hS (t + 1) (by omega)
        rw [this.1.2.1 9 a (by decide) (by decide) ha.1 ha.2]
        unfold dj c_count
        rw [cu_f (by decide), c_cnt_f (by decide) (by decide), sd_f (by decide) (by decide)]
        exact hb
      have hsk := mbd_skip ((c_some φ P (l 0 0) c (m - i)).toNat - 1) ((m - i).toNat - (c_some φ P (l 0 0) c (m - i)).toNat + 1) i y hquiet
      rw [show (c_some φ P (l 0 0) c (m - i)).toNat - 1 + ((m - i).toNat - (c_some φ P (l 0 0) c (m - i)).toNat + 1) = (m - i).toNat by omega] at hsk
      rw [hsk, mbd_S, ← mits_S, show (c_some φ P (l 0 0) c (m - i)).toNat - 1 + 1 = (c_some φ P (l 0 0) c (m - i)).toNat by omega, e9]
      by_cases z2 : c_pass φ P (l 0 0) c (m - i) 9 a = b
      · rw [if_pos z2, if_pos z2, bed_eq hP ha n _ _ _ _ hp (CK_pass (z := l 0 0) (most := m - i) hP hK hB (by omega)) (by omega) (by omega) (by omega) (by omega) z2]
        rw [show (m - (i + max 1 (c_some φ P (l 0 0) c (m - i)))).toNat = (m - i).toNat - (c_some φ P (l 0 0) c (m - i)).toNat by omega, show i + max 1 (c_some φ P (l 0 0) c (m - i)) = i + (((c_some φ P (l 0 0) c (m - i)).toNat - 1 : Nat) : Int) + 1 by omega]
      · rw [if_neg z2, if_neg z2]
        omega
