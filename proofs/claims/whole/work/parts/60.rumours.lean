/-! Rumours: who must have come when -/
def duo (φ : Phi) (P : Cs) (tp tm : Int → Int) (k : Nat) (t : Int) (y : Cs) : Bool := allb (fun i => !(tm i == t && mmin φ P y 4 (tp i) == y 4 (tp i))) k 0
def mdue (φ : Phi) (P : Cs) (tp tm : Int → Int) (k : Nat) : Nat → Int → Cs → Bool
  | 0, _, _ => true
  | n + 1, t, y => duo φ P tp tm k t y && mdue φ P tp tm k n (t + 1) (mmin φ P y)
theorem mdue_S (φ : Phi) (P : Cs) (tp tm : Int → Int) (k n : Nat) (t : Int) (y : Cs) : mdue φ P tp tm k (n + 1) t y = (duo φ P tp tm k t y && mdue φ P tp tm k n (t + 1) (mmin φ P y)) := rfl
def alld (φ : Phi) (P : Cs) (tp tm : Int → Int) (k j : Nat) (t : Int) (y : Cs) : Bool := allb (fun i => duo φ P tp tm k (t + i) (mits φ P i.toNat y)) j 0
theorem mdue_skip (φ : Phi) (P : Cs) (tp tm : Int → Int) (k : Nat) : ∀ (j n : Nat) (t : Int) (y : Cs), mdue φ P tp tm k (j + n) t y = (allb (fun i => duo φ P tp tm k (t + i) (mits φ P i.toNat y)) j 0 && mdue φ P tp tm k n (t + j) (mits φ P j y))
  | 0, n, t, y => by simp [allb, mits]
  | j + 1, n, t, y => by
    rw [show j + 1 + n = (j + n) + 1 by omega, mdue_S, mdue_skip φ P tp tm k j n (t + 1) (mmin φ P y), allb_S]
    have e1 : duo φ P tp tm k (t + 0) (mits φ P (0 : Int).toNat y) = duo φ P tp tm k t y := by rw [Int.add_zero]; rfl
    have e2 : ∀ (m : Nat) (i : Int), 0 ≤ i → allb (fun i => duo φ P tp tm k (t + 1 + i) (mits φ P i.toNat (mmin φ P y))) m i = allb (fun i => duo φ P tp tm k (t + i) (mits φ P i.toNat y)) m (i + 1) := by
      intro m
      induction m with
      | zero => intro i _; rfl
      | succ m ih =>
        intro i hi
        rw [allb_S, allb_S, ih (i + 1) (by omega), show t + 1 + i = t + (i + 1) by omega, show (i + 1).toNat = i.toNat + 1 by omega]
        rfl
    rw [e1, e2 j 0 (by omega), show t + 1 + (j : Int) = t + ((j + 1 : Nat) : Int) by omega, Bool.and_assoc]
    rfl
/-- bits of the posts that are due in minute t -/
def dub (tp tm : Int → Int) (t i b : Int) : Int := if tm i = t then z_ior b (z_ishl 1 (tp i)) else b
def dus (tp tm : Int → Int) (k : Nat) (t : Int) : Int := itr (dub tp tm t) k 0 0
theorem dub_bit (tp tm : Int → Int) (t : Int) : ∀ (n : Nat) (i b : Int) (j : Nat), (∀ q, i ≤ q → q < i + n → 0 ≤ tp q ∧ tp q < 8) → j < 32 → (bt (itr (dub tp tm t) n i b) j = true ↔ bt b j = true ∨ ∃ q, i ≤ q ∧ q < i + n ∧ tm q = t ∧ tp q = j)
  | 0, i, b, j, _, _ => ⟨fun h => Or.inl h, fun h => h.elim id (fun ⟨q, a, b, _⟩ => by omega)⟩
  | n + 1, i, b, j, h, hj => by
    rw [itr_S, dub_bit tp tm t n (i + 1) _ j (fun q a c => h q (by omega) (by omega)) hj]
    have hi := h i (by omega) (by omega)
    unfold dub
    constructor
    · rintro (z | ⟨q, a, c, d⟩)
      · by_cases e : tm i = t
        · rw [if_pos e, bt_or, bt_sh (by omega) hj, Bool.or_eq_true, decide_eq_true_iff] at z
          rcases z with z | z
          · exact Or.inl z
          · exact Or.inr ⟨i, by omega, by omega, e, z.symm⟩
        · rw [if_neg e] at z; exact Or.inl z
      · exact Or.inr ⟨q, by omega, by omega, d⟩
    · rintro (z | ⟨q, a, c, d1, d2⟩)
      · left
        split
        · rw [bt_or, z, Bool.true_or]
        · exact z
      · by_cases e : q = i
        · left
          rw [e] at d1 d2
          rw [if_pos d1, bt_or, bt_sh (by omega) hj, decide_eq_true d2.symm, Bool.or_true]
        · exact Or.inr ⟨q, by omega, by omega, d1, d2⟩
theorem dub_r (tp tm : Int → Int) (t : Int) : ∀ (n : Nat) (i b : Int), R32 b → R32 (itr (dub tp tm t) n i b)
  | 0, _, _, h => h
  | n + 1, i, b, h => by
    rw [itr_S]
    refine dub_r tp tm t n (i + 1) _ ?_
    unfold dub
    split
    · exact z_ior_r _ _
    · exact h
theorem dus_is {tp tm : Int → Int} {k : Nat} (h : ∀ q : Int, 0 ≤ q → q < k → 0 ≤ tp q ∧ tp q < 8) (t : Int) {j : Nat} (hj : j < 32) : bt (dus tp tm k t) j = true ↔ ∃ q, 0 ≤ q ∧ q < (k : Int) ∧ tm q = t ∧ tp q = j := by
  unfold dus
  rw [dub_bit tp tm t k 0 0 j (fun q a b => h q a (by omega)) hj, bt_0]
  constructor
  · rintro (z | ⟨q, a, b, c⟩)
    · cases z
    · exact ⟨q, a, by omega, c⟩
  · rintro ⟨q, a, b, c⟩
    exact Or.inr ⟨q, a, by omega, c⟩
theorem dus_in {tp tm : Int → Int} {k : Nat} (h : ∀ q : Int, 0 ≤ q → q < k → 0 ≤ tp q ∧ tp q < 8) (t : Int) : 0 ≤ dus tp tm k t ∧ dus tp tm k t < 256 := by
  apply bt_small (dub_r tp tm t k 0 0 (by omega))
  intro i h8 h32
  cases z : bt (itr (dub tp tm t) k 0 0) i with
  | false => rfl
  | true =>
    obtain ⟨q, a, b, c, d⟩ := (dus_is h t h32).mp z
    have := h q a b
    omega
/-- where nobody comes, none may be due -/
theorem duo_quiet {φ : Phi} {P y : Cs} {tp tm : Int → Int} {k : Nat} {N t : Int} (h : ∀ q : Int, 0 ≤ q → q < k → 0 ≤ tp q ∧ tp q < N) (hN : N ≤ 8) (h4 : ∀ p, 0 ≤ p → p < N → mmin φ P y 4 p = y 4 p) : duo φ P tp tm k t y = (dus tp tm k t == 0) := by
  have h8 : ∀ q : Int, 0 ≤ q → q < k → 0 ≤ tp q ∧ tp q < 8 := fun q a b => by have := h q a b; omega
  rw [Bool.eq_iff_iff, beq_iff_eq]
  unfold duo
  rw [allb_is]
  constructor
  · intro hd
    apply bt_zero _ (dub_r tp tm t k 0 0 (by omega))
    intro i hi
    cases z : bt (itr (dub tp tm t) k 0 0) i with
    | false => rfl
    | true =>
      obtain ⟨q, a, b, c, d⟩ := (dus_is h8 t hi).mp z
      have h1 := hd q a (by omega)
      have h2 := h q a b
      rw [h4 (tp q) h2.1 h2.2, c] at h1
      simp at h1
  · intro h0 q a b
    have hq := h q a (by omega)
    by_cases c : tm q = t
    · exfalso
      have := (dus_is h8 t (j := (tp q).toNat) (by omega)).mpr ⟨q, a, by omega, c, by omega⟩
      rw [h0, bt_0] at this
      cases this
    · have : (tm q == t) = false := by simpa using c
      rw [this]; rfl
/-- in a minute of comings, those due must be among them -/
theorem duo_last {φ : Phi} {P y : Cs} {tp tm : Int → Int} {k : Nat} {N t com : Int} (h : ∀ q : Int, 0 ≤ q → q < k → 0 ≤ tp q ∧ tp q < N) (hN : N ≤ 8) (hc : ∀ j : Nat, (j : Int) < N → (bt com j = true ↔ mmin φ P y 4 j ≠ y 4 j)) : duo φ P tp tm k t y = (z_iand (dus tp tm k t) (z_ixor com (-1)) == 0) := by
  have h8 : ∀ q : Int, 0 ≤ q → q < k → 0 ≤ tp q ∧ tp q < 8 := fun q a b => by have := h q a b; omega
  rw [Bool.eq_iff_iff, beq_iff_eq, sub_bits (dus_in h8 t)]
  unfold duo
  rw [allb_is]
  constructor
  · intro hd i hi hb
    obtain ⟨q, a, b, c, d⟩ := (dus_is h8 t (by omega)).mp hb
    have h1 := hd q a (by omega)
    have h2 := h q a b
    rw [hc i (by omega), ← d]
    intro e
    rw [c, e] at h1
    simp at h1
  · intro hd q a b
    have hq := h q a (by omega)
    by_cases c : tm q = t
    · have h1 := hd (tp q).toNat (by omega) ((dus_is h8 t (j := (tp q).toNat) (by omega)).mpr ⟨q, a, by omega, c, by omega⟩)
      rw [hc _ (by omega), show (((tp q).toNat : Nat) : Int) = tp q by omega] at h1
      have : (mmin φ P y 4 (tp q) == y 4 (tp q)) = false := by simpa using h1
      rw [this, Bool.and_false]; rfl
    · have : (tm q == t) = false := by simpa using c
      rw [this]; rfl
/-! the bits of those who came -/
theorem rel_13 {c : Cs} {p a : Int} (hw : ¬ c_comer c p a = -2) : c_relieve c p a 13 0 = z_ior (c 13 0) (z_ishl 1 p) ∧ ∀ k, c_relieve c p a 4 k = if k = p then c 4 p + 1 else c 4 k := by
  unfold c_relieve
  rw [if_neg hw]
  unfold c_tired
  constructor
  · rw [c_lie_f (by decide) (by decide) (by decide) (by decide), cu_f (by decide), c_next_f (by decide) (by decide) (by decide) (by decide) (by decide), c_stand_f (by decide) (by decide) (by decide)]
    unfold c_turn
    rw [cu_f (by decide), cu_s]
  · intro k
    rw [c_lie_f (by decide) (by decide) (by decide) (by decide), cu_f (by decide), c_next_f (by decide) (by decide) (by decide) (by decide) (by decide), c_stand_f (by decide) (by decide) (by decide)]
    unfold c_turn
    rw [cu_f (by decide), cu_f (by decide), cu_if]
    by_cases z : k = p
    · rw [if_pos ⟨rfl, z⟩, if_pos z]
    · rw [if_neg (fun w => z w.2), if_neg z, cu_f (by decide), cu_f (by decide)]
theorem relN_13 {N : Int} : ∀ (n : Nat) (i : Int) (c : Cs), 0 ≤ i → i + n ≤ 8 → (∀ j : Nat, j < 8 → (bt (itr (rstep N) n i c 13 0) j = true ↔ bt (c 13 0) j = true ∨ itr (rstep N) n i c 4 j ≠ c 4 j)) ∧ ∀ k : Int, k < i → itr (rstep N) n i c 4 k = c 4 k
  | 0, _, c, _, _ => ⟨fun j _ => ⟨fun h => Or.inl h, fun h => h.elim id (fun z => absurd rfl z)⟩, fun _ _ => rfl⟩
  | n + 1, i, c, h0, h1 => by
    obtain ⟨A, B⟩ := relN_13 (N := N) n (i + 1) (rstep N i c) (by omega) (by omega)
    rw [itr_S]
    by_cases hr : c 0 i = 0 ∧ ¬ c_comer c i (if i = 0 then N - 1 else i - 1) = -2
    · have e : rstep N i c = c_relieve c i (if i = 0 then N - 1 else i - 1) := by unfold rstep; rw [if_pos hr.1]
      obtain ⟨e13, e4⟩ := rel_13 hr.2
      rw [← e] at e13 e4
      refine ⟨fun j hj => ?_, fun k hk => ?_⟩
      · rw [A j hj, e13, bt_or, bt_sh (by omega) (by omega), Bool.or_eq_true, decide_eq_true_iff]
        by_cases z : (j : Int) = i
        · have := B j (by omega)
          rw [this, e4, if_pos z]
          constructor
          · intro _; right; rw [z]; omega
          · intro _; left; exact Or.inr z
        · rw [e4 j, if_neg z]
          constructor
          · rintro ((w | w) | w)
            · exact Or.inl w
            · exact absurd w z
            · exact Or.inr w
          · rintro (w | w)
            · exact Or.inl (Or.inl w)
            · exact Or.inr w
      · rw [B k (by omega), e4, if_neg (by omega)]
    · have e : rstep N i c = c := by
        unfold rstep
        split
        · rename_i z
          unfold c_relieve
          rw [if_pos (Decidable.byContradiction fun w => hr ⟨z, w⟩)]
        · rfl
      rw [e] at A B ⊢
      exact ⟨A, fun k hk => B k (by omega)⟩
theorem filN_13 {f : Nat} (hf : f = 13 ∨ f = 4) : ∀ (n : Nat) (i : Int) (c : Cs) (k : Int), itr fstep n i c f k = c f k
  | 0, _, _, _ => rfl
  | n + 1, i, c, k => by
    rw [itr_S, filN_13 hf n]
    unfold fstep
    split
    · rw [c_stand_f (by omega) (by omega) (by omega), c_up_f (by omega) (by omega)]
    · rfl
theorem sand_4 (m : Int) : ∀ (n : Nat) (i : Int) (c : Cs) (k : Int), itr (sstep m) n i c 4 k = c 4 k
  | 0, _, _, _ => rfl
  | n + 1, i, c, k => by
    rw [itr_S, sand_4 m n]
    unfold sstep
    split
    · exact c_down_f (by decide) (by decide)
    · rfl
theorem count_13 {c : Cs} {G m k : Int} {f : Nat} (hf : f = 13 ∨ f = 4) : c_count c G m f k = c f k := by
  unfold c_count
  rw [cu_f (by omega), c_cnt_f (by omega) (by omega)]
theorem pass_13 {φ : Phi} {P l c : Cs} {z most : Int} (hP : PlanOk P l φ) {j : Nat} (hj : j < 8) : bt (c_pass φ P z c most 13 0) j = true ↔ c_pass φ P z c most 4 j ≠ c 4 j := by
  have hN := hP.1
  have b13 : (cu (c_sand (P 3 0) (c_some φ P z c most) (c_fl c (P 3 0) (c_fls φ P c))) 13 0 0) 13 0 = 0 := cu_s _ _ _ _
  have b4 : ∀ k, (cu (c_sand (P 3 0) (c_some φ P z c most) (c_fl c (P 3 0) (c_fls φ P c))) 13 0 0) 4 k = c 4 k := fun k => by
    rw [cu_f (by decide)]
    unfold c_sand
    rw [sand_4, c_fl_f (by decide)]
  unfold c_pass c_end
  generalize cu (c_sand (P 3 0) (c_some φ P z c most) (c_fl c (P 3 0) (c_fls φ P c))) 13 0 0 = c1 at b13 b4 ⊢
  have d13 : (if 0 < c_q φ P z c most then c_count c1 (P 4 0) (c_q φ P z c most) else c1) 13 0 = 0 := by
    split
    · rw [count_13 (Or.inl rfl)]; exact b13
    · exact b13
  have d4 : ∀ k, (if 0 < c_q φ P z c most then c_count c1 (P 4 0) (c_q φ P z c most) else c1) 4 k = c 4 k := by
    intro k
    split
    · rw [count_13 (Or.inr rfl)]; exact b4 k
    · exact b4 k
  generalize (if 0 < c_q φ P z c most then c_count c1 (P 4 0) (c_q φ P z c most) else c1) = c2 at d13 d4 ⊢
  split
  · rw [count_13 (Or.inl rfl), count_13 (Or.inr rfl)]
    unfold c_fill
    rw [filN_13 (Or.inl rfl), filN_13 (Or.inr rfl)]
    unfold c_relAll
    have := (relN_13 (N := P 3 0) (P 3 0).toNat 0 c2 (by omega) (by omega)).1 j hj
    rw [this, d13, bt_0, d4]
    constructor
    · rintro (w | w)
      · cases w
      · exact w
    · exact Or.inr
  · rw [d13, bt_0, d4]
    constructor
    · intro w; cases w
    · intro w; exact absurd rfl w
