/-! Game: pinches that rest -/
def allb (q : Int → Bool) : Nat → Int → Bool
  | 0, _ => true
  | n + 1, i => q i && allb q n (i + 1)
theorem allb_S (q : Int → Bool) (n : Nat) (i : Int) : allb q (n + 1) i = (q i && allb q n (i + 1)) := rfl
theorem allb_is (q : Int → Bool) : ∀ (n : Nat) (i : Int), allb q n i = true ↔ ∀ k, i ≤ k → k < i + n → q k = true
  | 0, i => ⟨fun _ k a b => by omega, fun _ => rfl⟩
  | n + 1, i => by
    rw [allb_S, Bool.and_eq_true, allb_is q n (i + 1)]
    refine ⟨fun h k a b => ?_, fun h => ⟨h i (by omega) (by omega), fun k a b => h k (by omega) (by omega)⟩⟩
    by_cases z : k = i
    · rw [z]; exact h.1
    · exact h.2 k (by omega) (by omega)
theorem allb_cong {q r : Int → Bool} : ∀ (n : Nat) (i : Int), (∀ k, i ≤ k → k < i + n → q k = r k) → allb q n i = allb r n i
  | 0, _, _ => rfl
  | n + 1, i, h => by rw [allb_S, allb_S, h i (by omega) (by omega), allb_cong n (i + 1) (fun k a b => h k (by omega) (by omega))]
/-- a collector: what holds goes behind what stands there -/
def gcl (q : Int → Bool) (v : Int → Int) (s : Int) (d : Cs) : Cs := if q s = true then cu (cu d 1 0 (d 1 0 + 1)) 0 (d 1 0) (v s) else d
/-- a search: the i-th that holds, or how many there are -/
def gse (q : Int → Bool) (v : Int → Int) (i s : Int) (b : Option Int × Int) : Option Int × Int := if b.1 = none ∧ q s = true then (if b.2 = i then (some (v s), b.2) else (none, b.2 + 1)) else b
def gfin (i : Int) (b : Option Int × Int) : Int := match b.1 with
  | some x => x
  | none => if i = -1 then b.2 else -1
def gtell (i : Int) (d : Cs) : Int := if i = -1 then d 1 0 else if i < d 1 0 then d 0 i else -1
def gREL (i : Int) (d : Cs) (b : Option Int × Int) : Prop := 0 ≤ d 1 0 ∧ ((b.1 = none ∧ b.2 = d 1 0 ∧ (i = -1 ∨ d 1 0 ≤ i)) ∨ (0 ≤ i ∧ i < d 1 0 ∧ b.1 = some (d 0 i)))
theorem gREL_step {q : Int → Bool} {v : Int → Int} {i s : Int} {d : Cs} {b : Option Int × Int} (h : gREL i d b) (hi : -1 ≤ i) : gREL i (gcl q v s d) (gse q v i s b) := by
  obtain ⟨h0, h⟩ := h
  unfold gcl gse
  by_cases z : q s = true
  · rw [if_pos z]
    have e1 : cu (cu d 1 0 (d 1 0 + 1)) 0 (d 1 0) (v s) 1 0 = d 1 0 + 1 := by rw [cu_f (by decide), cu_s]
    rcases h with ⟨h1, h2, h3⟩ | ⟨h1, h2, h3⟩
    · rw [if_pos ⟨h1, z⟩]
      refine ⟨by rw [e1]; omega, ?_⟩
      by_cases w : b.2 = i
      · rw [if_pos w, e1]
        right
        refine ⟨by omega, by omega, ?_⟩
        rw [← w, h2, cu_s]
      · rw [if_neg w, e1]
        left
        exact ⟨rfl, by dsimp only; omega, by omega⟩
    · rw [if_neg (fun w => by rw [w.1] at h3; cases h3)]
      refine ⟨by rw [e1]; omega, Or.inr ⟨h1, by rw [e1]; omega, ?_⟩⟩
      rw [h3, cu_k (by omega), cu_f (by decide)]
  · rw [if_neg z, if_neg (fun w => z w.2)]
    exact ⟨h0, h⟩
theorem gREL_itr {q : Int → Bool} {v : Int → Int} {i : Int} (hi : -1 ≤ i) : ∀ (n : Nat) (s : Int) (d : Cs) (b : Option Int × Int), gREL i d b → gREL i (itr (gcl q v) n s d) (itr (gse q v i) n s b)
  | 0, _, _, _, h => h
  | n + 1, s, d, b, h => by
    rw [itr_S, itr_S]
    exact gREL_itr hi n (s + 1) _ _ (gREL_step h hi)
theorem gREL_fin {i : Int} {d : Cs} {b : Option Int × Int} (h : gREL i d b) : gtell i d = gfin i b := by
  obtain ⟨h0, h⟩ := h
  unfold gtell gfin
  rcases h with ⟨h1, h2, h3⟩ | ⟨h1, h2, h3⟩
  · rw [h1]
    dsimp only
    by_cases z : i = -1
    · rw [if_pos z, if_pos z, h2]
    · rw [if_neg z, if_neg z, if_neg (by omega)]
  · rw [h3, if_neg (by omega), if_pos h2]
theorem gse_some {q : Int → Bool} {v : Int → Int} {i x m : Int} : ∀ (n : Nat) (s : Int), itr (gse q v i) n s (some x, m) = (some x, m)
  | 0, _ => rfl
  | n + 1, s => by
    rw [itr_S]
    have : gse q v i s (some x, m) = (some x, m) := by unfold gse; rw [if_neg (fun w => by cases w.1)]
    rw [this, gse_some n]
theorem gcl_f {q : Int → Bool} {v : Int → Int} {s : Int} {d : Cs} {f : Nat} (h0 : f ≠ 0) (h1 : f ≠ 1) : gcl q v s d f = d f := by
  unfold gcl
  split
  · funext k; rw [cu_f h0, cu_f h1]
  · rfl
theorem gcl_1 {q : Int → Bool} {v : Int → Int} {s : Int} {d : Cs} : gcl q v s d 1 0 = d 1 0 ∨ gcl q v s d 1 0 = d 1 0 + 1 := by
  unfold gcl
  split
  · rw [cu_f (by decide), cu_s]; exact Or.inr rfl
  · exact Or.inl rfl
/-! the sets -/
def alw (y : Cs) (N s : Int) : Bool := allb (fun p => !(bt s p.toNat && y 2 p == -2)) N.toNat 0
def pst (N s u p : Int) (y : Cs) : Cs := if bt s p.toNat = true then cu y 0 (if p + 1 = N then 0 else p + 1) (max (y 0 (if p + 1 = N then 0 else p + 1)) (min (y 0 (if p + 1 = N then 0 else p + 1) + u) 9999)) else y
def aft (φ : Phi) (P y : Cs) (u : Int) (n : Nat) (s : Int) : Cs := mits φ P n (itr (pst (P 3 0) s u) (P 3 0).toNat 0 y)
def rst (φ : Phi) (P y : Cs) (u : Int) (n : Nat) (s : Int) : Bool := allb (fun p => (y 2 p == -2) || decide (aft φ P y u n (z_ixor s (z_ishl 1 p)) 7 (y 2 p) ≤ aft φ P y u n s 7 (y 2 p))) (P 3 0).toNat 0
def rsq (φ : Phi) (P y : Cs) (u : Int) (n : Nat) (s : Int) : Bool := alw y (P 3 0) s && rst φ P y u n s
def rsv (φ : Phi) (P y : Cs) (u : Int) (n : Nat) (i : Int) : Int := gfin i (itr (gse (rsq φ P y u n) (fun s => s) i) (z_ishl 1 (P 3 0)).toNat 0 (none, 0))
def plb (y : Cs) (p b : Int) : Int := if y 2 p = -2 then b else z_ior b (z_ishl 1 p)
def plr (y : Cs) (N : Int) : Int := itr (plb y) N.toNat 0 0
theorem plr_bit (y : Cs) : ∀ (n : Nat) (i b : Int) (j : Nat), 0 ≤ i → i + n ≤ 8 → j < 8 → bt (itr (plb y) n i b) j = (bt b j || decide (i ≤ (j : Int) ∧ (j : Int) < i + n ∧ y 2 j ≠ -2))
  | 0, i, b, j, _, _, _ => by
    have : ¬ (i ≤ (j : Int) ∧ (j : Int) < i + ((0 : Nat) : Int) ∧ y 2 j ≠ -2) := by omega
    simp only [itr, this, decide_false, Bool.or_false]
  | n + 1, i, b, j, h0, h1, hj => by
    rw [itr_S, plr_bit y n (i + 1) _ j (by omega) (by omega) hj]
    unfold plb
    by_cases e : (j : Int) = i
    · have n1 : ¬ (i + 1 ≤ (j : Int) ∧ (j : Int) < i + 1 + (n : Int) ∧ y 2 j ≠ -2) := by omega
      by_cases z : y 2 i = -2
      · have n2 : ¬ (i ≤ (j : Int) ∧ (j : Int) < i + ((n + 1 : Nat) : Int) ∧ y 2 j ≠ -2) := fun w => w.2.2 (by rw [e]; exact z)
        rw [if_pos z]
        simp only [n1, n2]
      · have n2 : (i ≤ (j : Int) ∧ (j : Int) < i + ((n + 1 : Nat) : Int) ∧ y 2 j ≠ -2) := ⟨by omega, by omega, by rw [e]; exact z⟩
        rw [if_neg z, bt_or, bt_sh (by omega) (by omega)]
        rw [decide_eq_true e, decide_eq_true n2]
        simp only [Bool.or_true, Bool.true_or]
    · have n3 : (i + 1 ≤ (j : Int) ∧ (j : Int) < i + 1 + (n : Int) ∧ y 2 j ≠ -2) ↔ (i ≤ (j : Int) ∧ (j : Int) < i + ((n + 1 : Nat) : Int) ∧ y 2 j ≠ -2) := by
        constructor
        · rintro ⟨a, b, c⟩; exact ⟨by omega, by omega, c⟩
        · rintro ⟨a, b, c⟩; exact ⟨by omega, by omega, c⟩
      split
      · simp only [n3]
      · rw [bt_or, bt_sh (by omega) (by omega)]
        simp only [n3, e, decide_false, Bool.or_false]
theorem plr_is {y : Cs} {N : Int} (hN : 0 ≤ N ∧ N ≤ 8) {j : Nat} (hj : j < 8) : bt (plr y N) j = true ↔ (j : Int) < N ∧ y 2 j ≠ -2 := by
  unfold plr
  rw [plr_bit y N.toNat 0 0 j (by omega) (by omega) hj, bt_0, Bool.false_or, decide_eq_true_iff]
  constructor
  · rintro ⟨a, b, c⟩; exact ⟨by omega, c⟩
  · rintro ⟨a, b⟩; exact ⟨by omega, by omega, b⟩
theorem bt_lim {s N : Int} (hN : 0 ≤ N ∧ N ≤ 8) (h0 : 0 ≤ s) (h1 : s < z_ishl 1 N) {i : Nat} (hi : N ≤ i) : bt s i = false := by
  have e := pow_sh ⟨N.toNat, by omega⟩
  rw [show ((⟨N.toNat, by omega⟩ : Fin 9).val : Int) = N by show (N.toNat : Int) = N; omega] at e
  rw [e] at h1
  have h2 : s.toNat < 2 ^ N.toNat := by
    have : ((2 ^ N.toNat : Nat) : Int) = (2 : Int) ^ N.toNat := by simp
    have h3 : s < ((2 ^ N.toNat : Nat) : Int) := by rw [this]; exact h1
    omega
  unfold bt
  have e : (Int32.ofInt s).toBitVec = BitVec.ofNat 32 s.toNat := by
    show BitVec.ofInt 32 s = BitVec.ofNat 32 s.toNat
    have := sh_in hN
    apply BitVec.eq_of_toNat_eq
    rw [BitVec.toNat_ofInt, BitVec.toNat_ofNat]
    have h4 : (2 : Nat) ^ N.toNat ≤ 2 ^ 8 := Nat.pow_le_pow_right (by decide) (by omega)
    omega
  rw [e, BitVec.getLsbD_ofNat]
  have : s.toNat.testBit i = false := Nat.testBit_lt_two_pow (Nat.lt_of_lt_of_le h2 (Nat.pow_le_pow_right (by decide) (by omega)))
  rw [this, Bool.and_false]
theorem alw_is {y : Cs} {N s : Int} (hN : 0 ≤ N ∧ N ≤ 8) (h0 : 0 ≤ s) (h1 : s < z_ishl 1 N) : z_iand s (z_ixor (plr y N) (-1)) = 0 ↔ alw y N s = true := by
  have h2 := sh_in hN
  rw [sub_bits (by omega)]
  unfold alw
  rw [allb_is]
  constructor
  · intro h k a b
    cases hb : bt s k.toNat with
    | false => rfl
    | true =>
      have := (plr_is hN (j := k.toNat) (by omega)).mp (h k.toNat (by omega) hb)
      rw [show ((k.toNat : Nat) : Int) = k by omega] at this
      simp [this.2]
  · intro h i hi hb
    rw [plr_is hN hi]
    by_cases z : (i : Int) < N
    · refine ⟨z, fun w => ?_⟩
      have := h i (by omega) (by omega)
      rw [show ((i : Int)).toNat = i by omega, hb, w] at this
      cases this
    · rw [bt_lim hN h0 h1 (by omega)] at hb
      cases hb
/-- with one bit the other way, of one that may, it stays allowed -/
theorem alw_xor {y : Cs} {N s p : Int} (hN : 0 ≤ N ∧ N ≤ 8) (hp : 0 ≤ p ∧ p < N) (hs : alw y N s = true) (h2 : y 2 p ≠ -2) : alw y N (z_ixor s (z_ishl 1 p)) = true := by
  unfold alw at hs ⊢
  rw [allb_is] at hs ⊢
  intro k a b
  rw [bt_xor, bt_sh (by omega) (by omega), show ((k.toNat : Nat) : Int) = k by omega]
  by_cases z : k = p
  · rw [z]; simp [h2]
  · have := hs k a b
    simp only [z, decide_false, Bool.xor_false]
    exact this
theorem xor_lim {s N p : Int} (hN : 0 ≤ N ∧ N ≤ 8) (h0 : 0 ≤ s) (h1 : s < z_ishl 1 N) (hp : 0 ≤ p ∧ p < N) : 0 ≤ z_ixor s (z_ishl 1 p) ∧ z_ixor s (z_ishl 1 p) < z_ishl 1 N := by
  have e := pow_sh ⟨N.toNat, by omega⟩
  rw [show ((⟨N.toNat, by omega⟩ : Fin 9).val : Int) = N by show (N.toNat : Int) = N; omega] at e
  have h2 := sh_in hN
  have hx := xor_in (s := s) (p := p) (by omega) (by omega)
  refine ⟨hx.1, ?_⟩
  rw [e]
  have hlt : (Int32.ofInt (z_ixor s (z_ishl 1 p))).toBitVec.toNat < 2 ^ N.toNat := by
    apply Nat.lt_pow_two_of_testBit
    intro i hi
    by_cases z : i < 32
    · have : bt (z_ixor s (z_ishl 1 p)) i = false := by
        rw [bt_xor, bt_lim hN h0 h1 (by omega), bt_sh (by omega) z]
        have : ¬ (i : Int) = p := by omega
        simp [this]
      exact this
    · exact Nat.testBit_lt_two_pow (Nat.lt_of_lt_of_le (BitVec.isLt _) (Nat.pow_le_pow_right (by decide) (by omega)))
  have e2 : z_ixor s (z_ishl 1 p) = (Int32.ofInt (z_ixor s (z_ishl 1 p))).toBitVec.toInt := (r_int (z_ixor_r _ _)).symm
  have h8 : (2 : Nat) ^ N.toNat ≤ 2 ^ 8 := Nat.pow_le_pow_right (by decide) (by omega)
  rw [BitVec.toInt_eq_toNat_cond, if_pos (by omega)] at e2
  have : ((2 ^ N.toNat : Nat) : Int) = (2 : Int) ^ N.toNat := by simp
  show z_ixor s (z_ishl 1 p) < (2 : Int) ^ N.toNat
  rw [← this]
  omega
/-! Game's methods -/
theorem l_Ga_players {g : Mach} {Q : Int → St → Prop} (C : Cx M_Ga_players g) (F : FinI M_Ga_players g Q) {σ : St} (hN : 0 ≤ σ 7 3 0 ∧ σ 7 3 0 ≤ 8) :
    ∀ (n : Nat) (i b : Int), 0 ≤ i → i + n = σ 7 3 0 → R32 b → Q (itr (plb (σ 18)) n i b) σ → Ev g 4 [some (.inr (.inr (7, 0))), some (.inr (.inr (18, 0))), some (.inl b), some (.inl i)] [] σ := by
  intro n
  induction n with
  | zero =>
    intro i b h0 h1 hb hQ
    refine e_iload_n C d_Ga_players_4 rfl ?_
    refine e_aload_n C d_Ga_players_5 rfl ?_
    refine e_geti C fl_Ga_40 (by decide) rfl rfl d_Ga_players_6 (fun r_6 => ?_)
    refine e_icmp_ge C 39 d_Ga_players_9 (by decide) (by omega) (by omega) (fun c_9 => ?_) (fun c_9 => ?_)
    · refine e_iload_n C d_Ga_players_39 rfl ?_
      refine e_iret C F rfl d_Ga_players_40 hb ?_
      exact hQ
    · exact absurd h1 (by omega)
  | succ n ih =>
    intro i b h0 h1 hb hQ
    rw [itr_S] at hQ
    unfold plb at hQ
    refine e_iload_n C d_Ga_players_4 rfl ?_
    refine e_aload_n C d_Ga_players_5 rfl ?_
    refine e_geti C fl_Ga_40 (by decide) rfl rfl d_Ga_players_6 (fun r_6 => ?_)
    refine e_icmp_ge C 39 d_Ga_players_9 (by decide) (by omega) (by omega) (fun c_9 => ?_) (fun c_9 => ?_)
    · exact absurd h1 (by omega)
    · refine e_iload_n C d_Ga_players_12 rfl ?_
      refine e_aload_n C d_Ga_players_13 rfl ?_
      refine e_geta C fl_Ga_68 (by decide) rfl rfl d_Ga_players_14 ?_
      refine e_iload_n C d_Ga_players_17 rfl ?_
      refine e_iald (n := 8) C (by decide) rfl (by decide) rfl rfl (by decide) (by omega) (by omega) d_Ga_players_18 (fun r_18 => ?_)
      refine e_bipush C d_Ga_players_19 (by decide) ?_
      refine e_icmp_ne C 28 d_Ga_players_21 (by decide) (by omega) (by omega) (fun c_21 => ?_) (fun c_21 => ?_)
      · rw [if_neg (by omega)] at hQ
        refine e_iconst C d_Ga_players_28 ?_
        refine e_iload_n C d_Ga_players_29 rfl ?_
        refine e_ishl C d_Ga_players_30 ?_
        refine e_ior C d_Ga_players_31 ?_
        refine e_istore_n C d_Ga_players_32 (by decide) rfl ?_
        refine e_iinc C d_Ga_players_33 rfl (by decide) rfl ?_
        refine e_goto C 4 d_Ga_players_36 (by decide) ?_
        first
          | exact ih (i + 1) _ (by omega) (by omega) (z_ior_r _ _) hQ
          | (rw [z_ior_0 hb]; exact ih (i + 1) _ (by omega) (by omega) hb hQ)
      · rw [if_pos (by omega)] at hQ
        refine e_iconst C d_Ga_players_24 ?_
        refine e_goto C 31 d_Ga_players_25 (by decide) ?_
        refine e_ior C d_Ga_players_31 ?_
        refine e_istore_n C d_Ga_players_32 (by decide) rfl ?_
        refine e_iinc C d_Ga_players_33 rfl (by decide) rfl ?_
        refine e_goto C 4 d_Ga_players_36 (by decide) ?_
        first
          | exact ih (i + 1) _ (by omega) (by omega) (z_ior_r _ _) hQ
          | (rw [z_ior_0 hb]; exact ih (i + 1) _ (by omega) (by omega) hb hQ)
theorem k_Ga_players {σ : St} (hN : 0 ≤ σ 7 3 0 ∧ σ 7 3 0 ≤ 8) : CtI M_Ga_players [.inr (.inr (7, 0)), .inr (.inr (18, 0))] σ (fun r u => r = plr (σ 18) (σ 7 3 0) ∧ u = σ) := by
  intro g C F
  refine e_iconst C d_Ga_players_0 ?_
  refine e_istore_n C d_Ga_players_1 (by decide) rfl ?_
  refine e_iconst C d_Ga_players_2 ?_
  refine e_istore_n C d_Ga_players_3 (by decide) rfl ?_
  exact l_Ga_players C F hN _ 0 0 (by omega) (by omega) (by omega) ⟨rfl, rfl⟩
theorem l_Ga_putPinches {g : Mach} {Q : St → Prop} (C : Cx M_Ga_putPinches g) (F : FinV M_Ga_putPinches g Q) {σ : St} {N s u : Int} (hN : 0 ≤ N ∧ N ≤ 8) (hu : 1 ≤ u ∧ u ≤ 99) :
    ∀ (n : Nat) (i : Int) (c : Cs), 0 ≤ i → i + n = N → (∀ p, 0 ≤ p → p < 8 → 0 ≤ c 0 p ∧ c 0 p ≤ 1000000000 + 1000 * i) → Q (so σ 21 (itr (pst N s u) n i c)) → Ev g 3 [some (.inr (.inr (12, 0))), some (.inl N), some (.inl s), some (.inl u), some (.inl i), none, none] [] (so σ 21 c) := by
  intro n
  induction n with
  | zero =>
    intro i c h0 h1 hc hQ
    refine e_iload C d_Ga_putPinches_3 rfl ?_
    refine e_iload_n C d_Ga_putPinches_5 rfl ?_
    refine e_icmp_ge C 80 d_Ga_putPinches_6 (by decide) (by omega) (by omega) (fun c_6 => ?_) (fun c_6 => ?_)
    · refine e_vret C F rfl d_Ga_putPinches_80 ?_
      exact hQ
    · exact absurd h1 (by omega)
  | succ n ih =>
    intro i c h0 h1 hc hQ
    have hb := bit_is (x := s) (p := i) (by omega)
    rw [itr_S] at hQ
    unfold pst at hQ
    refine e_iload C d_Ga_putPinches_3 rfl ?_
    refine e_iload_n C d_Ga_putPinches_5 rfl ?_
    refine e_icmp_ge C 80 d_Ga_putPinches_6 (by decide) (by omega) (by omega) (fun c_6 => ?_) (fun c_6 => ?_)
    · exact absurd h1 (by omega)
    · refine e_iload_n C d_Ga_putPinches_9 rfl ?_
      refine e_iload C d_Ga_putPinches_10 rfl ?_
      refine e_ishr C d_Ga_putPinches_12 ?_
      refine e_iconst C d_Ga_putPinches_13 ?_
      refine e_iand C d_Ga_putPinches_14 ?_
      rw [hb]
      refine e_iconst C d_Ga_putPinches_15 ?_
      refine e_icmp_ne C 74 d_Ga_putPinches_16 (by decide) (by split <;> omega) (by omega) (fun c_16 => ?_) (fun c_16 => ?_)
      · rw [if_neg (fun z => by rw [if_pos z] at c_16; omega)] at hQ
        refine e_iinc C d_Ga_putPinches_74 rfl (by decide) rfl ?_
        refine e_goto C 3 d_Ga_putPinches_77 (by decide) ?_
        refine e_drop 5 ?_
        refine e_drop 6 ?_
        refine ih (i + 1) _ (by omega) (by omega) (fun p a b => ?_) hQ
        have hcp := hc p a b
        first
          | (rw [cu_if]; split <;> omega)
          | omega
      · rw [if_pos (Decidable.byContradiction fun z => by rw [if_neg z] at c_16; omega)] at hQ
        refine e_iload C d_Ga_putPinches_19 rfl ?_
        refine e_iconst C d_Ga_putPinches_21 ?_
        refine e_iadd C d_Ga_putPinches_22 ?_
        refine e_iload_n C d_Ga_putPinches_23 rfl ?_
        refine e_icmp_ne C 31 d_Ga_putPinches_24 (by decide) (by omega) (by omega) (fun c_24 => ?_) (fun c_24 => ?_)
        · rw [if_neg (show ¬ i + 1 = N by omega)] at hQ
          have hci := hc (i + 1) (by omega) (by omega)
          refine e_iload C d_Ga_putPinches_31 rfl ?_
          refine e_iconst C d_Ga_putPinches_33 ?_
          refine e_iadd C d_Ga_putPinches_34 ?_
          refine e_istore C d_Ga_putPinches_35 (by decide) rfl ?_
          refine e_aload_n C d_Ga_putPinches_37 rfl ?_
          refine e_geto (o2 := 21) C fl_Ga_18 (by decide) rfl rfl rfl d_Ga_putPinches_38 ?_
          refine e_geta C fl_Ga_71 (by decide) rfl rfl d_Ga_putPinches_41 ?_
          refine e_iload C d_Ga_putPinches_44 rfl ?_
          refine e_iald (n := 8) C (by decide) rfl (by decide) rfl rfl (by decide) (by omega) (by omega) d_Ga_putPinches_46 (fun r_46 => ?_)
          try simp only [so_at, wr_so, so_so] at r_46 ⊢
          refine e_istore C d_Ga_putPinches_47 (by decide) rfl ?_
          refine e_aload_n C d_Ga_putPinches_49 rfl ?_
          refine e_geto (o2 := 21) C fl_Ga_18 (by decide) rfl rfl rfl d_Ga_putPinches_50 ?_
          refine e_geta C fl_Ga_71 (by decide) rfl rfl d_Ga_putPinches_53 ?_
          refine e_iload C d_Ga_putPinches_56 rfl ?_
          refine e_iload C d_Ga_putPinches_58 rfl ?_
          refine e_iload C d_Ga_putPinches_60 rfl ?_
          refine e_iload_n C d_Ga_putPinches_62 rfl ?_
          refine e_iadd C d_Ga_putPinches_63 ?_
          refine e_sipush C d_Ga_putPinches_64 (by decide) ?_
          refine e_mmin C lk_Ga_74 d_Ga_putPinches_67 (by decide) (Nat.le_of_ble_eq_true rfl) (by omega) (by omega) ?_
          refine e_mmax C lk_Ga_80 d_Ga_putPinches_70 (by decide) (Nat.le_of_ble_eq_true rfl) (by omega) (by omega) ?_
          refine e_iast (n := 8) C (by decide) rfl (by decide) rfl rfl (by decide) (by omega) (by omega) (by omega) d_Ga_putPinches_73 ?_
          try simp only [so_at, wr_so, so_so]
          refine e_iinc C d_Ga_putPinches_74 rfl (by decide) rfl ?_
          refine e_goto C 3 d_Ga_putPinches_77 (by decide) ?_
          refine e_drop 5 ?_
          refine e_drop 6 ?_
          refine ih (i + 1) _ (by omega) (by omega) (fun p a b => ?_) hQ
          have hcp := hc p a b
          first
            | (rw [cu_if]; split <;> omega)
            | omega
        · rw [if_pos (show i + 1 = N by omega)] at hQ
          have hci := hc 0 (by omega) (by omega)
          refine e_iconst C d_Ga_putPinches_27 ?_
          refine e_goto C 35 d_Ga_putPinches_28 (by decide) ?_
          refine e_istore C d_Ga_putPinches_35 (by decide) rfl ?_
          refine e_aload_n C d_Ga_putPinches_37 rfl ?_
          refine e_geto (o2 := 21) C fl_Ga_18 (by decide) rfl rfl rfl d_Ga_putPinches_38 ?_
          refine e_geta C fl_Ga_71 (by decide) rfl rfl d_Ga_putPinches_41 ?_
          refine e_iload C d_Ga_putPinches_44 rfl ?_
          refine e_iald (n := 8) C (by decide) rfl (by decide) rfl rfl (by decide) (by omega) (by omega) d_Ga_putPinches_46 (fun r_46 => ?_)
          try simp only [so_at, wr_so, so_so] at r_46 ⊢
          refine e_istore C d_Ga_putPinches_47 (by decide) rfl ?_
          refine e_aload_n C d_Ga_putPinches_49 rfl ?_
          refine e_geto (o2 := 21) C fl_Ga_18 (by decide) rfl rfl rfl d_Ga_putPinches_50 ?_
          refine e_geta C fl_Ga_71 (by decide) rfl rfl d_Ga_putPinches_53 ?_
          refine e_iload C d_Ga_putPinches_56 rfl ?_
          refine e_iload C d_Ga_putPinches_58 rfl ?_
          refine e_iload C d_Ga_putPinches_60 rfl ?_
          refine e_iload_n C d_Ga_putPinches_62 rfl ?_
          refine e_iadd C d_Ga_putPinches_63 ?_
          refine e_sipush C d_Ga_putPinches_64 (by decide) ?_
          refine e_mmin C lk_Ga_74 d_Ga_putPinches_67 (by decide) (Nat.le_of_ble_eq_true rfl) (by omega) (by omega) ?_
          refine e_mmax C lk_Ga_80 d_Ga_putPinches_70 (by decide) (Nat.le_of_ble_eq_true rfl) (by omega) (by omega) ?_
          refine e_iast (n := 8) C (by decide) rfl (by decide) rfl rfl (by decide) (by omega) (by omega) (by omega) d_Ga_putPinches_73 ?_
          try simp only [so_at, wr_so, so_so]
          refine e_iinc C d_Ga_putPinches_74 rfl (by decide) rfl ?_
          refine e_goto C 3 d_Ga_putPinches_77 (by decide) ?_
          refine e_drop 5 ?_
          refine e_drop 6 ?_
          refine ih (i + 1) _ (by omega) (by omega) (fun p a b => ?_) hQ
          have hcp := hc p a b
          first
            | (rw [cu_if]; split <;> omega)
            | omega
theorem k_Ga_putPinches {σ : St} {N s u : Int} {c : Cs} (hN : 0 ≤ N ∧ N ≤ 8) (hu : 1 ≤ u ∧ u ≤ 99) (hc : ∀ p, 0 ≤ p → p < 8 → 0 ≤ c 0 p ∧ c 0 p ≤ 1000000000) : CtV M_Ga_putPinches [.inr (.inr (12, 0)), .inl N, .inl s, .inl u] (so σ 21 c) (fun w => w = so σ 21 (itr (pst N s u) N.toNat 0 c)) := by
  intro g C F
  refine e_iconst C d_Ga_putPinches_0 ?_
  refine e_istore C d_Ga_putPinches_1 (by decide) rfl ?_
  exact l_Ga_putPinches C F hN hu _ 0 c (by omega) (by omega) (fun p a b => by have := hc p a b; omega) rfl
/-- the store with Game's own fields -/
abbrev GF (σ : St) (d l c : Cs) : St := SF (so σ 12 d) 21 l c
theorem GF_w (σ : St) (d d' l c : Cs) : so (GF σ d l c) 12 d' = GF σ d' l c := by
  funext o
  unfold GF SF so
  by_cases h : o = 12
  · subst h; simp
  · simp [h]
theorem GF_12 (σ : St) (d l c : Cs) : GF σ d l c 12 = d := by unfold GF SF; rw [so_ne (by decide), so_ne (by decide), so_at]
theorem GF_21 (σ : St) (d l c : Cs) : GF σ d l c 21 = c := by unfold GF SF; rw [so_at]
theorem GF_o {σ : St} {d l c : Cs} {o : Nat} (h11 : o ≠ 12) (h8 : o ≠ 8) (h20 : o ≠ 21) : GF σ d l c o = σ o := by unfold GF SF; rw [so_ne h20, so_ne h8, so_ne h11]
theorem G_7 (σ : St) (d : Cs) : so σ 12 d 7 = σ 7 := so_ne (by decide)
theorem G_18 (σ : St) (d : Cs) : so σ 12 d 18 = σ 18 := so_ne (by decide)
def nsl (d w c : Cs) (s i : Int) : Cs := fun f k => if f = 4 ∧ s * 8 ≤ k ∧ k < s * 8 + i then (if w 2 (k - s * 8) = -2 then 0 else c 7 (w 2 (k - s * 8))) else d f k
theorem nsl_S {d w c : Cs} {s i : Int} (h : 0 ≤ i) : cu (nsl d w c s i) 4 (s * 8 + i) (if w 2 i = -2 then 0 else c 7 (w 2 i)) = nsl d w c s (i + 1) := by
  funext f k
  rw [cu_if]
  unfold nsl
  by_cases z : f = 4 ∧ k = s * 8 + i
  · rw [if_pos z, if_pos (show f = 4 ∧ s * 8 ≤ k ∧ k < s * 8 + (i + 1) by omega), show k - s * 8 = i by omega]
  · rw [if_neg z]
    by_cases z2 : f = 4 ∧ s * 8 ≤ k ∧ k < s * 8 + i
    · rw [if_pos z2, if_pos (show f = 4 ∧ s * 8 ≤ k ∧ k < s * 8 + (i + 1) by omega)]
    · rw [if_neg z2, if_neg (show ¬ (f = 4 ∧ s * 8 ≤ k ∧ k < s * 8 + (i + 1)) by omega)]
theorem l_Ga_noteSleeps {g : Mach} {Q : St → Prop} (C : Cx M_Ga_noteSleeps g) (F : FinV M_Ga_noteSleeps g Q) {σ : St} {N s : Int} {d l c : Cs} (hN : 0 ≤ N ∧ N ≤ 8) (hs : 0 ≤ s ∧ s < 256) (hw : ∀ p, 0 ≤ p → p < N → σ 18 2 p = -2 ∨ (0 ≤ σ 18 2 p ∧ σ 18 2 p < 12)) :
    ∀ (n : Nat) (i : Int), 0 ≤ i → i + n = N → Q (GF σ (nsl d (σ 18) c s N) l c) → Ev g 3 [some (.inr (.inr (12, 0))), some (.inl N), some (.inr (.inr (18, 0))), some (.inl s), some (.inl i), none] [] (GF σ (nsl d (σ 18) c s i) l c) := by
  intro n
  induction n with
  | zero =>
    intro i h0 h1 hQ
    refine e_iload C d_Ga_noteSleeps_3 rfl ?_
    refine e_iload_n C d_Ga_noteSleeps_5 rfl ?_
    refine e_icmp_ge C 57 d_Ga_noteSleeps_6 (by decide) (by omega) (by omega) (fun c_6 => ?_) (fun c_6 => ?_)
    · refine e_vret C F rfl d_Ga_noteSleeps_57 ?_
      rw [show i = N by omega]
      exact hQ
    · exact absurd h1 (by omega)
  | succ n ih =>
    intro i h0 h1 hQ
    have hwi := hw i h0 (by omega)
    have e18 : GF σ (nsl d (σ 18) c s i) l c 18 = σ 18 := GF_o (by decide) (by decide) (by decide)
    have hst := nsl_S (d := d) (w := σ 18) (c := c) (s := s) h0
    refine e_iload C d_Ga_noteSleeps_3 rfl ?_
    refine e_iload_n C d_Ga_noteSleeps_5 rfl ?_
    refine e_icmp_ge C 57 d_Ga_noteSleeps_6 (by decide) (by omega) (by omega) (fun c_6 => ?_) (fun c_6 => ?_)
    · exact absurd h1 (by omega)
    · refine e_aload_n C d_Ga_noteSleeps_9 rfl ?_
      refine e_geta C fl_Ga_68 (by decide) rfl rfl d_Ga_noteSleeps_10 ?_
      refine e_iload C d_Ga_noteSleeps_13 rfl ?_
      refine e_iald (n := 8) C (by decide) rfl (by decide) rfl rfl (by decide) (by omega) (by omega) d_Ga_noteSleeps_15 (fun r_15 => ?_)
      try simp only [wr_so, GF_12, GF_21, GF_w, e18] at r_15 ⊢
      refine e_istore C d_Ga_noteSleeps_16 (by decide) rfl ?_
      refine e_aload_n C d_Ga_noteSleeps_18 rfl ?_
      refine e_geta C fl_Ga_22 (by decide) rfl rfl d_Ga_noteSleeps_19 ?_
      refine e_iload_n C d_Ga_noteSleeps_22 rfl ?_
      refine e_bipush C d_Ga_noteSleeps_23 (by decide) ?_
      refine e_imul C d_Ga_noteSleeps_25 ?_
      refine e_iload C d_Ga_noteSleeps_26 rfl ?_
      refine e_iadd C d_Ga_noteSleeps_28 ?_
      refine e_iload C d_Ga_noteSleeps_29 rfl ?_
      refine e_bipush C d_Ga_noteSleeps_31 (by decide) ?_
      refine e_icmp_ne C 40 d_Ga_noteSleeps_33 (by decide) (by omega) (by omega) (fun c_33 => ?_) (fun c_33 => ?_)
      · rw [if_neg (by omega)] at hst
        refine e_aload_n C d_Ga_noteSleeps_40 rfl ?_
        refine e_geto (o2 := 21) C fl_Ga_18 (by decide) rfl rfl rfl d_Ga_noteSleeps_41 ?_
        refine e_geta C fl_Ga_83 (by decide) rfl rfl d_Ga_noteSleeps_44 ?_
        refine e_iload C d_Ga_noteSleeps_47 rfl ?_
        refine e_iald (n := 12) C (by decide) rfl (by decide) rfl rfl (by decide) (by omega) (by omega) d_Ga_noteSleeps_49 (fun r_49 => ?_)
        try simp only [wr_so, GF_12, GF_21, GF_w, e18] at r_49 ⊢
        refine e_iast (n := 2048) C (by decide) rfl (by decide) rfl rfl (by decide) (by omega) (by omega) (by omega) d_Ga_noteSleeps_50 ?_
        try simp only [wr_so, GF_12, GF_21, GF_w, e18]
        refine e_iinc C d_Ga_noteSleeps_51 rfl (by decide) rfl ?_
        refine e_goto C 3 d_Ga_noteSleeps_54 (by decide) ?_
        refine e_drop 5 ?_
        rw [hst]
        exact ih (i + 1) (by omega) (by omega) hQ
      · rw [if_pos (by omega)] at hst
        refine e_iconst C d_Ga_noteSleeps_36 ?_
        refine e_goto C 50 d_Ga_noteSleeps_37 (by decide) ?_
        refine e_iast (n := 2048) C (by decide) rfl (by decide) rfl rfl (by decide) (by omega) (by omega) (by omega) d_Ga_noteSleeps_50 ?_
        try simp only [wr_so, GF_12, GF_21, GF_w, e18]
        refine e_iinc C d_Ga_noteSleeps_51 rfl (by decide) rfl ?_
        refine e_goto C 3 d_Ga_noteSleeps_54 (by decide) ?_
        refine e_drop 5 ?_
        rw [hst]
        exact ih (i + 1) (by omega) (by omega) hQ
theorem k_Ga_noteSleeps {σ : St} {N s : Int} {d l c : Cs} (hN : 0 ≤ N ∧ N ≤ 8) (hs : 0 ≤ s ∧ s < 256) (hw : ∀ p, 0 ≤ p → p < N → σ 18 2 p = -2 ∨ (0 ≤ σ 18 2 p ∧ σ 18 2 p < 12)) : CtV M_Ga_noteSleeps [.inr (.inr (12, 0)), .inl N, .inr (.inr (18, 0)), .inl s] (GF σ d l c) (fun u => u = GF σ (nsl d (σ 18) c s N) l c) := by
  intro g C F
  refine e_iconst C d_Ga_noteSleeps_0 ?_
  refine e_istore C d_Ga_noteSleeps_1 (by decide) rfl ?_
  have e : nsl d (σ 18) c s 0 = d := by
    funext f k
    unfold nsl
    rw [if_neg (by omega)]
  have := l_Ga_noteSleeps (d := d) (l := l) (c := c) C F hN hs hw _ 0 (by omega) (show 0 + ((N.toNat : Nat) : Int) = N by omega) rfl
  rw [e] at this
  exact this
def atr (d : Cs) (w s p : Int) : Bool := !(bt w p.toNat) || decide (d 4 (z_ixor s (z_ishl 1 p) * 8 + p) ≤ d 4 (s * 8 + p))
theorem l_Ga_isAtRest {g : Mach} {Q : Int → St → Prop} (C : Cx M_Ga_isAtRest g) (F : FinI M_Ga_isAtRest g Q) {σ : St} {N w s : Int} (hN : 0 ≤ N ∧ N ≤ 8) (hs : 0 ≤ s ∧ s < 256) :
    ∀ (n : Nat) (i : Int), 0 ≤ i → i + n = N → Q (if allb (atr (σ 12) w s) n i = true then 1 else 0) σ → Ev g 3 [some (.inr (.inr (12, 0))), some (.inl N), some (.inl w), some (.inl s), some (.inl i), none] [] σ := by
  intro n
  induction n with
  | zero =>
    intro i h0 h1 hQ
    refine e_iload C d_Ga_isAtRest_3 rfl ?_
    refine e_iload_n C d_Ga_isAtRest_5 rfl ?_
    refine e_icmp_ge C 63 d_Ga_isAtRest_6 (by decide) (by omega) (by omega) (fun c_6 => ?_) (fun c_6 => ?_)
    · refine e_iconst C d_Ga_isAtRest_63 ?_
      refine e_zret C F rfl d_Ga_isAtRest_64 (by omega) ?_
      exact hQ
    · exact absurd h1 (by omega)
  | succ n ih =>
    intro i h0 h1 hQ
    have hb := bit_is (x := w) (p := i) (by omega)
    have hx := xor_in (s := s) (p := i) hs (by omega)
    rw [allb_S] at hQ
    refine e_iload C d_Ga_isAtRest_3 rfl ?_
    refine e_iload_n C d_Ga_isAtRest_5 rfl ?_
    refine e_icmp_ge C 63 d_Ga_isAtRest_6 (by decide) (by omega) (by omega) (fun c_6 => ?_) (fun c_6 => ?_)
    · exact absurd h1 (by omega)
    · refine e_iload_n C d_Ga_isAtRest_9 rfl ?_
      refine e_iconst C d_Ga_isAtRest_10 ?_
      refine e_iload C d_Ga_isAtRest_11 rfl ?_
      refine e_ishl C d_Ga_isAtRest_13 ?_
      refine e_ixor C d_Ga_isAtRest_14 ?_
      refine e_istore C d_Ga_isAtRest_15 (by decide) rfl ?_
      refine e_iload_n C d_Ga_isAtRest_17 rfl ?_
      refine e_iload C d_Ga_isAtRest_18 rfl ?_
      refine e_ishr C d_Ga_isAtRest_20 ?_
      refine e_iconst C d_Ga_isAtRest_21 ?_
      refine e_iand C d_Ga_isAtRest_22 ?_
      rw [hb]
      refine e_iconst C d_Ga_isAtRest_23 ?_
      refine e_icmp_ne C 57 d_Ga_isAtRest_24 (by decide) (by split <;> omega) (by omega) (fun c_24 => ?_) (fun c_24 => ?_)
      · have e : atr (σ 12) w s i = true := by
            unfold atr
            have : bt w i.toNat = false := by
              cases q : bt w i.toNat with
              | false => rfl
              | true => rw [if_pos q] at c_24; omega
            rw [this]; rfl
        rw [e, Bool.true_and] at hQ
        refine e_iinc C d_Ga_isAtRest_57 rfl (by decide) rfl ?_
        refine e_goto C 3 d_Ga_isAtRest_60 (by decide) ?_
        refine e_drop 5 ?_
        exact ih (i + 1) (by omega) (by omega) hQ
      · have eb : bt w i.toNat = true := by
            cases q : bt w i.toNat with
            | true => rfl
            | false => rw [if_neg (by rw [q]; decide)] at c_24; omega
        refine e_aload_n C d_Ga_isAtRest_27 rfl ?_
        refine e_geta C fl_Ga_22 (by decide) rfl rfl d_Ga_isAtRest_28 ?_
        refine e_iload C d_Ga_isAtRest_31 rfl ?_
        refine e_bipush C d_Ga_isAtRest_33 (by decide) ?_
        refine e_imul C d_Ga_isAtRest_35 ?_
        refine e_iload C d_Ga_isAtRest_36 rfl ?_
        refine e_iadd C d_Ga_isAtRest_38 ?_
        refine e_iald (n := 2048) C (by decide) rfl (by decide) rfl rfl (by decide) (by omega) (by omega) d_Ga_isAtRest_39 (fun r_39 => ?_)
        refine e_aload_n C d_Ga_isAtRest_40 rfl ?_
        refine e_geta C fl_Ga_22 (by decide) rfl rfl d_Ga_isAtRest_41 ?_
        refine e_iload_n C d_Ga_isAtRest_44 rfl ?_
        refine e_bipush C d_Ga_isAtRest_45 (by decide) ?_
        refine e_imul C d_Ga_isAtRest_47 ?_
        refine e_iload C d_Ga_isAtRest_48 rfl ?_
        refine e_iadd C d_Ga_isAtRest_50 ?_
        refine e_iald (n := 2048) C (by decide) rfl (by decide) rfl rfl (by decide) (by omega) (by omega) d_Ga_isAtRest_51 (fun r_51 => ?_)
        refine e_icmp_le C 57 d_Ga_isAtRest_52 (by decide) (by omega) (by omega) (fun c_52 => ?_) (fun c_52 => ?_)
        · have e : atr (σ 12) w s i = true := by
              unfold atr
              rw [eb, decide_eq_true (by omega)]; rfl
          rw [e, Bool.true_and] at hQ
          refine e_iinc C d_Ga_isAtRest_57 rfl (by decide) rfl ?_
          refine e_goto C 3 d_Ga_isAtRest_60 (by decide) ?_
          refine e_drop 5 ?_
          exact ih (i + 1) (by omega) (by omega) hQ
        · have e : atr (σ 12) w s i = false := by
              unfold atr
              rw [eb, decide_eq_false (by omega)]; rfl
          rw [e, Bool.false_and] at hQ
          refine e_iconst C d_Ga_isAtRest_55 ?_
          refine e_zret C F rfl d_Ga_isAtRest_56 (by omega) ?_
          exact hQ
theorem k_Ga_isAtRest {σ : St} {N w s : Int} (hN : 0 ≤ N ∧ N ≤ 8) (hs : 0 ≤ s ∧ s < 256) : CtI M_Ga_isAtRest [.inr (.inr (12, 0)), .inl N, .inl w, .inl s] σ (fun r u => r = (if allb (atr (σ 12) w s) N.toNat 0 = true then 1 else 0) ∧ u = σ) := by
  intro g C F
  refine e_iconst C d_Ga_isAtRest_0 ?_
  refine e_istore C d_Ga_isAtRest_1 (by decide) rfl ?_
  exact l_Ga_isAtRest C F hN hs _ 0 (by omega) (by omega) ⟨rfl, rfl⟩
theorem itr_cong {α : Type} {f h : Int → α → α} : ∀ (n : Nat) (i : Int) (x : α), (∀ k x, i ≤ k → k < i + n → f k x = h k x) → itr f n i x = itr h n i x
  | 0, _, _, _ => rfl
  | n + 1, i, x, e => by
    rw [itr_S, itr_S, e i x (by omega) (by omega)]
    exact itr_cong n (i + 1) _ (fun k x a b => e k x (by omega) (by omega))
theorem plr_cong {c y : Cs} {N : Int} (hN : 0 ≤ N) (h : ∀ p, 0 ≤ p → p < N → y 2 p = c 2 p) : plr c N = plr y N := by
  unfold plr
  refine itr_cong _ _ _ (fun k x a b => ?_)
  unfold plb
  rw [h k a (by omega)]
/-- a castle's numbers, and its sand in each glass -/
def CKS (B S N : Int) (c : Cs) : Prop := CK B c ∧ ∀ p, 0 ≤ p → p < N → c 0 p + c 1 p ≤ S
theorem CKS_pst {B S N s u p : Int} {c : Cs} (h : CKS B S N c) (hS : S + 100 ≤ 1000000000) (hu : 1 ≤ u ∧ u ≤ 99) (hp : 0 ≤ p ∧ p < N) (hN : N ≤ 8) : CKS B (S + 100) N (pst N s u p c) := by
  have hid : CKS B (S + 100) N c := ⟨h.1, fun p a b => by have := h.2 p a b; omega⟩
  unfold pst
  split
  · have hq : 0 ≤ (if p + 1 = N then 0 else p + 1) ∧ (if p + 1 = N then 0 else p + 1) < N := by split <;> omega
    generalize (if p + 1 = N then 0 else p + 1) = q at hq
    have h1 := h.1.2.1 q hq.1 (by omega)
    have h2 := h.2 q hq.1 hq.2
    refine ⟨CK_0 h.1 (fun _ _ => by omega), fun k a b => ?_⟩
    have h3 := h.2 k a b
    rw [cu_f (f' := 1) (by decide), cu_if]
    split
    · rename_i z; rw [z.2]; omega
    · omega
  · exact hid
theorem CKS_pstN {B N s u : Int} (hu : 1 ≤ u ∧ u ≤ 99) (hN : N ≤ 8) : ∀ (n : Nat) (i S : Int) (c : Cs), CKS B S N c → S + 100 * n ≤ 1000000000 → 0 ≤ i → i + n = N → CKS B (S + 100 * n) N (itr (pst N s u) n i c)
  | 0, _, S, c, h, _, _, _ => by simpa [itr] using h
  | n + 1, i, S, c, h, hS, h0, h1 => by
    rw [itr_S, show S + 100 * ((n + 1 : Nat) : Int) = S + 100 + 100 * n by omega]
    exact CKS_pstN hu hN n (i + 1) (S + 100) _ (CKS_pst h (by omega) hu (by omega) hN) (by omega) (by omega) (by omega)
theorem pstN_sim {P : Cs} {s u : Int} : ∀ (n : Nat) (i : Int) (c y : Cs), SIM P c y → 0 ≤ i → i + n = P 3 0 → SIM P (itr (pst (P 3 0) s u) n i c) (itr (pst (P 3 0) s u) n i y)
  | 0, _, _, _, h, _, _ => h
  | n + 1, i, c, y, h, h0, h1 => by
    rw [itr_S, itr_S]
    refine pstN_sim n (i + 1) _ _ ?_ (by omega) (by omega)
    have hq : 0 ≤ (if i + 1 = P 3 0 then 0 else i + 1) ∧ (if i + 1 = P 3 0 then 0 else i + 1) < P 3 0 := by split <;> omega
    unfold pst
    split
    · rw [h.1.1 0 _ (by decide) hq.1 hq.2]
      exact cuf_sim (by decide) (by decide) h
    · exact h
def TB (φ : Phi) (P y : Cs) (u : Int) (n : Nat) (s0 : Int) (d : Cs) : Prop := ∀ s, 0 ≤ s → s < s0 → alw y (P 3 0) s = true → ∀ p, 0 ≤ p → p < P 3 0 → d 4 (s * 8 + p) = if y 2 p = -2 then 0 else aft φ P y u n s 7 (y 2 p)
def SMf (d0 d : Cs) : Prop := ∀ f, f ≠ 4 → d f = d0 f
theorem TB_skip {φ : Phi} {P y d : Cs} {u s : Int} {n : Nat} (h : TB φ P y u n s d) (hs : ¬ alw y (P 3 0) s = true) : TB φ P y u n (s + 1) d := by
  intro s' h0 h1 ha
  by_cases e : s' = s
  · subst e; exact absurd ha hs
  · exact h s' h0 (by omega) ha
theorem TB_add {φ : Phi} {P y d w c : Cs} {u s : Int} {n : Nat} (h : TB φ P y u n s d) (hN : P 3 0 ≤ 8) (hs : 0 ≤ s) (hw : ∀ p, 0 ≤ p → p < P 3 0 → y 2 p = w 2 p) (hc : ∀ p, 0 ≤ p → p < P 3 0 → y 2 p ≠ -2 → aft φ P y u n s 7 (y 2 p) = c 7 (y 2 p)) : TB φ P y u n (s + 1) (nsl d w c s (P 3 0)) := by
  intro s' h0 h1 ha p p0 p1
  unfold nsl
  by_cases e : s' = s
  · subst e
    rw [if_pos (by omega), show s' * 8 + p - s' * 8 = p by omega, ← hw p p0 p1]
    by_cases z : y 2 p = -2
    · rw [if_pos z, if_pos z]
    · rw [if_neg z, if_neg z, hc p p0 p1 z]
  · rw [if_neg (by omega)]
    exact h s' h0 (by omega) ha p p0 p1
theorem SMf_nsl {d0 d w c : Cs} {s i : Int} (h : SMf d0 d) : SMf d0 (nsl d w c s i) := by
  intro f hf
  rw [← h f hf]
  funext k
  unfold nsl
  rw [if_neg (fun z => hf z.1)]
theorem atr_rst {φ : Phi} {P y d : Cs} {u s : Int} {n : Nat} (hN : 0 ≤ P 3 0 ∧ P 3 0 ≤ 8) (h : TB φ P y u n (z_ishl 1 (P 3 0)) d) (h0 : 0 ≤ s) (h1 : s < z_ishl 1 (P 3 0)) (ha : alw y (P 3 0) s = true) : allb (atr d (plr y (P 3 0)) s) (P 3 0).toNat 0 = rst φ P y u n s := by
  unfold rst
  refine allb_cong _ _ (fun p p0 p1 => ?_)
  unfold atr
  have hp := plr_is (y := y) hN (j := p.toNat) (by omega)
  rw [show ((p.toNat : Nat) : Int) = p by omega] at hp
  by_cases z : y 2 p = -2
  · have : bt (plr y (P 3 0)) p.toNat = false := by
      cases q : bt (plr y (P 3 0)) p.toNat with
      | false => rfl
      | true => exact absurd z (hp.mp q).2
    rw [this, z]; rfl
  · have e1 : bt (plr y (P 3 0)) p.toNat = true := hp.mpr ⟨by omega, z⟩
    have e2 : (y 2 p == -2) = false := by simpa using z
    have hx := xor_lim hN h0 h1 (p := p) ⟨p0, by omega⟩
    rw [e1, e2, h s h0 h1 ha p p0 (by omega), h _ hx.1 hx.2 (alw_xor hN ⟨p0, by omega⟩ ha z) p p0 (by omega), if_neg z, if_neg z]
    rfl
set_option maxHeartbeats 2000000 in
theorem l_Ga_findRests2 {g : Mach} {Q : St → Prop} (C : Cx M_Ga_findRests g) (F : FinV M_Ga_findRests g Q) {σ : St} {φ : Phi} {u n : Int} {y l c : Cs} (hN : 0 ≤ σ 7 3 0 ∧ σ 7 3 0 ≤ 8) (hu : R32 u) (hn : R32 n) :
    ∀ (k : Nat) (s : Int) (d : Cs), 0 ≤ s → s + k = z_ishl 1 (σ 7 3 0) → TB φ (σ 7) y u n.toNat (z_ishl 1 (σ 7 3 0)) d → (0 ≤ d 1 0 ∧ d 1 0 ≤ s) → Q (GF σ (cu (cu (cu (itr (gcl (rsq φ (σ 7) y u n.toNat) (fun s => s)) k s d) 2 0 1) 5 0 u) 6 0 n) l c) → Ev g 110 [some (.inr (.inr (12, 0))), some (.inr (.inr (7, 0))), some (.inr (.inr (18, 0))), some (.inl u), some (.inl n), some (.inl (plr y (σ 7 3 0))), some (.inl s)] [] (GF σ d l c) := by
  intro k
  have h2 := sh_in hN
  induction k with
  | zero =>
    intro s d h0 h1 hT hd hQ
    have e7 : GF σ d l c 7 = σ 7 := GF_o (by decide) (by decide) (by decide)
    refine e_iload C d_Ga_findRests_110 rfl ?_
    refine e_iconst C d_Ga_findRests_112 ?_
    refine e_aload_n C d_Ga_findRests_113 rfl ?_
    refine e_geti C fl_Ga_40 (by decide) rfl rfl d_Ga_findRests_114 (fun r_114 => ?_)
    try simp only [wr_so, GF_12, GF_w, e7] at r_114 ⊢
    refine e_ishl C d_Ga_findRests_117 ?_
    refine e_icmp_ge C 170 d_Ga_findRests_118 (by decide) (by omega) (by omega) (fun c_118 => ?_) (fun c_118 => ?_)
    · refine e_aload_n C d_Ga_findRests_170 rfl ?_
      refine e_iconst C d_Ga_findRests_171 ?_
      refine e_putz C fp_Ga_25 (by decide) rfl rfl (by omega) d_Ga_findRests_172 ?_
      try simp only [wr_so, GF_12, GF_w, e7]
      refine e_aload_n C d_Ga_findRests_175 rfl ?_
      refine e_iload_n C d_Ga_findRests_176 rfl ?_
      refine e_puti C fp_Ga_29 (by decide) rfl rfl (by omega) d_Ga_findRests_177 ?_
      try simp only [wr_so, GF_12, GF_w, e7]
      refine e_aload_n C d_Ga_findRests_180 rfl ?_
      refine e_iload C d_Ga_findRests_181 rfl ?_
      refine e_puti C fp_Ga_33 (by decide) rfl rfl (by omega) d_Ga_findRests_183 ?_
      try simp only [wr_so, GF_12, GF_w, e7]
      refine e_vret C F rfl d_Ga_findRests_186 ?_
      exact hQ
    · exact absurd h1 (by omega)
  | succ k ih =>
    intro s d h0 h1 hT hd hQ
    have e7 : GF σ d l c 7 = σ 7 := GF_o (by decide) (by decide) (by decide)
    have hal := alw_is (y := y) (s := s) hN h0 (by omega)
    have e12 : GF σ d l c 12 = d := GF_12 σ d l c
    rw [itr_S] at hQ
    have hno : rsq φ (σ 7) y u n.toNat s = false → gcl (rsq φ (σ 7) y u n.toNat) (fun s => s) s d = d := by
      intro z
      unfold gcl
      rw [if_neg (by rw [z]; decide)]
    have hyes : rsq φ (σ 7) y u n.toNat s = true → gcl (rsq φ (σ 7) y u n.toNat) (fun s => s) s d = cu (cu d 1 0 (d 1 0 + 1)) 0 (d 1 0) s := by
      intro z
      unfold gcl
      rw [if_pos z]
    refine e_iload C d_Ga_findRests_110 rfl ?_
    refine e_iconst C d_Ga_findRests_112 ?_
    refine e_aload_n C d_Ga_findRests_113 rfl ?_
    refine e_geti C fl_Ga_40 (by decide) rfl rfl d_Ga_findRests_114 (fun r_114 => ?_)
    try simp only [wr_so, GF_12, GF_w, e7, cu_f, cu_s, ne_eq, Nat.reduceEqDiff, not_false_eq_true] at r_114 ⊢
    refine e_ishl C d_Ga_findRests_117 ?_
    refine e_icmp_ge C 170 d_Ga_findRests_118 (by decide) (by omega) (by omega) (fun c_118 => ?_) (fun c_118 => ?_)
    · exact absurd h1 (by omega)
    · refine e_iload C d_Ga_findRests_121 rfl ?_
      refine e_iload C d_Ga_findRests_123 rfl ?_
      refine e_iconst C d_Ga_findRests_125 ?_
      refine e_ixor C d_Ga_findRests_126 ?_
      refine e_iand C d_Ga_findRests_127 ?_
      refine e_if_ne C 164 d_Ga_findRests_128 (by decide) (z_iand_r _ _) (fun c_128 => ?_) (fun c_128 => ?_)
      · have er : rsq φ (σ 7) y u n.toNat s = false := by
            unfold rsq
            cases q : alw y (σ 7 3 0) s with
            | false => rfl
            | true => exact absurd (hal.mpr q) c_128
        rw [hno er] at hQ
        refine e_iinc C d_Ga_findRests_164 rfl (by decide) rfl ?_
        refine e_goto C 110 d_Ga_findRests_167 (by decide) ?_
        first
          | exact ih (s + 1) d (by omega) (by omega) hT (by omega) hQ
          | (refine ih (s + 1) _ (by omega) (by omega) ?_ ?_ hQ
             · intro s' a b ha' p p0 p1
               rw [cu_f (by decide), cu_f (by decide)]
               exact hT s' a b ha' p p0 p1
             · rw [cu_f (by decide), cu_s]; omega)
      · have ha := hal.mp c_128
        have hat := atr_rst hN hT h0 (by omega) ha
        refine e_aload_n C d_Ga_findRests_131 rfl ?_
        refine e_aload_n C d_Ga_findRests_132 rfl ?_
        refine e_geti C fl_Ga_40 (by decide) rfl rfl d_Ga_findRests_133 (fun r_133 => ?_)
        try simp only [wr_so, GF_12, GF_w, e7, cu_f, cu_s, ne_eq, Nat.reduceEqDiff, not_false_eq_true] at r_133 ⊢
        refine e_iload C d_Ga_findRests_136 rfl ?_
        refine e_iload C d_Ga_findRests_138 rfl ?_
        refine e_callIV C ok_Ga_isAtRest lk_Ga_64 (o := 12) (by decide) rfl [_, _, _] rfl rfl (Nat.le_of_ble_eq_true rfl) (by decide) (Nat.le_of_ble_eq_true rfl) d_Ga_findRests_140 (k_Ga_isAtRest hN (by omega)) (fun v_140 u_140 q_140 h_140 => ?_)
        obtain ⟨h_140, rfl⟩ := h_140
        rw [e12, hat] at h_140
        refine e_if_eq C 164 d_Ga_findRests_143 (by decide) (by rw [h_140]; split <;> omega) (fun c_143 => ?_) (fun c_143 => ?_)
        · have er : rsq φ (σ 7) y u n.toNat s = false := by
              unfold rsq
              rw [ha, Bool.true_and]
              cases q : rst φ (σ 7) y u n.toNat s with
              | false => rfl
              | true => rw [q, if_pos rfl] at h_140; omega
          rw [hno er] at hQ
          refine e_iinc C d_Ga_findRests_164 rfl (by decide) rfl ?_
          refine e_goto C 110 d_Ga_findRests_167 (by decide) ?_
          first
            | exact ih (s + 1) d (by omega) (by omega) hT (by omega) hQ
            | (refine ih (s + 1) _ (by omega) (by omega) ?_ ?_ hQ
               · intro s' a b ha' p p0 p1
                 rw [cu_f (by decide), cu_f (by decide)]
                 exact hT s' a b ha' p p0 p1
               · rw [cu_f (by decide), cu_s]; omega)
        · have er : rsq φ (σ 7) y u n.toNat s = true := by
              unfold rsq
              rw [ha, Bool.true_and]
              cases q : rst φ (σ 7) y u n.toNat s with
              | true => rfl
              | false => rw [q, if_neg (by decide)] at h_140; exact absurd h_140 c_143
          rw [hyes er] at hQ
          refine e_aload_n C d_Ga_findRests_146 rfl ?_
          refine e_geta C fl_Ga_11 (by decide) rfl rfl d_Ga_findRests_147 ?_
          refine e_aload_n C d_Ga_findRests_150 rfl ?_
          refine e_dup C d_Ga_findRests_151 rfl ?_
          refine e_geti C fl_Ga_61 (by decide) rfl rfl d_Ga_findRests_152 (fun r_152 => ?_)
          try simp only [wr_so, GF_12, GF_w, e7, cu_f, cu_s, ne_eq, Nat.reduceEqDiff, not_false_eq_true] at r_152 ⊢
          refine e_dup_x1 C d_Ga_findRests_155 rfl rfl ?_
          refine e_iconst C d_Ga_findRests_156 ?_
          refine e_iadd C d_Ga_findRests_157 ?_
          refine e_puti C fp_Ga_61 (by decide) rfl rfl (by omega) d_Ga_findRests_158 ?_
          try simp only [wr_so, GF_12, GF_w, e7, cu_f, cu_s, ne_eq, Nat.reduceEqDiff, not_false_eq_true]
          refine e_iload C d_Ga_findRests_161 rfl ?_
          refine e_iast (n := 256) C (by decide) rfl (by decide) rfl rfl (by decide) (by omega) (by omega) (by omega) d_Ga_findRests_163 ?_
          try simp only [wr_so, GF_12, GF_w, e7, cu_f, cu_s, ne_eq, Nat.reduceEqDiff, not_false_eq_true]
          refine e_iinc C d_Ga_findRests_164 rfl (by decide) rfl ?_
          refine e_goto C 110 d_Ga_findRests_167 (by decide) ?_
          first
            | exact ih (s + 1) d (by omega) (by omega) hT (by omega) hQ
            | (refine ih (s + 1) _ (by omega) (by omega) ?_ ?_ hQ
               · intro s' a b ha' p p0 p1
                 rw [cu_f (by decide), cu_f (by decide)]
                 exact hT s' a b ha' p p0 p1
               · rw [cu_f (by decide), cu_s]; omega)
set_option maxHeartbeats 2000000 in
theorem l_Ga_findRests1 {g : Mach} (C : Cx M_Ga_findRests g) {σ : St} {φ : Phi} {u n B S : Int} {y d0 : Cs} (hS : SIM (σ 7) (σ 18) y) (hK : CKS B S (σ 7 3 0) (σ 18)) (hB : 0 ≤ B ∧ B < 600000000) (hSb : 0 ≤ S ∧ S ≤ 900000000) (hu : 1 ≤ u ∧ u ≤ 99) (hn : 0 ≤ n ∧ n ≤ 10000) :
    ∀ (k : Nat) (s : Int) (d l c : Cs), PlanOk (σ 7) l φ → 0 ≤ s → s + k = z_ishl 1 (σ 7 3 0) → TB φ (σ 7) y u n.toNat s d → SMf d0 d → (∀ d' l' c', LSm l l' → TB φ (σ 7) y u n.toNat (z_ishl 1 (σ 7 3 0)) d' → SMf d0 d' → Ev g 102 [some (.inr (.inr (12, 0))), some (.inr (.inr (7, 0))), some (.inr (.inr (18, 0))), some (.inl u), some (.inl n), some (.inl (plr y (σ 7 3 0))), some (.inl (z_ishl 1 (σ 7 3 0)))] [] (GF σ d' l' c')) → Ev g 35 [some (.inr (.inr (12, 0))), some (.inr (.inr (7, 0))), some (.inr (.inr (18, 0))), some (.inl u), some (.inl n), some (.inl (plr y (σ 7 3 0))), some (.inl s)] [] (GF σ d l c) := by
  intro k
  induction k with
  | zero =>
    intro s d l c hPl h0 h1 hT hd hQ
    have hN := hPl.1
    have h2 := sh_in hN
    have e7 : GF σ d l c 7 = σ 7 := GF_o (by decide) (by decide) (by decide)
    refine e_iload C d_Ga_findRests_35 rfl ?_
    refine e_iconst C d_Ga_findRests_37 ?_
    refine e_aload_n C d_Ga_findRests_38 rfl ?_
    refine e_geti C fl_Ga_40 (by decide) rfl rfl d_Ga_findRests_39 (fun r_39 => ?_)
    try simp only [wr_so, GF_12, GF_w, e7] at r_39 ⊢
    refine e_ishl C d_Ga_findRests_42 ?_
    refine e_icmp_ge C 102 d_Ga_findRests_43 (by decide) (by omega) (by omega) (fun c_43 => ?_) (fun c_43 => ?_)
    · rw [show s = z_ishl 1 (σ 7 3 0) by omega] at hT ⊢
      exact hQ d l c (LSm.rf l) hT hd
    · exact absurd h1 (by omega)
  | succ k ih =>
    intro s d l c hPl h0 h1 hT hd hQ
    have hN := hPl.1
    have hG := hPl.2.1
    have h2 := sh_in hN
    have e7 : GF σ d l c 7 = σ 7 := GF_o (by decide) (by decide) (by decide)
    have hal := alw_is (y := y) (s := s) hN h0 (by omega)
    have hcs := copy_sim (c := c) hN.2 hG.2 hS
    have hKc : CKS B S (σ 7 3 0) (c_copy c (σ 18)) := ⟨CK_copy hK.1, fun p a b => by rw [cp_0 ⟨a, by omega⟩, cp_1 ⟨a, by omega⟩]; exact hK.2 p a b⟩
    have hKp := CKS_pstN (s := s) hu hN.2 (σ 7 3 0).toNat 0 S _ hKc (by omega) (by omega) (by omega)
    have hps := pstN_sim (s := s) (u := u) (σ 7 3 0).toNat 0 _ _ hcs (by omega) (by omega)
    have hms := many_sim hPl n.toNat n B _ _ hKp.1 hB.1 hn.1 (by omega) hps
    have hw : ∀ p, 0 ≤ p → p < σ 7 3 0 → y 2 p = σ 18 2 p := fun p a b => hS.1.1 2 p (by decide) a b
    have hwr := hS.2.2.2.2.1
    have hc0 : ∀ p, 0 ≤ p → p < 8 → 0 ≤ c_copy c (σ 18) 0 p ∧ c_copy c (σ 18) 0 p ≤ 1000000000 := fun p a b => by
      have := hKc.1.2.1 p a b
      omega
    refine e_iload C d_Ga_findRests_35 rfl ?_
    refine e_iconst C d_Ga_findRests_37 ?_
    refine e_aload_n C d_Ga_findRests_38 rfl ?_
    refine e_geti C fl_Ga_40 (by decide) rfl rfl d_Ga_findRests_39 (fun r_39 => ?_)
    try simp only [wr_so, GF_12, GF_w, e7] at r_39 ⊢
    refine e_ishl C d_Ga_findRests_42 ?_
    refine e_icmp_ge C 102 d_Ga_findRests_43 (by decide) (by omega) (by omega) (fun c_43 => ?_) (fun c_43 => ?_)
    · exact absurd h1 (by omega)
    · refine e_iload C d_Ga_findRests_46 rfl ?_
      refine e_iload C d_Ga_findRests_48 rfl ?_
      refine e_iconst C d_Ga_findRests_50 ?_
      refine e_ixor C d_Ga_findRests_51 ?_
      refine e_iand C d_Ga_findRests_52 ?_
      refine e_if_ne C 96 d_Ga_findRests_53 (by decide) (z_iand_r _ _) (fun c_53 => ?_) (fun c_53 => ?_)
      · have hT2 := TB_skip hT (fun q => c_53 (hal.mpr q))
        refine e_iinc C d_Ga_findRests_96 rfl (by decide) rfl ?_
        refine e_goto C 35 d_Ga_findRests_99 (by decide) ?_
        first
          | exact ih (s + 1) d l c hPl (by omega) (by omega) hT2 hd hQ
          | exact ih (s + 1) _ l1 _ (hPl.same hl1) (by omega) (by omega) hT2 (SMf_nsl hd) (fun d' l' c' hl' => hQ d' l' c' (hl1.tr hl'))
      · refine e_aload_n C d_Ga_findRests_56 rfl ?_
        refine e_geto (o2 := 21) C fl_Ga_18 (by decide) rfl rfl rfl d_Ga_findRests_57 ?_
        refine e_aload_n C d_Ga_findRests_60 rfl ?_
        refine e_callVV C ok_Ca_copyFrom lk_Ga_45 (o := 21) (by decide) rfl [_] rfl rfl (Nat.le_of_ble_eq_true rfl) (by decide) (Nat.le_of_ble_eq_true rfl) d_Ga_findRests_61 (s_Ca_copy (by decide) (by decide)) (fun u_61 h_61 => ?_)
        subst h_61
        rw [G_18]
        refine e_aload_n C d_Ga_findRests_64 rfl ?_
        refine e_aload_n C d_Ga_findRests_65 rfl ?_
        have e7b : ∀ c', SF (so σ 12 d) 21 l c' 7 = σ 7 := fun c' => GF_o (by decide) (by decide) (by decide)
        refine e_geti C fl_Ga_40 (by decide) rfl rfl d_Ga_findRests_66 (fun r_66 => ?_)
        try simp only [wr_so, GF_12, GF_w, e7] at r_66 ⊢
        rw [e7b] at r_66 ⊢
        refine e_iload C d_Ga_findRests_69 rfl ?_
        refine e_iload_n C d_Ga_findRests_71 rfl ?_
        refine e_callVV C ok_Ga_putPinches lk_Ga_49 (o := 12) (by decide) rfl [_, _, _] rfl rfl (Nat.le_of_ble_eq_true rfl) (by decide) (Nat.le_of_ble_eq_true rfl) d_Ga_findRests_72 (k_Ga_putPinches hN hu hc0) (fun u_72 h_72 => ?_)
        subst h_72
        refine e_aload_n C d_Ga_findRests_75 rfl ?_
        refine e_geto (o2 := 21) C fl_Ga_18 (by decide) rfl rfl rfl d_Ga_findRests_76 ?_
        refine e_aload_n C d_Ga_findRests_79 rfl ?_
        refine e_iload C d_Ga_findRests_80 rfl ?_
        refine e_callVV C ok_Ca_passMany lk_Ga_53 (o := 21) (by decide) rfl [_, _] rfl rfl (Nat.le_of_ble_eq_true rfl) (by decide) (Nat.le_of_ble_eq_true rfl) d_Ga_findRests_82 (s_Ca_passMany (σ := so σ 12 d) (by decide) (by rw [G_7]; exact hPl) hKp.1 (by omega) hn) (fun u_82 h_82 => ?_)
        obtain ⟨l1, hl1, rfl⟩ := h_82
        rw [G_7]
        refine e_aload_n C d_Ga_findRests_85 rfl ?_
        refine e_aload_n C d_Ga_findRests_86 rfl ?_
        refine e_geti C fl_Ga_40 (by decide) rfl rfl d_Ga_findRests_87 (fun r_87 => ?_)
        try simp only [wr_so, GF_12, GF_w, e7] at r_87 ⊢
        rw [show ∀ c', so (so (so σ 12 d) 8 l1) 21 c' 7 = σ 7 from fun c' => GF_o (by decide) (by decide) (by decide)] at r_87 ⊢
        refine e_aload_n C d_Ga_findRests_90 rfl ?_
        refine e_iload C d_Ga_findRests_91 rfl ?_
        refine e_callVV C ok_Ga_noteSleeps lk_Ga_57 (o := 12) (by decide) rfl [_, _, _] rfl rfl (Nat.le_of_ble_eq_true rfl) (by decide) (Nat.le_of_ble_eq_true rfl) d_Ga_findRests_93 (k_Ga_noteSleeps hN (by omega) (fun p a b => by have := hwr p a b; omega)) (fun u_93 h_93 => ?_)
        subst h_93
        have hT2 := TB_add (c := c_many φ (σ 7) (l 0 0) n.toNat n (itr (pst (σ 7 3 0) s u) (σ 7 3 0).toNat 0 (c_copy c (σ 18)))) hT hN.2 h0 hw (fun p a b z => hms.1.2.1 7 (y 2 p) (by decide) (by decide) (by rw [hw p a b] at z ⊢; have := hwr p a b; omega) (by rw [hw p a b] at z ⊢; have := hwr p a b; omega))
        refine e_iinc C d_Ga_findRests_96 rfl (by decide) rfl ?_
        refine e_goto C 35 d_Ga_findRests_99 (by decide) ?_
        first
          | exact ih (s + 1) d l c hPl (by omega) (by omega) hT2 hd hQ
          | exact ih (s + 1) _ l1 _ (hPl.same hl1) (by omega) (by omega) hT2 (SMf_nsl hd) (fun d' l' c' hl' => hQ d' l' c' (hl1.tr hl'))
/-- what is found is right -/
def gI (φ : Phi) (P y d : Cs) : Prop := d 2 0 ≠ 0 → (0 ≤ d 1 0 ∧ d 1 0 ≤ 256) ∧ ∀ i, -1 ≤ i → gtell i d = rsv φ P y (d 5 0) (d 6 0).toNat i
theorem gcl_in {q : Int → Bool} {v : Int → Int} : ∀ (n : Nat) (s : Int) (d : Cs), 0 ≤ d 1 0 → 0 ≤ itr (gcl q v) n s d 1 0 ∧ itr (gcl q v) n s d 1 0 ≤ d 1 0 + n
  | 0, _, _, h => by simp only [itr]; omega
  | n + 1, s, d, h => by
    rw [itr_S]
    have h1 := gcl_1 (q := q) (v := v) (s := s) (d := d)
    have := gcl_in (q := q) (v := v) n (s + 1) (gcl q v s d) (by omega)
    omega
theorem k_Ga_findRests {σ : St} {φ : Phi} {u n B S : Int} {d l c y : Cs} (hPl : PlanOk (σ 7) l φ) (hS : SIM (σ 7) (σ 18) y) (hK : CKS B S (σ 7 3 0) (σ 18)) (hB : 0 ≤ B ∧ B < 600000000) (hSb : 0 ≤ S ∧ S ≤ 900000000) (hu : 1 ≤ u ∧ u ≤ 99) (hn : 0 ≤ n ∧ n ≤ 10000) (hd : gI φ (σ 7) y d) : CtV M_Ga_findRests [.inr (.inr (12, 0)), .inr (.inr (7, 0)), .inr (.inr (18, 0)), .inl u, .inl n] (GF σ d l c) (fun w => ∃ d' l' c', LSm l l' ∧ w = GF σ d' l' c' ∧ gI φ (σ 7) y d' ∧ d' 2 0 ≠ 0 ∧ d' 5 0 = u ∧ d' 6 0 = n) := by
  intro g C F
  have hN := hPl.1
  have h2 := sh_in hN
  have hw : ∀ p, 0 ≤ p → p < σ 7 3 0 → y 2 p = σ 18 2 p := fun p a b => hS.1.1 2 p (by decide) a b
  have ep := plr_cong hN.1 hw
  have h102 : ∀ d1 l1 c1, LSm l l1 → TB φ (σ 7) y u n.toNat (z_ishl 1 (σ 7 3 0)) d1 → SMf d d1 → Ev g 102 [some (.inr (.inr (12, 0))), some (.inr (.inr (7, 0))), some (.inr (.inr (18, 0))), some (.inl u), some (.inl n), some (.inl (plr y (σ 7 3 0))), some (.inl (z_ishl 1 (σ 7 3 0)))] [] (GF σ d1 l1 c1) := by
    intro d1 l1 c1 hl1 hT1 hd1
    refine e_aload_n C d_Ga_findRests_102 rfl ?_
    refine e_iconst C d_Ga_findRests_103 ?_
    refine e_puti C fp_Ga_61 (by decide) rfl rfl (by omega) d_Ga_findRests_104 ?_
    try simp only [wr_so, GF_12, GF_w]
    refine e_iconst C d_Ga_findRests_107 ?_
    refine e_istore C d_Ga_findRests_108 (by decide) rfl ?_
    refine l_Ga_findRests2 (φ := φ) (y := y) C F hN (by omega) (by omega) (z_ishl 1 (σ 7 3 0)).toNat 0 (cu d1 1 0 0) (by omega) (by omega) (fun s a b ha p p0 p1 => by rw [cu_f (by decide)]; exact hT1 s a b ha p p0 p1) (by rw [cu_s]; omega) ?_
    refine ⟨_, l1, c1, hl1, rfl, fun _ => ?_, by rw [cu_f (by decide), cu_f (by decide), cu_s]; decide, by rw [cu_f (by decide), cu_s], by rw [cu_s]⟩
    have hin := gcl_in (q := rsq φ (σ 7) y u n.toNat) (v := fun s => s) (z_ishl 1 (σ 7 3 0)).toNat 0 (cu d1 1 0 0) (by rw [cu_s]; omega)
    rw [cu_s] at hin
    refine ⟨?_, fun i hi => ?_⟩
    · rw [cu_f (by decide), cu_f (by decide), cu_f (by decide)]; omega
    · have hr := gREL_fin (gREL_itr (q := rsq φ (σ 7) y u n.toNat) (v := fun s => s) hi (z_ishl 1 (σ 7 3 0)).toNat 0 (cu d1 1 0 0) (none, 0) ⟨by rw [cu_s]; omega, Or.inl ⟨rfl, by rw [cu_s], by rw [cu_s]; omega⟩⟩)
      unfold rsv
      rw [cu_f (f' := 5) (by decide), cu_s, cu_s, ← hr]
      unfold gtell
      simp only [cu_f, ne_eq, Nat.reduceEqDiff, not_false_eq_true]
  have hrest : Ev g 25 [some (.inr (.inr (12, 0))), some (.inr (.inr (7, 0))), some (.inr (.inr (18, 0))), some (.inl u), some (.inl n), none, none] [] (GF σ d l c) := by
    have e7 : GF σ d l c 7 = σ 7 := GF_o (by decide) (by decide) (by decide)
    have e18 : GF σ d l c 18 = σ 18 := GF_o (by decide) (by decide) (by decide)
    refine e_aload_n C d_Ga_findRests_25 rfl ?_
    refine e_aload_n C d_Ga_findRests_26 rfl ?_
    refine e_callIS C ok_Ga_players lk_Ga_36 [_, _] rfl rfl (Nat.le_of_ble_eq_true rfl) (by decide) (Nat.le_of_ble_eq_true rfl) d_Ga_findRests_27 (k_Ga_players (by rw [e7]; exact hN)) (fun v_27 u_27 q_27 h_27 => ?_)
    obtain ⟨h_27, rfl⟩ := h_27
    rw [e7, e18, ep] at h_27
    subst h_27
    refine e_istore C d_Ga_findRests_30 (by decide) rfl ?_
    refine e_iconst C d_Ga_findRests_32 ?_
    refine e_istore C d_Ga_findRests_33 (by decide) rfl ?_
    exact l_Ga_findRests1 (d0 := d) C hS hK hB hSb hu hn (z_ishl 1 (σ 7 3 0)).toNat 0 d l c hPl (by omega) (by omega) (fun s a b => absurd a (by omega)) (fun _ _ => rfl) h102
  refine e_aload_n C d_Ga_findRests_0 rfl ?_
  refine e_getz C fl_Ga_25 (by decide) rfl rfl d_Ga_findRests_1 (fun r_1 => ?_)
  try simp only [GF_12] at r_1 ⊢
  refine e_if_eq C 25 d_Ga_findRests_4 (by decide) (by omega) (fun c_4 => ?_) (fun c_4 => ?_)
  · exact hrest
  · refine e_aload_n C d_Ga_findRests_7 rfl ?_
    refine e_geti C fl_Ga_29 (by decide) rfl rfl d_Ga_findRests_8 (fun r_8 => ?_)
    try simp only [GF_12] at r_8 ⊢
    refine e_iload_n C d_Ga_findRests_11 rfl ?_
    refine e_icmp_ne C 25 d_Ga_findRests_12 (by decide) (by omega) (by omega) (fun c_12 => ?_) (fun c_12 => ?_)
    · exact hrest
    · refine e_aload_n C d_Ga_findRests_15 rfl ?_
      refine e_geti C fl_Ga_33 (by decide) rfl rfl d_Ga_findRests_16 (fun r_16 => ?_)
      try simp only [GF_12] at r_16 ⊢
      refine e_iload C d_Ga_findRests_19 rfl ?_
      refine e_icmp_ne C 25 d_Ga_findRests_21 (by decide) (by omega) (by omega) (fun c_21 => ?_) (fun c_21 => ?_)
      · exact hrest
      · refine e_vret C F rfl d_Ga_findRests_24 ?_
        exact ⟨d, l, c, LSm.rf l, rfl, hd, c_4, by omega, by omega⟩
