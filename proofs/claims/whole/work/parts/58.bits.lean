/-! bits of small numbers -/
def bt (x : Int) (i : Nat) : Bool := (Int32.ofInt x).toBitVec.getLsbD i
theorem bt_or (x y : Int) (i : Nat) : bt (z_ior x y) i = (bt x i || bt y i) := by
  unfold bt z_ior
  rw [Int32.ofInt_toInt, Int32.toBitVec_or, BitVec.getLsbD_or]
theorem bt_and (x y : Int) (i : Nat) : bt (z_iand x y) i = (bt x i && bt y i) := by
  unfold bt z_iand
  rw [Int32.ofInt_toInt, Int32.toBitVec_and, BitVec.getLsbD_and]
theorem bt_xor (x y : Int) (i : Nat) : bt (z_ixor x y) i = (bt x i ^^ bt y i) := by
  unfold bt z_ixor
  rw [Int32.ofInt_toInt, Int32.toBitVec_xor, BitVec.getLsbD_xor]
theorem bt_0 (i : Nat) : bt 0 i = false := by
  unfold bt
  rw [show (Int32.ofInt 0).toBitVec = 0#32 from rfl]
  simp
set_option maxRecDepth 100000 in
theorem bt_sh0 : ∀ p : Fin 9, ∀ i : Fin 32, bt (z_ishl 1 p.val) i.val = decide (i.val = p.val) := by decide
theorem bt_sh {p : Int} (hp : 0 ≤ p ∧ p ≤ 8) {i : Nat} (hi : i < 32) : bt (z_ishl 1 p) i = decide ((i : Int) = p) := by
  have := bt_sh0 ⟨p.toNat, by omega⟩ ⟨i, hi⟩
  rw [show ((⟨p.toNat, by omega⟩ : Fin 9).val : Int) = p by show (p.toNat : Int) = p; omega] at this
  rw [this]
  congr 1
  show ((i : Nat) = p.toNat) = ((i : Int) = p)
  apply propext
  omega
set_option maxRecDepth 100000 in
theorem bt_m1 : ∀ i : Fin 32, bt (-1) i.val = true := by decide
theorem bt_big {s : Int} (h0 : 0 ≤ s) (h1 : s < 256) {i : Nat} (hi : 8 ≤ i) : bt s i = false := by
  unfold bt
  have e : (Int32.ofInt s).toBitVec = BitVec.ofNat 32 s.toNat := by
    show BitVec.ofInt 32 s = BitVec.ofNat 32 s.toNat
    apply BitVec.eq_of_toNat_eq
    rw [BitVec.toNat_ofInt, BitVec.toNat_ofNat]
    omega
  rw [e, BitVec.getLsbD_ofNat]
  have : s.toNat.testBit i = false := Nat.testBit_lt_two_pow (Nat.lt_of_lt_of_le (show s.toNat < 2 ^ 8 by omega) (Nat.pow_le_pow_right (by decide) hi))
  rw [this, Bool.and_false]
theorem bt_zero {x : Int} (h : ∀ i, i < 32 → bt x i = false) (hx : R32 x) : x = 0 := by
  have e : (Int32.ofInt x).toBitVec = 0#32 := by
    apply BitVec.eq_of_getLsbD_eq
    intro i hi
    rw [BitVec.getLsbD_zero]
    exact h i hi
  have e2 : Int32.ofInt x = 0 := Int32.toBitVec_inj.mp e
  have := congrArg Int32.toInt e2
  rw [r_int hx] at this
  exact this
theorem z_iand_r (x y : Int) : R32 (z_iand x y) := r_of _
theorem z_ixor_r (x y : Int) : R32 (z_ixor x y) := r_of _
theorem z_ishr_r (x y : Int) : R32 (z_ishr x y) := r_of _
/-- no bit of s that isn't in w -/
theorem sub_bits {s w : Int} (h0 : 0 ≤ s ∧ s < 256) : z_iand s (z_ixor w (-1)) = 0 ↔ ∀ i, i < 8 → bt s i = true → bt w i = true := by
  constructor
  · intro h i hi hs
    have := bt_and s (z_ixor w (-1)) i
    rw [h, bt_0, bt_xor, bt_m1 ⟨i, by omega⟩, hs] at this
    cases hw : bt w i with
    | true => rfl
    | false => rw [hw] at this; cases this
  · intro h
    apply bt_zero _ (z_iand_r _ _)
    intro i hi
    rw [bt_and, bt_xor, bt_m1 ⟨i, hi⟩]
    by_cases z : i < 8
    · cases hs : bt s i with
      | false => rfl
      | true => rw [h i z hs]; rfl
    · rw [bt_big h0.1 h0.2 (by omega)]; rfl
set_option maxRecDepth 100000 in
theorem sh_31 : ∀ p : Fin 8, (Int32.ofInt (p.val : Int) &&& 31).toBitVec.smod 32 = BitVec.ofNat 32 p.val := by decide
/-- a bit, asked for by shift and and -/
theorem bit_is {x p : Int} (hp : 0 ≤ p ∧ p < 8) : z_iand (z_ishr x p) 1 = if bt x p.toNat = true then 1 else 0 := by
  have e1 : bt (z_ishr x p) 0 = bt x p.toNat := by
    unfold bt z_ishr
    rw [Int32.ofInt_toInt, Int32.toBitVec_shiftRight]
    have := sh_31 ⟨p.toNat, by omega⟩
    rw [show ((⟨p.toNat, by omega⟩ : Fin 8).val : Int) = p by show (p.toNat : Int) = p; omega] at this
    rw [this]
    show ((Int32.ofInt x).toBitVec.sshiftRight (BitVec.ofNat 32 p.toNat).toNat).getLsbD 0 = _
    rw [BitVec.getLsbD_sshiftRight, BitVec.toNat_ofNat, Nat.mod_eq_of_lt (by omega)]
    rw [if_pos (by omega)]
    simp
  unfold bt at e1
  have e3 : (Int32.ofInt (z_ishr x p) &&& Int32.ofInt 1).toBitVec = BitVec.setWidth 32 (BitVec.ofBool (bt x p.toNat)) := by
    rw [Int32.toBitVec_and, show (Int32.ofInt 1).toBitVec = 1#32 from rfl, BitVec.and_one_eq_setWidth_ofBool_getLsbD, e1]
    rfl
  unfold z_iand
  cases hb : bt x p.toNat with
  | true =>
    rw [hb] at e3
    rw [if_pos rfl, show Int32.ofInt (z_ishr x p) &&& Int32.ofInt 1 = 1 from Int32.toBitVec_inj.mp (e3.trans rfl)]
    rfl
  | false =>
    rw [hb] at e3
    rw [if_neg (by decide), show Int32.ofInt (z_ishr x p) &&& Int32.ofInt 1 = 0 from Int32.toBitVec_inj.mp (e3.trans rfl)]
    rfl
set_option maxRecDepth 100000 in
theorem pow_sh : ∀ p : Fin 9, z_ishl 1 p.val = (2 : Int) ^ p.val := by decide
theorem sh_in {p : Int} (hp : 0 ≤ p ∧ p ≤ 8) : 1 ≤ z_ishl 1 p ∧ z_ishl 1 p ≤ 256 := by
  rcases (show p = 0 ∨ p = 1 ∨ p = 2 ∨ p = 3 ∨ p = 4 ∨ p = 5 ∨ p = 6 ∨ p = 7 ∨ p = 8 by omega) with h | h | h | h | h | h | h | h | h <;> subst h <;> decide
/-- with small bits alone a number is small -/
theorem bt_small {x : Int} (hx : R32 x) (h : ∀ i, 8 ≤ i → i < 32 → bt x i = false) : 0 ≤ x ∧ x < 256 := by
  have e : (Int32.ofInt x).toBitVec.toNat < 2 ^ 8 := by
    apply Nat.lt_pow_two_of_testBit
    intro i hi
    by_cases z : i < 32
    · exact h i hi z
    · exact Nat.testBit_lt_two_pow (Nat.lt_of_lt_of_le (BitVec.isLt _) (Nat.pow_le_pow_right (by decide) (by omega)))
  have e2 : x = (Int32.ofInt x).toBitVec.toInt := (r_int hx).symm
  rw [BitVec.toInt_eq_toNat_cond, if_pos (by omega)] at e2
  omega
theorem xor_in {s p : Int} (hs : 0 ≤ s ∧ s < 256) (hp : 0 ≤ p ∧ p < 8) : 0 ≤ z_ixor s (z_ishl 1 p) ∧ z_ixor s (z_ishl 1 p) < 256 := by
  apply bt_small (z_ixor_r _ _)
  intro i hi h32
  rw [bt_xor, bt_big hs.1 hs.2 hi, bt_sh (by omega) h32]
  have : ¬ (i : Int) = p := by omega
  simp [this]
