/-! a text cut into tokens, in numbers -/
def tkB (c : Int) : Bool := decide (c = 32 ∨ c = 9 ∨ c = 10 ∨ c = 13)
def tkL (c : Int) : Bool := decide (97 ≤ c ∧ c ≤ 122)
def tkD (c : Int) : Bool := decide (48 ≤ c ∧ c ≤ 57)
def tkS (c : Int) : Bool := decide (c = 59 ∨ c = 61 ∨ c = 60 ∨ c = 40 ∨ c = 41 ∨ c = 43 ∨ c = 45 ∨ c = 42 ∨ c = 47)
def scn (b : Int → Int) (z : Int) (q : Int → Bool) : Nat → Int → Int
  | 0, i => i
  | n + 1, i => if i < z ∧ q (b i) = true then scn b z q n (i + 1) else i
def sce (b : Int → Int) (z : Int) (q : Int → Bool) (i : Int) : Int := scn b z q (z - i).toNat i
theorem sce_t {b : Int → Int} {z i : Int} {q : Int → Bool} (h : i < z) (hq : q (b i) = true) : sce b z q i = sce b z q (i + 1) := by
  unfold sce
  rw [show (z - i).toNat = (z - (i + 1)).toNat + 1 by omega]
  show (if i < z ∧ q (b i) = true then _ else i) = _
  rw [if_pos ⟨h, hq⟩]
theorem sce_f {b : Int → Int} {z i : Int} {q : Int → Bool} (h : ¬ (i < z ∧ q (b i) = true)) : sce b z q i = i := by
  unfold sce
  cases e : (z - i).toNat with
  | zero => rfl
  | succ n =>
    show (if i < z ∧ q (b i) = true then _ else i) = i
    rw [if_neg h]
theorem sce_all {b : Int → Int} {z : Int} {q : Int → Bool} : ∀ (n : Nat) (i : Int), (z - i).toNat = n → i ≤ sce b z q i ∧ (sce b z q i = i ∨ sce b z q i ≤ z) ∧ (∀ j, i ≤ j → j < sce b z q i → q (b j) = true) ∧ ¬ (sce b z q i < z ∧ q (b (sce b z q i)) = true)
  | 0, i, h => by
    rw [sce_f (by omega)]
    exact ⟨Int.le_refl _, Or.inl rfl, fun j a c => by omega, by omega⟩
  | n + 1, i, h => by
    by_cases c : i < z ∧ q (b i) = true
    · obtain ⟨h1, h2, h3, h4⟩ := sce_all (b := b) (z := z) (q := q) n (i + 1) (by omega)
      rw [sce_t c.1 c.2]
      refine ⟨by omega, by omega, fun j a d => ?_, h4⟩
      by_cases w : j = i
      · rw [w]; exact c.2
      · exact h3 j (by omega) d
    · rw [sce_f c]
      exact ⟨Int.le_refl _, Or.inl rfl, fun j a d => by omega, c⟩
theorem sce_ge (b : Int → Int) (z : Int) (q : Int → Bool) (i : Int) : i ≤ sce b z q i := (sce_all _ i rfl).1
theorem sce_le {b : Int → Int} {z i : Int} {q : Int → Bool} (h : i ≤ z) : sce b z q i ≤ z := by have := (sce_all (b := b) (z := z) (q := q) _ i rfl).2.1; omega
theorem sce_is (b : Int → Int) (z : Int) (q : Int → Bool) (i : Int) : ∀ j, i ≤ j → j < sce b z q i → q (b j) = true := (sce_all _ i rfl).2.2.1
theorem sce_end (b : Int → Int) (z : Int) (q : Int → Bool) (i : Int) : ¬ (sce b z q i < z ∧ q (b (sce b z q i)) = true) := (sce_all _ i rfl).2.2.2
theorem sce_one {b : Int → Int} {z i : Int} {q : Int → Bool} (h : i < z) (hq : q (b i) = true) : i + 1 ≤ sce b z q i := by rw [sce_t h hq]; exact sce_ge _ _ _ _
/-! words -/
def w2 (b : Int → Int) (i : Int) : Nat → Int
  | 0 => 0
  | n + 1 => z_lor (z_lshl (w2 b i n) 8) (b (i + n))
def w27 (b : Int → Int) (i : Int) : Nat → Int
  | 0 => 0
  | n + 1 => if n < 8 then 27 * w27 b i n + (b (i + n) - 97 + 1) else w27 b i n
def wn (b : Int → Int) (i : Int) : Nat → Int
  | 0 => 0
  | n + 1 => wn b i n * 10 + b (i + n) - 48
def fw (q : Int) (d : Nat → Int) : Nat → Int
  | 0 => 0
  | n + 1 => q * fw q d n + d n
theorem fw_b {d : Nat → Int} : ∀ n : Nat, (∀ k, k < n → 1 ≤ d k ∧ d k ≤ 122) → 0 ≤ fw 256 d n ∧ 2 * fw 256 d n < ((256 ^ n : Nat) : Int)
  | 0, _ => ⟨Int.le_refl _, by show (2 : Int) * 0 < 1; decide⟩
  | n + 1, h => by
    obtain ⟨h1, h2⟩ := fw_b (d := d) n (fun k a => h k (by omega))
    have h3 := h n (by omega)
    have e : fw 256 d (n + 1) = 256 * fw 256 d n + d n := rfl
    have e2 : ((256 ^ (n + 1) : Nat) : Int) = ((256 ^ n : Nat) : Int) * 256 := by rw [Nat.pow_succ, Int.natCast_mul]; rfl
    rw [e, e2]
    omega
theorem fw_27 {d : Nat → Int} : ∀ n : Nat, (∀ k, k < n → 1 ≤ d k ∧ d k ≤ 26) → 0 ≤ fw 27 d n ∧ fw 27 d n < ((27 ^ n : Nat) : Int)
  | 0, _ => ⟨Int.le_refl _, by show (0 : Int) < 1; decide⟩
  | n + 1, h => by
    obtain ⟨h1, h2⟩ := fw_27 (d := d) n (fun k a => h k (by omega))
    have h3 := h n (by omega)
    have e : fw 27 d (n + 1) = 27 * fw 27 d n + d n := rfl
    have e2 : ((27 ^ (n + 1) : Nat) : Int) = ((27 ^ n : Nat) : Int) * 27 := by rw [Nat.pow_succ, Int.natCast_mul]; rfl
    rw [e, e2]
    omega
theorem fw_nn {q : Int} (hq : q = 256 ∨ q = 27) {d : Nat → Int} : ∀ n : Nat, (∀ k, k < n → 1 ≤ d k ∧ d k < q) → 0 ≤ fw q d n
  | 0, _ => Int.le_refl _
  | n + 1, h => by
    have h1 := fw_nn hq (d := d) n (fun k a => h k (by omega))
    have h3 := h n (by omega)
    have e : fw q d (n + 1) = q * fw q d n + d n := rfl
    rw [e]
    rcases hq with rfl | rfl <;> omega
theorem fw_inj {q : Int} (hq : q = 256 ∨ q = 27) {d d' : Nat → Int} : ∀ n n' : Nat, (∀ k, k < n → 1 ≤ d k ∧ d k < q) → (∀ k, k < n' → 1 ≤ d' k ∧ d' k < q) → fw q d n = fw q d' n' → n = n' ∧ ∀ k, k < n → d k = d' k
  | 0, 0, _, _, _ => ⟨rfl, fun k a => by omega⟩
  | 0, m + 1, _, h', e => by
    have h1 := fw_nn hq (d := d') m (fun k a => h' k (by omega))
    have h3 := h' m (by omega)
    have e1 : fw q d 0 = 0 := rfl
    have e2 : fw q d' (m + 1) = q * fw q d' m + d' m := rfl
    rw [e1, e2] at e
    rcases hq with rfl | rfl <;> omega
  | n + 1, 0, h, _, e => by
    have h1 := fw_nn hq (d := d) n (fun k a => h k (by omega))
    have h3 := h n (by omega)
    have e1 : fw q d' 0 = 0 := rfl
    have e2 : fw q d (n + 1) = q * fw q d n + d n := rfl
    rw [e1, e2] at e
    rcases hq with rfl | rfl <;> omega
  | n + 1, m + 1, h, h', e => by
    have h3 := h n (by omega)
    have h4 := h' m (by omega)
    have e1 : fw q d (n + 1) = q * fw q d n + d n := rfl
    have e2 : fw q d' (m + 1) = q * fw q d' m + d' m := rfl
    rw [e1, e2] at e
    have e3 : fw q d n = fw q d' m ∧ d n = d' m := by rcases hq with rfl | rfl <;> omega
    obtain ⟨i1, i2⟩ := fw_inj hq (d := d) (d' := d') n m (fun k a => h k (by omega)) (fun k a => h' k (by omega)) e3.1
    refine ⟨by omega, fun k a => ?_⟩
    by_cases w : k = n
    · rw [w, e3.2, i1]
    · exact i2 k (by omega)
theorem fw_cong {q : Int} {d d' : Nat → Int} : ∀ n : Nat, (∀ k, k < n → d k = d' k) → fw q d n = fw q d' n
  | 0, _ => rfl
  | n + 1, h => by
    show q * fw q d n + d n = q * fw q d' n + d' n
    rw [fw_cong n (fun k a => h k (by omega)), h n (by omega)]
theorem lsh_or {a c : Int} (ha : 0 ≤ a ∧ a < 36028797018963968) (hc : 0 ≤ c ∧ c < 256) : z_lor (z_lshl a 8) c = 256 * a + c := by
  unfold z_lor z_lshl
  rw [Int64.ofInt_toInt, show ((Int32.ofInt 8).toInt64 &&& 63) = 8 from by decide]
  have e : (Int64.ofInt a <<< 8 ||| Int64.ofInt c) = Int64.ofInt (256 * a + c) := by
    apply Int64.toBitVec_inj.mp
    rw [Int64.toBitVec_or, Int64.toBitVec_shiftLeft]
    rw [show ((8 : Int64).toBitVec.smod 64) = 8#64 from by decide]
    show BitVec.ofInt 64 a <<< 8#64 ||| BitVec.ofInt 64 c = BitVec.ofInt 64 (256 * a + c)
    apply BitVec.eq_of_toNat_eq
    rw [BitVec.toNat_or, BitVec.shiftLeft_eq', BitVec.toNat_shiftLeft, BitVec.toNat_ofInt, BitVec.toNat_ofInt, BitVec.toNat_ofInt]
    rw [show (8#64).toNat = 8 from rfl]
    rw [show (a % ((2 ^ 64 : Nat) : Int)).toNat = a.toNat by omega, show (c % ((2 ^ 64 : Nat) : Int)).toNat = c.toNat by omega, show ((256 * a + c) % ((2 ^ 64 : Nat) : Int)).toNat = 256 * a.toNat + c.toNat by omega]
    have e1 : a.toNat <<< 8 = a.toNat * 256 := by rw [Nat.shiftLeft_eq]
    have e2 : a.toNat <<< 8 % 2 ^ 64 = a.toNat <<< 8 := Nat.mod_eq_of_lt (by rw [e1]; omega)
    rw [e2, ← Nat.shiftLeft_add_eq_or_of_lt (show c.toNat < 2 ^ 8 by omega), e1]
    omega
  rw [e]
  exact Int64.toInt_ofInt_of_le (by omega) (by omega)
theorem w2_fw {b : Int → Int} {i : Int} : ∀ n : Nat, n ≤ 8 → (∀ k : Nat, k < n → tkL (b (i + k)) = true) → w2 b i n = fw 256 (fun k => b (i + k)) n
  | 0, _, _ => rfl
  | n + 1, h, hl => by
    have h1 := w2_fw (b := b) (i := i) n (by omega) (fun k a => hl k (by omega))
    have hd : ∀ k : Nat, k < n + 1 → 97 ≤ b (i + k) ∧ b (i + k) ≤ 122 := fun k a => of_decide_eq_true (hl k a)
    obtain ⟨b1, b2⟩ := fw_b (d := fun k => b (i + k)) n (fun k a => by have := hd k (by omega); show 1 ≤ b (i + k) ∧ b (i + k) ≤ 122; omega)
    have h3 : 256 ^ n ≤ 256 ^ 7 := Nat.pow_le_pow_right (by decide) (by omega)
    have h4 : (256 ^ 7 : Nat) = 72057594037927936 := by decide
    have h5 := hd n (by omega)
    show z_lor (z_lshl (w2 b i n) 8) (b (i + n)) = 256 * fw 256 (fun k => b (i + k)) n + b (i + n)
    rw [h1, lsh_or (by omega) (by omega)]
theorem w27_fw {b : Int → Int} {i : Int} : ∀ n : Nat, n ≤ 8 → w27 b i n = fw 27 (fun k => b (i + k) - 96) n
  | 0, _ => rfl
  | n + 1, h => by
    have h1 := w27_fw (b := b) (i := i) n (by omega)
    show (if n < 8 then 27 * w27 b i n + (b (i + n) - 97 + 1) else w27 b i n) = 27 * fw 27 (fun k => b (i + k) - 96) n + (b (i + n) - 96)
    rw [if_pos (by omega), h1]
    omega
theorem w27_in {b : Int → Int} {i : Int} : ∀ n : Nat, (∀ k : Nat, k < n → tkL (b (i + k)) = true) → 0 ≤ w27 b i n ∧ w27 b i n < 282429536481
  | 0, _ => ⟨Int.le_refl _, by show (0 : Int) < 282429536481; decide⟩
  | n + 1, hl => by
    have h1 := w27_in (b := b) (i := i) n (fun k a => hl k (by omega))
    by_cases h : n < 8
    · have hd : ∀ k : Nat, k < n + 1 → 97 ≤ b (i + k) ∧ b (i + k) ≤ 122 := fun k a => of_decide_eq_true (hl k a)
      obtain ⟨b1, b2⟩ := fw_27 (d := fun k => b (i + k) - 96) (n + 1) (fun k a => by have := hd k a; show 1 ≤ b (i + k) - 96 ∧ b (i + k) - 96 ≤ 26; omega)
      have h3 : 27 ^ (n + 1) ≤ 27 ^ 8 := Nat.pow_le_pow_right (by decide) (by omega)
      have h4 : (27 ^ 8 : Nat) = 282429536481 := by decide
      rw [w27_fw (n + 1) (by omega)]
      omega
    · show 0 ≤ (if n < 8 then 27 * w27 b i n + (b (i + n) - 97 + 1) else w27 b i n) ∧ (if n < 8 then 27 * w27 b i n + (b (i + n) - 97 + 1) else w27 b i n) < 282429536481
      rw [if_neg h]
      exact h1
theorem w2_len {b b' : Int → Int} {i i' : Int} {n n' : Nat} (h : n ≤ 8) (h' : n' ≤ 8) (hl : ∀ k : Nat, k < n → tkL (b (i + k)) = true) (hl' : ∀ k : Nat, k < n' → tkL (b' (i' + k)) = true) (e : w2 b i n = w2 b' i' n') : n = n' ∧ ∀ k : Nat, k < n → b (i + k) = b' (i' + k) := by
  have hd : ∀ k : Nat, k < n → 97 ≤ b (i + k) ∧ b (i + k) ≤ 122 := fun k a => of_decide_eq_true (hl k a)
  have hd' : ∀ k : Nat, k < n' → 97 ≤ b' (i' + k) ∧ b' (i' + k) ≤ 122 := fun k a => of_decide_eq_true (hl' k a)
  rw [w2_fw n h hl, w2_fw n' h' hl'] at e
  exact fw_inj (Or.inl rfl) n n' (fun k a => by have := hd k a; show 1 ≤ b (i + k) ∧ b (i + k) < 256; omega) (fun k a => by have := hd' k a; show 1 ≤ b' (i' + k) ∧ b' (i' + k) < 256; omega) e
theorem nm_iff {b b' : Int → Int} {i i' : Int} {n n' : Nat} (h : n ≤ 8) (h' : n' ≤ 8) (hl : ∀ k : Nat, k < n → tkL (b (i + k)) = true) (hl' : ∀ k : Nat, k < n' → tkL (b' (i' + k)) = true) : w2 b i n = w2 b' i' n' ↔ w27 b i n = w27 b' i' n' := by
  have hd : ∀ k : Nat, k < n → 97 ≤ b (i + k) ∧ b (i + k) ≤ 122 := fun k a => of_decide_eq_true (hl k a)
  have hd' : ∀ k : Nat, k < n' → 97 ≤ b' (i' + k) ∧ b' (i' + k) ≤ 122 := fun k a => of_decide_eq_true (hl' k a)
  constructor
  · intro e
    obtain ⟨e1, e2⟩ := w2_len h h' hl hl' e
    subst e1
    rw [w27_fw n h, w27_fw n h']
    exact fw_cong n (fun k a => by show b (i + k) - 96 = b' (i' + k) - 96; rw [e2 k a])
  · intro e
    rw [w27_fw n h, w27_fw n' h'] at e
    obtain ⟨e1, e2⟩ := fw_inj (Or.inr rfl) n n' (fun k a => by have := hd k a; show 1 ≤ b (i + k) - 96 ∧ b (i + k) - 96 < 27; omega) (fun k a => by have := hd' k a; show 1 ≤ b' (i' + k) - 96 ∧ b' (i' + k) - 96 < 27; omega) e
    subst e1
    rw [w2_fw n h hl, w2_fw n h' hl']
    exact fw_cong n (fun k a => by have := e2 k a; show b (i + k) = b' (i' + k); have this : b (i + k) - 96 = b' (i' + k) - 96 := this; omega)
/-! the words in quotes -/
def wrdL : List (List Int) := [[110, 101, 99, 107], [119, 101, 116], [97, 98, 111, 118, 101], [98, 101, 108, 111, 119], [109, 105, 110, 117, 116, 101], [112, 111, 115, 116], [103, 117, 97, 114, 100], [97, 116], [102, 108, 111, 119], [105, 102], [116, 104, 101, 110], [101, 108, 115, 101], [100, 97, 109, 112], [115, 108, 101, 101, 112]]
def wrl (j k : Int) : Int := (wrdL.getD j.toNat []).getD k.toNat 0
def wrn (j : Int) : Nat := (wrdL.getD j.toNat []).length
/-- which of the reference's words a word of the class is -/
def wpi : List Int := [9, 10, 11, 12, 13, 0, 1, 2, 3, 6, 7, 8, 4, 5]
def kw (v : Int) : Int := if fnd (fun k => wrdT.getD k.toNat 0 == v) 14 0 = -2 then 130 else 132 + fnd (fun k => wrdT.getD k.toNat 0 == v) 14 0
def kms (v k a : Int) : Int := if kyT.getD k.toNat 0 = v then 20 + k else a
def km (v : Int) : Int := itr (kms v) 14 0 1
/-- a kind in the reference's numbers -/
def mk (k : Int) : Int := if k = 128 then 0 else if k = 130 then 1 else if k = 131 then 2 else if k = 59 then 4 else if k = 61 then 5 else if k = 40 then 6 else if k = 41 then 7 else if k = 43 then 8 else if k = 45 then 9 else if k = 42 then 10 else if k = 60 then 13 else if k = 47 then 15 else if 132 ≤ k ∧ k ≤ 136 then k - 103 else if 137 ≤ k ∧ k ≤ 140 then k - 117 else if 141 ≤ k ∧ k ≤ 143 then k - 115 else if 144 ≤ k ∧ k ≤ 145 then k - 120 else 3
def kds : List Int := [128, 129, 130, 131, 59, 61, 40, 41, 43, 45, 42, 60, 47, 132, 133, 134, 135, 136, 137, 138, 139, 140, 141, 142, 143, 144, 145]
set_option maxRecDepth 100000 in
theorem mk_inj : ∀ a ∈ kds, ∀ b ∈ kds, mk a = mk b → a = b := by decide
set_option maxRecDepth 100000 in
theorem wrd_ok : ∀ j : Fin 14, w2 (wrl j.val) 0 (wrn j.val) = wrdT.getD j.val 0 ∧ w27 (wrl j.val) 0 (wrn j.val) = kyT.getD (wpi.getD j.val 0).toNat 0 ∧ wrn j.val ≤ 6 ∧ ∀ k : Fin 6, k.val < wrn j.val → tkL (wrl j.val (0 + (k.val : Int))) = true := by decide +kernel
set_option maxRecDepth 100000 in
theorem wrd_k : ∀ j : Fin 14, km (kyT.getD (wpi.getD j.val 0).toNat 0) = mk (kw (wrdT.getD j.val 0)) ∧ kw (wrdT.getD j.val 0) = 132 + j.val := by decide +kernel
set_option maxRecDepth 100000 in
theorem wpi_on : ∀ k : Fin 14, ∃ j : Fin 14, (wpi.getD j.val 0).toNat = k.val := by decide
theorem wrd_is {b : Int → Int} {i : Int} {n : Nat} (hn : n ≤ 8) (hl : ∀ k : Nat, k < n → tkL (b (i + k)) = true) (j : Fin 14) : (w2 b i n = wrdT.getD j.val 0 ↔ w27 b i n = kyT.getD (wpi.getD j.val 0).toNat 0) ∧ (w2 b i n = wrdT.getD j.val 0 → n ≤ 6) := by
  obtain ⟨h1, h2, h3, h4⟩ := wrd_ok j
  have hl2 : ∀ k : Nat, k < wrn j.val → tkL (wrl j.val (0 + (k : Int))) = true := fun k a => h4 ⟨k, by omega⟩ a
  rw [← h1, ← h2]
  exact ⟨nm_iff hn (by omega) hl hl2, fun e => by have := (w2_len hn (by omega) hl hl2 e).1; omega⟩
theorem km_no {v : Int} (h : ∀ k : Int, 0 ≤ k → k < 14 → kyT.getD k.toNat 0 ≠ v) : ∀ (n : Nat) (i a : Int), 0 ≤ i → i + n ≤ 14 → itr (kms v) n i a = a
  | 0, _, _, _, _ => rfl
  | n + 1, i, a, h0, h1 => by
    rw [itr_S, km_no h n (i + 1) _ (by omega) (by omega)]
    unfold kms
    rw [if_neg (h i h0 (by omega))]
/-- of a word both tell the same kind -/
theorem kw_km {b : Int → Int} {i : Int} {n : Nat} (hn : n ≤ 8) (hl : ∀ k : Nat, k < n → tkL (b (i + k)) = true) : (if n ≤ 7 then km (w27 b i n) else 1) = mk (kw (w2 b i n)) ∧ (kw (w2 b i n) = 130 ∨ (132 ≤ kw (w2 b i n) ∧ kw (w2 b i n) ≤ 145)) := by
  by_cases z : ∃ j : Fin 14, w2 b i n = wrdT.getD j.val 0
  · obtain ⟨j, hj⟩ := z
    obtain ⟨a1, a2⟩ := wrd_is hn hl j
    obtain ⟨b1, b2⟩ := wrd_k j
    have := a2 hj
    rw [if_pos (by omega), hj, a1.mp hj, b1, b2]
    exact ⟨rfl, Or.inr ⟨by omega, by omega⟩⟩
  · have h1 : kw (w2 b i n) = 130 := by
      unfold kw
      rw [if_pos]
      rcases fnd_some (q := fun k => wrdT.getD k.toNat 0 == w2 b i n) 14 0 (by omega) with ⟨a, _⟩ | ⟨a, c, d⟩
      · exact a
      · exfalso
        generalize fnd (fun k => wrdT.getD k.toNat 0 == w2 b i n) 14 0 = q at a c d
        exact z ⟨⟨q.toNat, by omega⟩, by simpa using (eq_of_beq d).symm⟩
    have h2 : km (w27 b i n) = 1 := by
      refine km_no (fun k k0 k1 e => ?_) 14 0 1 (by omega) (by omega)
      obtain ⟨j, hj⟩ := wpi_on ⟨k.toNat, by omega⟩
      have hj : (wpi.getD j.val 0).toNat = k.toNat := hj
      exact z ⟨j, (wrd_is hn hl j).1.mpr (by rw [hj]; exact e.symm)⟩
    rw [h1, h2]
    exact ⟨by split <;> rfl, Or.inl rfl⟩
/-! tokens -/
def nln (b : Int → Int) (z : Int) (q : Int → Bool) (i : Int) : Nat := (sce b z q i - i).toNat
def tkN (b : Int → Int) (z i : Int) : Int := if tkL (b i) = true then sce b z tkL i else if tkD (b i) = true then sce b z tkD i else i + 1
def tkK (b : Int → Int) (z i : Int) : Int := if tkL (b i) = true then (if 8 < nln b z tkL i then 129 else kw (w2 b i (nln b z tkL i))) else if tkD (b i) = true then (if 4 < nln b z tkD i then 129 else 131) else if tkS (b i) = true then b i else 129
def tps (b : Int → Int) (z : Int) : Nat → Int
  | 0 => sce b z tkB 0
  | k + 1 => if tps b z k < z then sce b z tkB (tkN b z (tps b z k)) else tps b z k
def tP (b : Int → Int) (z k : Int) : Int := tps b z k.toNat
def tK (b : Int → Int) (z k : Int) : Int := if tP b z k < z then tkK b z (tP b z k) else 128
def tV (b : Int → Int) (z k : Int) : Int := wn b (tP b z k) (nln b z tkD (tP b z k))
def tA (b : Int → Int) (z k : Int) : Int := w2 b (tP b z k) (nln b z tkL (tP b z k))
def tB (b : Int → Int) (z k : Int) : Int := w27 b (tP b z k) (nln b z tkL (tP b z k))
theorem nln_is {b : Int → Int} {z i : Int} {q : Int → Bool} : ∀ k : Nat, k < nln b z q i → q (b (i + k)) = true := fun k a => sce_is b z q i _ (by omega) (by unfold nln at a; omega)
theorem tkN_in {b : Int → Int} {z i : Int} (h : i < z) : i + 1 ≤ tkN b z i ∧ tkN b z i ≤ z := by
  unfold tkN
  by_cases c : tkL (b i) = true
  · rw [if_pos c]; exact ⟨sce_one h c, sce_le (by omega)⟩
  · rw [if_neg c]
    by_cases d : tkD (b i) = true
    · rw [if_pos d]; exact ⟨sce_one h d, sce_le (by omega)⟩
    · rw [if_neg d]; omega
theorem tps_in {b : Int → Int} {z : Int} (hz : 0 ≤ z) : ∀ k : Nat, 0 ≤ tps b z k ∧ tps b z k ≤ z
  | 0 => ⟨sce_ge _ _ _ _, sce_le hz⟩
  | k + 1 => by
    have h := tps_in (b := b) hz k
    show 0 ≤ (if tps b z k < z then sce b z tkB (tkN b z (tps b z k)) else tps b z k) ∧ (if tps b z k < z then sce b z tkB (tkN b z (tps b z k)) else tps b z k) ≤ z
    by_cases c : tps b z k < z
    · have h2 := tkN_in (b := b) c
      have h3 := sce_ge b z tkB (tkN b z (tps b z k))
      have h4 := sce_le (b := b) (q := tkB) h2.2
      rw [if_pos c]; omega
    · rw [if_neg c]; exact h
theorem tps_S {b : Int → Int} {z : Int} {k : Nat} (h : tps b z k < z) : tps b z (k + 1) = sce b z tkB (tkN b z (tps b z k)) := by
  show (if tps b z k < z then sce b z tkB (tkN b z (tps b z k)) else tps b z k) = _
  rw [if_pos h]
theorem tps_abs {b : Int → Int} {z : Int} {k : Nat} (h : z ≤ tps b z k) : ∀ j : Nat, tps b z (k + j) = tps b z k
  | 0 => rfl
  | j + 1 => by
    have := tps_abs h j
    show (if tps b z (k + j) < z then sce b z tkB (tkN b z (tps b z (k + j))) else tps b z (k + j)) = tps b z k
    rw [this, if_neg (by omega)]
theorem tkK_in (b : Int → Int) (z i : Int) : tkK b z i ∈ kds ∧ tkK b z i ≠ 128 := by
  unfold tkK
  by_cases c : tkL (b i) = true
  · rw [if_pos c]
    by_cases d : 8 < nln b z tkL i
    · rw [if_pos d]; exact ⟨by decide, by decide⟩
    · rw [if_neg d]
      have := (kw_km (b := b) (i := i) (n := nln b z tkL i) (by omega) nln_is).2
      generalize kw (w2 b i (nln b z tkL i)) = v at this
      refine ⟨?_, by omega⟩
      simp only [kds, List.mem_cons, List.not_mem_nil, or_false]
      omega
  · rw [if_neg c]
    by_cases d : tkD (b i) = true
    · rw [if_pos d]
      split <;> exact ⟨by decide, by decide⟩
    · rw [if_neg d]
      by_cases e : tkS (b i) = true
      · rw [if_pos e]
        have e := of_decide_eq_true e
        generalize b i = v at e
        refine ⟨?_, by omega⟩
        simp only [kds, List.mem_cons, List.not_mem_nil, or_false]
        omega
      · rw [if_neg e]; exact ⟨by decide, by decide⟩
theorem tK_in (b : Int → Int) (z k : Int) : tK b z k ∈ kds := by
  unfold tK
  split
  · exact (tkK_in _ _ _).1
  · decide
theorem tK_end (b : Int → Int) (z k : Int) : tK b z k ≠ 128 ↔ tP b z k < z := by
  unfold tK
  by_cases c : tP b z k < z
  · rw [if_pos c]; exact ⟨fun _ => c, fun _ => (tkK_in _ _ _).2⟩
  · rw [if_neg c]; exact ⟨fun h => absurd rfl h, fun h => absurd h c⟩
/-- what both readers use of the tokens: kinds, places, numbers, names by the class, names by the reference -/
abbrev Tab : Type := (Int → Int) × (Int → Int) × (Int → Int) × (Int → Int) × (Int → Int)
def TF (T : Tab) : Prop := (∀ k, T.1 k ∈ kds) ∧ (∀ k, 0 ≤ k → T.1 k ≠ 128 → T.2.1 k < T.2.1 (k + 1)) ∧ (∀ k, 0 ≤ T.2.1 k ∧ T.2.1 k ≤ 2000) ∧ (∀ k, T.1 k = 131 → 0 ≤ T.2.2.1 k ∧ T.2.2.1 k ≤ 9999) ∧ ∀ j k, T.1 j = 130 → T.1 k = 130 → (T.2.2.2.1 j = T.2.2.2.1 k ↔ T.2.2.2.2 j = T.2.2.2.2 k)
def tbl (b : Int → Int) (z : Int) : Tab := (tK b z, tP b z, tV b z, tA b z, tB b z)
theorem tK_130 {b : Int → Int} {z k : Int} (h : tK b z k = 130) : nln b z tkL (tP b z k) ≤ 8 := by
  unfold tK tkK at h
  by_cases c : tP b z k < z
  · rw [if_pos c] at h
    by_cases d : tkL (b (tP b z k)) = true
    · rw [if_pos d] at h
      by_cases e : 8 < nln b z tkL (tP b z k)
      · rw [if_pos e] at h; omega
      · omega
    · rw [if_neg d] at h
      by_cases e : tkD (b (tP b z k)) = true
      · rw [if_pos e] at h
        split at h <;> omega
      · rw [if_neg e] at h
        by_cases f : tkS (b (tP b z k)) = true
        · rw [if_pos f] at h
          have f := of_decide_eq_true f
          omega
        · rw [if_neg f] at h; omega
  · rw [if_neg c] at h; omega
theorem wn_in {b : Int → Int} {i : Int} : ∀ n : Nat, (∀ k : Nat, k < n → tkD (b (i + k)) = true) → 0 ≤ wn b i n ∧ wn b i n < ((10 ^ n : Nat) : Int)
  | 0, _ => ⟨Int.le_refl _, by show (0 : Int) < 1; decide⟩
  | n + 1, h => by
    obtain ⟨h1, h2⟩ := wn_in (b := b) (i := i) n (fun k a => h k (by omega))
    have h3 : 48 ≤ b (i + n) ∧ b (i + n) ≤ 57 := of_decide_eq_true (h n (by omega))
    have e : wn b i (n + 1) = wn b i n * 10 + b (i + n) - 48 := rfl
    have e2 : ((10 ^ (n + 1) : Nat) : Int) = ((10 ^ n : Nat) : Int) * 10 := by rw [Nat.pow_succ, Int.natCast_mul]; rfl
    rw [e, e2]
    omega
theorem wn_4 {b : Int → Int} {i : Int} {n : Nat} (hn : n ≤ 4) (h : ∀ k : Nat, k < n → tkD (b (i + k)) = true) : 0 ≤ wn b i n ∧ wn b i n ≤ 9999 := by
  obtain ⟨h1, h2⟩ := wn_in n h
  have h3 : 10 ^ n ≤ 10 ^ 4 := Nat.pow_le_pow_right (by decide) hn
  have h4 : (10 ^ 4 : Nat) = 10000 := by decide
  omega
theorem tK_131 {b : Int → Int} {z k : Int} (h : tK b z k = 131) : nln b z tkD (tP b z k) ≤ 4 := by
  unfold tK tkK at h
  by_cases c : tP b z k < z
  · rw [if_pos c] at h
    by_cases d : tkL (b (tP b z k)) = true
    · rw [if_pos d] at h
      by_cases e : 8 < nln b z tkL (tP b z k)
      · rw [if_pos e] at h; omega
      · rw [if_neg e] at h
        have := (kw_km (b := b) (i := tP b z k) (n := nln b z tkL (tP b z k)) (by omega) nln_is).2
        omega
    · rw [if_neg d] at h
      by_cases e : tkD (b (tP b z k)) = true
      · rw [if_pos e] at h
        by_cases f : 4 < nln b z tkD (tP b z k)
        · rw [if_pos f] at h; omega
        · omega
      · rw [if_neg e] at h
        by_cases f : tkS (b (tP b z k)) = true
        · rw [if_pos f] at h
          have f := of_decide_eq_true f
          omega
        · rw [if_neg f] at h; omega
  · rw [if_neg c] at h; omega
theorem tbl_ok {b : Int → Int} {z : Int} (hz : 0 ≤ z ∧ z ≤ 2000) : TF (tbl b z) := by
  refine ⟨fun k => tK_in b z k, fun k k0 h => ?_, fun k => ?_, fun k h => ?_, fun j k hj hk => ?_⟩
  · have h := (tK_end b z k).mp h
    show tps b z k.toNat < tps b z (k + 1).toNat
    have h : tps b z k.toNat < z := h
    rw [show (k + 1).toNat = k.toNat + 1 by omega, tps_S h]
    have h2 := tkN_in (b := b) h
    have h3 := sce_ge b z tkB (tkN b z (tps b z k.toNat))
    omega
  · have := tps_in (b := b) hz.1 k.toNat
    show 0 ≤ tps b z k.toNat ∧ tps b z k.toNat ≤ 2000
    omega
  · exact wn_4 (tK_131 h) nln_is
  · exact nm_iff (tK_130 hj) (tK_130 hk) nln_is nln_is
