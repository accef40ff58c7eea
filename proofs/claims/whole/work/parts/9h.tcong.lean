/-! a text's tokens depend on the text alone -/
section TCO
variable {b b' : Int → Int} {z : Int}
theorem scn_cong (hb : ∀ i, 0 ≤ i → i < z → b' i = b i) (q : Int → Bool) : ∀ (n : Nat) (i : Int), 0 ≤ i → scn b' z q n i = scn b z q n i
  | 0, i, _ => rfl
  | n + 1, i, h => by
    unfold scn
    by_cases c : i < z
    · rw [hb i h c, scn_cong hb q n (i + 1) (by omega)]
    · rw [if_neg (fun w => c w.1), if_neg (fun w => c w.1)]
theorem sce_cong (hb : ∀ i, 0 ≤ i → i < z → b' i = b i) (q : Int → Bool) {i : Int} (h : 0 ≤ i) : sce b' z q i = sce b z q i := by unfold sce; exact scn_cong hb q _ i h
theorem nln_cong (hb : ∀ i, 0 ≤ i → i < z → b' i = b i) (q : Int → Bool) {i : Int} (h : 0 ≤ i) : nln b' z q i = nln b z q i := by unfold nln; rw [sce_cong hb q h]
theorem tkN_cong (hb : ∀ i, 0 ≤ i → i < z → b' i = b i) {i : Int} (h : 0 ≤ i ∧ i < z) : tkN b' z i = tkN b z i := by
  unfold tkN
  rw [hb i h.1 h.2, sce_cong hb tkL h.1, sce_cong hb tkD h.1]
theorem tps_cong (hz : 0 ≤ z) (hb : ∀ i, 0 ≤ i → i < z → b' i = b i) : ∀ k : Nat, tps b' z k = tps b z k
  | 0 => by unfold tps; exact sce_cong hb tkB (Int.le_refl _)
  | k + 1 => by
    have h := tps_in (b := b) hz k
    unfold tps
    rw [tps_cong hz hb k]
    by_cases c : tps b z k < z
    · have h2 := tkN_in (b := b) c
      rw [if_pos c, if_pos c, tkN_cong hb ⟨h.1, c⟩, sce_cong hb tkB (by omega)]
    · rw [if_neg c, if_neg c]
theorem w2_cong {i : Int} : ∀ n : Nat, (∀ k : Nat, k < n → b' (i + k) = b (i + k)) → w2 b' i n = w2 b i n
  | 0, _ => rfl
  | n + 1, h => by unfold w2; rw [w2_cong n (fun k a => h k (by omega)), h n (by omega)]
theorem w27_cong {i : Int} : ∀ n : Nat, (∀ k : Nat, k < n → b' (i + k) = b (i + k)) → w27 b' i n = w27 b i n
  | 0, _ => rfl
  | n + 1, h => by unfold w27; rw [w27_cong n (fun k a => h k (by omega)), h n (by omega)]
theorem wn_cong {i : Int} : ∀ n : Nat, (∀ k : Nat, k < n → b' (i + k) = b (i + k)) → wn b' i n = wn b i n
  | 0, _ => rfl
  | n + 1, h => by unfold wn; rw [wn_cong n (fun k a => h k (by omega)), h n (by omega)]
theorem nln_rd (hb : ∀ i, 0 ≤ i → i < z → b' i = b i) (q : Int → Bool) {i : Int} (h : 0 ≤ i ∧ i ≤ z) : ∀ k : Nat, k < nln b z q i → b' (i + k) = b (i + k) := by
  intro k a
  have := sce_le (b := b) (q := q) h.2
  unfold nln at a
  exact hb _ (by omega) (by omega)
theorem tbl_cong (hz : 0 ≤ z) (hb : ∀ i, 0 ≤ i → i < z → b' i = b i) : tbl b' z = tbl b z := by
  have eP : ∀ k, tP b' z k = tP b z k := fun k => tps_cong hz hb _
  have hP : ∀ k, 0 ≤ tP b z k ∧ tP b z k ≤ z := fun k => tps_in hz _
  unfold tbl
  refine Prod.ext (funext fun k => ?_) (Prod.ext (funext eP) (Prod.ext (funext fun k => ?_) (Prod.ext (funext fun k => ?_) (funext fun k => ?_))))
  · show tK b' z k = tK b z k
    unfold tK
    rw [eP]
    by_cases c : tP b z k < z
    · rw [if_pos c, if_pos c]
      unfold tkK
      rw [hb _ (hP k).1 c, nln_cong hb tkL (hP k).1, nln_cong hb tkD (hP k).1, w2_cong _ (nln_rd hb tkL (hP k))]
    · rw [if_neg c, if_neg c]
  · show tV b' z k = tV b z k
    unfold tV
    rw [eP, nln_cong hb tkD (hP k).1, wn_cong _ (nln_rd hb tkD (hP k))]
  · show tA b' z k = tA b z k
    unfold tA
    rw [eP, nln_cong hb tkL (hP k).1, w2_cong _ (nln_rd hb tkL (hP k))]
  · show tB b' z k = tB b z k
    unfold tB
    rw [eP, nln_cong hb tkL (hP k).1, w27_cong _ (nln_rd hb tkL (hP k))]
end TCO
