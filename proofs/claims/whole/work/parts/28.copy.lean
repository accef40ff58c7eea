/-! copies of a castle -/
theorem cc_if (c : Cs) (f : Nat) (d : Int → Int) (n : Int) (f' : Nat) (k' : Int) : cc c f d n f' k' = if f' = f ∧ 0 ≤ k' ∧ k' < n then d k' else c f' k' := rfl
theorem cc_f {c : Cs} {f f' : Nat} {d : Int → Int} {n k' : Int} (h : f' ≠ f) : cc c f d n f' k' = c f' k' := by rw [cc_if, if_neg (fun z => h z.1)]
theorem cc_s {c : Cs} {f : Nat} {d : Int → Int} {n k' : Int} (h : 0 ≤ k' ∧ k' < n) : cc c f d n f k' = d k' := by rw [cc_if, if_pos ⟨rfl, h⟩]
theorem cp_0 {c d : Cs} {k : Int} (h : 0 ≤ k ∧ k < 8) : c_copy c d 0 k = d 0 k := by unfold c_copy; simp only [cu_f, cc_f, ne_eq, Nat.reduceEqDiff, not_false_eq_true]; exact cc_s h
theorem cp_1 {c d : Cs} {k : Int} (h : 0 ≤ k ∧ k < 8) : c_copy c d 1 k = d 1 k := by unfold c_copy; simp only [cu_f, cc_f, ne_eq, Nat.reduceEqDiff, not_false_eq_true]; exact cc_s h
theorem cp_2 {c d : Cs} {k : Int} (h : 0 ≤ k ∧ k < 8) : c_copy c d 2 k = d 2 k := by unfold c_copy; simp only [cu_f, cc_f, ne_eq, Nat.reduceEqDiff, not_false_eq_true]; exact cc_s h
theorem cp_3 {c d : Cs} {k : Int} (h : 0 ≤ k ∧ k < 8) : c_copy c d 3 k = d 3 k := by unfold c_copy; simp only [cu_f, cc_f, ne_eq, Nat.reduceEqDiff, not_false_eq_true]; exact cc_s h
theorem cp_4 {c d : Cs} {k : Int} (h : 0 ≤ k ∧ k < 8) : c_copy c d 4 k = d 4 k := by unfold c_copy; simp only [cu_f, cc_f, ne_eq, Nat.reduceEqDiff, not_false_eq_true]; exact cc_s h
theorem cp_5 {c d : Cs} {k : Int} (h : 0 ≤ k ∧ k < 8) : c_copy c d 5 k = d 5 k := by unfold c_copy; simp only [cu_f, cc_f, ne_eq, Nat.reduceEqDiff, not_false_eq_true]; exact cc_s h
theorem cp_6 {c d : Cs} {k : Int} (h : 0 ≤ k ∧ k < 12) : c_copy c d 6 k = d 6 k := by unfold c_copy; simp only [cu_f, cc_f, ne_eq, Nat.reduceEqDiff, not_false_eq_true]; exact cc_s h
theorem cp_7 {c d : Cs} {k : Int} (h : 0 ≤ k ∧ k < 12) : c_copy c d 7 k = d 7 k := by unfold c_copy; simp only [cu_f, cc_f, ne_eq, Nat.reduceEqDiff, not_false_eq_true]; exact cc_s h
theorem cp_8 {c d : Cs} {k : Int} (h : 0 ≤ k ∧ k < 12) : c_copy c d 8 k = d 8 k := by unfold c_copy; simp only [cu_f, cc_f, ne_eq, Nat.reduceEqDiff, not_false_eq_true]; exact cc_s h
theorem cp_9 {c d : Cs} {k : Int} (h : 0 ≤ k ∧ k < 12) : c_copy c d 9 k = d 9 k := by unfold c_copy; simp only [cu_f, cc_f, ne_eq, Nat.reduceEqDiff, not_false_eq_true]; exact cc_s h
theorem cp_10 {c d : Cs} {k : Int} (h : 0 ≤ k ∧ k < 12) : c_copy c d 10 k = d 10 k := by unfold c_copy; simp only [cu_f, cc_f, ne_eq, Nat.reduceEqDiff, not_false_eq_true]; exact cc_s h
theorem cp_11 (c d : Cs) : c_copy c d 11 0 = d 11 0 := by unfold c_copy; simp only [cu_f, cu_s, ne_eq, Nat.reduceEqDiff, not_false_eq_true]
theorem cp_12 (c d : Cs) : c_copy c d 12 0 = d 12 0 := by unfold c_copy; rw [cu_s]
theorem CK_copy {B : Int} {c d : Cs} (h : CK B d) : CK B (c_copy c d) := by
  have h1 := h.1.1
  refine ⟨⟨?_, fun k k1 k2 => ?_, fun p p1 p2 => ?_⟩, fun p p1 p2 => ?_, fun k k1 k2 => ?_, ?_⟩
  · rw [cp_11]; exact h.1.1
  · rw [cp_11] at k2; rw [cp_10 (by omega)]; exact h.1.2.1 k k1 k2
  · rw [cp_2 ⟨p1, p2⟩]; exact h.1.2.2 p p1 p2
  · rw [cp_0 ⟨p1, p2⟩, cp_1 ⟨p1, p2⟩, cp_4 ⟨p1, p2⟩]; exact h.2.1 p p1 p2
  · rw [cp_7 ⟨k1, k2⟩, cp_8 ⟨k1, k2⟩, cp_9 ⟨k1, k2⟩]; exact h.2.2.1 k k1 k2
  · rw [cp_12]; exact h.2.2.2
