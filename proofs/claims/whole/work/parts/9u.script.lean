/-! the script stands for the law's machine -/
theorem SX_of {p : Program} {l : Launch} {e : Env} {s : State} {m : MethodId} {below : List Frame} {meth : Method} {c : Code} {b L : Nat} {xs : Nat → Int32} {w : Wd} (hX : va_X b L xs s s.heap) (hb : b < s.heap.size) (hw : w.2.2 98 0 = b) (hA : ∀ q, AA w q → s.heap.size ≤ q) : SX (gL p l e s m below meth c b w) L xs := by
  obtain ⟨scr, h1, h2, h3, h4, h5⟩ := hX
  show va_T .int (w.2.2 98 0) L (fun j => .int (xs j)) (AA w) s s.heap
  rw [hw]
  exact ⟨scr, h1, h2, h3, by omega, by rw [h4], h5, fun z => by have := hA _ z; omega⟩
