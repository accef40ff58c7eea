/-! the law's end -/
/-- the law's machine, once the objects stand -/
def gL (p : Program) (l : Launch) (e : Env) (s : State) (m : MethodId) (below : List Frame) (meth : Method) (c : Code) (b : Nat) (w : Wd) : Mach := ((p, l, e, room_1), (s, m, #[Value.ref b], below), (meth, c, 600000, 7302250), w, lw_Z below #[Value.ref b] s)
theorem law_end {p : Program} {l : Launch} {e : Env} {s : State} {m : MethodId} {below : List Frame} {meth : Method} {c : Code} {b : Nat} {w : Wd} (C : Cx M_law (gL p l e s m below meth c b w)) (hr : meth.sig.returnType = ret) (hA : ∀ q, AA w q → s.heap.size ≤ q) (σ : St) (L : List (Option V)) : Ev (gL p l e s m below meth c b w) 1047 L [] σ := by
  have key : Ev (gL p l e s m below meth c b w) 1048 L [.inl 1] σ := by
    obtain ⟨hx, hb, hml, hown, hts, hK, hlk, hfr, hlo, hc, hs, hSt⟩ := C
    intro H locs ls hl hR
    refine va_forget (fun q hq => hA _ (hR.2.2.1.2.2 q hq)) ?_
    exact lw_ret hx hb hr hlk d_law_1048
  exact e_iconst C d_law_1047 key
/-- the law from its loop on -/
theorem law_loop {p : Program} {l : Launch} {e : Env} {s : State} {m : MethodId} {below : List Frame} {meth : Method} {c : Code} {b N : Nat} {xs : Nat → Int32} {w : Wd} {σ : St} (C : Cx M_law (gL p l e s m below meth c b w)) (X : SX (gL p l e s m below meth c b w) N xs) (hN : N ≤ 3072) (hr : meth.sig.returnType = ret) (hA : ∀ q, AA w q → s.heap.size ≤ q) (h0 : C00 σ) (hm : M00 (σ 1)) : Ev (gL p l e s m below meth c b w) 18 [some (.inr (.inr (98, 0))), some (.inr (.inr (0, 0))), some (.inr (.inr (1, 0))), some (.inl 0)] [] σ := by
  have := l_law C X hN (fun σ => law_end C hr hA σ _) 512 0 σ (by omega) (by omega) (by omega) (JV_0 h0 hm)
  exact this
