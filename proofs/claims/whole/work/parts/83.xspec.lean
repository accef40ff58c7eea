/-! an expression: signs that wait, what comes out -/
abbrev Cd : Type := Int × Int
def rnk (k : Int) : Int := if k = 42 ∨ k = 47 then 2 else if k = 43 ∨ k = 45 then 1 else 0
def opc (k : Int) : Int := if k = 43 then 2 else if k = 45 then 3 else if k = 42 then 4 else 5
def rel (r : Int) : List Int → List Cd → List Int × List Cd
  | [], pf => ([], pf)
  | w :: ws, pf => if r ≤ rnk w then rel r ws (pf ++ [(opc w, 0)]) else (w :: ws, pf)
def nop : List Int → Int
  | [] => 0
  | w :: ws => nop ws + (if w = 40 then 1 else 0)
def nbn : List Int → Nat
  | [] => 0
  | w :: ws => nbn ws + (if w = 40 then 0 else 1)
def wfw : List Int → Prop
  | [] => True
  | w :: ws => wfw ws ∧ ((ws.length : Int) + 1 ≤ 3 * nop (w :: ws) + rnk w) ∧ (w = 40 ∨ 1 ≤ rnk w)
def okd : List Cd → Nat → Option Nat
  | [], d => some d
  | c :: r, d => if c.1 = 0 ∨ c.1 = 1 then okd r (d + 1) else if 2 ≤ d then okd r (d - 1) else none
def cok (c : Cd) : Prop := (c.1 = 0 ∧ 0 ≤ c.2 ∧ c.2 ≤ 9999) ∨ (c.1 = 1 ∧ 0 ≤ c.2 ∧ c.2 ≤ 5) ∨ (2 ≤ c.1 ∧ c.1 ≤ 5)
theorem rnk_r (k : Int) : 0 ≤ rnk k ∧ rnk k ≤ 2 := by unfold rnk; split <;> (try split) <;> omega
theorem rnk_40 : rnk 40 = 0 := by decide
theorem rnk_ne {w : Int} (h : 1 ≤ rnk w) : w ≠ 40 := fun e => by rw [e, rnk_40] at h; omega
theorem nop_nn : ∀ ws, 0 ≤ nop ws
  | [] => Int.le_refl _
  | w :: ws => by
    have := nop_nn ws
    show 0 ≤ nop ws + _
    split <;> omega
theorem nbn_le : ∀ ws, nbn ws ≤ ws.length
  | [] => Nat.le_refl _
  | w :: ws => by
    have := nbn_le ws
    show nbn ws + _ ≤ ws.length + 1
    split <;> omega
theorem wfw_len {ws : List Int} (h : wfw ws) : (ws.length : Int) ≤ 3 * nop ws + 2 := by
  cases ws with
  | nil => have := nop_nn []; show ((0 : Nat) : Int) ≤ _; omega
  | cons w ws => have := h.2.1; have := rnk_r w; show ((ws.length + 1 : Nat) : Int) ≤ _; omega
theorem okd_app : ∀ (p q : List Cd) (d : Nat), okd (p ++ q) d = (okd p d).bind (okd q)
  | [], q, d => rfl
  | c :: p, q, d => by
    show (if c.1 = 0 ∨ c.1 = 1 then okd (p ++ q) (d + 1) else if 2 ≤ d then okd (p ++ q) (d - 1) else none) = (if c.1 = 0 ∨ c.1 = 1 then okd p (d + 1) else if 2 ≤ d then okd p (d - 1) else none).bind (okd q)
    rw [okd_app p q, okd_app p q]
    split
    · rfl
    · split <;> rfl
theorem okd_1 {pf : List Cd} {d : Nat} {c : Cd} (h : okd pf 0 = some d) (hc : c.1 = 0 ∨ c.1 = 1) : okd (pf ++ [c]) 0 = some (d + 1) := by
  rw [okd_app, h]
  show (if c.1 = 0 ∨ c.1 = 1 then okd [] (d + 1) else _) = some (d + 1)
  rw [if_pos hc]; rfl
theorem okd_2 {pf : List Cd} {d : Nat} {c : Cd} (h : okd pf 0 = some d) (hc : ¬ (c.1 = 0 ∨ c.1 = 1)) (hd : 2 ≤ d) : okd (pf ++ [c]) 0 = some (d - 1) := by
  rw [okd_app, h]
  show (if c.1 = 0 ∨ c.1 = 1 then okd [] (d + 1) else if 2 ≤ d then okd [] (d - 1) else none) = some (d - 1)
  rw [if_neg hc, if_pos hd]; rfl
theorem opc_r (w : Int) : 2 ≤ opc w ∧ opc w ≤ 5 := by unfold opc; split <;> (try split) <;> (try split) <;> omega
/-- what is kept while signs wait: t0 the first token, w whether a unit is wanted -/
def XI (T : Tab) (t0 t : Int) (w : Bool) (ws : List Int) (pf : List Cd) : Prop := wfw ws ∧ nop ws ≤ 6 ∧ okd pf 0 = some (nbn ws + (if w = true then 0 else 1)) ∧ (∀ c ∈ pf, cok c) ∧ ((pf.length : Int) + nbn ws + t0 ≤ t) ∧ t ≤ 400 ∧ 0 ≤ t0 ∧ (t = 0 ∨ T.1 (t - 1) ≠ 128) ∧ (w = false → t0 < t)
/-- waiting signs that bind enough come out -/
def RI (ws : List Int) (pf : List Cd) (m : Int) : Prop := wfw ws ∧ okd pf 0 = some (nbn ws + 1) ∧ (∀ c ∈ pf, cok c) ∧ (pf.length : Int) + nbn ws = m
theorem RI.step {w : Int} {ws : List Int} {pf : List Cd} {m : Int} (h : RI (w :: ws) pf m) (hr : 1 ≤ rnk w) : RI ws (pf ++ [(opc w, 0)]) m := by
  obtain ⟨h1, h2, h3, h4⟩ := h
  have hw := rnk_ne hr
  have e : nbn (w :: ws) = nbn ws + 1 := by show nbn ws + _ = _; rw [if_neg hw]
  have ho := opc_r w
  rw [e] at h2 h4
  refine ⟨h1.1, ?_, fun c hc => ?_, ?_⟩
  · rw [okd_2 h2 (by show ¬ (opc w = 0 ∨ opc w = 1); omega) (by omega)]; rfl
  · rcases List.mem_append.mp hc with hc | hc
    · exact h3 c hc
    · rw [List.mem_singleton.mp hc]; exact Or.inr (Or.inr ho)
  · rw [List.length_append, List.length_singleton]; omega
theorem rel_all {r : Int} (hr : 1 ≤ r) : ∀ (ws : List Int) (pf : List Cd) (m : Int), RI ws pf m → RI (rel r ws pf).1 (rel r ws pf).2 m ∧ nop (rel r ws pf).1 = nop ws ∧ (∀ w ws', (rel r ws pf).1 = w :: ws' → rnk w < r)
  | [], pf, m, h => ⟨h, rfl, fun w ws' e => by cases e⟩
  | w :: ws, pf, m, h => by
    by_cases c : r ≤ rnk w
    · have e : rel r (w :: ws) pf = rel r ws (pf ++ [(opc w, 0)]) := by show (if r ≤ rnk w then _ else _) = _; rw [if_pos c]
      obtain ⟨a1, a2, a3⟩ := rel_all hr ws _ m (h.step (by omega))
      rw [e]
      refine ⟨a1, a2.trans ?_, a3⟩
      show nop ws = nop ws + _
      rw [if_neg (rnk_ne (by omega))]; omega
    · have e : rel r (w :: ws) pf = (w :: ws, pf) := by show (if r ≤ rnk w then _ else _) = _; rw [if_neg c]
      rw [e]
      exact ⟨h, rfl, fun w' ws' e => by cases e; omega⟩
theorem rel_1 {ws : List Int} {pf : List Cd} (h : wfw ws) : (nop ws = 0 → (rel 1 ws pf).1 = []) ∧ (0 < nop ws → ∃ rest, (rel 1 ws pf).1 = 40 :: rest) := by
  induction ws generalizing pf with
  | nil => exact ⟨fun _ => rfl, fun h => by have : nop [] = 0 := rfl; omega⟩
  | cons w ws ih =>
    obtain ⟨h1, h2, h3⟩ := h
    rcases h3 with h3 | h3
    · have e : rel 1 (w :: ws) pf = (w :: ws, pf) := by show (if 1 ≤ rnk w then _ else _) = _; rw [if_neg (by rw [h3, rnk_40]; omega)]
      have e2 : nop (w :: ws) = nop ws + 1 := by show nop ws + _ = _; rw [if_pos h3]
      have := nop_nn ws
      rw [e, e2]
      exact ⟨fun z => by omega, fun _ => ⟨ws, by rw [h3]⟩⟩
    · have e : rel 1 (w :: ws) pf = rel 1 ws (pf ++ [(opc w, 0)]) := by show (if 1 ≤ rnk w then _ else _) = _; rw [if_pos h3]
      have e2 : nop (w :: ws) = nop ws := by show nop ws + _ = _; rw [if_neg (rnk_ne h3)]; omega
      rw [e, e2]
      exact ih h1
/-- the reading of one expression, a token a step -/
def xrun (T : Tab) : Nat → Int → Bool → List Int → List Cd → (Int × Int) ⊕ (Int × List Cd)
  | 0, t, _, _, _ => .inl (2, T.2.1 t)
  | n + 1, t, w, ws, pf =>
    if w = true then
      if T.1 t = 40 then (if nop ws = 6 then .inl (2, T.2.1 t) else if 400 ≤ t then .inl (2, T.2.1 t) else xrun T n (t + 1) true (40 :: ws) pf)
      else if T.1 t = 131 then (if 400 ≤ t then .inl (2, T.2.1 t) else xrun T n (t + 1) false ws (pf ++ [(0, T.2.2.1 t)]))
      else if 132 ≤ T.1 t ∧ T.1 t ≤ 137 then (if 400 ≤ t then .inl (2, T.2.1 t) else xrun T n (t + 1) false ws (pf ++ [(1, T.1 t - 132)]))
      else .inl (1, T.2.1 t)
    else if 0 < rnk (T.1 t) then (if 400 ≤ t then .inl (2, T.2.1 t) else xrun T n (t + 1) true (T.1 t :: (rel (rnk (T.1 t)) ws pf).1) (rel (rnk (T.1 t)) ws pf).2)
    else if T.1 t = 41 ∧ 0 < nop ws then (if 400 ≤ t then .inl (2, T.2.1 t) else xrun T n (t + 1) false (rel 1 ws pf).1.tail (rel 1 ws pf).2)
    else if nop ws = 0 then .inr (t, (rel 1 ws pf).2) else .inl (1, T.2.1 t)
def xE (T : Tab) (t : Int) : (Int × Int) ⊕ (Int × List Cd) := xrun T 401 t true [] []
theorem XI.start {T : Tab} {t : Int} (h0 : 0 ≤ t) (h1 : t ≤ 400) (hl : t = 0 ∨ T.1 (t - 1) ≠ 128) : XI T t t true [] [] := ⟨trivial, by show (0 : Int) ≤ 6; omega, rfl, (fun c h => by cases h), by show ((0 : Nat) : Int) + ((0 : Nat) : Int) + t ≤ t; omega, h1, h0, hl, fun h => by cases h⟩
theorem XI.opn {T : Tab} {t0 t : Int} {ws : List Int} {pf : List Cd} (h : XI T t0 t true ws pf) (hk : T.1 t = 40) (hn : nop ws ≠ 6) (ht : t < 400) : XI T t0 (t + 1) true (40 :: ws) pf := by
  obtain ⟨h1, h2, h3, h4, h5, h6, h7, h8, h9⟩ := h
  have e : nop (40 :: ws) = nop ws + 1 := by show nop ws + _ = _; rw [if_pos rfl]
  have e2 : nbn (40 :: ws) = nbn ws := by show nbn ws + _ = _; rw [if_pos rfl]; rfl
  have := wfw_len h1
  refine ⟨⟨h1, by rw [e, rnk_40]; omega, Or.inl rfl⟩, by omega, by rw [e2]; exact h3, h4, by rw [e2]; omega, by omega, h7, Or.inr ?_, fun h => by cases h⟩
  rw [Int.add_sub_cancel, hk]; decide
theorem XI.unit {T : Tab} {t0 t : Int} {ws : List Int} {pf : List Cd} {c : Cd} (h : XI T t0 t true ws pf) (hk : T.1 t ≠ 128) (ht : t < 400) (hc : c.1 = 0 ∨ c.1 = 1) (hc2 : cok c) : XI T t0 (t + 1) false ws (pf ++ [c]) := by
  obtain ⟨h1, h2, h3, h4, h5, h6, h7, h8, h9⟩ := h
  refine ⟨h1, h2, okd_1 h3 hc, fun d hd => ?_, ?_, by omega, h7, Or.inr ?_, fun _ => by omega⟩
  · rcases List.mem_append.mp hd with hd | hd
    · exact h4 d hd
    · rw [List.mem_singleton.mp hd]; exact hc2
  · rw [List.length_append, List.length_singleton]; omega
  · rw [Int.add_sub_cancel]; exact hk
theorem XI.ri {T : Tab} {t0 t : Int} {ws : List Int} {pf : List Cd} (h : XI T t0 t false ws pf) : RI ws pf ((pf.length : Int) + nbn ws) := ⟨h.1, h.2.2.1, h.2.2.2.1, rfl⟩
theorem XI.op {T : Tab} {t0 t : Int} {ws : List Int} {pf : List Cd} (h : XI T t0 t false ws pf) (hk : 0 < rnk (T.1 t)) (ht : t < 400) : XI T t0 (t + 1) true (T.1 t :: (rel (rnk (T.1 t)) ws pf).1) (rel (rnk (T.1 t)) ws pf).2 := by
  obtain ⟨⟨a1, a2, a3, a4⟩, a5, a6⟩ := rel_all (r := rnk (T.1 t)) (by omega) ws pf _ h.ri
  obtain ⟨h1, h2, h3, h4, h5, h6, h7, h8, h9⟩ := h
  have hne := rnk_ne (show 1 ≤ rnk (T.1 t) by omega)
  have e : nop (T.1 t :: (rel (rnk (T.1 t)) ws pf).1) = nop ws := by show nop _ + _ = _; rw [if_neg hne, a5]; omega
  have e2 : nbn (T.1 t :: (rel (rnk (T.1 t)) ws pf).1) = nbn (rel (rnk (T.1 t)) ws pf).1 + 1 := by show nbn _ + _ = _; rw [if_neg hne]
  refine ⟨⟨a1, ?_, Or.inr (by omega)⟩, by omega, by rw [e2]; exact a2, a3, by rw [e2]; omega, by omega, h7, Or.inr ?_, fun h => by cases h⟩
  · rw [e, ← a5]
    cases hw : (rel (rnk (T.1 t)) ws pf).1 with
    | nil => have := nop_nn []; show ((0 : Nat) : Int) + 1 ≤ _; omega
    | cons w ws' =>
      rw [hw] at a1 a6
      have b1 := a1.2.1
      have b2 := a6 w ws' rfl
      show ((ws'.length + 1 : Nat) : Int) + 1 ≤ _
      omega
  · rw [Int.add_sub_cancel]; intro z; rw [z] at hk; exact absurd hk (by decide)
theorem XI.close {T : Tab} {t0 t : Int} {ws : List Int} {pf : List Cd} (h : XI T t0 t false ws pf) (hk : T.1 t = 41) (hn : 0 < nop ws) (ht : t < 400) : XI T t0 (t + 1) false (rel 1 ws pf).1.tail (rel 1 ws pf).2 ∧ (rel 1 ws pf).1 = 40 :: (rel 1 ws pf).1.tail ∧ nop (rel 1 ws pf).1.tail = nop ws - 1 := by
  obtain ⟨⟨a1, a2, a3, a4⟩, a5, a6⟩ := rel_all (r := 1) (by omega) ws pf _ h.ri
  obtain ⟨rest, hr⟩ := (rel_1 (pf := pf) h.1).2 hn
  obtain ⟨h1, h2, h3, h4, h5, h6, h7, h8, h9⟩ := h
  rw [hr] at a1 a2 a4 a5 ⊢
  have e : nop (40 :: rest) = nop rest + 1 := by show nop rest + _ = _; rw [if_pos rfl]
  have e2 : nbn (40 :: rest) = nbn rest := by show nbn rest + _ = _; rw [if_pos rfl]; rfl
  rw [e2] at a2 a4
  refine ⟨⟨a1.1, ?_, a2, a3, ?_, by omega, h7, Or.inr ?_, fun _ => by omega⟩, rfl, ?_⟩
  · show nop rest ≤ 6
    omega
  · show ((rel 1 ws pf).2.length : Int) + nbn rest + t0 ≤ t + 1
    omega
  · rw [Int.add_sub_cancel, hk]; decide
  · show nop rest = nop ws - 1
    omega
theorem XI.done {T : Tab} {t0 t : Int} {ws : List Int} {pf : List Cd} (h : XI T t0 t false ws pf) (hn : nop ws = 0) : (rel 1 ws pf).1 = [] ∧ okd (rel 1 ws pf).2 0 = some 1 ∧ (∀ c ∈ (rel 1 ws pf).2, cok c) ∧ ((rel 1 ws pf).2.length : Int) + t0 ≤ t := by
  obtain ⟨⟨a1, a2, a3, a4⟩, a5, a6⟩ := rel_all (r := 1) (by omega) ws pf _ h.ri
  have e := (rel_1 (pf := pf) h.1).1 hn
  obtain ⟨h1, h2, h3, h4, h5, h6, h7, h8, h9⟩ := h
  rw [e] at a2 a4
  refine ⟨e, a2, a3, ?_⟩
  have a4 : ((rel 1 ws pf).2.length : Int) + ((0 : Nat) : Int) = _ := a4
  omega
theorem TF.v {T : Tab} (h : TF T) {t : Int} (hk : T.1 t = 131) : cok (0, T.2.2.1 t) := Or.inl ⟨rfl, h.2.2.2.1 t hk⟩
theorem xrun_ok {T : Tab} (hT : TF T) {t0 : Int} : ∀ (n : Nat) (t : Int) (w : Bool) (ws : List Int) (pf : List Cd) (t' : Int) (pf' : List Cd), XI T t0 t w ws pf → xrun T n t w ws pf = .inr (t', pf') → t0 < t' ∧ t' ≤ 400 ∧ T.1 (t' - 1) ≠ 128 ∧ okd pf' 0 = some 1 ∧ (∀ c ∈ pf', cok c) ∧ (pf'.length : Int) + t0 ≤ t'
  | 0, t, w, ws, pf, t', pf', _, e => by cases e
  | n + 1, t, true, ws, pf, t', pf', h, e => by
    unfold xrun at e
    rw [if_pos rfl] at e
    by_cases c1 : T.1 t = 40
    · rw [if_pos c1] at e
      by_cases c2 : nop ws = 6
      · rw [if_pos c2] at e; cases e
      · rw [if_neg c2] at e
        by_cases c3 : 400 ≤ t
        · rw [if_pos c3] at e; cases e
        · rw [if_neg c3] at e
          exact xrun_ok hT n _ _ _ _ t' pf' (h.opn c1 c2 (by omega)) e
    · rw [if_neg c1] at e
      by_cases c2 : T.1 t = 131
      · rw [if_pos c2] at e
        by_cases c3 : 400 ≤ t
        · rw [if_pos c3] at e; cases e
        · rw [if_neg c3] at e
          exact xrun_ok hT n _ _ _ _ t' pf' (h.unit (by omega) (by omega) (Or.inl rfl) (hT.v c2)) e
      · rw [if_neg c2] at e
        by_cases c4 : 132 ≤ T.1 t ∧ T.1 t ≤ 137
        · rw [if_pos c4] at e
          by_cases c3 : 400 ≤ t
          · rw [if_pos c3] at e; cases e
          · rw [if_neg c3] at e
            exact xrun_ok hT n _ _ _ _ t' pf' (h.unit (by omega) (by omega) (Or.inr rfl) (Or.inr (Or.inl ⟨rfl, by show 0 ≤ T.1 t - 132; omega, by show T.1 t - 132 ≤ 5; omega⟩))) e
        · rw [if_neg c4] at e; cases e
  | n + 1, t, false, ws, pf, t', pf', h, e => by
    unfold xrun at e
    rw [if_neg (by decide)] at e
    by_cases c1 : 0 < rnk (T.1 t)
    · rw [if_pos c1] at e
      by_cases c3 : 400 ≤ t
      · rw [if_pos c3] at e; cases e
      · rw [if_neg c3] at e
        exact xrun_ok hT n _ _ _ _ t' pf' (h.op c1 (by omega)) e
    · rw [if_neg c1] at e
      by_cases c2 : T.1 t = 41 ∧ 0 < nop ws
      · rw [if_pos c2] at e
        by_cases c3 : 400 ≤ t
        · rw [if_pos c3] at e; cases e
        · rw [if_neg c3] at e
          exact xrun_ok hT n _ _ _ _ t' pf' (h.close c2.1 c2.2 (by omega)).1 e
      · rw [if_neg c2] at e
        by_cases c3 : nop ws = 0
        · rw [if_pos c3] at e
          cases e
          obtain ⟨d1, d2, d3, d4⟩ := h.done c3
          obtain ⟨h1, h2, h3, h4, h5, h6, h7, h8, h9⟩ := h
          have h9 := h9 rfl
          refine ⟨h9, h6, ?_, d2, d3, d4⟩
          rcases h8 with h8 | h8
          · omega
          · exact h8
        · rw [if_neg c3] at e; cases e
theorem xE_ok {T : Tab} (hT : TF T) {t t' : Int} {pf : List Cd} (h0 : 0 ≤ t) (h1 : t ≤ 400) (hl : t = 0 ∨ T.1 (t - 1) ≠ 128) (e : xE T t = .inr (t', pf)) : t < t' ∧ t' ≤ 400 ∧ T.1 (t' - 1) ≠ 128 ∧ okd pf 0 = some 1 ∧ (∀ c ∈ pf, cok c) ∧ (pf.length : Int) + t ≤ t' := xrun_ok hT 401 t true [] [] t' pf (XI.start h0 h1 hl) e
/-! the class's steps out of what comes out -/
def clr (l : Cs) : Cs := cu (cu (cu (cu l 7 0 0) 8 0 0) 0 0 1) 1 0 0
def useI (l : Cs) (v : Int) : Cs := cu (cu l 6 (6 + l 8 0) v) 8 0 (l 8 0 + 1)
def useV (l : Cs) (j : Int) : Cs := cu (cu l 0 0 (if l 0 0 ≠ 0 ∧ j ≠ 2 ∧ j ≠ 3 ∧ j ≠ 4 then 1 else 0)) 1 0 (if l 1 0 ≠ 0 ∨ j = 1 then 1 else 0)
def addS (l : Cs) (op a b : Int) : Cs := cu (cu (cu (cu l 2 (l 7 0) op) 3 (l 7 0) a) 4 (l 7 0) b) 7 0 (l 7 0 + 1)
def cgs (p : Cs × List Int) (c : Cd) : Cs × List Int :=
  if c.1 = 0 then (useI p.1 c.2, (6 + p.1 8 0) :: p.2)
  else if c.1 = 1 then (useV p.1 c.2, c.2 :: p.2)
  else match p.2 with
    | b :: a :: U => (addS p.1 (c.1 - 2) a b, (406 + p.1 7 0) :: U)
    | U => (p.1, U)
def cg (l : Cs) (pf : List Cd) : Cs × List Int := pf.foldl cgs (l, [])
theorem cg_app (l : Cs) (pf : List Cd) (c : Cd) : cg l (pf ++ [c]) = cgs (cg l pf) c := by unfold cg; rw [List.foldl_append]; rfl
theorem useI_78 (l : Cs) (v : Int) : useI l v 7 0 = l 7 0 ∧ useI l v 8 0 = l 8 0 + 1 := by
  unfold useI
  exact ⟨by rw [cu_f (by decide), cu_f (by decide)], cu_s _ _ _ _⟩
theorem useV_78 (l : Cs) (v : Int) : useV l v 7 0 = l 7 0 ∧ useV l v 8 0 = l 8 0 := by
  unfold useV
  exact ⟨by rw [cu_f (by decide), cu_f (by decide)], by rw [cu_f (by decide), cu_f (by decide)]⟩
theorem addS_78 (l : Cs) (o a b : Int) : addS l o a b 7 0 = l 7 0 + 1 ∧ addS l o a b 8 0 = l 8 0 := by
  unfold addS
  exact ⟨cu_s _ _ _ _, by rw [cu_f (by decide), cu_f (by decide), cu_f (by decide), cu_f (by decide)]⟩
/-- how many steps and numbers there are at most, and that units are numbers that stand there -/
def CGi (l : Cs) (k : Int) (p : Cs × List Int) : Prop := (l 7 0 ≤ p.1 7 0 ∧ p.1 7 0 ≤ l 7 0 + k) ∧ (l 8 0 ≤ p.1 8 0 ∧ p.1 8 0 ≤ l 8 0 + k) ∧ ∀ u ∈ p.2, 0 ≤ u ∧ u < 406 + p.1 7 0 ∧ (u < 6 + p.1 8 0 ∨ 406 ≤ u)
theorem CGi.step {l : Cs} {k : Int} {p : Cs × List Int} {c : Cd} (h : CGi l k p) (hc : cok c) (h7 : 0 ≤ l 7 0) (h8 : 0 ≤ l 8 0) (hb : l 8 0 + k < 400) : CGi l (k + 1) (cgs p c) := by
  obtain ⟨h1, h2, h3⟩ := h
  unfold cgs
  by_cases c0 : c.1 = 0
  · rw [if_pos c0]
    obtain ⟨e1, e2⟩ := useI_78 p.1 c.2
    refine ⟨by show _ ≤ useI p.1 c.2 7 0 ∧ useI p.1 c.2 7 0 ≤ _; omega, by show _ ≤ useI p.1 c.2 8 0 ∧ useI p.1 c.2 8 0 ≤ _; omega, fun u hu => ?_⟩
    show 0 ≤ u ∧ u < 406 + useI p.1 c.2 7 0 ∧ (u < 6 + useI p.1 c.2 8 0 ∨ 406 ≤ u)
    rcases List.mem_cons.mp hu with hu | hu
    · omega
    · have := h3 u hu; omega
  · rw [if_neg c0]
    by_cases c1 : c.1 = 1
    · rw [if_pos c1]
      obtain ⟨e1, e2⟩ := useV_78 p.1 c.2
      refine ⟨by show _ ≤ useV p.1 c.2 7 0 ∧ useV p.1 c.2 7 0 ≤ _; omega, by show _ ≤ useV p.1 c.2 8 0 ∧ useV p.1 c.2 8 0 ≤ _; omega, fun u hu => ?_⟩
      show 0 ≤ u ∧ u < 406 + useV p.1 c.2 7 0 ∧ (u < 6 + useV p.1 c.2 8 0 ∨ 406 ≤ u)
      rcases List.mem_cons.mp hu with hu | hu
      · unfold cok at hc; omega
      · have := h3 u hu; omega
    · rw [if_neg c1]
      obtain ⟨l1, U⟩ := p
      match U with
      | [] => exact ⟨by show _ ≤ l1 7 0 ∧ l1 7 0 ≤ _; have h1 : _ ≤ l1 7 0 ∧ l1 7 0 ≤ _ := h1; omega, by show _ ≤ l1 8 0 ∧ l1 8 0 ≤ _; have h2 : _ ≤ l1 8 0 ∧ l1 8 0 ≤ _ := h2; omega, h3⟩
      | [b] => exact ⟨by show _ ≤ l1 7 0 ∧ l1 7 0 ≤ _; have h1 : _ ≤ l1 7 0 ∧ l1 7 0 ≤ _ := h1; omega, by show _ ≤ l1 8 0 ∧ l1 8 0 ≤ _; have h2 : _ ≤ l1 8 0 ∧ l1 8 0 ≤ _ := h2; omega, h3⟩
      | b :: a :: U =>
        obtain ⟨e1, e2⟩ := addS_78 l1 (c.1 - 2) a b
        have h1 : _ ≤ l1 7 0 ∧ l1 7 0 ≤ _ := h1
        have h2 : _ ≤ l1 8 0 ∧ l1 8 0 ≤ _ := h2
        have h3 : ∀ u ∈ b :: a :: U, 0 ≤ u ∧ u < 406 + l1 7 0 ∧ (u < 6 + l1 8 0 ∨ 406 ≤ u) := h3
        refine ⟨by show _ ≤ addS l1 (c.1 - 2) a b 7 0 ∧ addS l1 (c.1 - 2) a b 7 0 ≤ _; omega, by show _ ≤ addS l1 (c.1 - 2) a b 8 0 ∧ addS l1 (c.1 - 2) a b 8 0 ≤ _; omega, fun u hu => ?_⟩
        show 0 ≤ u ∧ u < 406 + addS l1 (c.1 - 2) a b 7 0 ∧ (u < 6 + addS l1 (c.1 - 2) a b 8 0 ∨ 406 ≤ u)
        rcases List.mem_cons.mp hu with hu | hu
        · have hu : u = 406 + l1 7 0 := hu
          omega
        · have := h3 u (List.mem_cons_of_mem _ (List.mem_cons_of_mem _ hu)); omega
theorem CGi_cg {l : Cs} (h7 : 0 ≤ l 7 0) (h8 : 0 ≤ l 8 0) (pf : List Cd) : (∀ c ∈ pf, cok c) → l 8 0 + pf.length < 400 → CGi l pf.length (cg l pf) := by
  have : ∀ (q : List Cd) (k : Int) (p : Cs × List Int), CGi l k p → (∀ c ∈ q, cok c) → l 8 0 + k + q.length < 400 → CGi l (k + q.length) (q.foldl cgs p) := by
    intro q
    induction q with
    | nil => intro k p h _ _; show CGi l (k + ((0 : Nat) : Int)) p; rw [show k + ((0 : Nat) : Int) = k by omega]; exact h
    | cons c q ih =>
      intro k p h hc hb
      have hb : l 8 0 + k + ((q.length + 1 : Nat) : Int) < 400 := hb
      have := ih (k + 1) (cgs p c) (h.step (hc c List.mem_cons_self) h7 h8 (by omega)) (fun d hd => hc d (List.mem_cons_of_mem _ hd)) (by omega)
      show CGi l (k + ((q.length + 1 : Nat) : Int)) _
      rw [show k + ((q.length + 1 : Nat) : Int) = k + 1 + q.length by omega]
      exact this
  intro hc hb
  have := this pf 0 (l, []) ⟨⟨Int.le_refl _, by show l 7 0 ≤ _; omega⟩, ⟨Int.le_refl _, by show l 8 0 ≤ _; omega⟩, fun u hu => by cases hu⟩ hc (by omega)
  rw [Int.zero_add] at this
  exact this
theorem cg_len {l : Cs} (pf : List Cd) {d : Nat} (h : okd pf 0 = some d) : (cg l pf).2.length = d := by
  have : ∀ (q : List Cd) (p : Cs × List Int) (d : Nat), okd q p.2.length = some d → (q.foldl cgs p).2.length = d := by
    intro q
    induction q with
    | nil => intro p d h; cases h; rfl
    | cons c q ih =>
      intro p d h
      refine ih (cgs p c) d ?_
      have h : (if c.1 = 0 ∨ c.1 = 1 then okd q (p.2.length + 1) else if 2 ≤ p.2.length then okd q (p.2.length - 1) else none) = some d := h
      unfold cgs
      by_cases c0 : c.1 = 0
      · rw [if_pos (Or.inl c0)] at h; rw [if_pos c0]; exact h
      · rw [if_neg c0]
        by_cases c1 : c.1 = 1
        · rw [if_pos (Or.inr c1)] at h; rw [if_pos c1]; exact h
        · rw [if_neg c1]
          rw [if_neg (by omega)] at h
          obtain ⟨l1, U⟩ := p
          match U, h with
          | [], h => rw [if_neg (by show ¬ 2 ≤ 0; omega)] at h; cases h
          | [b], h => rw [if_neg (by show ¬ 2 ≤ 1; omega)] at h; cases h
          | b :: a :: U, h =>
            rw [if_pos (by show 2 ≤ U.length + 1 + 1; omega)] at h
            exact h
  exact this pf (l, []) d h
