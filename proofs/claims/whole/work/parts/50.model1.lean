/-! the reference's row, as a castle -/
def em (v : Int) : Int := if v = -2 then -1 else v
def RY (R : Int → Int) (y : Cs) : Prop := (∀ p, 0 ≤ p → p < 8 → R p = y 0 p ∧ R (8 + p) = y 1 p ∧ R (16 + p) = em (y 2 p) ∧ R (24 + p) = y 3 p ∧ R (32 + p) = y 4 p ∧ R (40 + p) = y 5 p) ∧ (∀ k, 0 ≤ k → k < 12 → R (48 + k) = y 7 k ∧ R (60 + k) = y 8 k ∧ R (72 + k) = y 9 k ∧ R (84 + k) = y 10 k) ∧ R 96 = y 11 0 ∧ R 97 = y 12 0
theorem RY_0 {R : Int → Int} {y : Cs} {q v : Int} (h : RY R y) (hq : 0 ≤ q ∧ q < 8) : RY (ua R (q) v) (cu y 0 q v) := by
  refine ⟨fun p a b => ?_, fun k a b => ?_, ?_, ?_⟩
  · have := h.1 p a b
    refine ⟨?_, ?_, ?_, ?_, ?_, ?_⟩
    · by_cases e : p = q
      · rw [e, ua_at, cu_s]
      · rw [ua_ne (by omega), cu_k e]; exact this.1
    · rw [ua_ne (by omega), cu_f (by decide)]; exact this.2.1
    · rw [ua_ne (by omega), cu_f (by decide)]; exact this.2.2.1
    · rw [ua_ne (by omega), cu_f (by decide)]; exact this.2.2.2.1
    · rw [ua_ne (by omega), cu_f (by decide)]; exact this.2.2.2.2.1
    · rw [ua_ne (by omega), cu_f (by decide)]; exact this.2.2.2.2.2
  · have := h.2.1 k a b
    refine ⟨?_, ?_, ?_, ?_⟩
    · rw [ua_ne (by omega), cu_f (by decide)]; exact this.1
    · rw [ua_ne (by omega), cu_f (by decide)]; exact this.2.1
    · rw [ua_ne (by omega), cu_f (by decide)]; exact this.2.2.1
    · rw [ua_ne (by omega), cu_f (by decide)]; exact this.2.2.2
  · rw [ua_ne (by omega), cu_f (by decide)]; exact h.2.2.1
  · rw [ua_ne (by omega), cu_f (by decide)]; exact h.2.2.2
theorem RY_1 {R : Int → Int} {y : Cs} {q v : Int} (h : RY R y) (hq : 0 ≤ q ∧ q < 8) : RY (ua R (8 + q) v) (cu y 1 q v) := by
  refine ⟨fun p a b => ?_, fun k a b => ?_, ?_, ?_⟩
  · have := h.1 p a b
    refine ⟨?_, ?_, ?_, ?_, ?_, ?_⟩
    · rw [ua_ne (by omega), cu_f (by decide)]; exact this.1
    · by_cases e : p = q
      · rw [e, ua_at, cu_s]
      · rw [ua_ne (by omega), cu_k e]; exact this.2.1
    · rw [ua_ne (by omega), cu_f (by decide)]; exact this.2.2.1
    · rw [ua_ne (by omega), cu_f (by decide)]; exact this.2.2.2.1
    · rw [ua_ne (by omega), cu_f (by decide)]; exact this.2.2.2.2.1
    · rw [ua_ne (by omega), cu_f (by decide)]; exact this.2.2.2.2.2
  · have := h.2.1 k a b
    refine ⟨?_, ?_, ?_, ?_⟩
    · rw [ua_ne (by omega), cu_f (by decide)]; exact this.1
    · rw [ua_ne (by omega), cu_f (by decide)]; exact this.2.1
    · rw [ua_ne (by omega), cu_f (by decide)]; exact this.2.2.1
    · rw [ua_ne (by omega), cu_f (by decide)]; exact this.2.2.2
  · rw [ua_ne (by omega), cu_f (by decide)]; exact h.2.2.1
  · rw [ua_ne (by omega), cu_f (by decide)]; exact h.2.2.2
theorem RY_2 {R : Int → Int} {y : Cs} {q v w : Int} (h : RY R y) (hq : 0 ≤ q ∧ q < 8) (hw : em w = v) : RY (ua R (16 + q) v) (cu y 2 q w) := by
  refine ⟨fun p a b => ?_, fun k a b => ?_, ?_, ?_⟩
  · have := h.1 p a b
    refine ⟨?_, ?_, ?_, ?_, ?_, ?_⟩
    · rw [ua_ne (by omega), cu_f (by decide)]; exact this.1
    · rw [ua_ne (by omega), cu_f (by decide)]; exact this.2.1
    · by_cases e : p = q
      · rw [e, ua_at, cu_s]; exact hw.symm
      · rw [ua_ne (by omega), cu_k e]; exact this.2.2.1
    · rw [ua_ne (by omega), cu_f (by decide)]; exact this.2.2.2.1
    · rw [ua_ne (by omega), cu_f (by decide)]; exact this.2.2.2.2.1
    · rw [ua_ne (by omega), cu_f (by decide)]; exact this.2.2.2.2.2
  · have := h.2.1 k a b
    refine ⟨?_, ?_, ?_, ?_⟩
    · rw [ua_ne (by omega), cu_f (by decide)]; exact this.1
    · rw [ua_ne (by omega), cu_f (by decide)]; exact this.2.1
    · rw [ua_ne (by omega), cu_f (by decide)]; exact this.2.2.1
    · rw [ua_ne (by omega), cu_f (by decide)]; exact this.2.2.2
  · rw [ua_ne (by omega), cu_f (by decide)]; exact h.2.2.1
  · rw [ua_ne (by omega), cu_f (by decide)]; exact h.2.2.2
theorem RY_3 {R : Int → Int} {y : Cs} {q v : Int} (h : RY R y) (hq : 0 ≤ q ∧ q < 8) : RY (ua R (24 + q) v) (cu y 3 q v) := by
  refine ⟨fun p a b => ?_, fun k a b => ?_, ?_, ?_⟩
  · have := h.1 p a b
    refine ⟨?_, ?_, ?_, ?_, ?_, ?_⟩
    · rw [ua_ne (by omega), cu_f (by decide)]; exact this.1
    · rw [ua_ne (by omega), cu_f (by decide)]; exact this.2.1
    · rw [ua_ne (by omega), cu_f (by decide)]; exact this.2.2.1
    · by_cases e : p = q
      · rw [e, ua_at, cu_s]
      · rw [ua_ne (by omega), cu_k e]; exact this.2.2.2.1
    · rw [ua_ne (by omega), cu_f (by decide)]; exact this.2.2.2.2.1
    · rw [ua_ne (by omega), cu_f (by decide)]; exact this.2.2.2.2.2
  · have := h.2.1 k a b
    refine ⟨?_, ?_, ?_, ?_⟩
    · rw [ua_ne (by omega), cu_f (by decide)]; exact this.1
    · rw [ua_ne (by omega), cu_f (by decide)]; exact this.2.1
    · rw [ua_ne (by omega), cu_f (by decide)]; exact this.2.2.1
    · rw [ua_ne (by omega), cu_f (by decide)]; exact this.2.2.2
  · rw [ua_ne (by omega), cu_f (by decide)]; exact h.2.2.1
  · rw [ua_ne (by omega), cu_f (by decide)]; exact h.2.2.2
theorem RY_4 {R : Int → Int} {y : Cs} {q v : Int} (h : RY R y) (hq : 0 ≤ q ∧ q < 8) : RY (ua R (32 + q) v) (cu y 4 q v) := by
  refine ⟨fun p a b => ?_, fun k a b => ?_, ?_, ?_⟩
  · have := h.1 p a b
    refine ⟨?_, ?_, ?_, ?_, ?_, ?_⟩
    · rw [ua_ne (by omega), cu_f (by decide)]; exact this.1
    · rw [ua_ne (by omega), cu_f (by decide)]; exact this.2.1
    · rw [ua_ne (by omega), cu_f (by decide)]; exact this.2.2.1
    · rw [ua_ne (by omega), cu_f (by decide)]; exact this.2.2.2.1
    · by_cases e : p = q
      · rw [e, ua_at, cu_s]
      · rw [ua_ne (by omega), cu_k e]; exact this.2.2.2.2.1
    · rw [ua_ne (by omega), cu_f (by decide)]; exact this.2.2.2.2.2
  · have := h.2.1 k a b
    refine ⟨?_, ?_, ?_, ?_⟩
    · rw [ua_ne (by omega), cu_f (by decide)]; exact this.1
    · rw [ua_ne (by omega), cu_f (by decide)]; exact this.2.1
    · rw [ua_ne (by omega), cu_f (by decide)]; exact this.2.2.1
    · rw [ua_ne (by omega), cu_f (by decide)]; exact this.2.2.2
  · rw [ua_ne (by omega), cu_f (by decide)]; exact h.2.2.1
  · rw [ua_ne (by omega), cu_f (by decide)]; exact h.2.2.2
theorem RY_5 {R : Int → Int} {y : Cs} {q v : Int} (h : RY R y) (hq : 0 ≤ q ∧ q < 8) : RY (ua R (40 + q) v) (cu y 5 q v) := by
  refine ⟨fun p a b => ?_, fun k a b => ?_, ?_, ?_⟩
  · have := h.1 p a b
    refine ⟨?_, ?_, ?_, ?_, ?_, ?_⟩
    · rw [ua_ne (by omega), cu_f (by decide)]; exact this.1
    · rw [ua_ne (by omega), cu_f (by decide)]; exact this.2.1
    · rw [ua_ne (by omega), cu_f (by decide)]; exact this.2.2.1
    · rw [ua_ne (by omega), cu_f (by decide)]; exact this.2.2.2.1
    · rw [ua_ne (by omega), cu_f (by decide)]; exact this.2.2.2.2.1
    · by_cases e : p = q
      · rw [e, ua_at, cu_s]
      · rw [ua_ne (by omega), cu_k e]; exact this.2.2.2.2.2
  · have := h.2.1 k a b
    refine ⟨?_, ?_, ?_, ?_⟩
    · rw [ua_ne (by omega), cu_f (by decide)]; exact this.1
    · rw [ua_ne (by omega), cu_f (by decide)]; exact this.2.1
    · rw [ua_ne (by omega), cu_f (by decide)]; exact this.2.2.1
    · rw [ua_ne (by omega), cu_f (by decide)]; exact this.2.2.2
  · rw [ua_ne (by omega), cu_f (by decide)]; exact h.2.2.1
  · rw [ua_ne (by omega), cu_f (by decide)]; exact h.2.2.2
theorem RY_7 {R : Int → Int} {y : Cs} {q v : Int} (h : RY R y) (hq : 0 ≤ q ∧ q < 12) : RY (ua R (48 + q) v) (cu y 7 q v) := by
  refine ⟨fun p a b => ?_, fun k a b => ?_, ?_, ?_⟩
  · have := h.1 p a b
    refine ⟨?_, ?_, ?_, ?_, ?_, ?_⟩
    · rw [ua_ne (by omega), cu_f (by decide)]; exact this.1
    · rw [ua_ne (by omega), cu_f (by decide)]; exact this.2.1
    · rw [ua_ne (by omega), cu_f (by decide)]; exact this.2.2.1
    · rw [ua_ne (by omega), cu_f (by decide)]; exact this.2.2.2.1
    · rw [ua_ne (by omega), cu_f (by decide)]; exact this.2.2.2.2.1
    · rw [ua_ne (by omega), cu_f (by decide)]; exact this.2.2.2.2.2
  · have := h.2.1 k a b
    refine ⟨?_, ?_, ?_, ?_⟩
    · by_cases e : k = q
      · rw [e, ua_at, cu_s]
      · rw [ua_ne (by omega), cu_k e]; exact this.1
    · rw [ua_ne (by omega), cu_f (by decide)]; exact this.2.1
    · rw [ua_ne (by omega), cu_f (by decide)]; exact this.2.2.1
    · rw [ua_ne (by omega), cu_f (by decide)]; exact this.2.2.2
  · rw [ua_ne (by omega), cu_f (by decide)]; exact h.2.2.1
  · rw [ua_ne (by omega), cu_f (by decide)]; exact h.2.2.2
theorem RY_8 {R : Int → Int} {y : Cs} {q v : Int} (h : RY R y) (hq : 0 ≤ q ∧ q < 12) : RY (ua R (60 + q) v) (cu y 8 q v) := by
  refine ⟨fun p a b => ?_, fun k a b => ?_, ?_, ?_⟩
  · have := h.1 p a b
    refine ⟨?_, ?_, ?_, ?_, ?_, ?_⟩
    · rw [ua_ne (by omega), cu_f (by decide)]; exact this.1
    · rw [ua_ne (by omega), cu_f (by decide)]; exact this.2.1
    · rw [ua_ne (by omega), cu_f (by decide)]; exact this.2.2.1
    · rw [ua_ne (by omega), cu_f (by decide)]; exact this.2.2.2.1
    · rw [ua_ne (by omega), cu_f (by decide)]; exact this.2.2.2.2.1
    · rw [ua_ne (by omega), cu_f (by decide)]; exact this.2.2.2.2.2
  · have := h.2.1 k a b
    refine ⟨?_, ?_, ?_, ?_⟩
    · rw [ua_ne (by omega), cu_f (by decide)]; exact this.1
    · by_cases e : k = q
      · rw [e, ua_at, cu_s]
      · rw [ua_ne (by omega), cu_k e]; exact this.2.1
    · rw [ua_ne (by omega), cu_f (by decide)]; exact this.2.2.1
    · rw [ua_ne (by omega), cu_f (by decide)]; exact this.2.2.2
  · rw [ua_ne (by omega), cu_f (by decide)]; exact h.2.2.1
  · rw [ua_ne (by omega), cu_f (by decide)]; exact h.2.2.2
theorem RY_9 {R : Int → Int} {y : Cs} {q v : Int} (h : RY R y) (hq : 0 ≤ q ∧ q < 12) : RY (ua R (72 + q) v) (cu y 9 q v) := by
  refine ⟨fun p a b => ?_, fun k a b => ?_, ?_, ?_⟩
  · have := h.1 p a b
    refine ⟨?_, ?_, ?_, ?_, ?_, ?_⟩
    · rw [ua_ne (by omega), cu_f (by decide)]; exact this.1
    · rw [ua_ne (by omega), cu_f (by decide)]; exact this.2.1
    · rw [ua_ne (by omega), cu_f (by decide)]; exact this.2.2.1
    · rw [ua_ne (by omega), cu_f (by decide)]; exact this.2.2.2.1
    · rw [ua_ne (by omega), cu_f (by decide)]; exact this.2.2.2.2.1
    · rw [ua_ne (by omega), cu_f (by decide)]; exact this.2.2.2.2.2
  · have := h.2.1 k a b
    refine ⟨?_, ?_, ?_, ?_⟩
    · rw [ua_ne (by omega), cu_f (by decide)]; exact this.1
    · rw [ua_ne (by omega), cu_f (by decide)]; exact this.2.1
    · by_cases e : k = q
      · rw [e, ua_at, cu_s]
      · rw [ua_ne (by omega), cu_k e]; exact this.2.2.1
    · rw [ua_ne (by omega), cu_f (by decide)]; exact this.2.2.2
  · rw [ua_ne (by omega), cu_f (by decide)]; exact h.2.2.1
  · rw [ua_ne (by omega), cu_f (by decide)]; exact h.2.2.2
theorem RY_10 {R : Int → Int} {y : Cs} {q v : Int} (h : RY R y) (hq : 0 ≤ q ∧ q < 12) : RY (ua R (84 + q) v) (cu y 10 q v) := by
  refine ⟨fun p a b => ?_, fun k a b => ?_, ?_, ?_⟩
  · have := h.1 p a b
    refine ⟨?_, ?_, ?_, ?_, ?_, ?_⟩
    · rw [ua_ne (by omega), cu_f (by decide)]; exact this.1
    · rw [ua_ne (by omega), cu_f (by decide)]; exact this.2.1
    · rw [ua_ne (by omega), cu_f (by decide)]; exact this.2.2.1
    · rw [ua_ne (by omega), cu_f (by decide)]; exact this.2.2.2.1
    · rw [ua_ne (by omega), cu_f (by decide)]; exact this.2.2.2.2.1
    · rw [ua_ne (by omega), cu_f (by decide)]; exact this.2.2.2.2.2
  · have := h.2.1 k a b
    refine ⟨?_, ?_, ?_, ?_⟩
    · rw [ua_ne (by omega), cu_f (by decide)]; exact this.1
    · rw [ua_ne (by omega), cu_f (by decide)]; exact this.2.1
    · rw [ua_ne (by omega), cu_f (by decide)]; exact this.2.2.1
    · by_cases e : k = q
      · rw [e, ua_at, cu_s]
      · rw [ua_ne (by omega), cu_k e]; exact this.2.2.2
  · rw [ua_ne (by omega), cu_f (by decide)]; exact h.2.2.1
  · rw [ua_ne (by omega), cu_f (by decide)]; exact h.2.2.2
theorem RY_11 {R : Int → Int} {y : Cs} {v : Int} (h : RY R y) : RY (ua R 96 v) (cu y 11 0 v) := by
  refine ⟨fun p a b => ?_, fun k a b => ?_, ?_, ?_⟩
  · have := h.1 p a b
    refine ⟨?_, ?_, ?_, ?_, ?_, ?_⟩
    · rw [ua_ne (by omega), cu_f (by decide)]; exact this.1
    · rw [ua_ne (by omega), cu_f (by decide)]; exact this.2.1
    · rw [ua_ne (by omega), cu_f (by decide)]; exact this.2.2.1
    · rw [ua_ne (by omega), cu_f (by decide)]; exact this.2.2.2.1
    · rw [ua_ne (by omega), cu_f (by decide)]; exact this.2.2.2.2.1
    · rw [ua_ne (by omega), cu_f (by decide)]; exact this.2.2.2.2.2
  · have := h.2.1 k a b
    refine ⟨?_, ?_, ?_, ?_⟩
    · rw [ua_ne (by omega), cu_f (by decide)]; exact this.1
    · rw [ua_ne (by omega), cu_f (by decide)]; exact this.2.1
    · rw [ua_ne (by omega), cu_f (by decide)]; exact this.2.2.1
    · rw [ua_ne (by omega), cu_f (by decide)]; exact this.2.2.2
  · rw [ua_at, cu_s]
  · rw [ua_ne (by omega), cu_f (by decide)]; exact h.2.2.2
theorem RY_12 {R : Int → Int} {y : Cs} {v : Int} (h : RY R y) : RY (ua R 97 v) (cu y 12 0 v) := by
  refine ⟨fun p a b => ?_, fun k a b => ?_, ?_, ?_⟩
  · have := h.1 p a b
    refine ⟨?_, ?_, ?_, ?_, ?_, ?_⟩
    · rw [ua_ne (by omega), cu_f (by decide)]; exact this.1
    · rw [ua_ne (by omega), cu_f (by decide)]; exact this.2.1
    · rw [ua_ne (by omega), cu_f (by decide)]; exact this.2.2.1
    · rw [ua_ne (by omega), cu_f (by decide)]; exact this.2.2.2.1
    · rw [ua_ne (by omega), cu_f (by decide)]; exact this.2.2.2.2.1
    · rw [ua_ne (by omega), cu_f (by decide)]; exact this.2.2.2.2.2
  · have := h.2.1 k a b
    refine ⟨?_, ?_, ?_, ?_⟩
    · rw [ua_ne (by omega), cu_f (by decide)]; exact this.1
    · rw [ua_ne (by omega), cu_f (by decide)]; exact this.2.1
    · rw [ua_ne (by omega), cu_f (by decide)]; exact this.2.2.1
    · rw [ua_ne (by omega), cu_f (by decide)]; exact this.2.2.2
  · rw [ua_ne (by omega), cu_f (by decide)]; exact h.2.2.1
  · rw [ua_at, cu_s]
theorem em_id {v : Int} (h : v ≠ -2) : em v = v := by unfold em; rw [if_neg h]
theorem em_lt {v : Int} (h : v = -2 ∨ 0 ≤ v) : em v < 0 ↔ v = -2 := by unfold em; split <;> omega
/-- the store with the reference's row -/
abbrev MF (σ : St) (m : Cs) (R : Int → Int) : St := so σ 1 (lnm m 51 R)
/-- the reference's object, but for scratch fields -/
def MS (m m' : Cs) : Prop := ∀ f, f ≠ 47 → f ≠ 48 → f ≠ 49 → f ≠ 51 → m' f = m f
theorem MS.rf (m : Cs) : MS m m := fun _ _ _ _ _ => rfl
theorem MS.tr {m m1 m2 : Cs} (h : MS m m1) (h2 : MS m1 m2) : MS m m2 := fun f a b c d => (h2 f a b c d).trans (h f a b c d)
theorem k_Mo_comes {σ : St} {m : Cs} {R : Int → Int} {a p : Int} (ha : 0 ≤ a ∧ a < 12) (hp : 0 ≤ p ∧ p < 8) : CtV M_Mo_comes [.inr (.inr (1, 0)), .inl a, .inl p] (MF σ m R) (fun u => u = MF σ m (ua (ua R (16 + p) a) (60 + a) 0)) := by
  intro g C F
  refine e_aload_n C d_Mo_comes_0 rfl ?_
  refine e_geta C fl_Mo_119 (by decide) rfl rfl d_Mo_comes_1 ?_
  refine e_bipush C d_Mo_comes_4 (by decide) ?_
  refine e_iload_n C d_Mo_comes_6 rfl ?_
  refine e_iadd C d_Mo_comes_7 ?_
  refine e_iload_n C d_Mo_comes_8 rfl ?_
  refine e_iast (n := 100) C (by decide) rfl (by decide) rfl rfl (by decide) (by omega) (by omega) (by omega) d_Mo_comes_9 ?_
  try simp only [so_at, so_so, wr_so, lnm_s, lnm_cu]
  refine e_aload_n C d_Mo_comes_10 rfl ?_
  refine e_geta C fl_Mo_119 (by decide) rfl rfl d_Mo_comes_11 ?_
  refine e_bipush C d_Mo_comes_14 (by decide) ?_
  refine e_iload_n C d_Mo_comes_16 rfl ?_
  refine e_iadd C d_Mo_comes_17 ?_
  refine e_iconst C d_Mo_comes_18 ?_
  refine e_iast (n := 100) C (by decide) rfl (by decide) rfl rfl (by decide) (by omega) (by omega) (by omega) d_Mo_comes_19 ?_
  try simp only [so_at, so_so, wr_so, lnm_s, lnm_cu]
  refine e_vret C F rfl d_Mo_comes_20 ?_
  rfl
theorem k_Mo_liesDown {σ : St} {m : Cs} {R : Int → Int} {a : Int} (ha : 0 ≤ a ∧ a < 12) (hl : 0 ≤ R 96 ∧ R 96 < 12) : CtV M_Mo_liesDown [.inr (.inr (1, 0)), .inl a] (MF σ m R) (fun u => u = MF σ m (ua (ua R (84 + R 96) a) 96 (R 96 + 1))) := by
  intro g C F
  refine e_aload_n C d_Mo_liesDown_0 rfl ?_
  refine e_geta C fl_Mo_119 (by decide) rfl rfl d_Mo_liesDown_1 ?_
  refine e_bipush C d_Mo_liesDown_4 (by decide) ?_
  refine e_aload_n C d_Mo_liesDown_6 rfl ?_
  refine e_geta C fl_Mo_119 (by decide) rfl rfl d_Mo_liesDown_7 ?_
  refine e_bipush C d_Mo_liesDown_10 (by decide) ?_
  refine e_iald (n := 100) C (by decide) rfl (by decide) rfl rfl (by decide) (by omega) (by omega) d_Mo_liesDown_12 (fun r_12 => ?_)
  try simp only [so_at, so_so, wr_so, lnm_s, lnm_cu] at r_12 ⊢
  refine e_iadd C d_Mo_liesDown_13 ?_
  refine e_iload_n C d_Mo_liesDown_14 rfl ?_
  refine e_iast (n := 100) C (by decide) rfl (by decide) rfl rfl (by decide) (by omega) (by omega) (by omega) d_Mo_liesDown_15 ?_
  try simp only [so_at, so_so, wr_so, lnm_s, lnm_cu]
  refine e_aload_n C d_Mo_liesDown_16 rfl ?_
  refine e_geta C fl_Mo_119 (by decide) rfl rfl d_Mo_liesDown_17 ?_
  refine e_bipush C d_Mo_liesDown_20 (by decide) ?_
  refine e_dup2 C d_Mo_liesDown_22 rfl rfl ?_
  refine e_iald (n := 100) C (by decide) rfl (by decide) rfl rfl (by decide) (by omega) (by omega) d_Mo_liesDown_23 (fun r_23 => ?_)
  try simp only [so_at, so_so, wr_so, lnm_s, lnm_cu] at r_23 ⊢
  rw [ua_ne (by omega)] at r_23 ⊢
  refine e_iconst C d_Mo_liesDown_24 ?_
  refine e_iadd C d_Mo_liesDown_25 ?_
  refine e_iast (n := 100) C (by decide) rfl (by decide) rfl rfl (by decide) (by omega) (by omega) (by omega) d_Mo_liesDown_26 ?_
  try simp only [so_at, so_so, wr_so, lnm_s, lnm_cu]
  refine e_vret C F rfl d_Mo_liesDown_27 ?_
  rfl
/-- who lies at place k gets up -/
def r_up (R : Int → Int) (k : Int) : Int → Int := fun j => if j = 96 then R 96 - 1 else if 84 + k ≤ j ∧ j < 84 + (R 96 - 1) then R (j + 1) else R j
def r_sh (R : Int → Int) (k i : Int) : Int → Int := fun j => if 84 + k ≤ j ∧ j < 84 + i then R (j + 1) else R j
theorem r_sh_S {R : Int → Int} {k i : Int} (h : k ≤ i) : ua (r_sh R k i) (84 + i) (r_sh R k i (85 + i)) = r_sh R k (i + 1) := by
  funext j
  unfold ua r_sh
  by_cases e : j = 84 + i
  · subst e
    rw [if_pos rfl, if_neg (by omega), if_pos (by omega), show 84 + i + 1 = 85 + i by omega]
  · rw [if_neg e]
    by_cases z : 84 + k ≤ j ∧ j < 84 + i
    · rw [if_pos z, if_pos (by omega)]
    · rw [if_neg z, if_neg (by omega)]
theorem l_Mo_getsUp {g : Mach} {P : Int → St → Prop} (C : Cx M_Mo_getsUp g) (F : FinI M_Mo_getsUp g P) {σ : St} {m : Cs} {R : Int → Int} {k x : Int} (hk : 0 ≤ k) (hl : R 96 ≤ 12) (hx : R32 x) (hP : P x (MF σ m (r_up R k))) :
    ∀ (n : Nat) (i : Int), k ≤ i → i + n = R 96 - 1 → Ev g 12 [some (.inr (.inr (1, 0))), some (.inl k), some (.inl x), some (.inl i)] [] (MF σ m (r_sh R k i)) := by
  intro n
  have e96 : ∀ i, i ≤ 11 → r_sh R k i 96 = R 96 := fun i hi => by unfold r_sh; rw [if_neg (by omega)]
  induction n with
  | zero =>
    intro i h1 h2
    have e := e96 i (by omega)
    refine e_iload_n C d_Mo_getsUp_12 rfl ?_
    refine e_aload_n C d_Mo_getsUp_13 rfl ?_
    refine e_geta C fl_Mo_119 (by decide) rfl rfl d_Mo_getsUp_14 ?_
    refine e_bipush C d_Mo_getsUp_17 (by decide) ?_
    refine e_iald (n := 100) C (by decide) rfl (by decide) rfl rfl (by decide) (by omega) (by omega) d_Mo_getsUp_19 (fun r_19 => ?_)
    try simp only [so_at, so_so, wr_so, lnm_s, lnm_cu, e] at r_19 ⊢
    refine e_iconst C d_Mo_getsUp_20 ?_
    refine e_isub C d_Mo_getsUp_21 ?_
    refine e_icmp_ge C 49 d_Mo_getsUp_22 (by decide) (by omega) (by omega) (fun c_22 => ?_) (fun c_22 => ?_)
    · refine e_aload_n C d_Mo_getsUp_49 rfl ?_
      refine e_geta C fl_Mo_119 (by decide) rfl rfl d_Mo_getsUp_50 ?_
      refine e_bipush C d_Mo_getsUp_53 (by decide) ?_
      refine e_dup2 C d_Mo_getsUp_55 rfl rfl ?_
      refine e_iald (n := 100) C (by decide) rfl (by decide) rfl rfl (by decide) (by omega) (by omega) d_Mo_getsUp_56 (fun r_56 => ?_)
      try simp only [so_at, so_so, wr_so, lnm_s, lnm_cu, e] at r_56 ⊢
      refine e_iconst C d_Mo_getsUp_57 ?_
      refine e_isub C d_Mo_getsUp_58 ?_
      refine e_iast (n := 100) C (by decide) rfl (by decide) rfl rfl (by decide) (by omega) (by omega) (by omega) d_Mo_getsUp_59 ?_
      try simp only [so_at, so_so, wr_so, lnm_s, lnm_cu, e]
      refine e_iload_n C d_Mo_getsUp_60 rfl ?_
      refine e_iret C F rfl d_Mo_getsUp_61 (by omega) ?_
      have e2 : ua (r_sh R k i) 96 (R 96 - 1) = r_up R k := by
        funext j
        unfold ua r_sh r_up
        rw [show i = R 96 - 1 by omega]
      rw [e2]
      exact hP
    · exact absurd h2 (by omega)
  | succ n ih =>
    intro i h1 h2
    have e := e96 i (by omega)
    refine e_iload_n C d_Mo_getsUp_12 rfl ?_
    refine e_aload_n C d_Mo_getsUp_13 rfl ?_
    refine e_geta C fl_Mo_119 (by decide) rfl rfl d_Mo_getsUp_14 ?_
    refine e_bipush C d_Mo_getsUp_17 (by decide) ?_
    refine e_iald (n := 100) C (by decide) rfl (by decide) rfl rfl (by decide) (by omega) (by omega) d_Mo_getsUp_19 (fun r_19 => ?_)
    try simp only [so_at, so_so, wr_so, lnm_s, lnm_cu, e] at r_19 ⊢
    refine e_iconst C d_Mo_getsUp_20 ?_
    refine e_isub C d_Mo_getsUp_21 ?_
    refine e_icmp_ge C 49 d_Mo_getsUp_22 (by decide) (by omega) (by omega) (fun c_22 => ?_) (fun c_22 => ?_)
    · exact absurd h2 (by omega)
    · refine e_aload_n C d_Mo_getsUp_25 rfl ?_
      refine e_geta C fl_Mo_119 (by decide) rfl rfl d_Mo_getsUp_26 ?_
      refine e_bipush C d_Mo_getsUp_29 (by decide) ?_
      refine e_iload_n C d_Mo_getsUp_31 rfl ?_
      refine e_iadd C d_Mo_getsUp_32 ?_
      refine e_aload_n C d_Mo_getsUp_33 rfl ?_
      refine e_geta C fl_Mo_119 (by decide) rfl rfl d_Mo_getsUp_34 ?_
      refine e_bipush C d_Mo_getsUp_37 (by decide) ?_
      refine e_iload_n C d_Mo_getsUp_39 rfl ?_
      refine e_iadd C d_Mo_getsUp_40 ?_
      refine e_iald (n := 100) C (by decide) rfl (by decide) rfl rfl (by decide) (by omega) (by omega) d_Mo_getsUp_41 (fun r_41 => ?_)
      try simp only [so_at, so_so, wr_so, lnm_s, lnm_cu, e] at r_41 ⊢
      refine e_iast (n := 100) C (by decide) rfl (by decide) rfl rfl (by decide) (by omega) (by omega) (by omega) d_Mo_getsUp_42 ?_
      try simp only [so_at, so_so, wr_so, lnm_s, lnm_cu, e]
      refine e_iinc C d_Mo_getsUp_43 rfl (by decide) rfl ?_
      refine e_goto C 12 d_Mo_getsUp_46 (by decide) ?_
      rw [r_sh_S h1]
      exact ih (i + 1) (by omega) (by omega)
theorem k_Mo_getsUp {σ : St} {m : Cs} {R : Int → Int} {k : Int} (h0 : 0 ≤ k) (h1 : k < R 96) (hl : R 96 ≤ 12) : CtI M_Mo_getsUp [.inr (.inr (1, 0)), .inl k] (MF σ m R) (fun r u => r = R (84 + k) ∧ u = MF σ m (r_up R k)) := by
  intro g C F
  refine e_aload_n C d_Mo_getsUp_0 rfl ?_
  refine e_geta C fl_Mo_119 (by decide) rfl rfl d_Mo_getsUp_1 ?_
  refine e_bipush C d_Mo_getsUp_4 (by decide) ?_
  refine e_iload_n C d_Mo_getsUp_6 rfl ?_
  refine e_iadd C d_Mo_getsUp_7 ?_
  refine e_iald (n := 100) C (by decide) rfl (by decide) rfl rfl (by decide) (by omega) (by omega) d_Mo_getsUp_8 (fun r_8 => ?_)
  try simp only [so_at, so_so, wr_so, lnm_s, lnm_cu] at r_8 ⊢
  refine e_istore_n C d_Mo_getsUp_9 (by decide) rfl ?_
  refine e_iload_n C d_Mo_getsUp_10 rfl ?_
  refine e_istore_n C d_Mo_getsUp_11 (by decide) rfl ?_
  have e : r_sh R k k = R := by
    funext j
    unfold r_sh
    rw [if_neg (by omega)]
  have := l_Mo_getsUp (σ := σ) (m := m) (R := R) C F h0 hl r_8 ⟨rfl, rfl⟩ (R 96 - 1 - k).toNat k (by omega) (by omega)
  rw [e] at this
  exact this
theorem k_Mo_turns {σ : St} {m : Cs} {R : Int → Int} {p : Int} (hp : 0 ≤ p ∧ p < 8) : CtV M_Mo_turns [.inr (.inr (1, 0)), .inl p] (MF σ m R) (fun u => u = MF σ m (ua (ua R p (R (8 + p))) (8 + p) (R p))) := by
  intro g C F
  refine e_aload_n C d_Mo_turns_0 rfl ?_
  refine e_geta C fl_Mo_119 (by decide) rfl rfl d_Mo_turns_1 ?_
  refine e_iload_n C d_Mo_turns_4 rfl ?_
  refine e_iald (n := 100) C (by decide) rfl (by decide) rfl rfl (by decide) (by omega) (by omega) d_Mo_turns_5 (fun r_5 => ?_)
  try simp only [so_at, so_so, wr_so, lnm_s, lnm_cu] at r_5 ⊢
  refine e_istore_n C d_Mo_turns_6 (by decide) rfl ?_
  refine e_aload_n C d_Mo_turns_7 rfl ?_
  refine e_geta C fl_Mo_119 (by decide) rfl rfl d_Mo_turns_8 ?_
  refine e_iload_n C d_Mo_turns_11 rfl ?_
  refine e_aload_n C d_Mo_turns_12 rfl ?_
  refine e_geta C fl_Mo_119 (by decide) rfl rfl d_Mo_turns_13 ?_
  refine e_bipush C d_Mo_turns_16 (by decide) ?_
  refine e_iload_n C d_Mo_turns_18 rfl ?_
  refine e_iadd C d_Mo_turns_19 ?_
  refine e_iald (n := 100) C (by decide) rfl (by decide) rfl rfl (by decide) (by omega) (by omega) d_Mo_turns_20 (fun r_20 => ?_)
  try simp only [so_at, so_so, wr_so, lnm_s, lnm_cu] at r_20 ⊢
  refine e_iast (n := 100) C (by decide) rfl (by decide) rfl rfl (by decide) (by omega) (by omega) (by omega) d_Mo_turns_21 ?_
  try simp only [so_at, so_so, wr_so, lnm_s, lnm_cu]
  refine e_aload_n C d_Mo_turns_22 rfl ?_
  refine e_geta C fl_Mo_119 (by decide) rfl rfl d_Mo_turns_23 ?_
  refine e_bipush C d_Mo_turns_26 (by decide) ?_
  refine e_iload_n C d_Mo_turns_28 rfl ?_
  refine e_iadd C d_Mo_turns_29 ?_
  refine e_iload_n C d_Mo_turns_30 rfl ?_
  refine e_iast (n := 100) C (by decide) rfl (by decide) rfl rfl (by decide) (by omega) (by omega) (by omega) d_Mo_turns_31 ?_
  try simp only [so_at, so_so, wr_so, lnm_s, lnm_cu]
  refine e_vret C F rfl d_Mo_turns_32 ?_
  rfl
def r_cp (R S : Int → Int) (i : Int) : Int → Int := fun j => if 0 ≤ j ∧ j < i then S j else R j
theorem r_cp_S {R S : Int → Int} {i : Int} (h : 0 ≤ i) : ua (r_cp R S i) i (S i) = r_cp R S (i + 1) := by
  funext j
  unfold ua r_cp
  by_cases e : j = i
  · subst e; rw [if_pos rfl, if_pos (by omega)]
  · rw [if_neg e]
    by_cases z : 0 ≤ j ∧ j < i
    · rw [if_pos z, if_pos (by omega)]
    · rw [if_neg z, if_neg (by omega)]
theorem r_cp_0 (R S : Int → Int) : r_cp R S 0 = R := by
  funext j
  unfold r_cp
  rw [if_neg (by omega)]
theorem l_Mo_copies {g : Mach} {P : St → Prop} (C : Cx M_Mo_copies g) (F : FinV M_Mo_copies g P) {σ : St} {m : Cs} {R : Int → Int} (hP : P (MF σ m (r_cp R (m 50) 100))) :
    ∀ (n : Nat) (i : Int), 0 ≤ i → i + n = 100 → Ev g 2 [some (.inr (.inr (1, 0))), some (.inl i)] [] (MF σ m (r_cp R (m 50) i)) := by
  intro n
  induction n with
  | zero =>
    intro i h1 h2
    refine e_iload_n C d_Mo_copies_2 rfl ?_
    refine e_bipush C d_Mo_copies_3 (by decide) ?_
    refine e_icmp_ge C 26 d_Mo_copies_5 (by decide) (by omega) (by omega) (fun c_5 => ?_) (fun c_5 => ?_)
    · refine e_vret C F rfl d_Mo_copies_26 ?_
      rw [show i = 100 by omega]
      exact hP
    · exact absurd h2 (by omega)
  | succ n ih =>
    intro i h1 h2
    refine e_iload_n C d_Mo_copies_2 rfl ?_
    refine e_bipush C d_Mo_copies_3 (by decide) ?_
    refine e_icmp_ge C 26 d_Mo_copies_5 (by decide) (by omega) (by omega) (fun c_5 => ?_) (fun c_5 => ?_)
    · exact absurd h2 (by omega)
    · refine e_aload_n C d_Mo_copies_8 rfl ?_
      refine e_geta C fl_Mo_119 (by decide) rfl rfl d_Mo_copies_9 ?_
      refine e_iload_n C d_Mo_copies_12 rfl ?_
      refine e_aload_n C d_Mo_copies_13 rfl ?_
      refine e_geta C fl_Mo_116 (by decide) rfl rfl d_Mo_copies_14 ?_
      refine e_iload_n C d_Mo_copies_17 rfl ?_
      refine e_iald (n := 100) C (by decide) rfl (by decide) rfl rfl (by decide) (by omega) (by omega) d_Mo_copies_18 (fun r_18 => ?_)
      try simp only [so_at, so_so, wr_so, lnm_s, lnm_cu, lnm_f, ne_eq, Nat.reduceEqDiff, not_false_eq_true] at r_18 ⊢
      refine e_iast (n := 100) C (by decide) rfl (by decide) rfl rfl (by decide) (by omega) (by omega) (by omega) d_Mo_copies_19 ?_
      try simp only [so_at, so_so, wr_so, lnm_s, lnm_cu, lnm_f, ne_eq, Nat.reduceEqDiff, not_false_eq_true]
      refine e_iinc C d_Mo_copies_20 rfl (by decide) rfl ?_
      refine e_goto C 2 d_Mo_copies_23 (by decide) ?_
      rw [r_cp_S h1]
      exact ih (i + 1) (by omega) (by omega)
theorem k_Mo_copies {σ : St} {m : Cs} {R : Int → Int} : CtV M_Mo_copies [.inr (.inr (1, 0))] (MF σ m R) (fun u => u = MF σ m (r_cp R (m 50) 100)) := by
  intro g C F
  refine e_iconst C d_Mo_copies_0 ?_
  refine e_istore_n C d_Mo_copies_1 (by decide) rfl ?_
  have := l_Mo_copies (σ := σ) (m := m) (R := R) C F rfl 100 0 (by omega) (by omega)
  rw [r_cp_0] at this
  exact this
theorem RY_cp {R S : Int → Int} {y : Cs} (h : RY S y) : RY (r_cp R S 100) y := by
  have e : ∀ j, 0 ≤ j → j < 100 → r_cp R S 100 j = S j := fun j a b => by unfold r_cp; rw [if_pos ⟨a, b⟩]
  refine ⟨fun p a b => ?_, fun k a b => ?_, ?_, ?_⟩
  · rw [e p a (by omega), e (8 + p) (by omega) (by omega), e (16 + p) (by omega) (by omega), e (24 + p) (by omega) (by omega), e (32 + p) (by omega) (by omega), e (40 + p) (by omega) (by omega)]
    exact h.1 p a b
  · rw [e (48 + k) (by omega) (by omega), e (60 + k) (by omega) (by omega), e (72 + k) (by omega) (by omega), e (84 + k) (by omega) (by omega)]
    exact h.2.1 k a b
  · rw [e 96 (by omega) (by omega)]; exact h.2.2.1
  · rw [e 97 (by omega) (by omega)]; exact h.2.2.2
theorem RY_up {R : Int → Int} {y : Cs} {k : Int} (h : RY R y) (hk : 0 ≤ k) (hl : y 11 0 ≤ 12) : RY (r_up R k) (c_up y k) := by
  have e96 := h.2.2.1
  have eo : ∀ j, j ≠ 96 → (j < 84 ∨ 96 ≤ j) → r_up R k j = R j := fun j a b => by unfold r_up; rw [if_neg a, if_neg (by omega)]
  refine ⟨fun p a b => ?_, fun q a b => ?_, ?_, ?_⟩
  · rw [eo p (by omega) (by omega), eo (8 + p) (by omega) (by omega), eo (16 + p) (by omega) (by omega), eo (24 + p) (by omega) (by omega), eo (32 + p) (by omega) (by omega), eo (40 + p) (by omega) (by omega)]
    simp only [c_up_f, ne_eq, Nat.reduceEqDiff, not_false_eq_true]
    exact h.1 p a b
  · rw [eo (48 + q) (by omega) (by omega), eo (60 + q) (by omega) (by omega), eo (72 + q) (by omega) (by omega), c_up_f (f := 7) (by decide) (by decide), c_up_f (f := 8) (by decide) (by decide), c_up_f (f := 9) (by decide) (by decide)]
    have hq := h.2.1 q a b
    refine ⟨hq.1, hq.2.1, hq.2.2.1, ?_⟩
    unfold r_up c_up
    rw [if_neg (show ¬ (84 + q = 96) by omega), if_neg (show ¬ (10 = 11 ∧ q = 0) by omega), e96]
    by_cases z : k ≤ q ∧ q < y 11 0 - 1
    · rw [if_pos (by omega), if_pos (by omega), show 84 + q + 1 = 84 + (q + 1) by omega]
      exact (h.2.1 (q + 1) (by omega) (by omega)).2.2.2
    · rw [if_neg (by omega), if_neg (by omega)]
      exact hq.2.2.2
  · unfold r_up; rw [if_pos rfl, c_up_11, e96]
  · rw [eo 97 (by omega) (by omega), c_up_f (by decide) (by decide)]; exact h.2.2.2
theorem RY_stand {R : Int → Int} {y : Cs} {a p : Int} (h : RY R y) (ha : 0 ≤ a ∧ a < 12) (hp : 0 ≤ p ∧ p < 8) : RY (ua (ua R (16 + p) a) (60 + a) 0) (mstand y a p) := RY_8 (RY_2 h hp (em_id (by omega))) ha
theorem RY_lie {R : Int → Int} {y : Cs} {a : Int} (h : RY R y) (hl : 0 ≤ y 11 0 ∧ y 11 0 < 12) : RY (ua (ua R (84 + R 96) a) 96 (R 96 + 1)) (mlie y a) := by
  unfold mlie
  rw [h.2.2.1]
  exact RY_11 (RY_10 h hl)
