/-! the reference: what is kept and undone -/
def hsh (h : Int → Int) (i : Int) : Int → Int := fun j => if 0 ≤ j ∧ j < i then h (j + 100) else h j
theorem hsh_S {h : Int → Int} {i : Int} (h0 : 0 ≤ i) : ua (hsh h i) i (hsh h i (i + 100)) = hsh h (i + 1) := by
  funext j
  unfold ua hsh
  by_cases z : j = i
  · subst z; rw [if_pos rfl, if_neg (by omega), if_pos (by omega)]
  · rw [if_neg z]
    by_cases w : 0 ≤ j ∧ j < i
    · rw [if_pos w, if_pos (by omega)]
    · rw [if_neg w, if_neg (by omega)]
def hput (h w : Int → Int) (z i : Int) : Int → Int := fun j => if 100 * z ≤ j ∧ j < 100 * z + i then w (j - 100 * z) else h j
theorem hput_S {h w : Int → Int} {z i : Int} (h0 : 0 ≤ i) : ua (hput h w z i) (100 * z + i) (w i) = hput h w z (i + 1) := by
  funext j
  unfold ua hput
  by_cases e : j = 100 * z + i
  · rw [if_pos e, if_pos (by omega), show j - 100 * z = i by omega]
  · rw [if_neg e]
    by_cases q : 100 * z ≤ j ∧ j < 100 * z + i
    · rw [if_pos q, if_pos (by omega)]
    · rw [if_neg q, if_neg (by omega)]
theorem l_Mo_keeps3 {g : Mach} {Q : St → Prop} (C : Cx M_Mo_keeps g) (F : FinV M_Mo_keeps g Q) {σ : St} {x : Cs} (hQ : Q (so σ 1 (lnm x 50 (r_cp (x 50) (x 51) 100)))) :
    ∀ (n : Nat) (i : Int), 0 ≤ i → i + n = 100 → Ev g 95 [some (.inr (.inr (1, 0))), some (.inl i)] [] (so σ 1 (lnm x 50 (r_cp (x 50) (x 51) i))) := by
  intro n
  induction n with
  | zero =>
    intro i h0 h1
    refine e_iload_n C d_Mo_keeps_95 rfl ?_
    refine e_bipush C d_Mo_keeps_96 (by decide) ?_
    refine e_icmp_ge C 119 d_Mo_keeps_98 (by decide) (by omega) (by omega) (fun c_98 => ?_) (fun c_98 => ?_)
    · refine e_vret C F rfl d_Mo_keeps_119 ?_
      rw [show i = 100 by omega]; exact hQ
    · exact absurd h1 (by omega)
  | succ n ih =>
    intro i h0 h1
    refine e_iload_n C d_Mo_keeps_95 rfl ?_
    refine e_bipush C d_Mo_keeps_96 (by decide) ?_
    refine e_icmp_ge C 119 d_Mo_keeps_98 (by decide) (by omega) (by omega) (fun c_98 => ?_) (fun c_98 => ?_)
    · exact absurd h1 (by omega)
    · refine e_aload_n C d_Mo_keeps_101 rfl ?_
      refine e_geta C fl_Mo_116 (by decide) rfl rfl d_Mo_keeps_102 ?_
      refine e_iload_n C d_Mo_keeps_105 rfl ?_
      refine e_aload_n C d_Mo_keeps_106 rfl ?_
      refine e_geta C fl_Mo_119 (by decide) rfl rfl d_Mo_keeps_107 ?_
      refine e_iload_n C d_Mo_keeps_110 rfl ?_
      refine e_iald (n := 100) C (by decide) rfl (by decide) rfl rfl (by decide) (by omega) (by omega) d_Mo_keeps_111 (fun r_111 => ?_)
      try simp only [so_at, so_so, wr_so, lnm_s, lnm_cu, lnm_f, ne_eq, Nat.reduceEqDiff, not_false_eq_true] at r_111 ⊢
      refine e_iast (n := 100) C (by decide) rfl (by decide) rfl rfl (by decide) (by omega) (by omega) (by omega) d_Mo_keeps_112 ?_
      try simp only [so_at, so_so, wr_so, lnm_s, lnm_cu, lnm_f, ne_eq, Nat.reduceEqDiff, not_false_eq_true]
      refine e_iinc C d_Mo_keeps_113 rfl (by decide) rfl ?_
      refine e_goto C 95 d_Mo_keeps_116 (by decide) ?_
      rw [r_cp_S h0]; exact ih (i + 1) (by omega) (by omega)
theorem l_Mo_keeps2 {g : Mach} {Q : St → Prop} (C : Cx M_Mo_keeps g) (F : FinV M_Mo_keeps g Q) {σ : St} {x : Cs} (hz : 0 ≤ x 52 0 ∧ x 52 0 ≤ 39) (hQ : Q (so σ 1 (lnm (cu (lnm x 53 (hput (x 53) (x 50) (x 52 0) 100)) 52 0 (x 52 0 + 1)) 50 (r_cp (x 50) (x 51) 100)))) :
    ∀ (n : Nat) (i : Int), 0 ≤ i → i + n = 100 → Ev g 51 [some (.inr (.inr (1, 0))), some (.inl i)] [] (so σ 1 (lnm x 53 (hput (x 53) (x 50) (x 52 0) i))) := by
  intro n
  induction n with
  | zero =>
    intro i h0 h1
    refine e_iload_n C d_Mo_keeps_51 rfl ?_
    refine e_bipush C d_Mo_keeps_52 (by decide) ?_
    refine e_icmp_ge C 83 d_Mo_keeps_54 (by decide) (by omega) (by omega) (fun c_54 => ?_) (fun c_54 => ?_)
    · refine e_aload_n C d_Mo_keeps_83 rfl ?_
      refine e_dup C d_Mo_keeps_84 rfl ?_
      refine e_geti C fl_Mo_236 (by decide) rfl rfl d_Mo_keeps_85 (fun r_85 => ?_)
      try simp only [so_at, so_so, wr_so, lnm_s, lnm_f, ne_eq, Nat.reduceEqDiff, not_false_eq_true] at r_85 ⊢
      refine e_iconst C d_Mo_keeps_88 ?_
      refine e_iadd C d_Mo_keeps_89 ?_
      refine e_puti C fp_Mo_236 (by decide) rfl rfl (by omega) d_Mo_keeps_90 ?_
      try simp only [so_at, so_so, wr_so, lnm_s, lnm_f, ne_eq, Nat.reduceEqDiff, not_false_eq_true]
      refine e_iconst C d_Mo_keeps_93 ?_
      refine e_istore_n C d_Mo_keeps_94 (by decide) rfl ?_
      rw [show i = 100 by omega]
      have := l_Mo_keeps3 (x := cu (lnm x 53 (hput (x 53) (x 50) (x 52 0) 100)) 52 0 (x 52 0 + 1)) C F (by
        have e50 : cu (lnm x 53 (hput (x 53) (x 50) (x 52 0) 100)) 52 0 (x 52 0 + 1) 50 = x 50 := by funext q; rw [cu_f (by decide), lnm_f (by decide)]
        have e51 : cu (lnm x 53 (hput (x 53) (x 50) (x 52 0) 100)) 52 0 (x 52 0 + 1) 51 = x 51 := by funext q; rw [cu_f (by decide), lnm_f (by decide)]
        rw [e50, e51]
        exact hQ) 100 0 (by omega) (by omega)
      rw [r_cp_0, lnm_id] at this
      exact this
    · exact absurd h1 (by omega)
  | succ n ih =>
    intro i h0 h1
    refine e_iload_n C d_Mo_keeps_51 rfl ?_
    refine e_bipush C d_Mo_keeps_52 (by decide) ?_
    refine e_icmp_ge C 83 d_Mo_keeps_54 (by decide) (by omega) (by omega) (fun c_54 => ?_) (fun c_54 => ?_)
    · exact absurd h1 (by omega)
    · refine e_aload_n C d_Mo_keeps_57 rfl ?_
      refine e_geta C fl_Mo_122 (by decide) rfl rfl d_Mo_keeps_58 ?_
      refine e_bipush C d_Mo_keeps_61 (by decide) ?_
      refine e_aload_n C d_Mo_keeps_63 rfl ?_
      refine e_geti C fl_Mo_236 (by decide) rfl rfl d_Mo_keeps_64 (fun r_64 => ?_)
      try simp only [so_at, so_so, wr_so, lnm_s, lnm_cu, lnm_f, ne_eq, Nat.reduceEqDiff, not_false_eq_true] at r_64 ⊢
      refine e_imul C d_Mo_keeps_67 ?_
      refine e_iload_n C d_Mo_keeps_68 rfl ?_
      refine e_iadd C d_Mo_keeps_69 ?_
      refine e_aload_n C d_Mo_keeps_70 rfl ?_
      refine e_geta C fl_Mo_116 (by decide) rfl rfl d_Mo_keeps_71 ?_
      refine e_iload_n C d_Mo_keeps_74 rfl ?_
      refine e_iald (n := 100) C (by decide) rfl (by decide) rfl rfl (by decide) (by omega) (by omega) d_Mo_keeps_75 (fun r_75 => ?_)
      try simp only [so_at, so_so, wr_so, lnm_s, lnm_cu, lnm_f, ne_eq, Nat.reduceEqDiff, not_false_eq_true] at r_75 ⊢
      refine e_iast (n := 4000) C (by decide) rfl (by decide) rfl rfl (by decide) (by omega) (by omega) (by omega) d_Mo_keeps_76 ?_
      try simp only [so_at, so_so, wr_so, lnm_s, lnm_cu, lnm_f, ne_eq, Nat.reduceEqDiff, not_false_eq_true]
      refine e_iinc C d_Mo_keeps_77 rfl (by decide) rfl ?_
      refine e_goto C 51 d_Mo_keeps_80 (by decide) ?_
      rw [hput_S h0]; exact ih (i + 1) (by omega) (by omega)
theorem l_Mo_keeps1 {g : Mach} {Q : St → Prop} (C : Cx M_Mo_keeps g) (F : FinV M_Mo_keeps g Q) {σ : St} {x : Cs} (hk : Ev g 39 [some (.inr (.inr (1, 0))), some (.inl 3900)] [] (so σ 1 (lnm x 53 (hsh (x 53) 3900)))) :
    ∀ (n : Nat) (i : Int), 0 ≤ i → i + n = 3900 → Ev g 11 [some (.inr (.inr (1, 0))), some (.inl i)] [] (so σ 1 (lnm x 53 (hsh (x 53) i))) := by
  intro n
  induction n with
  | zero =>
    intro i h0 h1
    refine e_iload_n C d_Mo_keeps_11 rfl ?_
    refine e_sipush C d_Mo_keeps_12 (by decide) ?_
    refine e_icmp_ge C 39 d_Mo_keeps_15 (by decide) (by omega) (by omega) (fun c_15 => ?_) (fun c_15 => ?_)
    · rw [show i = 3900 by omega]; exact hk
    · exact absurd h1 (by omega)
  | succ n ih =>
    intro i h0 h1
    refine e_iload_n C d_Mo_keeps_11 rfl ?_
    refine e_sipush C d_Mo_keeps_12 (by decide) ?_
    refine e_icmp_ge C 39 d_Mo_keeps_15 (by decide) (by omega) (by omega) (fun c_15 => ?_) (fun c_15 => ?_)
    · exact absurd h1 (by omega)
    · refine e_aload_n C d_Mo_keeps_18 rfl ?_
      refine e_geta C fl_Mo_122 (by decide) rfl rfl d_Mo_keeps_19 ?_
      refine e_iload_n C d_Mo_keeps_22 rfl ?_
      refine e_aload_n C d_Mo_keeps_23 rfl ?_
      refine e_geta C fl_Mo_122 (by decide) rfl rfl d_Mo_keeps_24 ?_
      refine e_iload_n C d_Mo_keeps_27 rfl ?_
      refine e_bipush C d_Mo_keeps_28 (by decide) ?_
      refine e_iadd C d_Mo_keeps_30 ?_
      refine e_iald (n := 4000) C (by decide) rfl (by decide) rfl rfl (by decide) (by omega) (by omega) d_Mo_keeps_31 (fun r_31 => ?_)
      try simp only [so_at, so_so, wr_so, lnm_s, lnm_cu, lnm_f, ne_eq, Nat.reduceEqDiff, not_false_eq_true] at r_31 ⊢
      refine e_iast (n := 4000) C (by decide) rfl (by decide) rfl rfl (by decide) (by omega) (by omega) (by omega) d_Mo_keeps_32 ?_
      try simp only [so_at, so_so, wr_so, lnm_s, lnm_cu, lnm_f, ne_eq, Nat.reduceEqDiff, not_false_eq_true]
      refine e_iinc C d_Mo_keeps_33 rfl (by decide) rfl ?_
      refine e_goto C 11 d_Mo_keeps_36 (by decide) ?_
      rw [hsh_S h0]; exact ih (i + 1) (by omega) (by omega)
theorem hput_at {h w : Int → Int} {z k : Int} (hk : 0 ≤ k ∧ k < 100) : hput h w z 100 (100 * z + k) = w k := by
  unfold hput; rw [if_pos (by omega), show 100 * z + k - 100 * z = k by omega]
theorem hput_lo {h w : Int → Int} {z j : Int} (hj : j < 100 * z) : hput h w z 100 j = h j := by
  unfold hput; rw [if_neg (by omega)]
theorem k_Mo_keeps {σ : St} {m : Cs} {R : Int → Int} (hz : 0 ≤ m 52 0 ∧ m 52 0 ≤ 40) : CtV M_Mo_keeps [.inr (.inr (1, 0))] (MF σ m R) (fun u => ∃ m', u = so σ 1 m' ∧ KP m R m') := by
  intro g C F
  have k39 : ∀ x : Cs, m 52 0 = 40 → x 50 = m 50 → x 51 = R → x 52 0 = 40 → x 53 = hsh (m 53) 3900 → (∀ f, f ≠ 51 → f ≠ 53 → x f = m f) → Ev g 39 [some (.inr (.inr (1, 0))), some (.inl 3900)] [] (so σ 1 x) := by
    intro x z40 x50 x51 x52 x53 xf
    refine e_aload_n C d_Mo_keeps_39 rfl ?_
    refine e_dup C d_Mo_keeps_40 rfl ?_
    refine e_geti C fl_Mo_236 (by decide) rfl rfl d_Mo_keeps_41 (fun r_41 => ?_)
    try simp only [so_at, so_so, wr_so] at r_41 ⊢
    rw [x52] at r_41 ⊢
    refine e_iconst C d_Mo_keeps_44 ?_
    refine e_isub C d_Mo_keeps_45 ?_
    refine e_puti C fp_Mo_236 (by decide) rfl rfl (by omega) d_Mo_keeps_46 ?_
    try simp only [so_at, so_so, wr_so]
    refine e_iconst C d_Mo_keeps_49 ?_
    refine e_istore_n C d_Mo_keeps_50 (by decide) rfl ?_
    have e0 : hput (cu x 52 0 (40 - 1) 53) (cu x 52 0 (40 - 1) 50) (cu x 52 0 (40 - 1) 52 0) 0 = cu x 52 0 (40 - 1) 53 := by funext j; unfold hput; rw [if_neg (by omega)]
    have := l_Mo_keeps2 (σ := σ) (x := cu x 52 0 (40 - 1)) C F (by rw [cu_s]; omega) (by
      have y52 : cu x 52 0 (40 - 1) 52 0 = 39 := by rw [cu_s]; rfl
      have y50 : cu x 52 0 (40 - 1) 50 = m 50 := by rw [← x50]; funext q; rw [cu_f (by decide)]
      have y51 : cu x 52 0 (40 - 1) 51 = R := by rw [← x51]; funext q; rw [cu_f (by decide)]
      have y53 : cu x 52 0 (40 - 1) 53 = hsh (m 53) 3900 := by rw [← x53]; funext q; rw [cu_f (by decide)]
      rw [y52, y50, y51, y53]
      refine ⟨_, rfl, fun f a b c d e h i => ?_, fun j a b => ?_, ?_, fun j k a b c d => ?_⟩
      · rw [lnm_f d]; funext q; rw [cu_f h, lnm_f i, cu_f h, xf f e i]
      · rw [lnm_s]; unfold r_cp; rw [if_pos ⟨a, b⟩]
      · rw [lnm_f (by decide), cu_s]; omega
      · rw [z40, show min ((40 : Int) + 1) 40 = 40 by decide] at b ⊢
        rw [lnm_f (by decide), cu_f (by decide), lnm_s]
        by_cases w : j = 0
        · rw [if_pos w, w, show 100 * ((40 : Int) - 1 - 0) + k = 100 * 39 + k by omega, hput_at ⟨c, d⟩]
        · rw [if_neg w, hput_lo (by omega)]
          unfold hsh
          rw [if_pos (by omega), show 100 * ((40 : Int) - 1 - j) + k + 100 = 100 * (40 - j) + k by omega]) 100 0 (by omega) (by omega)
    rw [e0, lnm_id] at this
    exact this
  by_cases z40 : m 52 0 = 40
  · skip
    refine e_aload_n C d_Mo_keeps_0 rfl ?_
    refine e_geti C fl_Mo_236 (by decide) rfl rfl d_Mo_keeps_1 (fun r_1 => ?_)
    try simp only [MF_f, ne_eq, Nat.reduceEqDiff, not_false_eq_true] at r_1 ⊢
    refine e_bipush C d_Mo_keeps_4 (by decide) ?_
    refine e_icmp_ne C 49 d_Mo_keeps_6 (by decide) (by omega) (by omega) (fun c_6 => ?_) (fun c_6 => ?_)
    · exact absurd c_6 (by omega)
    · refine e_iconst C d_Mo_keeps_9 ?_
      refine e_istore_n C d_Mo_keeps_10 (by decide) rfl ?_
      have e0 : hsh (lnm m 51 R 53) 0 = lnm m 51 R 53 := by funext j; unfold hsh; rw [if_neg (by omega)]
      have hk : Ev g 39 [some (.inr (.inr (1, 0))), some (.inl 3900)] [] (so σ 1 (lnm (lnm m 51 R) 53 (hsh (lnm m 51 R 53) 3900))) := by
        have x52 : lnm (lnm m 51 R) 53 (hsh (lnm m 51 R 53) 3900) 52 0 = 40 := by rw [lnm_f (by decide), lnm_f (by decide)]; exact z40
        have x50 : lnm (lnm m 51 R) 53 (hsh (lnm m 51 R 53) 3900) 50 = m 50 := by rw [lnm_f (by decide), lnm_f (by decide)]
        have x51 : lnm (lnm m 51 R) 53 (hsh (lnm m 51 R 53) 3900) 51 = R := by rw [lnm_f (by decide), lnm_s]
        have x53 : lnm (lnm m 51 R) 53 (hsh (lnm m 51 R 53) 3900) 53 = hsh (m 53) 3900 := by rw [lnm_s, lnm_f (by decide)]
        have xf : ∀ f, f ≠ 51 → f ≠ 53 → lnm (lnm m 51 R) 53 (hsh (lnm m 51 R 53) 3900) f = m f := fun f a b => by rw [lnm_f b, lnm_f a]
        generalize lnm (lnm m 51 R) 53 (hsh (lnm m 51 R 53) 3900) = x at x50 x51 x52 x53 xf ⊢
        exact k39 x z40 x50 x51 x52 x53 xf
      have := l_Mo_keeps1 C F hk 3900 0 (by omega) (by omega)
      rw [e0, lnm_id] at this
      exact this
  · skip
    refine e_aload_n C d_Mo_keeps_0 rfl ?_
    refine e_geti C fl_Mo_236 (by decide) rfl rfl d_Mo_keeps_1 (fun r_1 => ?_)
    try simp only [MF_f, ne_eq, Nat.reduceEqDiff, not_false_eq_true] at r_1 ⊢
    refine e_bipush C d_Mo_keeps_4 (by decide) ?_
    refine e_icmp_ne C 49 d_Mo_keeps_6 (by decide) (by omega) (by omega) (fun c_6 => ?_) (fun c_6 => ?_)
    · refine e_iconst C d_Mo_keeps_49 ?_
      refine e_istore_n C d_Mo_keeps_50 (by decide) rfl ?_
      have e0 : hput (lnm m 51 R 53) (lnm m 51 R 50) (lnm m 51 R 52 0) 0 = lnm m 51 R 53 := by funext j; unfold hput; rw [if_neg (by omega)]
      have := l_Mo_keeps2 (σ := σ) (x := lnm m 51 R) C F (by rw [lnm_f (by decide)]; omega) (by
        have y52 : lnm m 51 R 52 = m 52 := lnm_f (by decide)
        have y50 : lnm m 51 R 50 = m 50 := lnm_f (by decide)
        have y53 : lnm m 51 R 53 = m 53 := lnm_f (by decide)
        rw [y52, y50, y53, lnm_s]
        refine ⟨_, rfl, fun f a b c d e h i => ?_, fun j a b => ?_, ?_, fun j k a b c d => ?_⟩
        · rw [lnm_f d]; funext q; rw [cu_f h, lnm_f i, lnm_f e]
        · rw [lnm_s]; unfold r_cp; rw [if_pos ⟨a, b⟩]
        · rw [lnm_f (by decide), cu_s]; omega
        · rw [show min (m 52 0 + 1) 40 = m 52 0 + 1 by omega] at b ⊢
          rw [lnm_f (by decide), cu_f (by decide), lnm_s]
          by_cases w : j = 0
          · rw [if_pos w, w, show 100 * (m 52 0 + 1 - 1 - 0) + k = 100 * m 52 0 + k by omega, hput_at ⟨c, d⟩]
          · rw [if_neg w, show m 52 0 + 1 - 1 - j = m 52 0 - j by omega, hput_lo (by omega)]) 100 0 (by omega) (by omega)
      rw [e0, lnm_id] at this
      exact this
    · exact absurd c_6 z40
