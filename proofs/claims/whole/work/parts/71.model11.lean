/-! the reference: a castle as it begins; who may have tampered -/
theorem RY_cg {R : Int → Int} {y y' : Cs} (h : RY R y) (h5 : ∀ f p, f ≤ 5 → 0 ≤ p → p < 8 → y' f p = y f p) (h9 : ∀ f k, 7 ≤ f → f ≤ 10 → 0 ≤ k → k < 12 → y' f k = y f k) (h11 : y' 11 0 = y 11 0) (h12 : y' 12 0 = y 12 0) : RY R y' := by
  refine ⟨fun p a b => ?_, fun k a b => ?_, ?_, ?_⟩
  · rw [h5 0 p (by decide) a b, h5 1 p (by decide) a b, h5 2 p (by decide) a b, h5 3 p (by decide) a b, h5 4 p (by decide) a b, h5 5 p (by decide) a b]
    exact h.1 p a b
  · rw [h9 7 k (by decide) (by decide) a b, h9 8 k (by decide) (by decide) a b, h9 9 k (by decide) (by decide) a b, h9 10 k (by decide) (by decide) a b]
    exact h.2.1 k a b
  · rw [h11]; exact h.2.2.1
  · rw [h12]; exact h.2.2.2
/-- posts below i put in -/
def bgp (P : Cs) (A Bl W : Int → Int) (i : Int) : Cs := fun f p => if f = 0 then (if 0 ≤ p ∧ p < i ∧ p < P 3 0 then A p else 0) else if f = 1 then (if 0 ≤ p ∧ p < i ∧ p < P 3 0 then Bl p else 0) else if f = 2 then (if 0 ≤ p ∧ p < i then (if p < P 3 0 ∧ 0 ≤ W p then W p else -2) else 0) else 0
theorem bgp_no {P : Cs} {A Bl W : Int → Int} {i : Int} (h0 : 0 ≤ i) (h : P 3 0 ≤ i) : cu (bgp P A Bl W i) 2 i (-2) = bgp P A Bl W (i + 1) := by
  funext f p
  rw [cu_if]
  unfold bgp
  by_cases z : f = 2 ∧ p = i
  · rw [if_pos z, if_neg (by omega), if_neg (by omega), if_pos z.1, if_pos (by omega), if_neg (by omega)]
  · rw [if_neg z]
    by_cases f0 : f = 0
    · rw [if_pos f0, if_pos f0]
      by_cases q : 0 ≤ p ∧ p < i ∧ p < P 3 0
      · rw [if_pos q, if_pos (by omega)]
      · rw [if_neg q, if_neg (by omega)]
    · rw [if_neg f0, if_neg f0]
      by_cases f1 : f = 1
      · rw [if_pos f1, if_pos f1]
        by_cases q : 0 ≤ p ∧ p < i ∧ p < P 3 0
        · rw [if_pos q, if_pos (by omega)]
        · rw [if_neg q, if_neg (by omega)]
      · rw [if_neg f1, if_neg f1]
        by_cases f2 : f = 2
        · rw [if_pos f2, if_pos f2]
          by_cases q : 0 ≤ p ∧ p < i
          · rw [if_pos q, if_pos (show 0 ≤ p ∧ p < i + 1 by omega)]
          · rw [if_neg q, if_neg (show ¬ (0 ≤ p ∧ p < i + 1) by omega)]
        · rw [if_neg f2, if_neg f2]
theorem bgp_yes {P : Cs} {A Bl W : Int → Int} {i : Int} (h0 : 0 ≤ i) (h : i < P 3 0) : cu (cu (cu (cu (bgp P A Bl W i) 2 i (-2)) 0 i (A i)) 1 i (Bl i)) 2 i (if 0 ≤ W i then W i else -2) = bgp P A Bl W (i + 1) := by
  funext f p
  simp only [cu_if]
  unfold bgp
  by_cases f0 : f = 0
  · subst f0
    simp only [Nat.reduceEqDiff, false_and, if_false, true_and, if_true, if_pos]
    by_cases q : p = i
    · rw [if_pos q, if_pos (by omega), q]
    · rw [if_neg q]
      by_cases w : 0 ≤ p ∧ p < i ∧ p < P 3 0
      · rw [if_pos w, if_pos (by omega)]
      · rw [if_neg w, if_neg (by omega)]
  · by_cases f1 : f = 1
    · subst f1
      simp only [Nat.reduceEqDiff, false_and, if_false, true_and, if_true, if_pos]
      by_cases q : p = i
      · rw [if_pos q, if_pos (by omega), q]
      · rw [if_neg q]
        by_cases w : 0 ≤ p ∧ p < i ∧ p < P 3 0
        · rw [if_pos w, if_pos (by omega)]
        · rw [if_neg w, if_neg (by omega)]
    · by_cases f2 : f = 2
      · subst f2
        simp only [Nat.reduceEqDiff, false_and, if_false, true_and, if_true, if_pos]
        by_cases q : p = i
        · subst q
          rw [if_pos rfl, if_pos (show 0 ≤ p ∧ p < p + 1 by omega)]
          by_cases w : 0 ≤ W p
          · rw [if_pos w, if_pos ⟨h, w⟩]
          · rw [if_neg w, if_neg (fun z => w z.2)]
        · rw [if_neg q, if_neg q]
          by_cases w : 0 ≤ p ∧ p < i
          · rw [if_pos w, if_pos (show 0 ≤ p ∧ p < i + 1 by omega)]
          · rw [if_neg w, if_neg (show ¬ (0 ≤ p ∧ p < i + 1) by omega)]
      · simp only [f0, f1, f2, false_and, if_false]
theorem l_Mo_begins3 {g : Mach} {Q : St → Prop} (C : Cx M_Mo_begins g) (F : FinV M_Mo_begins g Q) {σ : St} {m P : Cs} {T : Int → Int} (hM : MPl P m) (hG : 0 ≤ P 4 0 ∧ P 4 0 ≤ 12) (hT : ∀ a, 0 ≤ a → a < P 4 0 → m 30 (12 * m 18 0 + a) = T a) :
    ∀ (n : Nat) (i : Int) (y : Cs) (R : Int → Int), RY R y → 0 ≤ i → i + n = P 4 0 → (0 ≤ y 11 0 ∧ y 11 0 ≤ i) → (∀ R', RY R' (itr (bgs T) n i y) → Q (MF σ m R')) → Ev g 129 [some (.inr (.inr (1, 0))), some (.inl i)] [] (MF σ m R) := by
  have hlv := hM.1
  have he := hM.2.2.1
  intro n
  induction n with
  | zero =>
    intro i y R hy h0 h1 hl hQ
    refine e_iload_n C d_Mo_begins_129 rfl ?_
    refine e_aload_n C d_Mo_begins_130 rfl ?_
    refine e_geta C fl_Mo_64 (by decide) rfl rfl d_Mo_begins_131 ?_
    refine e_aload_n C d_Mo_begins_134 rfl ?_
    refine e_geti C fl_Mo_215 (by decide) rfl rfl d_Mo_begins_135 (fun r_135 => ?_)
    try simp only [MF_f, he, ne_eq, Nat.reduceEqDiff, not_false_eq_true] at r_135 ⊢
    refine e_iald (n := 2) C (by decide) rfl (by decide) rfl rfl (by decide) (by omega) (by omega) d_Mo_begins_138 (fun r_138 => ?_)
    try simp only [MF_f, he, ne_eq, Nat.reduceEqDiff, not_false_eq_true] at r_138 ⊢
    refine e_icmp_ge C 170 d_Mo_begins_139 (by decide) (by omega) (by omega) (fun c_139 => ?_) (fun c_139 => ?_)
    · refine e_vret C F rfl d_Mo_begins_170 ?_
      exact hQ R hy
    · exact absurd h1 (by omega)
  | succ n ih =>
    intro i y R hy h0 h1 hl hQ
    have hTi := hT i h0 (by omega)
    have e96 := hy.2.2.1
    rw [itr_S] at hQ
    unfold bgs at hQ
    refine e_iload_n C d_Mo_begins_129 rfl ?_
    refine e_aload_n C d_Mo_begins_130 rfl ?_
    refine e_geta C fl_Mo_64 (by decide) rfl rfl d_Mo_begins_131 ?_
    refine e_aload_n C d_Mo_begins_134 rfl ?_
    refine e_geti C fl_Mo_215 (by decide) rfl rfl d_Mo_begins_135 (fun r_135 => ?_)
    try simp only [MF_f, he, ne_eq, Nat.reduceEqDiff, not_false_eq_true] at r_135 ⊢
    refine e_iald (n := 2) C (by decide) rfl (by decide) rfl rfl (by decide) (by omega) (by omega) d_Mo_begins_138 (fun r_138 => ?_)
    try simp only [MF_f, he, ne_eq, Nat.reduceEqDiff, not_false_eq_true] at r_138 ⊢
    refine e_icmp_ge C 170 d_Mo_begins_139 (by decide) (by omega) (by omega) (fun c_139 => ?_) (fun c_139 => ?_)
    · exact absurd h1 (by omega)
    · refine e_aload_n C d_Mo_begins_142 rfl ?_
      refine e_geta C fl_Mo_67 (by decide) rfl rfl d_Mo_begins_143 ?_
      refine e_bipush C d_Mo_begins_146 (by decide) ?_
      refine e_aload_n C d_Mo_begins_148 rfl ?_
      refine e_geti C fl_Mo_215 (by decide) rfl rfl d_Mo_begins_149 (fun r_149 => ?_)
      try simp only [MF_f, he, ne_eq, Nat.reduceEqDiff, not_false_eq_true] at r_149 ⊢
      refine e_imul C d_Mo_begins_152 ?_
      refine e_iload_n C d_Mo_begins_153 rfl ?_
      refine e_iadd C d_Mo_begins_154 ?_
      refine e_iald (n := 24) C (by decide) rfl (by decide) rfl rfl (by decide) (by omega) (by omega) d_Mo_begins_155 (fun r_155 => ?_)
      try simp only [MF_f, he, ne_eq, Nat.reduceEqDiff, not_false_eq_true] at r_155 ⊢
      rw [hTi] at r_155 ⊢
      refine e_if_ge C 164 d_Mo_begins_156 (by decide) (by omega) (fun c_156 => ?_) (fun c_156 => ?_)
      · rw [if_neg (by omega)] at hQ
        refine e_iinc C d_Mo_begins_164 rfl (by decide) rfl ?_
        refine e_goto C 129 d_Mo_begins_167 (by decide) ?_
        first | exact ih (i + 1) y _ hy (by omega) (by omega) (by omega) hQ | exact ih (i + 1) _ _ hy1 (by omega) (by omega) (by omega) hQ
      · rw [if_pos (by omega)] at hQ
        refine e_aload_n C d_Mo_begins_159 rfl ?_
        refine e_iload_n C d_Mo_begins_160 rfl ?_
        refine e_callVV C ok_Mo_liesDown lk_Mo_306 (o := 1) (by decide) rfl [_] rfl rfl (Nat.le_of_ble_eq_true rfl) (by decide) (Nat.le_of_ble_eq_true rfl) d_Mo_begins_161 (k_Mo_liesDown (by omega) (by omega)) (fun u_161 h_161 => ?_)
        subst h_161
        have hy1 := RY_lie hy (a := i) (by omega)
        have hl1 : mlie y i 11 0 = y 11 0 + 1 := cu_s _ _ _ _
        refine e_iinc C d_Mo_begins_164 rfl (by decide) rfl ?_
        refine e_goto C 129 d_Mo_begins_167 (by decide) ?_
        first | exact ih (i + 1) y _ hy (by omega) (by omega) (by omega) hQ | exact ih (i + 1) _ _ hy1 (by omega) (by omega) (by omega) hQ
theorem l_Mo_begins2 {g : Mach} (C : Cx M_Mo_begins g) {σ : St} {m P : Cs} {A Bl W : Int → Int} (hM : MPl P m) (hN : 0 ≤ P 3 0 ∧ P 3 0 ≤ 8) (hA : ∀ p, 0 ≤ p → p < P 3 0 → m 25 (8 * m 18 0 + p) = A p ∧ m 26 (8 * m 18 0 + p) = Bl p ∧ m 28 (8 * m 18 0 + p) = W p ∧ -1 ≤ W p) :
    ∀ (n : Nat) (i : Int) (R : Int → Int), RY R (bgp P A Bl W i) → 0 ≤ i → i + n = 8 → (∀ R', RY R' (bgp P A Bl W 8) → Ev g 127 [some (.inr (.inr (1, 0))), none] [] (MF σ m R')) → Ev g 23 [some (.inr (.inr (1, 0))), some (.inl i)] [] (MF σ m R) := by
  have hlv := hM.1
  have he := hM.2.1
  intro n
  induction n with
  | zero =>
    intro i R hy h0 h1 hQ
    have e8 : i = 8 := by omega
    subst e8
    refine e_iload_n C d_Mo_begins_23 rfl ?_
    refine e_bipush C d_Mo_begins_24 (by decide) ?_
    refine e_icmp_ge C 127 d_Mo_begins_26 (by decide) (by omega) (by omega) (fun c_26 => ?_) (fun c_26 => ?_)
    · exact e_drop 1 (hQ R hy)
    · exact absurd c_26 (by decide)
  | succ n ih =>
    intro i R hy h0 h1 hQ
    have hy1 := RY_2 hy (q := i) (v := -1) (w := -2) (by omega) rfl
    refine e_iload_n C d_Mo_begins_23 rfl ?_
    refine e_bipush C d_Mo_begins_24 (by decide) ?_
    refine e_icmp_ge C 127 d_Mo_begins_26 (by decide) (by omega) (by omega) (fun c_26 => ?_) (fun c_26 => ?_)
    · exact absurd h1 (by omega)
    · refine e_aload_n C d_Mo_begins_29 rfl ?_
      refine e_geta C fl_Mo_119 (by decide) rfl rfl d_Mo_begins_30 ?_
      refine e_bipush C d_Mo_begins_33 (by decide) ?_
      refine e_iload_n C d_Mo_begins_35 rfl ?_
      refine e_iadd C d_Mo_begins_36 ?_
      refine e_iconst C d_Mo_begins_37 ?_
      refine e_iast (n := 100) C (by decide) rfl (by decide) rfl rfl (by decide) (by omega) (by omega) (by omega) d_Mo_begins_38 ?_
      try simp only [MF_f, MF_51, he, so_at, so_so, wr_so, lnm_s, lnm_f, lnm_cu, ne_eq, Nat.reduceEqDiff, not_false_eq_true]
      refine e_iload_n C d_Mo_begins_39 rfl ?_
      refine e_aload_n C d_Mo_begins_40 rfl ?_
      refine e_geta C fl_Mo_49 (by decide) rfl rfl d_Mo_begins_41 ?_
      refine e_aload_n C d_Mo_begins_44 rfl ?_
      refine e_geti C fl_Mo_215 (by decide) rfl rfl d_Mo_begins_45 (fun r_45 => ?_)
      try simp only [MF_f, MF_51, he, so_at, so_so, wr_so, lnm_s, lnm_f, lnm_cu, ne_eq, Nat.reduceEqDiff, not_false_eq_true] at r_45 ⊢
      refine e_iald (n := 2) C (by decide) rfl (by decide) rfl rfl (by decide) (by omega) (by omega) d_Mo_begins_48 (fun r_48 => ?_)
      try simp only [MF_f, MF_51, he, so_at, so_so, wr_so, lnm_s, lnm_f, lnm_cu, ne_eq, Nat.reduceEqDiff, not_false_eq_true] at r_48 ⊢
      refine e_icmp_lt C 55 d_Mo_begins_49 (by decide) (by omega) (by omega) (fun c_49 => ?_) (fun c_49 => ?_)
      · have hAi := hA i h0 c_49
        have hy2 := RY_2 (RY_1 (RY_0 hy1 (q := i) (v := A i) (by omega)) (q := i) (v := Bl i) (by omega)) (q := i) (v := W i) (w := if 0 ≤ W i then W i else -2) (by omega) (by unfold em; split <;> split <;> omega)
        rw [bgp_yes h0 c_49] at hy2
        refine e_aload_n C d_Mo_begins_55 rfl ?_
        refine e_geta C fl_Mo_119 (by decide) rfl rfl d_Mo_begins_56 ?_
        refine e_iload_n C d_Mo_begins_59 rfl ?_
        refine e_aload_n C d_Mo_begins_60 rfl ?_
        refine e_geta C fl_Mo_52 (by decide) rfl rfl d_Mo_begins_61 ?_
        refine e_bipush C d_Mo_begins_64 (by decide) ?_
        refine e_aload_n C d_Mo_begins_66 rfl ?_
        refine e_geti C fl_Mo_215 (by decide) rfl rfl d_Mo_begins_67 (fun r_67 => ?_)
        try simp only [MF_f, MF_51, he, so_at, so_so, wr_so, lnm_s, lnm_f, lnm_cu, ne_eq, Nat.reduceEqDiff, not_false_eq_true] at r_67 ⊢
        refine e_imul C d_Mo_begins_70 ?_
        refine e_iload_n C d_Mo_begins_71 rfl ?_
        refine e_iadd C d_Mo_begins_72 ?_
        refine e_iald (n := 16) C (by decide) rfl (by decide) rfl rfl (by decide) (by omega) (by omega) d_Mo_begins_73 (fun r_73 => ?_)
        try simp only [MF_f, MF_51, he, so_at, so_so, wr_so, lnm_s, lnm_f, lnm_cu, ne_eq, Nat.reduceEqDiff, not_false_eq_true] at r_73 ⊢
        rw [hAi.1] at r_73 ⊢
        refine e_iast (n := 100) C (by decide) rfl (by decide) rfl rfl (by decide) (by omega) (by omega) (by omega) d_Mo_begins_74 ?_
        try simp only [MF_f, MF_51, he, so_at, so_so, wr_so, lnm_s, lnm_f, lnm_cu, ne_eq, Nat.reduceEqDiff, not_false_eq_true]
        refine e_aload_n C d_Mo_begins_75 rfl ?_
        refine e_geta C fl_Mo_119 (by decide) rfl rfl d_Mo_begins_76 ?_
        refine e_bipush C d_Mo_begins_79 (by decide) ?_
        refine e_iload_n C d_Mo_begins_81 rfl ?_
        refine e_iadd C d_Mo_begins_82 ?_
        refine e_aload_n C d_Mo_begins_83 rfl ?_
        refine e_geta C fl_Mo_55 (by decide) rfl rfl d_Mo_begins_84 ?_
        refine e_bipush C d_Mo_begins_87 (by decide) ?_
        refine e_aload_n C d_Mo_begins_89 rfl ?_
        refine e_geti C fl_Mo_215 (by decide) rfl rfl d_Mo_begins_90 (fun r_90 => ?_)
        try simp only [MF_f, MF_51, he, so_at, so_so, wr_so, lnm_s, lnm_f, lnm_cu, ne_eq, Nat.reduceEqDiff, not_false_eq_true] at r_90 ⊢
        refine e_imul C d_Mo_begins_93 ?_
        refine e_iload_n C d_Mo_begins_94 rfl ?_
        refine e_iadd C d_Mo_begins_95 ?_
        refine e_iald (n := 16) C (by decide) rfl (by decide) rfl rfl (by decide) (by omega) (by omega) d_Mo_begins_96 (fun r_96 => ?_)
        try simp only [MF_f, MF_51, he, so_at, so_so, wr_so, lnm_s, lnm_f, lnm_cu, ne_eq, Nat.reduceEqDiff, not_false_eq_true] at r_96 ⊢
        rw [hAi.2.1] at r_96 ⊢
        refine e_iast (n := 100) C (by decide) rfl (by decide) rfl rfl (by decide) (by omega) (by omega) (by omega) d_Mo_begins_97 ?_
        try simp only [MF_f, MF_51, he, so_at, so_so, wr_so, lnm_s, lnm_f, lnm_cu, ne_eq, Nat.reduceEqDiff, not_false_eq_true]
        refine e_aload_n C d_Mo_begins_98 rfl ?_
        refine e_geta C fl_Mo_119 (by decide) rfl rfl d_Mo_begins_99 ?_
        refine e_bipush C d_Mo_begins_102 (by decide) ?_
        refine e_iload_n C d_Mo_begins_104 rfl ?_
        refine e_iadd C d_Mo_begins_105 ?_
        refine e_aload_n C d_Mo_begins_106 rfl ?_
        refine e_geta C fl_Mo_61 (by decide) rfl rfl d_Mo_begins_107 ?_
        refine e_bipush C d_Mo_begins_110 (by decide) ?_
        refine e_aload_n C d_Mo_begins_112 rfl ?_
        refine e_geti C fl_Mo_215 (by decide) rfl rfl d_Mo_begins_113 (fun r_113 => ?_)
        try simp only [MF_f, MF_51, he, so_at, so_so, wr_so, lnm_s, lnm_f, lnm_cu, ne_eq, Nat.reduceEqDiff, not_false_eq_true] at r_113 ⊢
        refine e_imul C d_Mo_begins_116 ?_
        refine e_iload_n C d_Mo_begins_117 rfl ?_
        refine e_iadd C d_Mo_begins_118 ?_
        refine e_iald (n := 16) C (by decide) rfl (by decide) rfl rfl (by decide) (by omega) (by omega) d_Mo_begins_119 (fun r_119 => ?_)
        try simp only [MF_f, MF_51, he, so_at, so_so, wr_so, lnm_s, lnm_f, lnm_cu, ne_eq, Nat.reduceEqDiff, not_false_eq_true] at r_119 ⊢
        rw [hAi.2.2.1] at r_119 ⊢
        refine e_iast (n := 100) C (by decide) rfl (by decide) rfl rfl (by decide) (by omega) (by omega) (by omega) d_Mo_begins_120 ?_
        try simp only [MF_f, MF_51, he, so_at, so_so, wr_so, lnm_s, lnm_f, lnm_cu, ne_eq, Nat.reduceEqDiff, not_false_eq_true]
        refine e_iinc C d_Mo_begins_121 rfl (by decide) rfl ?_
        refine e_goto C 23 d_Mo_begins_124 (by decide) ?_
        first | exact ih (i + 1) _ hy2 (by omega) (by omega) hQ | exact ih (i + 1) _ hy1 (by omega) (by omega) hQ
      · rw [bgp_no h0 (by omega)] at hy1
        refine e_goto C 121 d_Mo_begins_52 (by decide) ?_
        refine e_iinc C d_Mo_begins_121 rfl (by decide) rfl ?_
        refine e_goto C 23 d_Mo_begins_124 (by decide) ?_
        first | exact ih (i + 1) _ hy2 (by omega) (by omega) hQ | exact ih (i + 1) _ hy1 (by omega) (by omega) hQ
theorem l_Mo_begins1 {g : Mach} (C : Cx M_Mo_begins g) {σ : St} {m : Cs} {R : Int → Int} (hQ : Ev g 21 [some (.inr (.inr (1, 0))), none] [] (MF σ m (r_cp R (fun _ => 0) 100))) :
    ∀ (n : Nat) (i : Int), 0 ≤ i → i + n = 100 → Ev g 2 [some (.inr (.inr (1, 0))), some (.inl i)] [] (MF σ m (r_cp R (fun _ => 0) i)) := by
  intro n
  induction n with
  | zero =>
    intro i h0 h1
    refine e_iload_n C d_Mo_begins_2 rfl ?_
    refine e_bipush C d_Mo_begins_3 (by decide) ?_
    refine e_icmp_ge C 21 d_Mo_begins_5 (by decide) (by omega) (by omega) (fun c_5 => ?_) (fun c_5 => ?_)
    · rw [show i = 100 by omega]; exact e_drop 1 hQ
    · exact absurd h1 (by omega)
  | succ n ih =>
    intro i h0 h1
    have e := r_cp_S (R := R) (S := fun _ => 0) h0
    refine e_iload_n C d_Mo_begins_2 rfl ?_
    refine e_bipush C d_Mo_begins_3 (by decide) ?_
    refine e_icmp_ge C 21 d_Mo_begins_5 (by decide) (by omega) (by omega) (fun c_5 => ?_) (fun c_5 => ?_)
    · exact absurd h1 (by omega)
    · refine e_aload_n C d_Mo_begins_8 rfl ?_
      refine e_geta C fl_Mo_119 (by decide) rfl rfl d_Mo_begins_9 ?_
      refine e_iload_n C d_Mo_begins_12 rfl ?_
      refine e_iconst C d_Mo_begins_13 ?_
      refine e_iast (n := 100) C (by decide) rfl (by decide) rfl rfl (by decide) (by omega) (by omega) (by omega) d_Mo_begins_14 ?_
      try simp only [MF_51, so_at, so_so, wr_so, lnm_s, lnm_cu]
      refine e_iinc C d_Mo_begins_15 rfl (by decide) rfl ?_
      refine e_goto C 2 d_Mo_begins_18 (by decide) ?_
      rw [e]; exact ih (i + 1) (by omega) (by omega)
theorem k_Mo_begins {σ : St} {m P ys : Cs} {R : Int → Int} (hM : MPl P m) (hN : 0 ≤ P 3 0 ∧ P 3 0 ≤ 8) (hG : 0 ≤ P 4 0 ∧ P 4 0 ≤ 12) (hB : BG P m ys) : CtV M_Mo_begins [.inr (.inr (1, 0))] (MF σ m R) (fun u => ∃ R', RY R' ys ∧ u = MF σ m R') := by
  intro g C F
  obtain ⟨A, Bl, W, T, hA, hT, rfl, -⟩ := hB
  have h21 : ∀ R, Ev g 21 [some (.inr (.inr (1, 0))), none] [] (MF σ m (r_cp R (fun _ => 0) 100)) := by
    intro R
    have hz : RY (r_cp R (fun _ => 0) 100) (bgp P A Bl W 0) := by
      have e : ∀ j, 0 ≤ j → j < 100 → r_cp R (fun _ => 0) 100 j = 0 := fun j a b => by unfold r_cp; rw [if_pos ⟨a, b⟩]
      have e2 : ∀ f p, bgp P A Bl W 0 f p = 0 := fun f p => by
        unfold bgp
        rw [if_neg (show ¬ (0 ≤ p ∧ p < 0 ∧ p < P 3 0) by omega), if_neg (show ¬ (0 ≤ p ∧ p < 0 ∧ p < P 3 0) by omega), if_neg (show ¬ (0 ≤ p ∧ p < 0) by omega)]
        split <;> (try split) <;> (try split) <;> rfl
      refine ⟨fun p a b => ?_, fun k a b => ?_, ?_, ?_⟩
      · rw [e p a (by omega), e (8 + p) (by omega) (by omega), e (16 + p) (by omega) (by omega), e (24 + p) (by omega) (by omega), e (32 + p) (by omega) (by omega), e (40 + p) (by omega) (by omega), e2, e2, e2, e2, e2, e2]
        exact ⟨rfl, rfl, rfl, rfl, rfl, rfl⟩
      · rw [e (48 + k) (by omega) (by omega), e (60 + k) (by omega) (by omega), e (72 + k) (by omega) (by omega), e (84 + k) (by omega) (by omega), e2, e2, e2, e2]
        exact ⟨rfl, rfl, rfl, rfl⟩
      · rw [e 96 (by decide) (by decide), e2]
      · rw [e 97 (by decide) (by decide), e2]
    refine e_iconst C d_Mo_begins_21 ?_
    refine e_istore_n C d_Mo_begins_22 (by decide) rfl ?_
    refine l_Mo_begins2 C hM hN hA 8 0 _ hz (by omega) (by omega) (fun R' hy => ?_)
    have hy0 : RY R' (bg0 P A Bl W) := by
      refine RY_cg hy (fun f p a b c => ?_) (fun f k a b c d => ?_) ?_ ?_
      · unfold bg0 bgp
        by_cases f0 : f = 0
        · rw [if_pos f0, if_pos f0]
          by_cases q : 0 ≤ p ∧ p < P 3 0
          · rw [if_pos q, if_pos (by omega)]
          · rw [if_neg q, if_neg (by omega)]
        · rw [if_neg f0, if_neg f0]
          by_cases f1 : f = 1
          · rw [if_pos f1, if_pos f1]
            by_cases q : 0 ≤ p ∧ p < P 3 0
            · rw [if_pos q, if_pos (by omega)]
            · rw [if_neg q, if_neg (by omega)]
          · rw [if_neg f1, if_neg f1]
            by_cases f2 : f = 2
            · rw [if_pos f2, if_pos f2, if_pos (show 0 ≤ p ∧ p < 8 from ⟨b, c⟩)]
              by_cases q : p < P 3 0 ∧ 0 ≤ W p
              · rw [if_pos q, if_pos ⟨b, q⟩]
              · rw [if_neg q, if_neg (fun z => q z.2)]
            · rw [if_neg f2, if_neg f2]
      · unfold bg0 bgp
        rw [if_neg (by omega), if_neg (by omega), if_neg (by omega), if_neg (by omega), if_neg (by omega), if_neg (by omega)]
      · unfold bg0 bgp
        simp
      · unfold bg0 bgp
        simp
    have h11 : bg0 P A Bl W 11 0 = 0 := by unfold bg0; simp
    refine e_iconst C d_Mo_begins_127 ?_
    refine e_istore_n C d_Mo_begins_128 (by decide) rfl ?_
    exact l_Mo_begins3 C F hM hG hT (P 4 0).toNat 0 _ _ hy0 (by omega) (by omega) (by omega) (fun R'' h => ⟨R'', h, rfl⟩)
  refine e_iconst C d_Mo_begins_0 ?_
  refine e_istore_n C d_Mo_begins_1 (by decide) rfl ?_
  have := l_Mo_begins1 (R := R) C (h21 R) 100 0 (by omega) (by omega)
  rw [r_cp_0] at this
  exact this
/-- what isSo goes by -/
def TLm (m : Cs) (tp tm : Int → Int) (k N : Int) : Prop := (0 ≤ k ∧ k ≤ 20) ∧ ∀ i, 0 ≤ i → i < k → m 56 i = tp i ∧ m 57 i = tm i ∧ (0 ≤ tp i ∧ tp i < N) ∧ 0 ≤ tm i ∧ tm i ≤ 2000
theorem TLm.same {m m' : Cs} {tp tm : Int → Int} {k N : Int} (h : TLm m tp tm k N) (hm : MK m m') : TLm m' tp tm k N := by
  refine ⟨h.1, fun i a b => ?_⟩
  rw [hm 56 (by decide) (by decide) (by decide) (by decide) (by decide) (by decide), hm 57 (by decide) (by decide) (by decide) (by decide) (by decide) (by decide)]
  exact h.2 i a b
theorem l_Mo_isSo1 {g : Mach} (C : Cx M_Mo_isSo g) {σ : St} {m : Cs} {R tp tm : Int → Int} {p more k N : Int} (hT : TLm m tp tm k N) :
    ∀ (n : Nat) (i x : Int), 0 ≤ i → i + n = k → (0 ≤ x ∧ x ≤ 2001) → Ev g 53 [some (.inr (.inr (1, 0))), some (.inl p), some (.inl more), some (.inl k), some (.inl (itr (mxs tm) n i x - 1)), none, none] [] (MF σ m R) → Ev g 20 [some (.inr (.inr (1, 0))), some (.inl p), some (.inl more), some (.inl k), some (.inl (x - 1)), some (.inl i), none] [] (MF σ m R) := by
  have hk := hT.1
  intro n
  induction n with
  | zero =>
    intro i x h0 h1 hx hQ
    refine e_iload C d_Mo_isSo_20 rfl ?_
    refine e_iload_n C d_Mo_isSo_22 rfl ?_
    refine e_icmp_ge C 53 d_Mo_isSo_23 (by decide) (by omega) (by omega) (fun c_23 => ?_) (fun c_23 => ?_)
    · exact e_drop 5 hQ
    · exact absurd h1 (by omega)
  | succ n ih =>
    intro i x h0 h1 hx hQ
    have hi := hT.2 i h0 (by omega)
    rw [itr_S] at hQ
    unfold mxs at hQ
    refine e_iload C d_Mo_isSo_20 rfl ?_
    refine e_iload_n C d_Mo_isSo_22 rfl ?_
    refine e_icmp_ge C 53 d_Mo_isSo_23 (by decide) (by omega) (by omega) (fun c_23 => ?_) (fun c_23 => ?_)
    · exact absurd h1 (by omega)
    · refine e_aload_n C d_Mo_isSo_26 rfl ?_
      refine e_geta C fl_Mo_131 (by decide) rfl rfl d_Mo_isSo_27 ?_
      refine e_iload C d_Mo_isSo_30 rfl ?_
      refine e_iald (n := 20) C (by decide) rfl (by decide) rfl rfl (by decide) (by omega) (by omega) d_Mo_isSo_32 (fun r_32 => ?_)
      try simp only [MF_f, ne_eq, Nat.reduceEqDiff, not_false_eq_true] at r_32 ⊢
      rw [hi.2.1] at r_32 ⊢
      refine e_iload C d_Mo_isSo_33 rfl ?_
      refine e_icmp_le C 47 d_Mo_isSo_35 (by decide) (by omega) (by omega) (fun c_35 => ?_) (fun c_35 => ?_)
      · rw [show max x (tm i + 1) = x by omega] at hQ
        first | (refine e_iinc C d_Mo_isSo_47 rfl (by decide) rfl ?_; refine e_goto C 20 d_Mo_isSo_50 (by decide) ?_; exact ih (i + 1) x (by omega) (by omega) (by omega) hQ) | (refine e_iinc C d_Mo_isSo_47 rfl (by decide) rfl ?_; refine e_goto C 20 d_Mo_isSo_50 (by decide) ?_; have h9 := ih (i + 1) (tm i + 1) (by omega) (by omega) (by omega) hQ; rw [show tm i + 1 - 1 = tm i by omega] at h9; exact h9)
      · rw [show max x (tm i + 1) = tm i + 1 by omega] at hQ
        refine e_aload_n C d_Mo_isSo_38 rfl ?_
        refine e_geta C fl_Mo_131 (by decide) rfl rfl d_Mo_isSo_39 ?_
        refine e_iload C d_Mo_isSo_42 rfl ?_
        refine e_iald (n := 20) C (by decide) rfl (by decide) rfl rfl (by decide) (by omega) (by omega) d_Mo_isSo_44 (fun r_44 => ?_)
        try simp only [MF_f, ne_eq, Nat.reduceEqDiff, not_false_eq_true] at r_44 ⊢
        rw [hi.2.1] at r_44 ⊢
        refine e_istore C d_Mo_isSo_45 (by decide) rfl ?_
        first | (refine e_iinc C d_Mo_isSo_47 rfl (by decide) rfl ?_; refine e_goto C 20 d_Mo_isSo_50 (by decide) ?_; exact ih (i + 1) x (by omega) (by omega) (by omega) hQ) | (refine e_iinc C d_Mo_isSo_47 rfl (by decide) rfl ?_; refine e_goto C 20 d_Mo_isSo_50 (by decide) ?_; have h9 := ih (i + 1) (tm i + 1) (by omega) (by omega) (by omega) hQ; rw [show tm i + 1 - 1 = tm i by omega] at h9; exact h9)
theorem l_Mo_isSo3 {g : Mach} (C : Cx M_Mo_isSo g) {σ : St} {x : Cs} {p more k last t : Int} (hQ : Ev g 96 [some (.inr (.inr (1, 0))), some (.inl p), some (.inl more), some (.inl k), some (.inl last), some (.inl t), none] [] (so σ 1 (lnm x 58 (r_cp (x 58) (fun j => x 51 (32 + j)) 8)))) :
    ∀ (n : Nat) (i : Int), 0 ≤ i → i + n = 8 → Ev g 66 [some (.inr (.inr (1, 0))), some (.inl p), some (.inl more), some (.inl k), some (.inl last), some (.inl t), some (.inl i)] [] (so σ 1 (lnm x 58 (r_cp (x 58) (fun j => x 51 (32 + j)) i))) := by
  intro n
  induction n with
  | zero =>
    intro i h0 h1
    refine e_iload C d_Mo_isSo_66 rfl ?_
    refine e_bipush C d_Mo_isSo_68 (by decide) ?_
    refine e_icmp_ge C 96 d_Mo_isSo_70 (by decide) (by omega) (by omega) (fun c_70 => ?_) (fun c_70 => ?_)
    · rw [show i = 8 by omega]; exact e_drop 6 hQ
    · exact absurd h1 (by omega)
  | succ n ih =>
    intro i h0 h1
    have e := r_cp_S (R := x 58) (S := fun j => x 51 (32 + j)) h0
    refine e_iload C d_Mo_isSo_66 rfl ?_
    refine e_bipush C d_Mo_isSo_68 (by decide) ?_
    refine e_icmp_ge C 96 d_Mo_isSo_70 (by decide) (by omega) (by omega) (fun c_70 => ?_) (fun c_70 => ?_)
    · exact absurd h1 (by omega)
    · refine e_aload_n C d_Mo_isSo_73 rfl ?_
      refine e_geta C fl_Mo_134 (by decide) rfl rfl d_Mo_isSo_74 ?_
      refine e_iload C d_Mo_isSo_77 rfl ?_
      refine e_aload_n C d_Mo_isSo_79 rfl ?_
      refine e_geta C fl_Mo_119 (by decide) rfl rfl d_Mo_isSo_80 ?_
      refine e_bipush C d_Mo_isSo_83 (by decide) ?_
      refine e_iload C d_Mo_isSo_85 rfl ?_
      refine e_iadd C d_Mo_isSo_87 ?_
      refine e_iald (n := 100) C (by decide) rfl (by decide) rfl rfl (by decide) (by omega) (by omega) d_Mo_isSo_88 (fun r_88 => ?_)
      try simp only [so_at, so_so, wr_so, lnm_s, lnm_cu, lnm_f, ne_eq, Nat.reduceEqDiff, not_false_eq_true] at r_88 ⊢
      refine e_iast (n := 8) C (by decide) rfl (by decide) rfl rfl (by decide) (by omega) (by omega) (by omega) d_Mo_isSo_89 ?_
      try simp only [so_at, so_so, wr_so, lnm_s, lnm_cu, lnm_f, ne_eq, Nat.reduceEqDiff, not_false_eq_true]
      refine e_iinc C d_Mo_isSo_90 rfl (by decide) rfl ?_
      refine e_goto C 66 d_Mo_isSo_93 (by decide) ?_
      rw [e]; exact ih (i + 1) (by omega) (by omega)
theorem l_Mo_isSo4 {g : Mach} {Q : Int → St → Prop} (C : Cx M_Mo_isSo g) (F : FinI M_Mo_isSo g Q) {σ : St} {m y y' : Cs} {R tp tm : Int → Int} {p more k N last t : Int} (hT : TLm m tp tm k N) (hN : N ≤ 8) (hy : RY R y') (h58 : ∀ j, 0 ≤ j → j < 8 → m 58 j = y 4 j) (ht : R32 t) (hf : allb (fun i => !(tm i == t && y' 4 (tp i) == y 4 (tp i))) k.toNat 0 = false → Q 0 (MF σ m R)) (hQ : allb (fun i => !(tm i == t && y' 4 (tp i) == y 4 (tp i))) k.toNat 0 = true → Ev g 159 [some (.inr (.inr (1, 0))), some (.inl p), some (.inl more), some (.inl k), some (.inl last), some (.inl t), none] [] (MF σ m R)) :
    ∀ (n : Nat) (i : Int), 0 ≤ i → i + n = k → allb (fun i => !(tm i == t && y' 4 (tp i) == y 4 (tp i))) n i = allb (fun i => !(tm i == t && y' 4 (tp i) == y 4 (tp i))) k.toNat 0 → Ev g 103 [some (.inr (.inr (1, 0))), some (.inl p), some (.inl more), some (.inl k), some (.inl last), some (.inl t), some (.inl i)] [] (MF σ m R) := by
  have hk := hT.1
  intro n
  induction n with
  | zero =>
    intro i h0 h1 hA
    refine e_iload C d_Mo_isSo_103 rfl ?_
    refine e_iload_n C d_Mo_isSo_105 rfl ?_
    refine e_icmp_ge C 159 d_Mo_isSo_106 (by decide) (by omega) (by omega) (fun c_106 => ?_) (fun c_106 => ?_)
    · exact e_drop 6 (hQ hA.symm)
    · exact absurd h1 (by omega)
  | succ n ih =>
    intro i h0 h1 hA
    have hi := hT.2 i h0 (by omega)
    have hyi := (hy.1 (tp i) (by omega) (by omega)).2.2.2.2.1
    have h58i := h58 (tp i) (by omega) (by omega)
    rw [allb_S] at hA
    refine e_iload C d_Mo_isSo_103 rfl ?_
    refine e_iload_n C d_Mo_isSo_105 rfl ?_
    refine e_icmp_ge C 159 d_Mo_isSo_106 (by decide) (by omega) (by omega) (fun c_106 => ?_) (fun c_106 => ?_)
    · exact absurd h1 (by omega)
    · refine e_aload_n C d_Mo_isSo_109 rfl ?_
      refine e_geta C fl_Mo_131 (by decide) rfl rfl d_Mo_isSo_110 ?_
      refine e_iload C d_Mo_isSo_113 rfl ?_
      refine e_iald (n := 20) C (by decide) rfl (by decide) rfl rfl (by decide) (by omega) (by omega) d_Mo_isSo_115 (fun r_115 => ?_)
      try simp only [MF_f, MF_51, hi.1, ne_eq, Nat.reduceEqDiff, not_false_eq_true] at r_115 ⊢
      rw [hi.2.1] at r_115 ⊢
      refine e_iload C d_Mo_isSo_116 rfl ?_
      refine e_icmp_ne C 153 d_Mo_isSo_118 (by decide) (by omega) (by omega) (fun c_118 => ?_) (fun c_118 => ?_)
      · rw [show (tm i == t) = false by simp; exact c_118] at hA
        simp only [Bool.false_and, Bool.not_false, Bool.true_and] at hA
        refine e_iinc C d_Mo_isSo_153 rfl (by decide) rfl ?_
        refine e_goto C 103 d_Mo_isSo_156 (by decide) ?_
        exact ih (i + 1) (by omega) (by omega) hA
      · rw [show (tm i == t) = true by simp; exact c_118] at hA
        simp only [Bool.true_and] at hA
        refine e_aload_n C d_Mo_isSo_121 rfl ?_
        refine e_geta C fl_Mo_119 (by decide) rfl rfl d_Mo_isSo_122 ?_
        refine e_bipush C d_Mo_isSo_125 (by decide) ?_
        refine e_aload_n C d_Mo_isSo_127 rfl ?_
        refine e_geta C fl_Mo_128 (by decide) rfl rfl d_Mo_isSo_128 ?_
        refine e_iload C d_Mo_isSo_131 rfl ?_
        refine e_iald (n := 20) C (by decide) rfl (by decide) rfl rfl (by decide) (by omega) (by omega) d_Mo_isSo_133 (fun r_133 => ?_)
        try simp only [MF_f, MF_51, hi.1, ne_eq, Nat.reduceEqDiff, not_false_eq_true] at r_133 ⊢
        refine e_iadd C d_Mo_isSo_134 ?_
        refine e_iald (n := 100) C (by decide) rfl (by decide) rfl rfl (by decide) (by omega) (by omega) d_Mo_isSo_135 (fun r_135 => ?_)
        try simp only [MF_f, MF_51, hi.1, ne_eq, Nat.reduceEqDiff, not_false_eq_true] at r_135 ⊢
        rw [hyi] at r_135 ⊢
        refine e_aload_n C d_Mo_isSo_136 rfl ?_
        refine e_geta C fl_Mo_134 (by decide) rfl rfl d_Mo_isSo_137 ?_
        refine e_aload_n C d_Mo_isSo_140 rfl ?_
        refine e_geta C fl_Mo_128 (by decide) rfl rfl d_Mo_isSo_141 ?_
        refine e_iload C d_Mo_isSo_144 rfl ?_
        refine e_iald (n := 20) C (by decide) rfl (by decide) rfl rfl (by decide) (by omega) (by omega) d_Mo_isSo_146 (fun r_146 => ?_)
        try simp only [MF_f, MF_51, hi.1, ne_eq, Nat.reduceEqDiff, not_false_eq_true] at r_146 ⊢
        refine e_iald (n := 8) C (by decide) rfl (by decide) rfl rfl (by decide) (by omega) (by omega) d_Mo_isSo_147 (fun r_147 => ?_)
        try simp only [MF_f, MF_51, hi.1, ne_eq, Nat.reduceEqDiff, not_false_eq_true] at r_147 ⊢
        rw [h58i] at r_147 ⊢
        refine e_icmp_ne C 153 d_Mo_isSo_148 (by decide) (by omega) (by omega) (fun c_148 => ?_) (fun c_148 => ?_)
        · rw [show (y' 4 (tp i) == y 4 (tp i)) = false by simp; exact c_148] at hA
          simp only [Bool.not_false, Bool.true_and] at hA
          refine e_iinc C d_Mo_isSo_153 rfl (by decide) rfl ?_
          refine e_goto C 103 d_Mo_isSo_156 (by decide) ?_
          exact ih (i + 1) (by omega) (by omega) hA
        · rw [show (y' 4 (tp i) == y 4 (tp i)) = true by simp; exact c_148] at hA
          simp only [Bool.not_true, Bool.false_and] at hA
          refine e_iconst C d_Mo_isSo_151 ?_
          refine e_zret C F rfl d_Mo_isSo_152 (by omega) ?_
          exact hf hA.symm
set_option maxHeartbeats 1000000 in
theorem l_Mo_isSo2 {g : Mach} {Q : Int → St → Prop} (C : Cx M_Mo_isSo g) (F : FinI M_Mo_isSo g Q) {σ : St} {m P l : Cs} {φ : Phi} {tp tm : Int → Int} {p more k last : Int} (hPl : PlanOk P l φ) (hM : MPl P m) (hF : FlowC φ P m) (hT : TLm m tp tm k (P 3 0)) (hl : -1 ≤ last ∧ last ≤ 2000) :
    ∀ (n : Nat) (t B : Int) (m' y : Cs) (R : Int → Int), MK m m' → RY R y → QY P B y → 0 ≤ B → B + 9 * n < 1900000000 → 0 ≤ t → t + n = last + 1 → (∀ R' m'', MK m m'' → Q (if mdue φ P tp tm k.toNat n t y = true then 1 else 0) (MF σ m'' R')) → Ev g 56 [some (.inr (.inr (1, 0))), some (.inl p), some (.inl more), some (.inl k), some (.inl last), some (.inl t), none] [] (MF σ m' R) := by
  have hN := hPl.1
  intro n
  induction n with
  | zero =>
    intro t B m' y R hm hy hQy hB hb h0 h1 hQ
    refine e_iload C d_Mo_isSo_56 rfl ?_
    refine e_iload C d_Mo_isSo_58 rfl ?_
    refine e_icmp_gt C 165 d_Mo_isSo_60 (by decide) (by omega) (by omega) (fun c_60 => ?_) (fun c_60 => ?_)
    · refine e_iconst C d_Mo_isSo_165 ?_
      refine e_zret C F rfl d_Mo_isSo_166 (by omega) ?_
      exact hQ R m' hm
    · exact absurd h1 (by omega)
  | succ n ih =>
    intro t B m' y R hm hy hQy hB hb h0 h1 hQ
    rw [mdue_S] at hQ
    refine e_iload C d_Mo_isSo_56 rfl ?_
    refine e_iload C d_Mo_isSo_58 rfl ?_
    refine e_icmp_gt C 165 d_Mo_isSo_60 (by decide) (by omega) (by omega) (fun c_60 => ?_) (fun c_60 => ?_)
    · exact absurd h1 (by omega)
    · refine e_iconst C d_Mo_isSo_63 ?_
      refine e_istore C d_Mo_isSo_64 (by decide) rfl ?_
      have h3 := l_Mo_isSo3 (σ := σ) (x := lnm m' 51 R) (p := p) (more := more) (k := k) (last := last) (t := t) C (by
        have ec : lnm (lnm m' 51 R) 58 (r_cp (lnm m' 51 R 58) (fun j => lnm m' 51 R 51 (32 + j)) 8) = lnm (lnm m' 58 (r_cp (m' 58) (fun j => R (32 + j)) 8)) 51 R := by
          rw [lnm_f (show 58 ≠ 51 by decide), lnm_s]
          funext f
          by_cases z : f = 58
          · subst z; rw [lnm_s, lnm_f (by decide), lnm_s]
          · rw [lnm_f z]
            by_cases w : f = 51
            · subst w; rw [lnm_s, lnm_s]
            · rw [lnm_f w, lnm_f w, lnm_f z]
        rw [ec]
        have hm1 : MK m (lnm m' 58 (r_cp (m' 58) (fun j => R (32 + j)) 8)) := fun f a b c d e h => by rw [lnm_f h]; exact hm f a b c d e h
        have h58 : ∀ j, 0 ≤ j → j < 8 → lnm m' 58 (r_cp (m' 58) (fun j => R (32 + j)) 8) 58 j = y 4 j := fun j a b => by
          rw [lnm_s]
          unfold r_cp
          rw [if_pos ⟨a, b⟩]
          exact (hy.1 j a b).2.2.2.2.1
        generalize lnm m' 58 (r_cp (m' 58) (fun j => R (32 + j)) 8) = m1 at hm1 h58 ⊢
        refine e_aload_n C d_Mo_isSo_96 rfl ?_
        refine e_callVV C ok_Mo_minuteGoes lk_Mo_342 (o := 1) (by decide) rfl [] rfl rfl (Nat.le_of_ble_eq_true rfl) (by decide) (Nat.le_of_ble_eq_true rfl) d_Mo_isSo_97 (k_Mo_minuteGoes hPl (hM.same hm1.mp) (hF.same hm1.mp) hy hQy (by omega)) (fun u_97 h_97 => ?_)
        obtain ⟨R2, m2, hm2, hy2, rfl⟩ := h_97
        refine e_iconst C d_Mo_isSo_100 ?_
        refine e_istore C d_Mo_isSo_101 (by decide) rfl ?_
        have hm3 := hm1.tr hm2.mk
        refine l_Mo_isSo4 (y := y) (y' := mmin φ P y) C F (hT.same hm3) hN.2 hy2 (fun j a b => by rw [hm2 58 (by decide) (by decide) (by decide) (by decide)]; exact h58 j a b) (by omega) (fun hd => ?_) (fun hd => ?_) k.toNat 0 (by omega) (by have := hT.1; omega) rfl
        · have := hQ R2 m2 hm3
          rw [show duo φ P tp tm k.toNat t y = false from hd, Bool.false_and, if_neg (by decide)] at this
          exact this
        · rw [show duo φ P tp tm k.toNat t y = true from hd, Bool.true_and] at hQ
          refine e_iinc C d_Mo_isSo_159 rfl (by decide) rfl ?_
          refine e_goto C 56 d_Mo_isSo_162 (by decide) ?_
          exact ih (t + 1) (B + 9) m2 _ R2 hm3 hy2 (QY_min hQy hB hPl) (by omega) (by omega) (by omega) (by omega) hQ
        ) 8 0 (by omega) (by omega)
      rw [r_cp_0, lnm_id] at h3
      exact h3
theorem QY_more {P y : Cs} {B p v : Int} (h : QY P B y) (hv : 0 ≤ p → p < P 3 0 → 0 ≤ v ∧ v + y 1 p ≤ 1000000000) (hp : 0 ≤ p ∧ p < P 3 0) : QY P B (cu y 0 p v) := by
  obtain ⟨c, hS, hK⟩ := h
  refine ⟨cu c 0 p v, cuf_sim (by decide) (by decide) hS, CK_0 hK (fun a b => ?_)⟩
  have := hS.1.1 1 p (by decide) hp.1 hp.2
  have := hv hp.1 hp.2
  omega
theorem k_Mo_isSo {σ : St} {m P l ys : Cs} {φ : Phi} {tp tm R : Int → Int} {p more k B : Int} (hPl : PlanOk P l φ) (hM : MPl P m) (hF : FlowC φ P m) (hT : TLm m tp tm k (P 3 0)) (hBG : BG P m ys) (hQ : QY P B ys) (hB : 0 ≤ B ∧ B < 1800000000) (hp : 0 ≤ p ∧ p < P 3 0) (hm : 0 ≤ more ∧ more ≤ 200) (hs : ys 0 p + ys 1 p ≤ 900000000) : CtI M_Mo_isSo [.inr (.inr (1, 0)), .inl p, .inl more, .inl k] (MF σ m R) (fun r u => r = (if isS φ P ys tp tm k.toNat p more = true then 1 else 0) ∧ ∃ R' m', MK m m' ∧ u = MF σ m' R') := by
  intro g C F
  have hN := hPl.1
  have hG := hPl.2.1
  have hk := hT.1
  have hq := (hQ.post hN.2 hG.2 hp).1
  refine e_aload_n C d_Mo_isSo_0 rfl ?_
  refine e_callVV C ok_Mo_begins lk_Mo_233 (o := 1) (by decide) rfl [] rfl rfl (Nat.le_of_ble_eq_true rfl) (by decide) (Nat.le_of_ble_eq_true rfl) d_Mo_isSo_1 (k_Mo_begins hM hN hG hBG) (fun u_1 h_1 => ?_)
  obtain ⟨R1, hy, rfl⟩ := h_1
  have hyp := hy.1 p hp.1 (by omega)
  refine e_aload_n C d_Mo_isSo_4 rfl ?_
  refine e_geta C fl_Mo_119 (by decide) rfl rfl d_Mo_isSo_5 ?_
  refine e_iload_n C d_Mo_isSo_8 rfl ?_
  refine e_dup2 C d_Mo_isSo_9 rfl rfl ?_
  refine e_iald (n := 100) C (by decide) rfl (by decide) rfl rfl (by decide) (by omega) (by omega) d_Mo_isSo_10 (fun r_10 => ?_)
  try simp only [MF_51, so_at, so_so, wr_so, lnm_s, lnm_cu] at r_10 ⊢
  rw [hyp.1] at r_10 ⊢
  refine e_iload_n C d_Mo_isSo_11 rfl ?_
  refine e_iadd C d_Mo_isSo_12 ?_
  refine e_iast (n := 100) C (by decide) rfl (by decide) rfl rfl (by decide) (by omega) (by omega) (by omega) d_Mo_isSo_13 ?_
  try simp only [MF_51, so_at, so_so, wr_so, lnm_s, lnm_cu]
  refine e_iconst C d_Mo_isSo_14 ?_
  refine e_istore C d_Mo_isSo_15 (by decide) rfl ?_
  refine e_iconst C d_Mo_isSo_17 ?_
  refine e_istore C d_Mo_isSo_18 (by decide) rfl ?_
  have hy1 := RY_0 hy (q := p) (v := ys 0 p + more) (by omega)
  have hmx := mxm_in (tm := tm) k.toNat 0 0 (fun q a b => (hT.2 q a (by omega)).2.2.2) (by omega) (by omega)
  refine l_Mo_isSo1 (N := P 3 0) C hT k.toNat 0 0 (by omega) (by omega) (by omega) ?_
  refine e_iconst C d_Mo_isSo_53 ?_
  refine e_istore C d_Mo_isSo_54 (by decide) rfl ?_
  refine l_Mo_isSo2 C F hPl hM hF hT (by omega) (mxm tm k.toNat).toNat 0 B m _ _ (MK.rf m) hy1 (QY_more hQ (fun _ _ => by omega) hp) hB.1 (by unfold mxm; omega) (by omega) (by unfold mxm; omega) (fun R' m' h => ⟨rfl, R', m', h, rfl⟩)
abbrev okTam (S : SS) (most k i : Int) : Prop := (1 ≤ most ∧ most ≤ 200) ∧ (0 ≤ k ∧ k ≤ sTn S) ∧ -1 ≤ i
def rvTam (S : SS) (most k i : Int) : Int := if okTam S most k i then tmv (sF S) (sP S) (sB S) (sTp S) (sTm S) most k.toNat i else -1
theorem IVm.tl {S : SS} {m : Cs} {n k : Int} (h : IVm S m) (hp : PI S n) (hk : 0 ≤ k ∧ k ≤ sTn S) : TLm m (sTp S) (sTm S) k (sP S 3 0) := by
  have h3 := hp.tn
  refine ⟨by omega, fun i a b => ?_⟩
  have h1 := h.2.2.2.2.1.2 i a (by omega)
  have h2 := hp.t i a (by omega)
  exact ⟨h1.1, h1.2, h2⟩
set_option maxHeartbeats 1000000 in
theorem l_Mo_tampered2 {g : Mach} {Q : Int → St → Prop} (C : Cx M_Mo_tampered g) (F : FinI M_Mo_tampered g Q) {σ : St} {m P l ys : Cs} {φ : Phi} {tp tm : Int → Int} {most k i p B : Int} (hPl : PlanOk P l φ) (hM : MPl P m) (hF : FlowC φ P m) (hT : TLm m tp tm k (P 3 0)) (hBG : BG P m ys) (hQy : QY P B ys) (hB : 0 ≤ B ∧ B < 1800000000) (hp : 0 ≤ p ∧ p < P 3 0) (hmo : 1 ≤ most ∧ most ≤ 200) (hs : ys 0 p + ys 1 p ≤ 900000000) (hi : R32 i) :
    ∀ (n : Nat) (more x : Int) (m' : Cs) (R : Int → Int), MK m m' → 0 ≤ more → more + n = most + 1 → (0 ≤ x ∧ x ≤ 300 * p + more) → (∀ y v R' m'', itr (gse (isS φ P ys tp tm k.toNat p) (wyv p) i) n more (none, x) = (some v, y) → MK m m'' → Q v (MF σ m'' R')) → (∀ y R' m'', itr (gse (isS φ P ys tp tm k.toNat p) (wyv p) i) n more (none, x) = (none, y) → MK m m'' → 0 ≤ y → y ≤ 300 * p + 300 → Ev g 108 [some (.inr (.inr (1, 0))), some (.inl most), some (.inl k), some (.inl i), some (.inl y), some (.inl p), none] [] (MF σ m'' R')) → Ev g 62 [some (.inr (.inr (1, 0))), some (.inl most), some (.inl k), some (.inl i), some (.inl x), some (.inl p), some (.inl more)] [] (MF σ m' R) := by
  have hN := hPl.1
  intro n
  induction n with
  | zero =>
    intro more x m' R hm h0 h1 hx hv hQ
    refine e_iload C d_Mo_tampered_62 rfl ?_
    refine e_iload_n C d_Mo_tampered_64 rfl ?_
    refine e_icmp_gt C 108 d_Mo_tampered_65 (by decide) (by omega) (by omega) (fun c_65 => ?_) (fun c_65 => ?_)
    · exact e_drop 6 (hQ x R m' rfl hm (by omega) (by omega))
    · exact absurd h1 (by omega)
  | succ n ih =>
    intro more x m' R hm h0 h1 hx hv hQ
    rw [itr_S] at hv hQ
    refine e_iload C d_Mo_tampered_62 rfl ?_
    refine e_iload_n C d_Mo_tampered_64 rfl ?_
    refine e_icmp_gt C 108 d_Mo_tampered_65 (by decide) (by omega) (by omega) (fun c_65 => ?_) (fun c_65 => ?_)
    · exact absurd h1 (by omega)
    · refine e_aload_n C d_Mo_tampered_68 rfl ?_
      refine e_iload C d_Mo_tampered_69 rfl ?_
      refine e_iload C d_Mo_tampered_71 rfl ?_
      refine e_iload_n C d_Mo_tampered_73 rfl ?_
      refine e_callIV C ok_Mo_isSo lk_Mo_375 (o := 1) (by decide) rfl [_, _, _] rfl rfl (Nat.le_of_ble_eq_true rfl) (by decide) (Nat.le_of_ble_eq_true rfl) d_Mo_tampered_74 (k_Mo_isSo hPl (hM.same hm.mp) (hF.same hm.mp) (hT.same hm) (hBG.same hm.mp) hQy hB hp (by omega) hs) (fun v_74 u_74 q_74 h_74 => ?_)
      obtain ⟨rfl, R1, m1, hm1, rfl⟩ := h_74
      have hm2 := hm.tr hm1
      refine e_if_ne C 83 d_Mo_tampered_77 (by decide) (by split <;> omega) (fun c_77 => ?_) (fun c_77 => ?_)
      · have hyes : isS φ P ys tp tm k.toNat p more = true := Decidable.byContradiction fun z => c_77 (by rw [if_neg z])
        refine e_iload C d_Mo_tampered_83 rfl ?_
        refine e_iload_n C d_Mo_tampered_85 rfl ?_
        refine e_icmp_ne C 99 d_Mo_tampered_86 (by decide) (by omega) (by omega) (fun c_86 => ?_) (fun c_86 => ?_)
        · rw [gse_more hyes c_86] at hv hQ
          refine e_iinc C d_Mo_tampered_99 rfl (by decide) rfl ?_
          refine e_iinc C d_Mo_tampered_102 rfl (by decide) rfl ?_
          refine e_goto C 62 d_Mo_tampered_105 (by decide) ?_
          exact ih (more + 1) _ m1 R1 hm2 (by omega) (by omega) (by omega) hv hQ
        · subst c_86
          rw [gse_hit hyes, gse_some] at hv
          refine e_sipush C d_Mo_tampered_89 (by decide) ?_
          refine e_iload C d_Mo_tampered_92 rfl ?_
          refine e_imul C d_Mo_tampered_94 ?_
          refine e_iload C d_Mo_tampered_95 rfl ?_
          refine e_iadd C d_Mo_tampered_97 ?_
          refine e_iret C F rfl d_Mo_tampered_98 (by omega) ?_
          exact hv _ _ R1 m1 rfl hm2
      · have hno : ¬ isS φ P ys tp tm k.toNat p more = true := fun z => by rw [if_pos z] at c_77; omega
        rw [gse_no hno] at hv hQ
        refine e_goto C 102 d_Mo_tampered_80 (by decide) ?_
        refine e_iinc C d_Mo_tampered_102 rfl (by decide) rfl ?_
        refine e_goto C 62 d_Mo_tampered_105 (by decide) ?_
        exact ih (more + 1) _ m1 R1 hm2 (by omega) (by omega) (by omega) hv hQ
theorem wys_some {φ : Phi} {P ys : Cs} {tp tm : Int → Int} {k : Nat} {most i v y : Int} : ∀ (n : Nat) (p : Int), itr (wys φ P ys tp tm k most i) n p (some v, y) = (some v, y)
  | 0, _ => rfl
  | n + 1, p => by
    rw [itr_S]
    unfold wys
    rw [gse_some]
    exact wys_some n (p + 1)
theorem l_Mo_tampered1 {g : Mach} {Q : Int → St → Prop} (C : Cx M_Mo_tampered g) (F : FinI M_Mo_tampered g Q) {σ : St} {m P l ys : Cs} {φ : Phi} {tp tm : Int → Int} {most k i B : Int} (hPl : PlanOk P l φ) (hM : MPl P m) (hF : FlowC φ P m) (hT : TLm m tp tm k (P 3 0)) (hBG : BG P m ys) (hQy : QY P B ys) (hB : 0 ≤ B ∧ B < 1800000000) (hmo : 1 ≤ most ∧ most ≤ 200) (hs : ∀ p, 0 ≤ p → p < P 3 0 → ys 0 p + ys 1 p ≤ 900000000) (hi : R32 i) :
    ∀ (n : Nat) (p x : Int) (m' : Cs) (R : Int → Int), MK m m' → 0 ≤ p → p + n = P 3 0 → (0 ≤ x ∧ x ≤ 300 * p) → (∀ R' m'', MK m m'' → Q (gfin i (itr (wys φ P ys tp tm k.toNat most i) n p (none, x))) (MF σ m'' R')) → Ev g 36 [some (.inr (.inr (1, 0))), some (.inl most), some (.inl k), some (.inl i), some (.inl x), some (.inl p), none] [] (MF σ m' R) := by
  have hN := hPl.1
  intro n
  induction n with
  | zero =>
    intro p x m' R hm h0 h1 hx hQ
    have hM' := hM.same hm.mp
    have hlv := hM'.1
    have he := hM'.2.1
    have hq := hQ R m' hm
    change Q (gfin i (none, x)) (MF σ m' R) at hq
    rw [gfin_none] at hq
    refine e_iload C d_Mo_tampered_36 rfl ?_
    refine e_aload_n C d_Mo_tampered_38 rfl ?_
    refine e_geta C fl_Mo_49 (by decide) rfl rfl d_Mo_tampered_39 ?_
    refine e_aload_n C d_Mo_tampered_42 rfl ?_
    refine e_geti C fl_Mo_215 (by decide) rfl rfl d_Mo_tampered_43 (fun r_43 => ?_)
    try simp only [MF_f, he, ne_eq, Nat.reduceEqDiff, not_false_eq_true] at r_43 ⊢
    refine e_iald (n := 2) C (by decide) rfl (by decide) rfl rfl (by decide) (by omega) (by omega) d_Mo_tampered_46 (fun r_46 => ?_)
    try simp only [MF_f, he, ne_eq, Nat.reduceEqDiff, not_false_eq_true] at r_46 ⊢
    refine e_icmp_ge C 114 d_Mo_tampered_47 (by decide) (by omega) (by omega) (fun c_47 => ?_) (fun c_47 => ?_)
    · refine e_iload_n C d_Mo_tampered_114 rfl ?_
      refine e_iconst C d_Mo_tampered_115 ?_
      refine e_icmp_ne C 124 d_Mo_tampered_116 (by decide) (by omega) (by omega) (fun c_116 => ?_) (fun c_116 => ?_)
      · rw [if_neg c_116] at hq
        refine e_iconst C d_Mo_tampered_124 ?_
        refine e_iret C F rfl d_Mo_tampered_125 (by omega) ?_
        exact hq
      · rw [if_pos c_116] at hq
        refine e_iload C d_Mo_tampered_119 rfl ?_
        refine e_goto C 125 d_Mo_tampered_121 (by decide) ?_
        refine e_iret C F rfl d_Mo_tampered_125 (by omega) ?_
        exact hq
    · exact absurd h1 (by omega)
  | succ n ih =>
    intro p x m' R hm h0 h1 hx hQ
    have hM' := hM.same hm.mp
    have hlv := hM'.1
    have he := hM'.2.1
    rw [itr_S] at hQ
    have hgo : ∀ R, Ev g 62 [some (.inr (.inr (1, 0))), some (.inl most), some (.inl k), some (.inl i), some (.inl x), some (.inl p), some (.inl (wyf p))] [] (MF σ m' R) := by
      intro R
      have hwf : 0 ≤ wyf p ∧ wyf p ≤ 1 := by unfold wyf; split <;> omega
      have ew : wys φ P ys tp tm k.toNat most i p (none, x) = itr (gse (isS φ P ys tp tm k.toNat p) (wyv p) i) (most + 1 - wyf p).toNat (wyf p) (none, x) := rfl
      refine l_Mo_tampered2 C F hPl hM hF hT hBG hQy hB ⟨h0, by omega⟩ hmo (hs p h0 (by omega)) hi (most + 1 - wyf p).toNat (wyf p) x m' R hm hwf.1 (by omega) (by omega) (fun y v R' m'' e hm'' => ?_) (fun y R' m'' e hm'' y0 y1 => ?_)
      · have := hQ R' m'' hm''
        rw [ew, e, wys_some, gfin_some] at this
        exact this
      · rw [ew, e] at hQ
        refine e_iinc C d_Mo_tampered_108 rfl (by decide) rfl ?_
        refine e_goto C 36 d_Mo_tampered_111 (by decide) ?_
        exact ih (p + 1) y m'' R' hm'' (by omega) (by omega) (by omega) hQ
    refine e_iload C d_Mo_tampered_36 rfl ?_
    refine e_aload_n C d_Mo_tampered_38 rfl ?_
    refine e_geta C fl_Mo_49 (by decide) rfl rfl d_Mo_tampered_39 ?_
    refine e_aload_n C d_Mo_tampered_42 rfl ?_
    refine e_geti C fl_Mo_215 (by decide) rfl rfl d_Mo_tampered_43 (fun r_43 => ?_)
    try simp only [MF_f, he, ne_eq, Nat.reduceEqDiff, not_false_eq_true] at r_43 ⊢
    refine e_iald (n := 2) C (by decide) rfl (by decide) rfl rfl (by decide) (by omega) (by omega) d_Mo_tampered_46 (fun r_46 => ?_)
    try simp only [MF_f, he, ne_eq, Nat.reduceEqDiff, not_false_eq_true] at r_46 ⊢
    refine e_icmp_ge C 114 d_Mo_tampered_47 (by decide) (by omega) (by omega) (fun c_47 => ?_) (fun c_47 => ?_)
    · exact absurd h1 (by omega)
    · refine e_iload C d_Mo_tampered_50 rfl ?_
      refine e_if_ne C 59 d_Mo_tampered_52 (by decide) (by omega) (fun c_52 => ?_) (fun c_52 => ?_)
      · have e0 : wyf p = 1 := by unfold wyf; rw [if_neg c_52]
        have hg := hgo R
        rw [e0] at hg
        refine e_iconst C d_Mo_tampered_59 ?_
        refine e_istore C d_Mo_tampered_60 (by decide) rfl ?_
        exact hg
      · have e0 : wyf p = 0 := by unfold wyf; rw [if_pos c_52]
        have hg := hgo R
        rw [e0] at hg
        refine e_iconst C d_Mo_tampered_55 ?_
        refine e_goto C 60 d_Mo_tampered_56 (by decide) ?_
        refine e_istore C d_Mo_tampered_60 (by decide) rfl ?_
        exact hg
theorem K_Mo_tampered {σ : St} {m : Cs} {S : SS} {n most k i : Int} (hp : PI S n) (hm : IVm S m) (r1 : R32 most) (r2 : R32 k) (r3 : R32 i) : CtI M_Mo_tampered [.inr (.inr (1, 0)), .inl most, .inl k, .inl i] (so σ 1 m) (fun r u => r = rvTam S most k i ∧ ∃ m', u = so σ 1 m' ∧ IVm S m') := by
  intro g C F
  obtain ⟨l, hPl⟩ := hp.pl
  have hN := hPl.1
  have hM := hm.1.1
  have hn := hp.n
  have htn := hp.tn
  have e55 := hm.2.2.2.2.1.1
  have hno : ¬ okTam S most k i → ∀ R, -1 = rvTam S most k i ∧ ∃ m', MF σ m R = so σ 1 m' ∧ IVm S m' := by
    intro z R
    unfold rvTam
    rw [if_neg z]
    exact ⟨rfl, _, rfl, hm.fin0⟩
  rw [soMF]
  refine e_iload_n C d_Mo_tampered_0 rfl ?_
  refine e_iconst C d_Mo_tampered_1 ?_
  refine e_sipush C d_Mo_tampered_2 (by decide) ?_
  refine e_callIS C ok_Mo_in lk_Mo_302 [_, _, _] rfl rfl (Nat.le_of_ble_eq_true rfl) (by decide) (Nat.le_of_ble_eq_true rfl) d_Mo_tampered_5 (k_Mo_in r1 (by omega) (by omega)) (fun v_5 u_5 q_5 h_5 => ?_)
  obtain ⟨rfl, rfl⟩ := h_5
  refine e_if_eq C 28 d_Mo_tampered_8 (by decide) (by split <;> omega) (fun c_8 => ?_) (fun c_8 => ?_)
  · have hv0 : ¬ okTam S most k i := fun z => in_f c_8 z.1
    refine e_iconst C d_Mo_tampered_28 ?_
    refine e_iret C F rfl d_Mo_tampered_29 (by omega) ?_
    exact hno hv0 _
  · have hv := in_t c_8
    refine e_iload_n C d_Mo_tampered_11 rfl ?_
    refine e_iconst C d_Mo_tampered_12 ?_
    refine e_aload_n C d_Mo_tampered_13 rfl ?_
    refine e_geti C fl_Mo_239 (by decide) rfl rfl d_Mo_tampered_14 (fun r_14 => ?_)
    try simp only [MF_f, e55, ne_eq, Nat.reduceEqDiff, not_false_eq_true] at r_14 ⊢
    refine e_callIS C ok_Mo_in lk_Mo_302 [_, _, _] rfl rfl (Nat.le_of_ble_eq_true rfl) (by decide) (Nat.le_of_ble_eq_true rfl) d_Mo_tampered_17 (k_Mo_in r2 (by omega) (by omega)) (fun v_17 u_17 q_17 h_17 => ?_)
    obtain ⟨rfl, rfl⟩ := h_17
    refine e_if_eq C 28 d_Mo_tampered_20 (by decide) (by split <;> omega) (fun c_20 => ?_) (fun c_20 => ?_)
    · have hv0 : ¬ okTam S most k i := fun z => in_f c_20 z.2.1
      refine e_iconst C d_Mo_tampered_28 ?_
      refine e_iret C F rfl d_Mo_tampered_29 (by omega) ?_
      exact hno hv0 _
    · have hv2 := in_t c_20
      refine e_iload_n C d_Mo_tampered_23 rfl ?_
      refine e_iconst C d_Mo_tampered_24 ?_
      refine e_icmp_ge C 30 d_Mo_tampered_25 (by decide) (by omega) (by omega) (fun c_25 => ?_) (fun c_25 => ?_)
      · unfold rvTam tmv at F
        rw [if_pos ⟨hv, hv2, c_25⟩] at F
        refine e_iconst C d_Mo_tampered_30 ?_
        refine e_istore C d_Mo_tampered_31 (by decide) rfl ?_
        refine e_iconst C d_Mo_tampered_33 ?_
        refine e_istore C d_Mo_tampered_34 (by decide) rfl ?_
        exact l_Mo_tampered1 C F hPl hM hm.1.2.1 (hm.tl hp hv2) hm.1.2.2.2 hp.b.1 (by omega) hv (fun p a b => by have := hp.b.2.1 p a b; omega) r3 (sP S 3 0).toNat 0 0 m _ (MK.rf m) (by omega) (by omega) (by omega) (fun R' m' h => ⟨rfl, _, rfl, hm.mk (h.tr (MK_51 _ _))⟩)
      · have hv0 : ¬ okTam S most k i := fun z => c_25 z.2.2
        refine e_iconst C d_Mo_tampered_28 ?_
        refine e_iret C F rfl d_Mo_tampered_29 (by omega) ?_
        exact hno hv0 _
