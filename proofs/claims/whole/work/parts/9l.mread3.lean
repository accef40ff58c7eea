/-! the reference's read, whole -/
section MR3
variable {σ : St} {S : SS} {n : Int}
/-- what the reference's object is when the tells begin -/
theorem mr_start {T : Tab} {X P l c m3 : Cs} {s : Int} (hs : 0 ≤ s ∧ s ≤ 1) (h12 : m3 12 0 = 0) (h15 : m3 15 0 = 0) (h19 : m3 19 0 = s) (h20 : m3 20 0 = 0) (h24 : m3 24 s = 0) (h29 : m3 29 s = 0) (h31 : m3 31 s = 0) (h33 : m3 33 s = 60) (h36 : m3 36 0 = 130 * s) (h42 : m3 42 0 = 420 * s) (h34 : m3 34 s = 0) (h35 : m3 35 s = 0) : MR T s (zN X P l c) m3 := by
  have e3 : plN P 3 0 = 0 := by unfold plN; rw [cu_f (by decide), cu_f (by decide), cu_f (by decide), cu_s]
  have e4 : plN P 4 0 = 0 := by unfold plN; rw [cu_f (by decide), cu_f (by decide), cu_s]
  have e5 : plN P 5 0 = 0 := by unfold plN; rw [cu_f (by decide), cu_s]
  have e6 : plN P 6 0 = 60 := by unfold plN; rw [cu_s]
  have x10 : rdN X 10 0 = 0 := by unfold rdN; rw [cu_f (by decide), cu_f (by decide), cu_f (by decide), cu_f (by decide), cu_s]
  have x15 : rdN X 15 0 = 0 := by unfold rdN; rw [cu_f (by decide), cu_s]
  have c2 : ∀ p, 0 ≤ p → p < 8 → c_empty c 2 p = -2 := fun p a b => by unfold c_empty c_none; rw [cu_f (by decide)]; rw [if_pos ⟨rfl, a, b⟩]
  have c6 : ∀ p, 0 ≤ p → p < 12 → c_empty c 6 p = -2 := fun p a b => by unfold c_empty c_none; rw [cu_f (by decide)]; rw [if_neg (by omega), if_pos ⟨rfl, a, b⟩]
  refine ⟨?_, ?_, ?_, ?_, ?_, h12⟩
  · show MRp s (plN P) (c_empty c) m3
    unfold MRp
    rw [e3, e4, e5, e6]
    exact ⟨hs, h19, ⟨h24, h29, h31, h33⟩, fun p a b => by omega, fun p a b => by omega, fun p a b => by omega, c2, c6⟩
  · show MRn T (rdN X) m3
    unfold MRn
    rw [x10]
    exact ⟨h20, by omega, fun k a b => by omega⟩
  · show NS T (rdN X) (plN P 3 0)
    unfold NS
    rw [e3, x10]
    exact ⟨fun p a b => by omega, fun p a b => by omega, fun p a b => by omega, fun j k a b d => by omega⟩
  · show WX T (rdN X) m3 0
    unfold WX
    rw [x15]
    exact ⟨h15, fun z => absurd rfl z, Or.inl rfl⟩
  · show LRw s m3 0 [brD]
    unfold LRw
    rw [h36, h42]
    exact ⟨by omega, by omega, Or.inl ⟨by rw [h34, h35], rfl⟩⟩
theorem MW.wu {m m1 : Cs} {f : Nat} {k v : Int} (h : MW m m1) (hf : f ≠ 18) (hk : ¬ (szS f * m 18 0 ≤ k ∧ k < szS f * m 18 0 + szS f)) : MW m (cu m1 f k v) := by
  refine ⟨by rw [cu_f (Ne.symm hf)]; exact h.1, fun f' k' a b => ?_⟩
  rw [cu_if]
  by_cases w : f' = f ∧ k' = k
  · rw [w.1, w.2] at a b
    exact absurd ⟨a, b⟩ hk
  · rw [if_neg w]; exact h.2 f' k' a b
set_option maxHeartbeats 2000000 in
theorem K_Mo_read {m X P l c P' : Cs} (hF : FlN) (hp : PI S n) (hm : IVm S m) (hP1 : P 1 0 = 0) (hc : RdC c) (hP : ∀ z, zTells (tbl (sTb S) (sTz S)) 401 (zN X P l c) = .inr z → zx z 15 0 = 0 → PTo z P') : CtI M_Mo_read [.inr (.inr (1, 0))] (so σ 1 m) (mrQ σ S P' (zTells (tbl (sTb S) (sTz S)) 401 (zN X P l c))) := by
  intro g C F
  have htz := hp.tz
  have e2 := hm.2.2.2.2.2.1.1
  have hta := hm.2.2.2.2.2.1.2
  have hl := hm.1.1.1
  have hA0 : ZA (tbl (sTb S) (sTz S)) (zN X P l c) := zN_A hP1 hc
  have hAz : ∀ z, zTells (tbl (sTb S) (sTz S)) 401 (zN X P l c) = .inr z → ZA (tbl (sTb S) (sTz S)) z ∧ ZK z := fun z e => ⟨zTells_A (tbl_ok htz) 401 _ _ hA0 e, zTells_K (tbl_ok htz) 401 _ _ hA0.1 (zN_K X P l c) e⟩
  have hKY : KY m := by obtain ⟨_, _, _, _, _, _, _, d⟩ := hm.1.2.2.2; exact d
  refine e_aload_n C d_Mo_read_0 rfl ?_
  refine e_aload_n C d_Mo_read_1 rfl ?_
  refine e_geti C fl_Mo_147 (by decide) rfl rfl d_Mo_read_2 (fun r_2 => ?_)
  try simp only [so_at, so_so, wr_so, e2] at r_2 ⊢
  refine e_puti C fp_Mo_154 (by decide) rfl rfl (by omega) d_Mo_read_5 ?_
  try simp only [so_at, so_so, wr_so, e2]
  refine e_iconst C d_Mo_read_8 ?_
  refine e_istore_n C d_Mo_read_9 (by decide) rfl ?_
  refine l_Mo_read1 (m0 := cu m 4 0 (sTz S)) C htz (cu_s _ _ _ _) (fun m1 f1 t1 => ?_) (sTz S).toNat 0 _ (by omega) (by omega) (fun f _ => rfl) (fun j a b => by omega)
  have g4 : m1 4 0 = sTz S := by rw [f1 4 (by decide), cu_s]
  have gf : ∀ f, f ≠ 3 → f ≠ 4 → m1 f = m f := fun f a b => by rw [f1 f a, cf_f b]
  have eT : tbl (m1 3) (sTz S) = tbl (sTb S) (sTz S) := tbl_cong htz.1 (fun i a b => by rw [(t1 i a b).1, cu_f (by decide)]; exact hta i a b)
  refine e_aload_n C d_Mo_read_36 rfl ?_
  refine e_iconst C d_Mo_read_37 ?_
  refine e_puti C fp_Mo_147 (by decide) rfl rfl (by omega) d_Mo_read_38 ?_
  try simp only [so_at, so_so, wr_so, cu_f, cu_s, e18, ne_eq, Nat.reduceEqDiff, not_false_eq_true]
  rw [wr_so, so_so, so_at]
  refine e_aload_n C d_Mo_read_41 rfl ?_
  refine e_callVV C ok_Mo_cut lk_Mo_209 (o := 1) (by decide) rfl [] rfl rfl (Nat.le_of_ble_eq_true rfl) (by decide) (Nat.le_of_ble_eq_true rfl) d_Mo_read_42 (k_Mo_cut (m := cu m1 2 0 0) (by rw [cf_f (by decide), cu_f (by decide), g4]; exact ⟨htz, fun i a b => (t1 i a b).2⟩) (fun k a b => by rw [cu_f (by decide), gf 9 (by decide) (by decide)]; exact hKY k a b)) (fun u_42 h_42 => ?_)
  obtain ⟨m2, c1, c2, rfl⟩ := h_42
  rw [cf_f (by decide), cu_f (by decide), g4, eT] at c2
  have k2 : ∀ f, f ≠ 2 → f ≠ 3 → f ≠ 4 → f ≠ 5 → f ≠ 6 → f ≠ 7 → f ≠ 8 → f ≠ 10 → m2 f = m f := fun f a b d e1 e2 e3 e4 e5 => by rw [c1 f e1 e2 e3 e4 e5, cf_f a, gf f b d]
  have k20 : m2 2 0 = 0 := by rw [c1 2 (by decide) (by decide) (by decide) (by decide) (by decide), cu_s]
  have e18 : m2 18 0 = m 18 0 := by rw [k2 18 (by decide) (by decide) (by decide) (by decide) (by decide) (by decide) (by decide) (by decide)]
  refine e_aload_n C d_Mo_read_45 rfl ?_
  refine e_iconst C d_Mo_read_46 ?_
  refine e_puti C fp_Mo_188 (by decide) rfl rfl (by omega) d_Mo_read_47 ?_
  try simp only [so_at, so_so, wr_so, cu_f, cu_s, e18, ne_eq, Nat.reduceEqDiff, not_false_eq_true]
  refine e_aload_n C d_Mo_read_50 rfl ?_
  refine e_iconst C d_Mo_read_51 ?_
  refine e_puti C fp_Mo_212 (by decide) rfl rfl (by omega) d_Mo_read_52 ?_
  try simp only [so_at, so_so, wr_so, cu_f, cu_s, e18, ne_eq, Nat.reduceEqDiff, not_false_eq_true]
  refine e_aload_n C d_Mo_read_55 rfl ?_
  refine e_iconst C d_Mo_read_56 ?_
  refine e_puti C fp_Mo_185 (by decide) rfl rfl (by omega) d_Mo_read_57 ?_
  try simp only [so_at, so_so, wr_so, cu_f, cu_s, e18, ne_eq, Nat.reduceEqDiff, not_false_eq_true]
  refine e_aload_n C d_Mo_read_60 rfl ?_
  refine e_iconst C d_Mo_read_61 ?_
  refine e_puti C fp_Mo_194 (by decide) rfl rfl (by omega) d_Mo_read_62 ?_
  try simp only [so_at, so_so, wr_so, cu_f, cu_s, e18, ne_eq, Nat.reduceEqDiff, not_false_eq_true]
  refine e_aload_n C d_Mo_read_65 rfl ?_
  refine e_iconst C d_Mo_read_66 ?_
  refine e_aload_n C d_Mo_read_67 rfl ?_
  refine e_geti C fl_Mo_215 (by decide) rfl rfl d_Mo_read_68 (fun r_68 => ?_)
  try simp only [so_at, so_so, wr_so, cu_f, cu_s, e18, ne_eq, Nat.reduceEqDiff, not_false_eq_true] at r_68 ⊢
  refine e_isub C d_Mo_read_71 ?_
  refine e_puti C fp_Mo_218 (by decide) rfl rfl (by omega) d_Mo_read_72 ?_
  try simp only [so_at, so_so, wr_so, cu_f, cu_s, e18, ne_eq, Nat.reduceEqDiff, not_false_eq_true]
  refine e_aload_n C d_Mo_read_75 rfl ?_
  refine e_iconst C d_Mo_read_76 ?_
  refine e_puti C fp_Mo_221 (by decide) rfl rfl (by omega) d_Mo_read_77 ?_
  try simp only [so_at, so_so, wr_so, cu_f, cu_s, e18, ne_eq, Nat.reduceEqDiff, not_false_eq_true]
  refine e_aload_n C d_Mo_read_80 rfl ?_
  refine e_geta C fl_Mo_49 (by decide) rfl rfl d_Mo_read_81 ?_
  refine e_aload_n C d_Mo_read_84 rfl ?_
  refine e_geti C fl_Mo_218 (by decide) rfl rfl d_Mo_read_85 (fun r_85 => ?_)
  try simp only [so_at, so_so, wr_so, cu_f, cu_s, e18, ne_eq, Nat.reduceEqDiff, not_false_eq_true] at r_85 ⊢
  refine e_iconst C d_Mo_read_88 ?_
  refine e_iast (n := 2) C (by decide) rfl (by decide) rfl rfl (by decide) (by omega) (by omega) (by omega) d_Mo_read_89 ?_
  try simp only [so_at, so_so, wr_so, cu_f, cu_s, e18, ne_eq, Nat.reduceEqDiff, not_false_eq_true]
  refine e_aload_n C d_Mo_read_90 rfl ?_
  refine e_geta C fl_Mo_64 (by decide) rfl rfl d_Mo_read_91 ?_
  refine e_aload_n C d_Mo_read_94 rfl ?_
  refine e_geti C fl_Mo_218 (by decide) rfl rfl d_Mo_read_95 (fun r_95 => ?_)
  try simp only [so_at, so_so, wr_so, cu_f, cu_s, e18, ne_eq, Nat.reduceEqDiff, not_false_eq_true] at r_95 ⊢
  refine e_iconst C d_Mo_read_98 ?_
  refine e_iast (n := 2) C (by decide) rfl (by decide) rfl rfl (by decide) (by omega) (by omega) (by omega) d_Mo_read_99 ?_
  try simp only [so_at, so_so, wr_so, cu_f, cu_s, e18, ne_eq, Nat.reduceEqDiff, not_false_eq_true]
  refine e_aload_n C d_Mo_read_100 rfl ?_
  refine e_geta C fl_Mo_70 (by decide) rfl rfl d_Mo_read_101 ?_
  refine e_aload_n C d_Mo_read_104 rfl ?_
  refine e_geti C fl_Mo_218 (by decide) rfl rfl d_Mo_read_105 (fun r_105 => ?_)
  try simp only [so_at, so_so, wr_so, cu_f, cu_s, e18, ne_eq, Nat.reduceEqDiff, not_false_eq_true] at r_105 ⊢
  refine e_iconst C d_Mo_read_108 ?_
  refine e_iast (n := 2) C (by decide) rfl (by decide) rfl rfl (by decide) (by omega) (by omega) (by omega) d_Mo_read_109 ?_
  try simp only [so_at, so_so, wr_so, cu_f, cu_s, e18, ne_eq, Nat.reduceEqDiff, not_false_eq_true]
  refine e_aload_n C d_Mo_read_110 rfl ?_
  refine e_geta C fl_Mo_76 (by decide) rfl rfl d_Mo_read_111 ?_
  refine e_aload_n C d_Mo_read_114 rfl ?_
  refine e_geti C fl_Mo_218 (by decide) rfl rfl d_Mo_read_115 (fun r_115 => ?_)
  try simp only [so_at, so_so, wr_so, cu_f, cu_s, e18, ne_eq, Nat.reduceEqDiff, not_false_eq_true] at r_115 ⊢
  refine e_bipush C d_Mo_read_118 (by decide) ?_
  refine e_iast (n := 2) C (by decide) rfl (by decide) rfl rfl (by decide) (by omega) (by omega) (by omega) d_Mo_read_120 ?_
  try simp only [so_at, so_so, wr_so, cu_f, cu_s, e18, ne_eq, Nat.reduceEqDiff, not_false_eq_true]
  refine e_aload_n C d_Mo_read_121 rfl ?_
  refine e_sipush C d_Mo_read_122 (by decide) ?_
  refine e_aload_n C d_Mo_read_125 rfl ?_
  refine e_geti C fl_Mo_218 (by decide) rfl rfl d_Mo_read_126 (fun r_126 => ?_)
  try simp only [so_at, so_so, wr_so, cu_f, cu_s, e18, ne_eq, Nat.reduceEqDiff, not_false_eq_true] at r_126 ⊢
  refine e_imul C d_Mo_read_129 ?_
  refine e_puti C fp_Mo_224 (by decide) rfl rfl (by omega) d_Mo_read_130 ?_
  try simp only [so_at, so_so, wr_so, cu_f, cu_s, e18, ne_eq, Nat.reduceEqDiff, not_false_eq_true]
  refine e_aload_n C d_Mo_read_133 rfl ?_
  refine e_sipush C d_Mo_read_134 (by decide) ?_
  refine e_aload_n C d_Mo_read_137 rfl ?_
  refine e_geti C fl_Mo_218 (by decide) rfl rfl d_Mo_read_138 (fun r_138 => ?_)
  try simp only [so_at, so_so, wr_so, cu_f, cu_s, e18, ne_eq, Nat.reduceEqDiff, not_false_eq_true] at r_138 ⊢
  refine e_imul C d_Mo_read_141 ?_
  refine e_puti C fp_Mo_227 (by decide) rfl rfl (by omega) d_Mo_read_142 ?_
  try simp only [so_at, so_so, wr_so, cu_f, cu_s, e18, ne_eq, Nat.reduceEqDiff, not_false_eq_true]
  refine e_aload_n C d_Mo_read_145 rfl ?_
  refine e_geta C fl_Mo_79 (by decide) rfl rfl d_Mo_read_146 ?_
  refine e_aload_n C d_Mo_read_149 rfl ?_
  refine e_geti C fl_Mo_218 (by decide) rfl rfl d_Mo_read_150 (fun r_150 => ?_)
  try simp only [so_at, so_so, wr_so, cu_f, cu_s, e18, ne_eq, Nat.reduceEqDiff, not_false_eq_true] at r_150 ⊢
  refine e_iconst C d_Mo_read_153 ?_
  refine e_iast (n := 2) C (by decide) rfl (by decide) rfl rfl (by decide) (by omega) (by omega) (by omega) d_Mo_read_154 ?_
  try simp only [so_at, so_so, wr_so, cu_f, cu_s, e18, ne_eq, Nat.reduceEqDiff, not_false_eq_true]
  refine e_aload_n C d_Mo_read_155 rfl ?_
  refine e_geta C fl_Mo_82 (by decide) rfl rfl d_Mo_read_156 ?_
  refine e_aload_n C d_Mo_read_159 rfl ?_
  refine e_geti C fl_Mo_218 (by decide) rfl rfl d_Mo_read_160 (fun r_160 => ?_)
  try simp only [so_at, so_so, wr_so, cu_f, cu_s, e18, ne_eq, Nat.reduceEqDiff, not_false_eq_true] at r_160 ⊢
  refine e_iconst C d_Mo_read_163 ?_
  refine e_iast (n := 2) C (by decide) rfl (by decide) rfl rfl (by decide) (by omega) (by omega) (by omega) d_Mo_read_164 ?_
  try simp only [so_at, so_so, wr_so, cu_f, cu_s, e18, ne_eq, Nat.reduceEqDiff, not_false_eq_true]
  refine l_Mo_read2 (T := tbl (sTb S) (sTz S)) (s := 1 - m 18 0) C (tbl_mn htz.1) 401 (zN X P l c) _ (by show (401 : Int) ≤ 0 + ((401 : Nat) : Int); omega) ?_ hA0.1 ?_ (PF.rf _ _) (fun m' hQ => l_Mo_read3 C F hF hp hm ?_ hAz hP hQ)
  · refine ⟨tbl_ok htz, fun k a b d => ?_, ?_, ⟨by show (0 : Int) ≤ 0; omega, by show (0 : Int) ≤ 400; omega⟩, Or.inl rfl, ?_⟩
    · have := c2 k a b d
      simp only [cu_f, ne_eq, Nat.reduceEqDiff, not_false_eq_true]
      exact this
    · simp only [cu_f, cu_s, ne_eq, Nat.reduceEqDiff, not_false_eq_true]; rfl
    · simp only [cu_f, cu_s, ne_eq, Nat.reduceEqDiff, not_false_eq_true]
  · refine mr_start (by omega) ?_ ?_ ?_ ?_ ?_ ?_ ?_ ?_ ?_ ?_ ?_ ?_ <;> simp only [cu_f, cu_s, ne_eq, Nat.reduceEqDiff, not_false_eq_true]
  · have w0 : MW m m2 := ⟨e18, fun f k a b => by
      by_cases w : f = 2 ∨ f = 3 ∨ f = 4 ∨ f = 5 ∨ f = 6 ∨ f = 7 ∨ f = 8 ∨ f = 10
      · have e : szS f = 0 := by rcases w with rfl | rfl | rfl | rfl | rfl | rfl | rfl | rfl <;> rfl
        rw [e] at a b
        omega
      · rw [k2 f (by omega) (by omega) (by omega) (by omega) (by omega) (by omega) (by omega) (by omega)]⟩
    refine ⟨?_, ?_, fun f hf => ?_, ?_⟩
    · refine MW.wu (MW.wu (MW.wu (MW.wu (MW.wu (MW.wu (MW.wu (MW.wu (MW.wu (MW.wu (MW.wu (MW.wu (MW.wu (MW.wu w0 ?_ ?_) ?_ ?_) ?_ ?_) ?_ ?_) ?_ ?_) ?_ ?_) ?_ ?_) ?_ ?_) ?_ ?_) ?_ ?_) ?_ ?_) ?_ ?_) ?_ ?_) ?_ ?_ <;> first | decide | (simp only [szS, Nat.reduceEqDiff, or_self, or_false, or_true, if_true, if_false, if_neg, if_pos]; omega) | (show ¬ ((0 : Int) * m 18 0 ≤ _ ∧ _); omega) | (show ¬ ((1 : Int) * m 18 0 ≤ _ ∧ _ < (1 : Int) * m 18 0 + 1); omega)
    · simp only [cf_f, ne_eq, Nat.reduceEqDiff, not_false_eq_true]
      exact k2 9 (by decide) (by decide) (by decide) (by decide) (by decide) (by decide) (by decide) (by decide)
    · repeat rw [cf_f (show f ≠ _ by omega)]
      exact k2 f (by omega) (by omega) (by omega) (by omega) (by omega) (by omega) (by omega) (by omega)
    · simp only [cu_f, ne_eq, Nat.reduceEqDiff, not_false_eq_true]
      exact k20
end MR3
