/-! the reference's flow is the class's -/
theorem cfl_clp {φ : Phi} {P y : Cs} {p : Int} (h : 0 ≤ y 0 p) : c_fls φ P y p = clp (φ (P 0 p) (P 1 (pl_damp y p (pl_hour P (y 12 0)))) (y 0 p) (y 1 p) (y 12 0) p) (y 0 p) := by
  unfold c_fls flw clp
  generalize φ (P 0 p) (P 1 (pl_damp y p (pl_hour P (y 12 0)))) (y 0 p) (y 1 p) (y 12 0) p = t
  by_cases c : y 0 p = 0
  · rw [if_pos c, c]
    split <;> omega
  · rw [if_neg c]
theorem vvs_x {x : Cs} {n w a b m q : Int} (h0 : x 47 0 = n) (h1 : x 47 1 = w) (h2 : x 47 2 = a) (h3 : x 47 3 = b) (h4 : x 47 4 = m) (h5 : x 47 5 = q) : ∀ j, 0 ≤ j → j ≤ 5 → x 47 j = vvs n w a b m q j := by
  intro j j0 j1
  have : j = 0 ∨ j = 1 ∨ j = 2 ∨ j = 3 ∨ j = 4 ∨ j = 5 := by omega
  rcases this with rfl | rfl | rfl | rfl | rfl | rfl
  · rw [h0]; rfl
  · rw [h1]; rfl
  · rw [h2]; rfl
  · rw [h3]; rfl
  · rw [h4]; rfl
  · rw [h5]; rfl
theorem ms_x {σ : St} {m' x x' : Cs} {R : Int → Int} (hx : x = lnm m' 51 R) (h : XS7 x x') : ∃ m'', MS m' m'' ∧ so σ 1 x' = MF σ m'' R := by
  refine ⟨x', fun f a b c d => by rw [h f a b c, hx, lnm_f d], ?_⟩
  have e : x' 51 = R := by rw [h 51 (by decide) (by decide) (by decide), hx, lnm_s]
  unfold MF
  rw [← e, lnm_id]
set_option maxHeartbeats 4000000 in
theorem FlN_ok : FlN := by
  intro T z P' m s hA hK hP hR hL σ m' y R p hw hy p0 p1 ya y12
  obtain ⟨r1, r2, ⟨r3, r4, r5, r6⟩, r7, r8, r9, _⟩ := hR
  obtain ⟨⟨l1, l2⟩, ⟨l3, l4⟩, l5⟩ := hL
  have ht := hA.1.1
  have e18 : m' 18 0 = s := hw.1.trans (cu_s _ _ _ _)
  have c18 : cu m 18 0 s 18 0 = s := cu_s _ _ _ _
  have fr : ∀ f k, f ≠ 18 → szS f * s ≤ k → k < szS f * s + szS f → m' f k = m f k := fun f k a b c => by
    rw [hw.2 f k (by rw [c18]; exact b) (by rw [c18]; exact c), cu_f a]
  have g3 := hP.1 3 (by omega)
  have g5 := hP.1 5 (by omega)
  have hz3 := hA.1.2.2.1
  have hz5 := hA.2.1.1.1
  have hz1 : P' 1 0 = 0 := by rw [hP.2.2 0 (by omega) (by omega)]; exact hA.1.2.2.2.2.2.1
  rw [g3] at p1
  obtain ⟨y1, y2, _, y4, _⟩ := hy.1 p p0 (by omega)
  have y97 := hy.2.2.2
  rw [cfl_clp ya]
  intro g C F
  have hMF : MF σ m' R = so σ 1 (lnm m' 51 R) := rfl
  rw [hMF]
  generalize hx : lnm m' 51 R = x
  have xf : ∀ f, f ≠ 51 → x f = m' f := fun f a => by rw [← hx, lnm_f a]
  have x51 : x 51 = R := by rw [← hx, lnm_s]
  have x18 : x 18 0 = s := by rw [xf 18 (by decide)]; exact e18
  have one : ∀ f, szS f = 1 → f ≠ 18 → f ≠ 51 → x f s = m f s := fun f a b c => by rw [xf f c]; exact fr f s b (by rw [a]; omega) (by rw [a]; omega)
  have x34 := one 34 rfl (by decide) (by decide)
  have x35 := one 35 rfl (by decide) (by decide)
  have x31 : x 31 s = P' 5 0 := by rw [one 31 rfl (by decide) (by decide), g5]; exact r5
  have x27 : x 27 (8 * s + p) = P' 0 p := by
    rw [xf 27 (by decide), fr 27 _ (by decide) (by rw [show szS 27 = 8 from rfl]; omega) (by rw [show szS 27 = 8 from rfl]; omega), hP.2.1 p p0 (by omega)]
    exact (r7 p p0 p1).2.2.1
  have x32 : ∀ k, 0 ≤ k → k < P' 5 0 → x 32 (24 * s + k) = P' 1 (k + 1) := fun k a b => by
    rw [g5] at b
    rw [xf 32 (by decide), fr 32 _ (by decide) (by rw [show szS 32 = 24 from rfl]; omega) (by rw [show szS 32 = 24 from rfl]; omega), hP.2.2 (k + 1) (by omega) (by omega)]
    exact r9 k a b
  have hneck : 0 ≤ P' 0 p := by rw [hP.2.1 p p0 (by omega)]; exact hK.1 p p0 p1
  rcases l5 with ⟨q1, q2⟩ | ⟨q0, q1, q2, q3, q4⟩
  · have e1 : x 34 s = x 35 s := by rw [x34, x35]; exact q1
    have hphi : phi (zb z) (P' 0 p) (P' 1 (pl_damp y p (pl_hour P' (y 12 0)))) (y 0 p) (y 1 p) (y 12 0) p = P' 0 p := by rw [q2]; exact phi_D _ _ _ _ _ _
    rw [hphi] at F
    unfold clp at F
    rw [if_neg (by omega)] at F
    refine e_aload_n C d_Mo_flowOf_0 rfl ?_
    refine e_geta C fl_Mo_119 (by decide) rfl rfl d_Mo_flowOf_1 ?_
    refine e_iload_n C d_Mo_flowOf_4 rfl ?_
    refine e_iald (n := 100) C (by decide) rfl (by decide) rfl rfl (by decide) (by omega) (by omega) d_Mo_flowOf_5 (fun r_5 => ?_)
    try simp only [so_at, x51, y1, x18, e1, x27] at r_5 ⊢
    refine e_istore_n C d_Mo_flowOf_6 (by decide) rfl ?_
    refine e_aload_n C d_Mo_flowOf_7 rfl ?_
    refine e_geta C fl_Mo_79 (by decide) rfl rfl d_Mo_flowOf_8 ?_
    refine e_aload_n C d_Mo_flowOf_11 rfl ?_
    refine e_geti C fl_Mo_215 (by decide) rfl rfl d_Mo_flowOf_12 (fun r_12 => ?_)
    try simp only [so_at, x51, y1, x18, e1, x27] at r_12 ⊢
    refine e_iald (n := 2) C (by decide) rfl (by decide) rfl rfl (by decide) (by omega) (by omega) d_Mo_flowOf_15 (fun r_15 => ?_)
    try simp only [so_at, x51, y1, x18, e1, x27] at r_15 ⊢
    refine e_istore_n C d_Mo_flowOf_16 (by decide) rfl ?_
    refine e_aload_n C d_Mo_flowOf_17 rfl ?_
    refine e_geta C fl_Mo_82 (by decide) rfl rfl d_Mo_flowOf_18 ?_
    refine e_aload_n C d_Mo_flowOf_21 rfl ?_
    refine e_geti C fl_Mo_215 (by decide) rfl rfl d_Mo_flowOf_22 (fun r_22 => ?_)
    try simp only [so_at, x51, y1, x18, e1, x27] at r_22 ⊢
    refine e_iald (n := 2) C (by decide) rfl (by decide) rfl rfl (by decide) (by omega) (by omega) d_Mo_flowOf_25 (fun r_25 => ?_)
    try simp only [so_at, x51, y1, x18, e1, x27] at r_25 ⊢
    refine e_istore C d_Mo_flowOf_26 (by decide) rfl ?_
    refine e_iload_n C d_Mo_flowOf_28 rfl ?_
    refine e_iload C d_Mo_flowOf_29 rfl ?_
    refine e_icmp_ne C 71 d_Mo_flowOf_31 (by decide) (by omega) (by omega) (fun c_31 => ?_) (fun c_31 => ?_)
    · exact absurd rfl c_31
    · refine e_aload_n C d_Mo_flowOf_34 rfl ?_
      refine e_geta C fl_Mo_58 (by decide) rfl rfl d_Mo_flowOf_35 ?_
      refine e_bipush C d_Mo_flowOf_38 (by decide) ?_
      refine e_aload_n C d_Mo_flowOf_40 rfl ?_
      refine e_geti C fl_Mo_215 (by decide) rfl rfl d_Mo_flowOf_41 (fun r_41 => ?_)
      try simp only [so_at, x51, y1, x18, e1, x27] at r_41 ⊢
      refine e_imul C d_Mo_flowOf_44 ?_
      refine e_iload_n C d_Mo_flowOf_45 rfl ?_
      refine e_iadd C d_Mo_flowOf_46 ?_
      refine e_iald (n := 16) C (by decide) rfl (by decide) rfl rfl (by decide) (by omega) (by omega) d_Mo_flowOf_47 (fun r_47 => ?_)
      try simp only [so_at, x51, y1, x18, e1, x27] at r_47 ⊢
      refine e_iload_n C d_Mo_flowOf_48 rfl ?_
      refine e_icmp_ge C 69 d_Mo_flowOf_49 (by decide) (by omega) (by omega) (fun c_49 => ?_) (fun c_49 => ?_)
      · refine e_iload_n C d_Mo_flowOf_69 rfl ?_
        refine e_iret C F rfl d_Mo_flowOf_70 (by omega) ?_
        exact ⟨by omega, ms_x hx.symm (fun _ _ _ _ => rfl)⟩
      · refine e_aload_n C d_Mo_flowOf_52 rfl ?_
        refine e_geta C fl_Mo_58 (by decide) rfl rfl d_Mo_flowOf_53 ?_
        refine e_bipush C d_Mo_flowOf_56 (by decide) ?_
        refine e_aload_n C d_Mo_flowOf_58 rfl ?_
        refine e_geti C fl_Mo_215 (by decide) rfl rfl d_Mo_flowOf_59 (fun r_59 => ?_)
        try simp only [so_at, x51, y1, x18, e1, x27] at r_59 ⊢
        refine e_imul C d_Mo_flowOf_62 ?_
        refine e_iload_n C d_Mo_flowOf_63 rfl ?_
        refine e_iadd C d_Mo_flowOf_64 ?_
        refine e_iald (n := 16) C (by decide) rfl (by decide) rfl rfl (by decide) (by omega) (by omega) d_Mo_flowOf_65 (fun r_65 => ?_)
        try simp only [so_at, x51, y1, x18, e1, x27] at r_65 ⊢
        refine e_goto C 70 d_Mo_flowOf_66 (by decide) ?_
        refine e_iret C F rfl d_Mo_flowOf_70 (by omega) ?_
        exact ⟨by omega, ms_x hx.symm (fun _ _ _ _ => rfl)⟩
  · have hlen : 0 < (zb z).length := List.length_pos_iff.mpr q3
    have hB : BRS x (420 * s) (m 42 0) (m 34 s) (zb z) := by
      refine BRS.same (Int.le_refl _) (fun k a b => ⟨?_, ?_⟩) (zb z) (m 34 s) q4 (fun f k a b c d => ?_)
      · rw [xf 43 (by decide), fr 43 k (by decide) (by rw [show szS 43 = 420 from rfl]; omega) (by rw [show szS 43 = 420 from rfl]; omega)]
      · rw [xf 44 (by decide), fr 44 k (by decide) (by rw [show szS 44 = 420 from rfl]; omega) (by rw [show szS 44 = 420 from rfl]; omega)]
      · have hs : szS f = 130 := by
          have : f = 37 ∨ f = 38 ∨ f = 39 ∨ f = 40 ∨ f = 41 := by omega
          rcases this with rfl | rfl | rfl | rfl | rfl <;> rfl
        rw [xf f (by omega), fr f k (by omega) (by rw [hs]; omega) (by rw [hs]; omega)]
    have hwet : ∀ w, (y 3 p = 1 ∨ P' 5 0 = 0 → w = 0) → (¬ y 3 p = 1 → P' 5 0 ≠ 0 → w = x 32 (24 * s + y 12 0 / 60 % P' 5 0)) → w = P' 1 (pl_damp y p (pl_hour P' (y 12 0))) := by
      intro w w1 w2
      unfold pl_damp pl_hour
      by_cases c1 : y 3 p = 1
      · rw [if_pos c1, hz1]; exact w1 (Or.inl c1)
      · rw [if_neg c1]
        by_cases c2 : P' 5 0 = 0
        · rw [if_neg (by omega), hz1]; exact w1 (Or.inr c2)
        · rw [if_pos (by omega), w2 c1 c2, x32 _ (Int.emod_nonneg _ c2) (Int.emod_lt_of_pos _ (by omega)), Int.add_comm]
    have key : R32 (y 0 p) → ∀ w, w = P' 1 (pl_damp y p (pl_hour P' (y 12 0))) → Ev g 209 [some (.inr (.inr (1, 0))), some (.inl p), some (.inl (y 0 p)), some (.inl (m 34 s)), some (.inl (m 35 s)), some (.inl (m 34 s)), none, none] [] (so σ 1 (cu (cu (cu (cu (cu (cu (cu x 47 0 (P' 0 p)) 47 1 w) 47 2 (y 0 p)) 47 3 (y 1 p)) 47 4 (y 12 0)) 47 5 p) 49 0 0)) := by
      intro hr0 w hww
      have ef : ∀ f, f ≠ 47 → f ≠ 49 → cu (cu (cu (cu (cu (cu (cu x 47 0 (P' 0 p)) 47 1 w) 47 2 (y 0 p)) 47 3 (y 1 p)) 47 4 (y 12 0)) 47 5 p) 49 0 0 f = x f := fun f a b => by rw [cf_f b, cf_f a, cf_f a, cf_f a, cf_f a, cf_f a, cf_f a]
      refine l_Mo_flowOf (v := vvs (P' 0 p) (P' 1 (pl_damp y p (pl_hour P' (y 12 0)))) (y 0 p) (y 1 p) (y 12 0) p) (lo := 420 * s) (hi := m 42 0) C F (by omega) (by omega) (by omega) ⟨ya, hr0.2⟩ (by omega) (zb z) (m 34 s) _ (BRS.same (Int.le_refl _) (fun k _ _ => ⟨by rw [ef 43 (by decide) (by decide)], by rw [ef 44 (by decide) (by decide)]⟩) (zb z) (m 34 s) hB (fun f k a b _ _ => by rw [ef f (by omega) (by omega)])) (by omega) (by omega) hK.2 (vvs_x ?_ ?_ ?_ ?_ ?_ ?_) (cu_s _ _ _ _) (fun x' h => ⟨rfl, ms_x hx.symm (fun f a b c => (h f a b c).trans (ef f a c))⟩)
      · rw [cu_f (by decide), cu_k (by decide), cu_k (by decide), cu_k (by decide), cu_k (by decide), cu_k (by decide), cu_s]
      · rw [cu_f (by decide), cu_k (by decide), cu_k (by decide), cu_k (by decide), cu_k (by decide), cu_s]; exact hww
      · rw [cu_f (by decide), cu_k (by decide), cu_k (by decide), cu_k (by decide), cu_s]
      · rw [cu_f (by decide), cu_k (by decide), cu_k (by decide), cu_s]
      · rw [cu_f (by decide), cu_k (by decide), cu_s]
      · rw [cu_f (by decide), cu_s]
    refine e_aload_n C d_Mo_flowOf_0 rfl ?_
    refine e_geta C fl_Mo_119 (by decide) rfl rfl d_Mo_flowOf_1 ?_
    refine e_iload_n C d_Mo_flowOf_4 rfl ?_
    refine e_iald (n := 100) C (by decide) rfl (by decide) rfl rfl (by decide) (by omega) (by omega) d_Mo_flowOf_5 (fun r_5 => ?_)
    try simp only [so_at, so_so, wr_so, x51, y1, y2, y4, y97, x18, x34, x35, x27, x31, cu_f, ne_eq, Nat.reduceEqDiff, not_false_eq_true] at r_5 ⊢
    refine e_istore_n C d_Mo_flowOf_6 (by decide) rfl ?_
    refine e_aload_n C d_Mo_flowOf_7 rfl ?_
    refine e_geta C fl_Mo_79 (by decide) rfl rfl d_Mo_flowOf_8 ?_
    refine e_aload_n C d_Mo_flowOf_11 rfl ?_
    refine e_geti C fl_Mo_215 (by decide) rfl rfl d_Mo_flowOf_12 (fun r_12 => ?_)
    try simp only [so_at, so_so, wr_so, x51, y1, y2, y4, y97, x18, x34, x35, x27, x31, cu_f, ne_eq, Nat.reduceEqDiff, not_false_eq_true] at r_12 ⊢
    refine e_iald (n := 2) C (by decide) rfl (by decide) rfl rfl (by decide) (by omega) (by omega) d_Mo_flowOf_15 (fun r_15 => ?_)
    try simp only [so_at, so_so, wr_so, x51, y1, y2, y4, y97, x18, x34, x35, x27, x31, cu_f, ne_eq, Nat.reduceEqDiff, not_false_eq_true] at r_15 ⊢
    refine e_istore_n C d_Mo_flowOf_16 (by decide) rfl ?_
    refine e_aload_n C d_Mo_flowOf_17 rfl ?_
    refine e_geta C fl_Mo_82 (by decide) rfl rfl d_Mo_flowOf_18 ?_
    refine e_aload_n C d_Mo_flowOf_21 rfl ?_
    refine e_geti C fl_Mo_215 (by decide) rfl rfl d_Mo_flowOf_22 (fun r_22 => ?_)
    try simp only [so_at, so_so, wr_so, x51, y1, y2, y4, y97, x18, x34, x35, x27, x31, cu_f, ne_eq, Nat.reduceEqDiff, not_false_eq_true] at r_22 ⊢
    refine e_iald (n := 2) C (by decide) rfl (by decide) rfl rfl (by decide) (by omega) (by omega) d_Mo_flowOf_25 (fun r_25 => ?_)
    try simp only [so_at, so_so, wr_so, x51, y1, y2, y4, y97, x18, x34, x35, x27, x31, cu_f, ne_eq, Nat.reduceEqDiff, not_false_eq_true] at r_25 ⊢
    refine e_istore C d_Mo_flowOf_26 (by decide) rfl ?_
    refine e_iload_n C d_Mo_flowOf_28 rfl ?_
    refine e_iload C d_Mo_flowOf_29 rfl ?_
    refine e_icmp_ne C 71 d_Mo_flowOf_31 (by decide) (by omega) (by omega) (fun c_31 => ?_) (fun c_31 => ?_)
    · refine e_aload_n C d_Mo_flowOf_71 rfl ?_
      refine e_geta C fl_Mo_110 (by decide) rfl rfl d_Mo_flowOf_72 ?_
      refine e_iconst C d_Mo_flowOf_75 ?_
      refine e_aload_n C d_Mo_flowOf_76 rfl ?_
      refine e_geta C fl_Mo_58 (by decide) rfl rfl d_Mo_flowOf_77 ?_
      refine e_bipush C d_Mo_flowOf_80 (by decide) ?_
      refine e_aload_n C d_Mo_flowOf_82 rfl ?_
      refine e_geti C fl_Mo_215 (by decide) rfl rfl d_Mo_flowOf_83 (fun r_83 => ?_)
      try simp only [so_at, so_so, wr_so, x51, y1, y2, y4, y97, x18, x34, x35, x27, x31, cu_f, ne_eq, Nat.reduceEqDiff, not_false_eq_true] at r_83 ⊢
      refine e_imul C d_Mo_flowOf_86 ?_
      refine e_iload_n C d_Mo_flowOf_87 rfl ?_
      refine e_iadd C d_Mo_flowOf_88 ?_
      refine e_iald (n := 16) C (by decide) rfl (by decide) rfl rfl (by decide) (by omega) (by omega) d_Mo_flowOf_89 (fun r_89 => ?_)
      try simp only [so_at, so_so, wr_so, x51, y1, y2, y4, y97, x18, x34, x35, x27, x31, cu_f, ne_eq, Nat.reduceEqDiff, not_false_eq_true] at r_89 ⊢
      refine e_iast (n := 6) C (by decide) rfl (by decide) rfl rfl (by decide) (by omega) (by omega) (by omega) d_Mo_flowOf_90 ?_
      try simp only [so_at, so_so, wr_so, x51, y1, y2, y4, y97, x18, x34, x35, x27, x31, cu_f, ne_eq, Nat.reduceEqDiff, not_false_eq_true]
      refine e_aload_n C d_Mo_flowOf_91 rfl ?_
      refine e_geta C fl_Mo_110 (by decide) rfl rfl d_Mo_flowOf_92 ?_
      refine e_iconst C d_Mo_flowOf_95 ?_
      refine e_aload_n C d_Mo_flowOf_96 rfl ?_
      refine e_geta C fl_Mo_119 (by decide) rfl rfl d_Mo_flowOf_97 ?_
      refine e_bipush C d_Mo_flowOf_100 (by decide) ?_
      refine e_iload_n C d_Mo_flowOf_102 rfl ?_
      refine e_iadd C d_Mo_flowOf_103 ?_
      refine e_iald (n := 100) C (by decide) rfl (by decide) rfl rfl (by decide) (by omega) (by omega) d_Mo_flowOf_104 (fun r_104 => ?_)
      try simp only [so_at, so_so, wr_so, x51, y1, y2, y4, y97, x18, x34, x35, x27, x31, cu_f, ne_eq, Nat.reduceEqDiff, not_false_eq_true] at r_104 ⊢
      refine e_iconst C d_Mo_flowOf_105 ?_
      refine e_icmp_eq C 121 d_Mo_flowOf_106 (by decide) (by omega) (by omega) (fun c_106 => ?_) (fun c_106 => ?_)
      · refine e_iconst C d_Mo_flowOf_121 ?_
        refine e_goto C 158 d_Mo_flowOf_122 (by decide) ?_
        refine e_iast (n := 6) C (by decide) rfl (by decide) rfl rfl (by decide) (by omega) (by omega) (by omega) d_Mo_flowOf_158 ?_
        try simp only [so_at, so_so, wr_so, x51, y1, y2, y4, y97, x18, x34, x35, x27, x31, cu_f, ne_eq, Nat.reduceEqDiff, not_false_eq_true]
        refine e_aload_n C d_Mo_flowOf_159 rfl ?_
        refine e_geta C fl_Mo_110 (by decide) rfl rfl d_Mo_flowOf_160 ?_
        refine e_iconst C d_Mo_flowOf_163 ?_
        refine e_iload_n C d_Mo_flowOf_164 rfl ?_
        refine e_iast (n := 6) C (by decide) rfl (by decide) rfl rfl (by decide) (by omega) (by omega) (by omega) d_Mo_flowOf_165 ?_
        try simp only [so_at, so_so, wr_so, x51, y1, y2, y4, y97, x18, x34, x35, x27, x31, cu_f, ne_eq, Nat.reduceEqDiff, not_false_eq_true]
        refine e_aload_n C d_Mo_flowOf_166 rfl ?_
        refine e_geta C fl_Mo_110 (by decide) rfl rfl d_Mo_flowOf_167 ?_
        refine e_iconst C d_Mo_flowOf_170 ?_
        refine e_aload_n C d_Mo_flowOf_171 rfl ?_
        refine e_geta C fl_Mo_119 (by decide) rfl rfl d_Mo_flowOf_172 ?_
        refine e_bipush C d_Mo_flowOf_175 (by decide) ?_
        refine e_iload_n C d_Mo_flowOf_177 rfl ?_
        refine e_iadd C d_Mo_flowOf_178 ?_
        refine e_iald (n := 100) C (by decide) rfl (by decide) rfl rfl (by decide) (by omega) (by omega) d_Mo_flowOf_179 (fun r_179 => ?_)
        try simp only [so_at, so_so, wr_so, x51, y1, y2, y4, y97, x18, x34, x35, x27, x31, cu_f, ne_eq, Nat.reduceEqDiff, not_false_eq_true] at r_179 ⊢
        refine e_iast (n := 6) C (by decide) rfl (by decide) rfl rfl (by decide) (by omega) (by omega) (by omega) d_Mo_flowOf_180 ?_
        try simp only [so_at, so_so, wr_so, x51, y1, y2, y4, y97, x18, x34, x35, x27, x31, cu_f, ne_eq, Nat.reduceEqDiff, not_false_eq_true]
        refine e_aload_n C d_Mo_flowOf_181 rfl ?_
        refine e_geta C fl_Mo_110 (by decide) rfl rfl d_Mo_flowOf_182 ?_
        refine e_iconst C d_Mo_flowOf_185 ?_
        refine e_aload_n C d_Mo_flowOf_186 rfl ?_
        refine e_geta C fl_Mo_119 (by decide) rfl rfl d_Mo_flowOf_187 ?_
        refine e_bipush C d_Mo_flowOf_190 (by decide) ?_
        refine e_iald (n := 100) C (by decide) rfl (by decide) rfl rfl (by decide) (by omega) (by omega) d_Mo_flowOf_192 (fun r_192 => ?_)
        try simp only [so_at, so_so, wr_so, x51, y1, y2, y4, y97, x18, x34, x35, x27, x31, cu_f, ne_eq, Nat.reduceEqDiff, not_false_eq_true] at r_192 ⊢
        refine e_iast (n := 6) C (by decide) rfl (by decide) rfl rfl (by decide) (by omega) (by omega) (by omega) d_Mo_flowOf_193 ?_
        try simp only [so_at, so_so, wr_so, x51, y1, y2, y4, y97, x18, x34, x35, x27, x31, cu_f, ne_eq, Nat.reduceEqDiff, not_false_eq_true]
        refine e_aload_n C d_Mo_flowOf_194 rfl ?_
        refine e_geta C fl_Mo_110 (by decide) rfl rfl d_Mo_flowOf_195 ?_
        refine e_iconst C d_Mo_flowOf_198 ?_
        refine e_iload_n C d_Mo_flowOf_199 rfl ?_
        refine e_iast (n := 6) C (by decide) rfl (by decide) rfl rfl (by decide) (by omega) (by omega) (by omega) d_Mo_flowOf_200 ?_
        try simp only [so_at, so_so, wr_so, x51, y1, y2, y4, y97, x18, x34, x35, x27, x31, cu_f, ne_eq, Nat.reduceEqDiff, not_false_eq_true]
        refine e_aload_n C d_Mo_flowOf_201 rfl ?_
        refine e_iconst C d_Mo_flowOf_202 ?_
        refine e_putz C fp_Mo_298 (by decide) rfl rfl (by omega) d_Mo_flowOf_203 ?_
        try simp only [so_at, so_so, wr_so, x51, y1, y2, y4, y97, x18, x34, x35, x27, x31, cu_f, ne_eq, Nat.reduceEqDiff, not_false_eq_true]
        refine e_iload_n C d_Mo_flowOf_206 rfl ?_
        refine e_istore C d_Mo_flowOf_207 (by decide) rfl ?_
        first | exact key r_5 _ (hwet _ (fun _ => rfl) (fun a _ => absurd c_106 a)) | exact key r_5 _ (hwet _ (fun _ => rfl) (fun _ b => absurd c_118 b)) | exact key r_5 _ (hwet _ (fun h => by rcases h with h | h; exact absurd h c_106; exact absurd h c_118) (fun _ _ => rfl))
      · refine e_aload_n C d_Mo_flowOf_109 rfl ?_
        refine e_geta C fl_Mo_70 (by decide) rfl rfl d_Mo_flowOf_110 ?_
        refine e_aload_n C d_Mo_flowOf_113 rfl ?_
        refine e_geti C fl_Mo_215 (by decide) rfl rfl d_Mo_flowOf_114 (fun r_114 => ?_)
        try simp only [so_at, so_so, wr_so, x51, y1, y2, y4, y97, x18, x34, x35, x27, x31, cu_f, ne_eq, Nat.reduceEqDiff, not_false_eq_true] at r_114 ⊢
        refine e_iald (n := 2) C (by decide) rfl (by decide) rfl rfl (by decide) (by omega) (by omega) d_Mo_flowOf_117 (fun r_117 => ?_)
        try simp only [so_at, so_so, wr_so, x51, y1, y2, y4, y97, x18, x34, x35, x27, x31, cu_f, ne_eq, Nat.reduceEqDiff, not_false_eq_true] at r_117 ⊢
        refine e_if_ne C 125 d_Mo_flowOf_118 (by decide) (by omega) (fun c_118 => ?_) (fun c_118 => ?_)
        · refine e_aload_n C d_Mo_flowOf_125 rfl ?_
          refine e_geta C fl_Mo_73 (by decide) rfl rfl d_Mo_flowOf_126 ?_
          refine e_bipush C d_Mo_flowOf_129 (by decide) ?_
          refine e_aload_n C d_Mo_flowOf_131 rfl ?_
          refine e_geti C fl_Mo_215 (by decide) rfl rfl d_Mo_flowOf_132 (fun r_132 => ?_)
          try simp only [so_at, so_so, wr_so, x51, y1, y2, y4, y97, x18, x34, x35, x27, x31, cu_f, ne_eq, Nat.reduceEqDiff, not_false_eq_true] at r_132 ⊢
          refine e_imul C d_Mo_flowOf_135 ?_
          refine e_aload_n C d_Mo_flowOf_136 rfl ?_
          refine e_geta C fl_Mo_119 (by decide) rfl rfl d_Mo_flowOf_137 ?_
          refine e_bipush C d_Mo_flowOf_140 (by decide) ?_
          refine e_iald (n := 100) C (by decide) rfl (by decide) rfl rfl (by decide) (by omega) (by omega) d_Mo_flowOf_142 (fun r_142 => ?_)
          try simp only [so_at, so_so, wr_so, x51, y1, y2, y4, y97, x18, x34, x35, x27, x31, cu_f, ne_eq, Nat.reduceEqDiff, not_false_eq_true] at r_142 ⊢
          refine e_bipush C d_Mo_flowOf_143 (by decide) ?_
          refine e_idiv C d_Mo_flowOf_145 (by omega) (by omega) (by omega) ?_
          rw [Int.tdiv_eq_ediv_of_nonneg y12]
          refine e_aload_n C d_Mo_flowOf_146 rfl ?_
          refine e_geta C fl_Mo_70 (by decide) rfl rfl d_Mo_flowOf_147 ?_
          refine e_aload_n C d_Mo_flowOf_150 rfl ?_
          refine e_geti C fl_Mo_215 (by decide) rfl rfl d_Mo_flowOf_151 (fun r_151 => ?_)
          try simp only [so_at, so_so, wr_so, x51, y1, y2, y4, y97, x18, x34, x35, x27, x31, cu_f, ne_eq, Nat.reduceEqDiff, not_false_eq_true] at r_151 ⊢
          refine e_iald (n := 2) C (by decide) rfl (by decide) rfl rfl (by decide) (by omega) (by omega) d_Mo_flowOf_154 (fun r_154 => ?_)
          try simp only [so_at, so_so, wr_so, x51, y1, y2, y4, y97, x18, x34, x35, x27, x31, cu_f, ne_eq, Nat.reduceEqDiff, not_false_eq_true] at r_154 ⊢
          refine e_irem C d_Mo_flowOf_155 (by omega) (by omega) (by omega) ?_
          rw [Int.tmod_eq_emod_of_nonneg (by omega)]
          have b1 := Int.emod_nonneg (y 12 0 / 60) (b := P' 5 0) (by omega)
          have b2 := Int.emod_lt_of_pos (y 12 0 / 60) (show 0 < P' 5 0 by omega)
          refine e_iadd C d_Mo_flowOf_156 ?_
          refine e_iald (n := 48) C (by decide) rfl (by decide) rfl rfl (by decide) (by omega) (by omega) d_Mo_flowOf_157 (fun r_157 => ?_)
          try simp only [so_at, so_so, wr_so, x51, y1, y2, y4, y97, x18, x34, x35, x27, x31, cu_f, ne_eq, Nat.reduceEqDiff, not_false_eq_true] at r_157 ⊢
          refine e_iast (n := 6) C (by decide) rfl (by decide) rfl rfl (by decide) (by omega) (by omega) (by omega) d_Mo_flowOf_158 ?_
          try simp only [so_at, so_so, wr_so, x51, y1, y2, y4, y97, x18, x34, x35, x27, x31, cu_f, ne_eq, Nat.reduceEqDiff, not_false_eq_true]
          refine e_aload_n C d_Mo_flowOf_159 rfl ?_
          refine e_geta C fl_Mo_110 (by decide) rfl rfl d_Mo_flowOf_160 ?_
          refine e_iconst C d_Mo_flowOf_163 ?_
          refine e_iload_n C d_Mo_flowOf_164 rfl ?_
          refine e_iast (n := 6) C (by decide) rfl (by decide) rfl rfl (by decide) (by omega) (by omega) (by omega) d_Mo_flowOf_165 ?_
          try simp only [so_at, so_so, wr_so, x51, y1, y2, y4, y97, x18, x34, x35, x27, x31, cu_f, ne_eq, Nat.reduceEqDiff, not_false_eq_true]
          refine e_aload_n C d_Mo_flowOf_166 rfl ?_
          refine e_geta C fl_Mo_110 (by decide) rfl rfl d_Mo_flowOf_167 ?_
          refine e_iconst C d_Mo_flowOf_170 ?_
          refine e_aload_n C d_Mo_flowOf_171 rfl ?_
          refine e_geta C fl_Mo_119 (by decide) rfl rfl d_Mo_flowOf_172 ?_
          refine e_bipush C d_Mo_flowOf_175 (by decide) ?_
          refine e_iload_n C d_Mo_flowOf_177 rfl ?_
          refine e_iadd C d_Mo_flowOf_178 ?_
          refine e_iald (n := 100) C (by decide) rfl (by decide) rfl rfl (by decide) (by omega) (by omega) d_Mo_flowOf_179 (fun r_179 => ?_)
          try simp only [so_at, so_so, wr_so, x51, y1, y2, y4, y97, x18, x34, x35, x27, x31, cu_f, ne_eq, Nat.reduceEqDiff, not_false_eq_true] at r_179 ⊢
          refine e_iast (n := 6) C (by decide) rfl (by decide) rfl rfl (by decide) (by omega) (by omega) (by omega) d_Mo_flowOf_180 ?_
          try simp only [so_at, so_so, wr_so, x51, y1, y2, y4, y97, x18, x34, x35, x27, x31, cu_f, ne_eq, Nat.reduceEqDiff, not_false_eq_true]
          refine e_aload_n C d_Mo_flowOf_181 rfl ?_
          refine e_geta C fl_Mo_110 (by decide) rfl rfl d_Mo_flowOf_182 ?_
          refine e_iconst C d_Mo_flowOf_185 ?_
          refine e_aload_n C d_Mo_flowOf_186 rfl ?_
          refine e_geta C fl_Mo_119 (by decide) rfl rfl d_Mo_flowOf_187 ?_
          refine e_bipush C d_Mo_flowOf_190 (by decide) ?_
          refine e_iald (n := 100) C (by decide) rfl (by decide) rfl rfl (by decide) (by omega) (by omega) d_Mo_flowOf_192 (fun r_192 => ?_)
          try simp only [so_at, so_so, wr_so, x51, y1, y2, y4, y97, x18, x34, x35, x27, x31, cu_f, ne_eq, Nat.reduceEqDiff, not_false_eq_true] at r_192 ⊢
          refine e_iast (n := 6) C (by decide) rfl (by decide) rfl rfl (by decide) (by omega) (by omega) (by omega) d_Mo_flowOf_193 ?_
          try simp only [so_at, so_so, wr_so, x51, y1, y2, y4, y97, x18, x34, x35, x27, x31, cu_f, ne_eq, Nat.reduceEqDiff, not_false_eq_true]
          refine e_aload_n C d_Mo_flowOf_194 rfl ?_
          refine e_geta C fl_Mo_110 (by decide) rfl rfl d_Mo_flowOf_195 ?_
          refine e_iconst C d_Mo_flowOf_198 ?_
          refine e_iload_n C d_Mo_flowOf_199 rfl ?_
          refine e_iast (n := 6) C (by decide) rfl (by decide) rfl rfl (by decide) (by omega) (by omega) (by omega) d_Mo_flowOf_200 ?_
          try simp only [so_at, so_so, wr_so, x51, y1, y2, y4, y97, x18, x34, x35, x27, x31, cu_f, ne_eq, Nat.reduceEqDiff, not_false_eq_true]
          refine e_aload_n C d_Mo_flowOf_201 rfl ?_
          refine e_iconst C d_Mo_flowOf_202 ?_
          refine e_putz C fp_Mo_298 (by decide) rfl rfl (by omega) d_Mo_flowOf_203 ?_
          try simp only [so_at, so_so, wr_so, x51, y1, y2, y4, y97, x18, x34, x35, x27, x31, cu_f, ne_eq, Nat.reduceEqDiff, not_false_eq_true]
          refine e_iload_n C d_Mo_flowOf_206 rfl ?_
          refine e_istore C d_Mo_flowOf_207 (by decide) rfl ?_
          first | exact key r_5 _ (hwet _ (fun _ => rfl) (fun a _ => absurd c_106 a)) | exact key r_5 _ (hwet _ (fun _ => rfl) (fun _ b => absurd c_118 b)) | exact key r_5 _ (hwet _ (fun h => by rcases h with h | h; exact absurd h c_106; exact absurd h c_118) (fun _ _ => rfl))
        · refine e_iconst C d_Mo_flowOf_121 ?_
          refine e_goto C 158 d_Mo_flowOf_122 (by decide) ?_
          refine e_iast (n := 6) C (by decide) rfl (by decide) rfl rfl (by decide) (by omega) (by omega) (by omega) d_Mo_flowOf_158 ?_
          try simp only [so_at, so_so, wr_so, x51, y1, y2, y4, y97, x18, x34, x35, x27, x31, cu_f, ne_eq, Nat.reduceEqDiff, not_false_eq_true]
          refine e_aload_n C d_Mo_flowOf_159 rfl ?_
          refine e_geta C fl_Mo_110 (by decide) rfl rfl d_Mo_flowOf_160 ?_
          refine e_iconst C d_Mo_flowOf_163 ?_
          refine e_iload_n C d_Mo_flowOf_164 rfl ?_
          refine e_iast (n := 6) C (by decide) rfl (by decide) rfl rfl (by decide) (by omega) (by omega) (by omega) d_Mo_flowOf_165 ?_
          try simp only [so_at, so_so, wr_so, x51, y1, y2, y4, y97, x18, x34, x35, x27, x31, cu_f, ne_eq, Nat.reduceEqDiff, not_false_eq_true]
          refine e_aload_n C d_Mo_flowOf_166 rfl ?_
          refine e_geta C fl_Mo_110 (by decide) rfl rfl d_Mo_flowOf_167 ?_
          refine e_iconst C d_Mo_flowOf_170 ?_
          refine e_aload_n C d_Mo_flowOf_171 rfl ?_
          refine e_geta C fl_Mo_119 (by decide) rfl rfl d_Mo_flowOf_172 ?_
          refine e_bipush C d_Mo_flowOf_175 (by decide) ?_
          refine e_iload_n C d_Mo_flowOf_177 rfl ?_
          refine e_iadd C d_Mo_flowOf_178 ?_
          refine e_iald (n := 100) C (by decide) rfl (by decide) rfl rfl (by decide) (by omega) (by omega) d_Mo_flowOf_179 (fun r_179 => ?_)
          try simp only [so_at, so_so, wr_so, x51, y1, y2, y4, y97, x18, x34, x35, x27, x31, cu_f, ne_eq, Nat.reduceEqDiff, not_false_eq_true] at r_179 ⊢
          refine e_iast (n := 6) C (by decide) rfl (by decide) rfl rfl (by decide) (by omega) (by omega) (by omega) d_Mo_flowOf_180 ?_
          try simp only [so_at, so_so, wr_so, x51, y1, y2, y4, y97, x18, x34, x35, x27, x31, cu_f, ne_eq, Nat.reduceEqDiff, not_false_eq_true]
          refine e_aload_n C d_Mo_flowOf_181 rfl ?_
          refine e_geta C fl_Mo_110 (by decide) rfl rfl d_Mo_flowOf_182 ?_
          refine e_iconst C d_Mo_flowOf_185 ?_
          refine e_aload_n C d_Mo_flowOf_186 rfl ?_
          refine e_geta C fl_Mo_119 (by decide) rfl rfl d_Mo_flowOf_187 ?_
          refine e_bipush C d_Mo_flowOf_190 (by decide) ?_
          refine e_iald (n := 100) C (by decide) rfl (by decide) rfl rfl (by decide) (by omega) (by omega) d_Mo_flowOf_192 (fun r_192 => ?_)
          try simp only [so_at, so_so, wr_so, x51, y1, y2, y4, y97, x18, x34, x35, x27, x31, cu_f, ne_eq, Nat.reduceEqDiff, not_false_eq_true] at r_192 ⊢
          refine e_iast (n := 6) C (by decide) rfl (by decide) rfl rfl (by decide) (by omega) (by omega) (by omega) d_Mo_flowOf_193 ?_
          try simp only [so_at, so_so, wr_so, x51, y1, y2, y4, y97, x18, x34, x35, x27, x31, cu_f, ne_eq, Nat.reduceEqDiff, not_false_eq_true]
          refine e_aload_n C d_Mo_flowOf_194 rfl ?_
          refine e_geta C fl_Mo_110 (by decide) rfl rfl d_Mo_flowOf_195 ?_
          refine e_iconst C d_Mo_flowOf_198 ?_
          refine e_iload_n C d_Mo_flowOf_199 rfl ?_
          refine e_iast (n := 6) C (by decide) rfl (by decide) rfl rfl (by decide) (by omega) (by omega) (by omega) d_Mo_flowOf_200 ?_
          try simp only [so_at, so_so, wr_so, x51, y1, y2, y4, y97, x18, x34, x35, x27, x31, cu_f, ne_eq, Nat.reduceEqDiff, not_false_eq_true]
          refine e_aload_n C d_Mo_flowOf_201 rfl ?_
          refine e_iconst C d_Mo_flowOf_202 ?_
          refine e_putz C fp_Mo_298 (by decide) rfl rfl (by omega) d_Mo_flowOf_203 ?_
          try simp only [so_at, so_so, wr_so, x51, y1, y2, y4, y97, x18, x34, x35, x27, x31, cu_f, ne_eq, Nat.reduceEqDiff, not_false_eq_true]
          refine e_iload_n C d_Mo_flowOf_206 rfl ?_
          refine e_istore C d_Mo_flowOf_207 (by decide) rfl ?_
          first | exact key r_5 _ (hwet _ (fun _ => rfl) (fun a _ => absurd c_106 a)) | exact key r_5 _ (hwet _ (fun _ => rfl) (fun _ b => absurd c_118 b)) | exact key r_5 _ (hwet _ (fun h => by rcases h with h | h; exact absurd h c_106; exact absurd h c_118) (fun _ _ => rfl))
    · exact absurd c_31 (by omega)
