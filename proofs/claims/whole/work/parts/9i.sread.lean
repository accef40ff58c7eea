/-! the class's read -/
def flS (S : SS) (v : Int) : SS := (sF S, sP S, (sY S, sB S), (sHn S, sHz S), (sKf S, sKs S), (sTn S, sTp S, sTm S), (sTb S, 0), v)
def okS (S : SS) (z : Zs) (P' : Cs) : SS := (phi (zb z), P', (yN P' (zc z), yN P' (zc z)), (sHn S, 0), ((fun _ => 0), sKs S), (0, sTp S, sTm S), (sTb S, 0), -1)
def nxRead (S : SS) (res : (Int × Int) ⊕ Zs) (P' : Cs) : SS := match res with
  | .inl fp => flS S fp.2
  | .inr z => if zx z 15 0 = 0 then okS S z P' else flS S (zx z 16 0)
def rvRead (res : (Int × Int) ⊕ Zs) : Int := match res with
  | .inl fp => fp.1
  | .inr z => zx z 15 0
/-- a plan as it was told -/
def PTo (z : Zs) (P' : Cs) : Prop := (∀ f, f = 3 ∨ f = 4 ∨ f = 5 ∨ f = 6 → P' f 0 = zp z f 0) ∧ (∀ p, 0 ≤ p → p < 8 → P' 0 p = zp z 0 p) ∧ ∀ d, 0 ≤ d → d < 25 → P' 1 d = zp z 1 d
section SRD
variable {T : Tab} {σ u : St} {S : SS} {n v : Int}
theorem IVc.fl (h : IVc S n σ) (he : ∀ o, o = 7 ∨ o = 8 ∨ o = 9 ∨ o = 11 ∨ o = 12 ∨ o = 13 ∨ o = 17 ∨ o = 18 ∨ 23 ≤ o → u o = σ o) (h0 : ∀ f, f ≠ 12 → u 0 f = σ 0 f) (hv : u 0 12 0 = v) (h2 : u 2 1 0 = 0) (hR : RdI u) : IVc (flS S v) (n + 1) u := by
  have h2' := h.next
  refine ⟨?_, ?_, ⟨?_, ?_, fun j a b => ?_⟩, fun s a b => ?_, ?_, ?_, ?_, ⟨h2, fun i a b => ?_⟩, hv, hR⟩
  · rw [he 7 (by omega), he 8 (by omega)]; exact h2'.1
  · rw [he 17 (by omega), he 18 (by omega)]; exact h2'.2.1
  · rw [he 9 (by omega)]; exact h2'.hi.1
  · rw [he 9 (by omega)]; exact h2'.hi.2.1
  · rw [he 9 (by omega), he _ (by omega)]; exact h2'.hi.2.2 j a b
  · rw [h0 7 (by decide), he _ (by omega)]; exact h2'.ki s a b
  · rw [he 11 (by omega)]; exact h2'.di
  · rw [he 12 (by omega)]; exact h2'.ga
  · rw [he 13 (by omega)]; exact h2'.ru
  · have b : i < 0 := b
    omega
theorem PI_fl (h : PI S n) (hn : n < 600) : PI (flS S v) (n + 1) := by
  have q := h.mono hn
  exact ⟨q.1, q.pl, q.y, q.b, q.hz, q.hn, q.k, q.tn, q.t, ⟨by show (0 : Int) ≤ 0; omega, by show (0 : Int) ≤ 2000; omega⟩, q.uf⟩
theorem plan_new {z : Zs} {P1 l1 c0 l0 : Cs} (hA : ZA T z) (hs : StP (zp z) P1 (zl z) (phi (zb z))) (hl : LSm (zl z) l1) : PlanOk (p_copy c0 P1) (l_copy l0 l1) (phi (zb z)) ∧ UF (p_copy c0 P1) (phi (zb z)) ∧ PTo z (p_copy c0 P1) := by
  obtain ⟨s1, s2, s3⟩ := hs
  obtain ⟨hJ, hB, hL⟩ := hA
  obtain ⟨⟨q1, q2, q3, q4⟩, q5, q6⟩ := l_copy_cp (c := l0) (d := l1)
  have b8 := hL.1.2.1
  have e7 : l1 7 0 = zl z 7 0 := by rw [hl.1 7 (by decide)]
  have e8 : l1 8 0 = zl z 8 0 := by rw [hl.1 8 (by decide)]
  have hcp : LCp (zl z) (l_copy l0 l1) := ⟨q1.trans e7, q2.trans e8, fun f i f0 f1 i0 i1 => by rw [q3 f i f0 f1 i0 (by omega), hl.1 f (by omega)], fun k k0 k1 => by rw [q4 k k0 (by omega), hl.2 k k0 (by omega)]⟩
  have h3 := hJ.2.2.1
  have h5 := hB.1.1
  have eP : ∀ f, f = 3 ∨ f = 4 ∨ f = 5 ∨ f = 6 → p_copy c0 P1 f 0 = zp z f 0 := fun f hf => by rw [p_copy_1 (by omega), s1 f (by omega) (by omega)]
  have e0 : ∀ p, 0 ≤ p → p < 8 → p_copy c0 P1 0 p = zp z 0 p := fun p a b => by rw [p_copy_0 ⟨a, b⟩, s1 0 (by decide) (by decide)]
  have e1 : ∀ d, 0 ≤ d → d < 25 → p_copy c0 P1 1 d = zp z 1 d := fun p a b => by rw [p_copy_w ⟨a, b⟩, s1 1 (by decide) (by decide)]
  refine ⟨⟨?_, ?_, ?_, ?_, ?_, hL.1.2.2 _ hcp, fun h => ⟨?_, fun p d p0 p1 d0 d1 => ?_⟩⟩, fun h => ?_, eP, e0, e1⟩
  · rw [eP 3 (by omega)]; exact h3
  · rw [eP 4 (by omega)]; exact hJ.2.2.2.1
  · rw [eP 5 (by omega)]; exact h5
  · rw [eP 6 (by omega)]; exact hB.1.2
  · rw [e1 0 (by omega) (by omega)]; exact hJ.2.2.2.2.2.1
  · rw [q5, hl.1 0 (by decide)] at h
    exact hL.2.1 h
  · rw [q5, hl.1 0 (by decide)] at h
    rw [eP 3 (by omega)] at p1
    rw [eP 5 (by omega)] at d1
    rw [p_copy_8 (by omega), e0 p p0 (by omega), e1 d d0 (by omega)]
    exact s3 h p d p0 p1 d0 d1
  · rw [p_copy_1 (by omega)] at h
    rcases s2 h with w | w
    · exact Or.inr (hL.2.2 w)
    · rw [eP 5 (by omega)]; exact Or.inl w
theorem ZB.new {z : Zs} {P' : Cs} (hA : ZA T z) (h15 : zx z 15 0 = 0) (hP : PTo z P') : (0 ≤ P' 3 0 ∧ P' 3 0 ≤ 8) ∧ (0 ≤ P' 4 0 ∧ P' 4 0 ≤ 12) ∧ RdC (zc z) ∧ PO P' (zc z) ∧ ∀ p, P' 3 0 ≤ p → p < 8 → zc z 2 p = -2 := by
  have e3 := hP.1 3 (by omega)
  have e4 := hP.1 4 (by omega)
  refine ⟨by rw [e3]; exact hA.1.2.2.1, by rw [e4]; exact hA.1.2.2.2.1, hA.1.2.2.2.2.2.2.1, (hA.2.1.2.2.2 h15).P e3 e4, ?_⟩
  rw [e3]
  exact hA.2.1.2.2.1.1
theorem PI_ok {z : Zs} {P' l' : Cs} (h : PI S n) (hn : n < 600) (hA : ZA T z) (h15 : zx z 15 0 = 0) (hP : PTo z P') (hpl : PlanOk P' l' (phi (zb z))) (hu : UF P' (phi (zb z))) : PI (okS S z P') (n + 1) := by
  obtain ⟨a1, a2, a3, a4, a5⟩ := ZB.new hA h15 hP
  have := h.n
  have hy : CYp P' (n + 1) (yN P' (zc z)) := yN_cy a1 a2 a3 a4 a5 (by omega)
  refine ⟨by omega, ⟨l', hpl⟩, hy, hy, ⟨by show (0 : Int) ≤ 0; omega, by show (0 : Int) ≤ 40; omega⟩, fun j a b => ?_, fun s a b => ⟨Or.inl rfl, fun w => absurd rfl w⟩, ⟨by show (0 : Int) ≤ 0; omega, by show (0 : Int) ≤ 20; omega⟩, fun i a b => ?_, ⟨by show (0 : Int) ≤ 0; omega, by show (0 : Int) ≤ 2000; omega⟩, hu⟩
  · have b : j < 0 := b
    omega
  · have b : i < 0 := b
    omega
theorem IVc.ok {z : Zs} {τ u : St} (hr : RuI S (τ 13)) (h9 : 0 ≤ τ 9 2 0 ∧ τ 9 2 0 < 40) (hn : 0 ≤ n) (hA : ZA T z) (h15 : zx z 15 0 = 0) (h16 : τ 16 = zc z) (h2 : τ 2 1 0 = 0) (hv : τ 0 12 0 = -1) (h4 : τ 4 1 0 = 0) (ha : AN τ u) (hP : PTo z (u 7)) (hpl : PlanOk (u 7) (u 8) (phi (zb z))) : IVc (okS S z (u 7)) (n + 1) u := by
  obtain ⟨b1, b2, b3, b4, b5⟩ := ZB.new hA h15 hP
  obtain ⟨a1, a2, a3, a4, ⟨a5, a6⟩, ⟨a7, a8⟩, ⟨a9, a10, a11, a12⟩, ⟨a13, a14, a15⟩, a16, a17⟩ := ha
  have hs := yN_sim b1 b2 b3 b4
  have hk : CK (20000 * (n + 1)) (zc z) := yN_ck b1 b2 b3 b4 b5 (by omega)
  have hcb : CB (u 7) (n + 1) (zc z) (yN (u 7) (zc z)) := ⟨hs, hk⟩
  rw [h16] at a3 a4
  refine ⟨⟨rfl, hpl⟩, ⟨?_, ?_⟩, ⟨a5, by rw [a6]; exact h9, fun j a b => ?_⟩, fun s a b => ⟨a8 s a b, fun w => absurd rfl w⟩, no_DI _ a13 a14 a15, fun w => absurd a16 w, ⟨a9, a10.trans hr.2.1, a11.trans hr.2.2.1, fun w => absurd a12 w⟩, ⟨?_, fun i a b => ?_⟩, ?_, ?_⟩
  · rw [a4]; exact CB_copy b1.2 b2.2 (CB_copy b1.2 b2.2 hcb)
  · rw [a3]; exact CB_copy b1.2 b2.2 hcb
  · have b : j < 0 := b
    omega
  · rw [a17 2 (by omega)]; exact h2
  · have b : i < 0 := b
    omega
  · rw [a7 12 (by decide)]; exact hv
  · unfold RdI
    rw [a17 4 (by omega), a17 16 (by omega), h16]
    exact ⟨h4, b3⟩
/-- what a read of the tape tells -/
def resR (S : SS) (σ : St) : (Int × Int) ⊕ Zs := zTells (tbl (sTb S) (sTz S)) 401 (zN (σ 3) (σ 4) (σ 5) (σ 16))
theorem resR_A (h : IVc S n σ) (hp : PI S n) {z : Zs} (e : resR S σ = .inr z) : ZA (tbl (sTb S) (sTz S)) z := zTells_A (tbl_ok hp.tz) 401 _ _ (zN_A h.rd.1 h.rd.2) e
def rdU (σ : St) (d' X P l c : Cs) (w : Int) : St := so (so (RZ (so σ 6 d') X P l c) 2 (cu (σ 2) 1 0 0)) 0 (cu (σ 0) 12 0 w)
section RDU
variable {d' X P l c : Cs} {w : Int}
theorem rdU_o {o : Nat} (h0 : o ≠ 0) (h2 : o ≠ 2) (h3 : o ≠ 3) (h4 : o ≠ 4) (h5 : o ≠ 5) (h6 : o ≠ 6) (h16 : o ≠ 16) : rdU σ d' X P l c w o = σ o := by unfold rdU; rw [so_ne h0, so_ne h2, RZ_o h3 h4 h5 h16, so_ne h6]
theorem rdU_0 : rdU σ d' X P l c w 0 = cu (σ 0) 12 0 w := so_at _ _ _
theorem rdU_2 : rdU σ d' X P l c w 2 = cu (σ 2) 1 0 0 := by unfold rdU; rw [so_ne (by decide), so_at]
theorem rdU_4 : rdU σ d' X P l c w 4 = P := by unfold rdU; rw [so_ne (by decide), so_ne (by decide), RZ_4]
theorem rdU_5 : rdU σ d' X P l c w 5 = l := by unfold rdU; rw [so_ne (by decide), so_ne (by decide), RZ_5]
theorem rdU_16 : rdU σ d' X P l c w 16 = c := by unfold rdU; rw [so_ne (by decide), so_ne (by decide), RZ_16]
theorem IVc.rdU (h : IVc S n σ) (hP : P 1 0 = 0) (hc : RdC c) : PC (flS S w) n σ (rdU σ d' X P l c w) := by
  refine ⟨rdU_o (by decide) (by decide) (by decide) (by decide) (by decide) (by decide) (by decide), h.fl (fun o ho => rdU_o (by omega) (by omega) (by omega) (by omega) (by omega) (by omega) (by omega)) (fun f hf => by rw [rdU_0, cf_f hf]) (by rw [rdU_0, cu_s]) (by rw [rdU_2, cu_s]) ?_⟩
  unfold RdI
  rw [rdU_4, rdU_16]
  exact ⟨hP, hc⟩
end RDU
set_option maxHeartbeats 1000000 in
theorem K_Sg_read (hp : PI S n) (hn : n < 600) (h : IVc S n σ) : CtI M_Sg_read [.inr (.inr (0, 0))] σ (fun r u => r = rvRead (resR S σ) ∧ ∃ P', (∀ z, resR S σ = .inr z → zx z 15 0 = 0 → PTo z P') ∧ PC (nxRead S (resR S σ) P') n σ u ∧ PI (nxRead S (resR S σ) P') (n + 1)) := by
  intro g C F
  have hT : tbl (σ 2 0) (σ 2 1 0) = tbl (sTb S) (sTz S) := by rw [h.ta.1]; exact tbl_cong hp.tz.1 h.ta.2
  have hnn := hp.n
  refine e_aload_n C d_Sg_read_0 rfl ?_
  refine e_geto (o2 := 3) C fl_Sg_19 (by decide) rfl rfl rfl d_Sg_read_1 ?_
  refine e_aload_n C d_Sg_read_4 rfl ?_
  refine e_geto (o2 := 2) C fl_Sg_10 (by decide) rfl rfl rfl d_Sg_read_5 ?_
  refine e_callIV C ok_Re_readText lk_Sg_98 (o := 3) (by decide) rfl [_] rfl rfl (Nat.le_of_ble_eq_true rfl) (by decide) (Nat.le_of_ble_eq_true rfl) d_Sg_read_8 (k_Re_readText (by rw [h.ta.1]; exact hp.tz) h.rd.1 h.rd.2) (fun v_8 u_8 q_8 h_8 => ?_)
  obtain ⟨d', hQ⟩ := h_8
  rw [hT] at hQ
  have hQ : rtQ (so σ 6 d') (resR S σ) v_8 u_8 := hQ
  refine e_istore_n C d_Sg_read_11 (by decide) rfl ?_
  have f2 : ∀ X P l c : Cs, RZ (so σ 6 d') X P l c 2 = σ 2 := fun X P l c => by rw [RZ_o (by decide) (by decide) (by decide) (by decide), so_ne (by decide)]
  have f0 : ∀ X P l c d : Cs, so (RZ (so σ 6 d') X P l c) 2 d 0 = σ 0 := fun X P l c d => by rw [so_ne (by decide), RZ_o (by decide) (by decide) (by decide) (by decide), so_ne (by decide)]
  have f3 : ∀ X P l c d : Cs, so (RZ (so σ 6 d') X P l c) 2 d 3 = X := fun X P l c d => by rw [so_ne (by decide), RZ_3]
  cases hE : resR S σ with
  | inl fp =>
    rw [hE] at hQ F
    obtain ⟨rfl, X, P, l, c, rfl, b1, b2, b3, b4⟩ := hQ
    have hne := zTells_F 401 _ fp hE
    refine e_aload_n C d_Sg_read_12 rfl ?_
    refine e_geto (o2 := 2) C fl_Sg_10 (by decide) rfl rfl rfl d_Sg_read_13 ?_
    refine e_iconst C d_Sg_read_16 ?_
    refine e_puti C fp_Sg_95 (by decide) rfl rfl (by omega) d_Sg_read_17 ?_
    try simp only [wr_so, f2, f0, f3, b2]
    refine e_aload_n C d_Sg_read_20 rfl ?_
    refine e_aload_n C d_Sg_read_21 rfl ?_
    refine e_geto (o2 := 3) C fl_Sg_19 (by decide) rfl rfl rfl d_Sg_read_22 ?_
    refine e_geti C fl_Sg_102 (by decide) rfl rfl d_Sg_read_25 (fun r_25 => ?_)
    try simp only [wr_so, f2, f0, f3, b2] at r_25 ⊢
    refine e_puti C fp_Sg_83 (by decide) rfl rfl (by omega) d_Sg_read_28 ?_
    try simp only [wr_so, f2, f0, f3, b2]
    refine e_iload_n C d_Sg_read_31 rfl ?_
    refine e_if_ne C 39 d_Sg_read_32 (by decide) (by omega) (fun c_32 => ?_) (fun c_32 => ?_)
    · refine e_iload_n C d_Sg_read_39 rfl ?_
      refine e_iret C F rfl d_Sg_read_40 (by omega) ?_
      exact ⟨rfl, sP S, fun z q => (by cases q), h.rdU b3 b4, PI_fl hp hn⟩
    · exact absurd c_32 (by omega)
  | inr z =>
    have hA := resR_A h hp hE
    rw [hE] at hQ F
    rcases hQ with ⟨b1, rfl, X, rfl, b2⟩ | ⟨b1, rfl, X, P1, l1, rfl, b2, b3, b4⟩
    · have eN : ∀ P', nxRead S (.inr z) P' = flS S (zx z 16 0) := fun P' => if_neg b1
      refine e_aload_n C d_Sg_read_12 rfl ?_
      refine e_geto (o2 := 2) C fl_Sg_10 (by decide) rfl rfl rfl d_Sg_read_13 ?_
      refine e_iconst C d_Sg_read_16 ?_
      refine e_puti C fp_Sg_95 (by decide) rfl rfl (by omega) d_Sg_read_17 ?_
      try simp only [wr_so, f2, f0, f3, b2]
      refine e_aload_n C d_Sg_read_20 rfl ?_
      refine e_aload_n C d_Sg_read_21 rfl ?_
      refine e_geto (o2 := 3) C fl_Sg_19 (by decide) rfl rfl rfl d_Sg_read_22 ?_
      refine e_geti C fl_Sg_102 (by decide) rfl rfl d_Sg_read_25 (fun r_25 => ?_)
      try simp only [wr_so, f2, f0, f3, b2] at r_25 ⊢
      refine e_puti C fp_Sg_83 (by decide) rfl rfl (by omega) d_Sg_read_28 ?_
      try simp only [wr_so, f2, f0, f3, b2]
      refine e_iload_n C d_Sg_read_31 rfl ?_
      refine e_if_ne C 39 d_Sg_read_32 (by decide) (by omega) (fun c_32 => ?_) (fun c_32 => ?_)
      · refine e_iload_n C d_Sg_read_39 rfl ?_
        refine e_iret C F rfl d_Sg_read_40 (by omega) ?_
        refine ⟨rfl, sP S, fun z2 q q2 => ?_, ?_, ?_⟩
        · cases q; exact absurd q2 b1
        · rw [eN]; exact h.rdU hA.1.2.2.2.2.2.1 hA.1.2.2.2.2.2.2.1
        · rw [eN]; exact PI_fl hp hn
      · exact absurd c_32 b1
    · have eN : ∀ P', nxRead S (.inr z) P' = okS S z P' := fun P' => if_pos b1
      have hl7 := hA.2.2.1.1
      have hl8 := hA.2.2.1.2.1
      refine e_aload_n C d_Sg_read_12 rfl ?_
      refine e_geto (o2 := 2) C fl_Sg_10 (by decide) rfl rfl rfl d_Sg_read_13 ?_
      refine e_iconst C d_Sg_read_16 ?_
      refine e_puti C fp_Sg_95 (by decide) rfl rfl (by omega) d_Sg_read_17 ?_
      try simp only [wr_so, f2, f0, f3, b2]
      refine e_aload_n C d_Sg_read_20 rfl ?_
      refine e_aload_n C d_Sg_read_21 rfl ?_
      refine e_geto (o2 := 3) C fl_Sg_19 (by decide) rfl rfl rfl d_Sg_read_22 ?_
      refine e_geti C fl_Sg_102 (by decide) rfl rfl d_Sg_read_25 (fun r_25 => ?_)
      try simp only [wr_so, f2, f0, f3, b2] at r_25 ⊢
      refine e_puti C fp_Sg_83 (by decide) rfl rfl (by omega) d_Sg_read_28 ?_
      try simp only [wr_so, f2, f0, f3, b2]
      refine e_iload_n C d_Sg_read_31 rfl ?_
      refine e_if_ne C 39 d_Sg_read_32 (by decide) (by omega) (fun c_32 => ?_) (fun c_32 => ?_)
      · exact absurd rfl c_32
      · refine e_aload_n C d_Sg_read_35 rfl ?_
        refine e_callVV C ok_Sg_beginAnew lk_Sg_105 (o := 0) (by decide) rfl [] rfl rfl (Nat.le_of_ble_eq_true rfl) (by decide) (Nat.le_of_ble_eq_true rfl) d_Sg_read_36 (k_Sg_beginAnew (σ := rdU σ d' X P1 l1 (zc z) (-1)) (by rw [rdU_5, b3.1 7 (by decide)]; exact hl7) (by rw [rdU_5, b3.1 8 (by decide)]; exact hl8)) (fun u_36 h_36 => ?_)
        refine e_iload_n C d_Sg_read_39 rfl ?_
        refine e_iret C F rfl d_Sg_read_40 (by omega) ?_
        have hu := h_36
        obtain ⟨p1, p2, p3⟩ := plan_new (c0 := σ 7) (l0 := σ 8) hA b4 b3
        have e7 : u_36 7 = p_copy (σ 7) P1 := by rw [h_36.1, rdU_4, rdU_o (by decide) (by decide) (by decide) (by decide) (by decide) (by decide) (by decide)]
        have e8 : u_36 8 = l_copy (σ 8) l1 := by rw [h_36.2.1, rdU_5, rdU_o (by decide) (by decide) (by decide) (by decide) (by decide) (by decide) (by decide)]
        rw [← e7] at p1 p2 p3
        rw [← e8] at p1
        refine ⟨b1.symm, u_36 7, fun z2 q q2 => ?_, ⟨?_, ?_⟩, ?_⟩
        · cases q; exact p3
        · rw [h_36.2.2.2.2.2.2.2.2.2 1 (by omega)]; exact rdU_o (by decide) (by decide) (by decide) (by decide) (by decide) (by decide) (by decide)
        · rw [eN]
          refine IVc.ok (τ := rdU σ d' X P1 l1 (zc z) (-1)) ?_ ?_ hnn.1 hA b1 rdU_16 (by rw [rdU_2, cu_s]) (by rw [rdU_0, cu_s]) ?_ hu p3 p1
          · rw [rdU_o (by decide) (by decide) (by decide) (by decide) (by decide) (by decide) (by decide)]; exact h.ru
          · rw [rdU_o (by decide) (by decide) (by decide) (by decide) (by decide) (by decide) (by decide)]; exact h.hi.2.1
          · rw [rdU_4, b4.1 1 (by decide) (by decide)]; exact hA.1.2.2.2.2.2.1
        · rw [eN]; exact PI_ok hp hn hA b1 p3 p1 p2
end SRD
