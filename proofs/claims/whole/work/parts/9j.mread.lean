/-! the reference's read: its loops, its frame -/
section MRD
variable {T : Tab} {σ : St} {s : Int}
theorem l_Mo_read1 {g : Mach} (C : Cx M_Mo_read g) {m0 : Cs} {z : Int} (hz : 0 ≤ z ∧ z ≤ 2000) (h4 : m0 4 0 = z) (K : ∀ m' : Cs, (∀ f, f ≠ 3 → m' f = m0 f) → (∀ j, 0 ≤ j → j < z → m' 3 j = m0 1 j ∧ -128 ≤ m' 3 j ∧ m' 3 j ≤ 127) → Ev g 36 [some (.inr (.inr (1, 0))), none] [] (so σ 1 m')) :
    ∀ (n : Nat) (i : Int) (m' : Cs), 0 ≤ i → i + n = z → (∀ f, f ≠ 3 → m' f = m0 f) → (∀ j, 0 ≤ j → j < i → m' 3 j = m0 1 j ∧ -128 ≤ m' 3 j ∧ m' 3 j ≤ 127) → Ev g 10 [some (.inr (.inr (1, 0))), some (.inl i)] [] (so σ 1 m') := by
  intro n
  induction n with
  | zero =>
    intro i m' h0 h1 hf hj
    have e4 : m' 4 0 = z := by rw [hf 4 (by decide)]; exact h4
    refine e_iload_n C d_Mo_read_10 rfl ?_
    refine e_aload_n C d_Mo_read_11 rfl ?_
    refine e_geti C fl_Mo_154 (by decide) rfl rfl d_Mo_read_12 (fun r_12 => ?_)
    try simp only [so_at, e4] at r_12 ⊢
    refine e_icmp_ge C 36 d_Mo_read_15 (by decide) (by omega) (by omega) (fun c_15 => ?_) (fun c_15 => ?_)
    · exact e_drop 1 (K m' hf (fun j a b => hj j a (by omega)))
    · exact absurd h1 (by omega)
  | succ n ih =>
    intro i m' h0 h1 hf hj
    have e4 : m' 4 0 = z := by rw [hf 4 (by decide)]; exact h4
    refine e_iload_n C d_Mo_read_10 rfl ?_
    refine e_aload_n C d_Mo_read_11 rfl ?_
    refine e_geti C fl_Mo_154 (by decide) rfl rfl d_Mo_read_12 (fun r_12 => ?_)
    try simp only [so_at, so_so, wr_so, e4] at r_12 ⊢
    refine e_icmp_ge C 36 d_Mo_read_15 (by decide) (by omega) (by omega) (fun c_15 => ?_) (fun c_15 => ?_)
    · exact absurd h1 (by omega)
    · refine e_aload_n C d_Mo_read_18 rfl ?_
      refine e_geta C fl_Mo_17 (by decide) rfl rfl d_Mo_read_19 ?_
      refine e_iload_n C d_Mo_read_22 rfl ?_
      refine e_aload_n C d_Mo_read_23 rfl ?_
      refine e_geta C fl_Mo_13 (by decide) rfl rfl d_Mo_read_24 ?_
      refine e_iload_n C d_Mo_read_27 rfl ?_
      refine e_bald (n := 2000) C (by decide) rfl (by decide) rfl rfl (by decide) (by omega) (by omega) d_Mo_read_28 (fun r_28 => ?_)
      try simp only [so_at, so_so, wr_so, e4] at r_28 ⊢
      refine e_bast (n := 2000) C (by decide) rfl (by decide) rfl rfl (by decide) (by omega) (by omega) (by omega) d_Mo_read_29 ?_
      try simp only [so_at, so_so, wr_so, e4]
      refine e_iinc C d_Mo_read_30 rfl (by decide) rfl ?_
      refine e_goto C 10 d_Mo_read_33 (by decide) ?_
      refine ih (i + 1) _ (by omega) (by omega) (fun f a => by rw [cf_f a]; exact hf f a) (fun j a b => ?_)
      rw [cu_if]
      by_cases w : j = i
      · rw [if_pos ⟨rfl, w⟩, w, hf 1 (by decide)] at *
        exact ⟨rfl, r_28⟩
      · rw [if_neg (fun q => w q.2)]
        exact hj j a (by omega)
def mQ (T : Tab) (s : Int) (m0 : Cs) (res : (Int × Int) ⊕ Zs) (m' : Cs) : Prop := match res with
  | .inl fp => PF s m0 m' ∧ Ft fp m'
  | .inr z => PF s m0 m' ∧ m' 13 0 = 0 ∧ MR T s z m'
theorem MH.nx {m m' : Cs} {t t' : Int} (h : MH T m t) (hp : PF s m m') (h11 : m' 11 0 = t') (h13 : m' 13 0 = 0) (ht : 0 ≤ t' ∧ t' ≤ 400) (hl : t' = 0 ∨ T.1 (t' - 1) ≠ 128) : MH T m' t' := by
  refine ⟨h.1, fun k a b d => ?_, h11, ht, hl, h13⟩
  rw [hp.1 5 (by omega), hp.1 6 (by omega), hp.1 7 (by omega), hp.1 8 (by omega)]
  exact h.2.1 k a b d
theorem l_Mo_read2 {g : Mach} (C : Cx M_Mo_read g) (hmn : TMn T) {m0 : Cs} :
    ∀ (n : Nat) (z : Zs) (m : Cs), 401 ≤ zt z + n → MH T m (zt z) → ZJ T z → MR T s z m → PF s m0 m → (∀ m', mQ T s m0 (zTells T n z) m' → Ev g 187 [some (.inr (.inr (1, 0))), none] [] (so σ 1 m')) → Ev g 165 [some (.inr (.inr (1, 0))), none] [] (so σ 1 m) := by
  intro n
  induction n with
  | zero =>
    intro z m h1 hM hJ hR hp K
    exact absurd hJ.1.2 (by omega)
  | succ n ih =>
    intro z m h1 hM hJ hR hp K
    have e13 := hM.2.2.2.2.2
    unfold zTells at K
    refine e_aload_n C d_Mo_read_165 rfl ?_
    refine e_geti C fl_Mo_185 (by decide) rfl rfl d_Mo_read_166 (fun r_166 => ?_)
    try simp only [so_at, e13] at r_166 ⊢
    refine e_if_ne C 187 d_Mo_read_169 (by decide) (by omega) (fun c_169 => ?_) (fun c_169 => ?_)
    · exact absurd rfl c_169
    · refine e_aload_n C d_Mo_read_172 rfl ?_
      refine e_iconst C d_Mo_read_173 ?_
      refine e_callIV C ok_Mo_is lk_Mo_203 (o := 1) (by decide) rfl [_] rfl rfl (Nat.le_of_ble_eq_true rfl) (by decide) (Nat.le_of_ble_eq_true rfl) d_Mo_read_174 (k_Mo_is hM (k' := 128) (by decide) (by decide)) (fun v_174 u_174 q_174 h_174 => ?_)
      obtain ⟨rfl, e_174⟩ := h_174
      rw [e_174]
      refine e_if_ne C 187 d_Mo_read_177 (by decide) (by split <;> omega) (fun c_177 => ?_) (fun c_177 => ?_)
      · rw [if_pos (if1_t c_177)] at K
        exact K m ⟨hp, e13, hR⟩
      · rw [if_neg (if1_f c_177)] at K
        refine e_aload_n C d_Mo_read_180 rfl ?_
        refine e_callVV C ok_Mo_tell lk_Mo_230 (o := 1) (by decide) rfl [] rfl rfl (Nat.le_of_ble_eq_true rfl) (by decide) (Nat.le_of_ble_eq_true rfl) d_Mo_read_181 (k_Mo_tell hmn hM hJ hR) (fun u_181 h_181 => ?_)
        refine e_goto C 165 d_Mo_read_184 (by decide) ?_
        cases hE : zTell T z with
        | inl fp =>
          rw [hE] at h_181 K
          obtain ⟨m2, rfl, q1, q2⟩ := h_181
          have e2 := q2.1
          have e3 := q2.2.2.1
          refine e_aload_n C d_Mo_read_165 rfl ?_
          refine e_geti C fl_Mo_185 (by decide) rfl rfl d_Mo_read_166 (fun r_166 => ?_)
          try simp only [so_at, e2] at r_166 ⊢
          refine e_if_ne C 187 d_Mo_read_169 (by decide) (by omega) (fun c_169 => ?_) (fun c_169 => ?_)
          · exact K m2 ⟨hp.tr q1, q2⟩
          · exact absurd c_169 (by omega)
        | inr z' =>
          rw [hE] at h_181 K
          obtain ⟨m2, rfl, q1, q2, q3, q4⟩ := h_181
          obtain ⟨j1, j2⟩ := zTell_J hM.1 hJ hE
          exact ih z' m2 (by omega) (hM.nx q1 q3 q2 j1.1 j1.2.1) j1 q4 (hp.tr q1) K
/-- the live side stays -/
theorem PF.mw {m m' : Cs} (h : PF s m m') (hs : s = 1 - m 18 0) (hl : 0 ≤ m 18 0 ∧ m 18 0 ≤ 1) : MW m m' := by
  refine ⟨by rw [h.1 18 (by omega)], fun f k a b => ?_⟩
  by_cases w : 24 ≤ f ∧ f ≤ 44 ∧ f ≠ 36 ∧ f ≠ 42
  · refine h.2 f k w.1 w.2.1 w.2.2.1 w.2.2.2 ?_
    have hz : 0 ≤ szS f := by unfold szS; split <;> (try split) <;> (try split) <;> (try split) <;> (try split) <;> (try split) <;> omega
    have hc : m 18 0 = 0 ∨ m 18 0 = 1 := by omega
    rcases hc with c | c
    · rw [c] at a b hs
      rw [hs, show (1 : Int) - 0 = 1 from rfl, Int.mul_one]
      rw [Int.mul_zero] at a b
      omega
    · rw [c] at a b hs
      rw [hs, show (1 : Int) - 1 = 0 from rfl, Int.mul_zero]
      rw [Int.mul_one] at a b
      omega
  · by_cases w2 : f ≤ 10 ∨ (17 ≤ f ∧ f ≤ 19) ∨ 47 ≤ f
    · rw [h.1 f w2]
    · have e : szS f = 0 := by unfold szS; rw [if_neg (by omega), if_neg (by omega), if_neg (by omega), if_neg (by omega), if_neg (by omega), if_neg (by omega)]
      rw [e] at a b
      omega
theorem IVm.fl {S : SS} {n v : Int} {m m' : Cs} (h : IVm S m) (hp : PI S n) (hw : MW m m') (h9 : m' 9 = m 9) (h47 : ∀ f, 47 ≤ f → m' f = m f) (h2 : m' 2 0 = 0) (h17 : m' 17 0 = v) : IVm (flS S v) m' := by
  obtain ⟨l, hPl⟩ := hp.pl
  obtain ⟨⟨⟨g0, g1, g2, g3⟩, g4, g5, A, Bl, W, Tq, g6, g7, g8, g9⟩, r1, r2, r3, r4, r5, r6⟩ := h
  have e18 := hw.1
  have one : ∀ f, szS f = 1 → m' f (m' 18 0) = m f (m 18 0) := fun f e => by rw [e18]; exact hw.2 f _ (by rw [e]; omega) (by rw [e]; omega)
  have z1 := hPl.1
  have z2 := hPl.2.1
  refine ⟨⟨⟨by rw [e18]; exact g0, by rw [one 24 rfl]; exact g1, by rw [one 29 rfl]; exact g2, by rw [one 33 rfl]; exact g3⟩, g4.w hw, by rw [one 31 rfl]; exact g5, A, Bl, W, Tq, fun p a b => ?_, fun x a b => ?_, g8, fun k a b => by rw [h9]; exact g9 k a b⟩, ?_, ?_, ?_, ?_, ⟨h2, fun i a b => ?_⟩, h17⟩
  · have b : p < sP S 3 0 := b
    rw [e18, hw.2 25 _ (by rw [show szS 25 = 8 from rfl]; omega) (by rw [show szS 25 = 8 from rfl]; omega), hw.2 26 _ (by rw [show szS 26 = 8 from rfl]; omega) (by rw [show szS 26 = 8 from rfl]; omega), hw.2 28 _ (by rw [show szS 28 = 8 from rfl]; omega) (by rw [show szS 28 = 8 from rfl]; omega)]
    exact g6 p a b
  · have b : x < sP S 4 0 := b
    rw [e18, hw.2 30 _ (by rw [show szS 30 = 12 from rfl]; omega) (by rw [show szS 30 = 12 from rfl]; omega)]
    exact g7 x a b
  · rw [h47 50 (by decide)]; exact r1
  · rw [h47 52 (by decide), h47 53 (by decide)]; exact r2
  · rw [h47 59 (by decide), h47 60 (by decide)]; exact r3
  · rw [h47 55 (by decide), h47 56 (by decide), h47 57 (by decide)]; exact r4
  · have b : i < 0 := b
    omega
/-- that what is told flows -/
def FlN : Prop := ∀ (T : Tab) (z : Zs) (P' m : Cs) (s : Int), ZA T z → ZK z → PTo z P' → MRp s (zp z) (zc z) m → LRw s m (zt z) (zb z) → FlowC (phi (zb z)) P' (cu m 18 0 s)
end MRD
