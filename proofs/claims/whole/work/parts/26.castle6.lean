/-! Castle: some minutes, many minutes -/
theorem mul_r {x y : Int} (hx : 0 ≤ x ∧ x < 2147483648) (hy : 0 ≤ y ∧ y < 2147483648) : 0 ≤ x * y ∧ x * y < 4611686018427387904 := by
  have h1 := Int.mul_nonneg hx.1 hy.1
  have h2 : x * y ≤ 2147483647 * 2147483647 := Int.mul_le_mul (by omega) (by omega) hy.1 (by omega)
  omega
theorem c_down_f {c : Cs} {p s k : Int} {f : Nat} (h0 : f ≠ 0) (h1 : f ≠ 1) : c_down c p s f k = c f k := by
  unfold c_down
  rw [cu_f h1, cu_f h0]
theorem CK_down {B : Int} {c : Cs} {p s : Int} (h : CK B c) (hp : 0 ≤ p ∧ p < 8) (hs : 0 ≤ s ∧ s ≤ c 0 p) : CK B (c_down c p s) := by
  refine ⟨?_, fun q h1 h2 => ?_, fun k h1 h2 => ?_, ?_⟩
  · unfold c_down
    exact CI_cu (CI_cu h.1 (by decide) (by decide) (by decide)) (by decide) (by decide) (by decide)
  · have hq := h.2.1 q h1 h2
    have hpp := h.2.1 p hp.1 hp.2
    rw [c_down_f (f := 4) (by decide) (by decide)]
    unfold c_down
    simp only [cu_if, Nat.reduceEqDiff, false_and, if_false, true_and]
    by_cases e : q = p
    · subst e; simp only [if_true]; omega
    · simp only [if_neg e]; omega
  · simp only [c_down_f, ne_eq, Nat.reduceEqDiff, not_false_eq_true]; exact h.2.2.1 k h1 h2
  · simp only [c_down_f, ne_eq, Nat.reduceEqDiff, not_false_eq_true]; exact h.2.2.2
theorem CK_cu {B : Int} {c : Cs} {f : Nat} {k v : Int} (h : CK B c) (hf : f = 13 ∨ f = 14 ∨ f = 3 ∨ f = 5) : CK B (cu c f k v) := by
  refine ⟨CI_cu h.1 (by omega) (by omega) (by omega), fun q h1 h2 => ?_, fun k h1 h2 => ?_, ?_⟩
  · rw [cu_f (by omega), cu_f (by omega), cu_f (by omega)]; exact h.2.1 q h1 h2
  · rw [cu_f (by omega), cu_f (by omega), cu_f (by omega)]; exact h.2.2.1 k h1 h2
  · rw [cu_f (by omega)]; exact h.2.2.2
theorem CK_fl {B : Int} {c : Cs} {i : Int} {fl : Int → Int} (h : CK B c) : CK B (c_fl c i fl) := by
  refine ⟨⟨?_, ?_, ?_⟩, fun q h1 h2 => ?_, fun k h1 h2 => ?_, ?_⟩
  · rw [c_fl_f (by decide)]; exact h.1.1
  · intro k; rw [c_fl_f (by decide), c_fl_f (by decide)]; exact h.1.2.1 k
  · intro p; rw [c_fl_f (by decide)]; exact h.1.2.2 p
  · rw [c_fl_f (by decide), c_fl_f (by decide), c_fl_f (by decide)]; exact h.2.1 q h1 h2
  · rw [c_fl_f (by decide), c_fl_f (by decide), c_fl_f (by decide)]; exact h.2.2.1 k h1 h2
  · rw [c_fl_f (by decide)]; exact h.2.2.2
def sstep (m p : Int) (c : Cs) : Cs := if 0 < c 14 p then c_down c p (min (c 14 p * m) (c 0 p)) else c
def c_sand (N m : Int) (c : Cs) : Cs := itr (sstep m) N.toNat 0 c
theorem sstep_14 (m p : Int) (c : Cs) (k : Int) : sstep m p c 14 k = c 14 k := by
  unfold sstep
  split
  · exact c_down_f (by decide) (by decide)
  · rfl
theorem CK_sstep {B m p : Int} {c : Cs} (h : CK B c) (hp : 0 ≤ p ∧ p < 8) (hm : 0 ≤ m) : CK B (sstep m p c) := by
  unfold sstep
  split
  · rename_i h0
    have := h.2.1 p hp.1 hp.2
    have := Int.mul_nonneg (Int.le_of_lt h0) hm
    exact CK_down h hp (by omega)
  · exact h
theorem CK_sand {B m : Int} (hm : 0 ≤ m) : ∀ (n : Nat) (i : Int) (c : Cs), CK B c → 0 ≤ i → i + n ≤ 8 → CK B (itr (sstep m) n i c)
  | 0, _, _, h, _, _ => h
  | n + 1, i, c, h, h0, h1 => CK_sand hm n (i + 1) _ (CK_sstep h (by omega) hm) (by omega) (by omega)
theorem quiet_nn {c : Cs} {p a z x : Int} (h0 : 0 ≤ c 0 p) (hx : 0 ≤ x ∧ x ≤ c 0 p) : 0 ≤ c_quiet c p a z x := by
  unfold c_quiet
  split
  · omega
  · split
    · omega
    · split
      · split <;> omega
      · exact Int.ediv_nonneg (by omega) hx.1
theorem qitr {c : Cs} {N z : Int} {fl : Int → Int} (h0 : ∀ p, 0 ≤ p → p < 8 → 0 ≤ c 0 p ∧ 0 ≤ fl p ∧ fl p ≤ c 0 p) : ∀ (n : Nat) (i q : Int), 0 ≤ q → 0 ≤ i → i + n ≤ 8 → 0 ≤ itr (qstep c N z fl) n i q ∧ itr (qstep c N z fl) n i q ≤ q
  | 0, _, q, h, _, _ => ⟨h, Int.le_refl q⟩
  | n + 1, i, q, h, hi, h1 => by
    have hq : 0 ≤ qstep c N z fl i q ∧ qstep c N z fl i q ≤ q := by
      have hp := h0 i hi (by omega)
      have := quiet_nn (a := ahd N i) (z := z) hp.1 hp.2
      unfold qstep
      split <;> omega
    have := qitr (N := N) (z := z) h0 n (i + 1) (qstep c N z fl i q) hq.1 (by omega) (by omega)
    rw [itr_S]
    omega
def c_lim (P c : Cs) (most : Int) : Int := if 1 < P 5 0 then min most (60 - c 12 0 % 60) else most
def c_fls (φ : Phi) (P c : Cs) : Int → Int := fun p => flw φ P c p (pl_hour P (c 12 0))
def c_q (φ : Phi) (P : Cs) (z : Int) (c : Cs) (most : Int) : Int := itr (qstep c (P 3 0) z (c_fls φ P c)) (P 3 0).toNat 0 (c_lim P c most)
/-- how many minutes go by -/
def c_some (φ : Phi) (P : Cs) (z : Int) (c : Cs) (most : Int) : Int := min (c_q φ P z c most + 1) (c_lim P c most)
def c_end (P c : Cs) (q m : Int) : Cs := if q < m then c_count (c_fill (P 3 0) (c_relAll (P 3 0) (if 0 < q then c_count c (P 4 0) q else c))) (P 4 0) 1 else (if 0 < q then c_count c (P 4 0) q else c)
/-- the castle then -/
def c_pass (φ : Phi) (P : Cs) (z : Int) (c : Cs) (most : Int) : Cs := c_end P (cu (c_sand (P 3 0) (c_some φ P z c most) (c_fl c (P 3 0) (c_fls φ P c))) 13 0 0) (c_q φ P z c most) (c_some φ P z c most)
theorem fls_in {φ : Phi} {P c : Cs} {B : Int} (h : CK B c) : ∀ p, 0 ≤ p → p < 8 → 0 ≤ c 0 p ∧ 0 ≤ c_fls φ P c p ∧ c_fls φ P c p ≤ c 0 p := fun p h1 h2 => ⟨(h.2.1 p h1 h2).1, flw_in (h.2.1 p h1 h2).1⟩
theorem c_lim_in {P c : Cs} {most : Int} (hm : 1 ≤ most) : 1 ≤ c_lim P c most ∧ c_lim P c most ≤ most := by
  unfold c_lim
  split <;> omega
theorem c_q_in {φ : Phi} {P l c : Cs} {B z most : Int} (hP : PlanOk P l φ) (h : CK B c) (hm : 1 ≤ most) : 0 ≤ c_q φ P z c most ∧ c_q φ P z c most ≤ c_lim P c most := by
  have h1 := hP.1
  have := c_lim_in (P := P) (c := c) hm
  exact qitr (fls_in h) _ 0 _ (by omega) (by omega) (by omega)
theorem c_some_in {φ : Phi} {P l c : Cs} {B z most : Int} (hP : PlanOk P l φ) (h : CK B c) (hm : 1 ≤ most) : 1 ≤ c_some φ P z c most ∧ c_some φ P z c most ≤ most := by
  have h1 := c_q_in (z := z) hP h hm
  have := c_lim_in (P := P) (c := c) hm
  unfold c_some
  omega
theorem CK_end {P l c : Cs} {φ : Phi} {B q m : Int} (hP : PlanOk P l φ) (h : CK B c) (hB : 0 ≤ B) (hq : 0 ≤ q) : CK (B + q + 9) (c_end P c q m) := by
  have h1 := hP.1
  have h3 : CK (B + q) (if 0 < q then c_count c (P 4 0) q else c) := by
    split
    · exact CK_count h hq
    · exact h.mono (by omega)
  unfold c_end
  split
  · have h4 := CK_relAll h1.2 (P 3 0).toNat 0 (B + q) _ h3 (by omega) (by omega) (by omega)
    have h5 := CK_fill (by omega) (P 3 0).toNat 0 _ h4
    have h6 := CK_count (G := P 4 0) (m := 1) h5 (by omega)
    exact h6.mono (by omega)
  · exact h3.mono (by omega)
theorem CK_pass {P l c : Cs} {φ : Phi} {B z most : Int} (hP : PlanOk P l φ) (h : CK B c) (hB : 0 ≤ B) (hm : 1 ≤ most) : CK (B + c_q φ P z c most + 9) (c_pass φ P z c most) := by
  have h1 := hP.1
  have h2 := c_q_in (z := z) hP h hm
  have h3 := c_some_in (z := z) hP h hm
  exact CK_end hP (CK_cu (CK_sand (by omega) _ 0 _ (CK_fl h) (by omega) (by omega)) (Or.inl rfl)) hB h2.1
set_option maxHeartbeats 2000000 in
theorem l_Ca_passSome {g : Mach} {Q : Int → St → Prop} (C : Cx M_Ca_passSome g) (F : FinI M_Ca_passSome g Q) {σ : St} {o : Nat} {l : Cs} {φ : Phi} {most lim q m B : Int} (hc : o ∈ castles) (hPl : PlanOk (σ 7) l φ) (hm : 1 ≤ m ∧ m < 1000000) (hq : 0 ≤ q ∧ q < 1000000) (hB : 0 ≤ B ∧ B < 1000000000) :
    ∀ (n : Nat) (i : Int) (c : Cs), 0 ≤ i → i + n = σ 7 3 0 → CK B c → (∀ p, 0 ≤ p → p < 8 → 0 ≤ c 14 p ∨ σ 7 3 0 ≤ p) → Q m (so (so σ 8 l) o (c_end (σ 7) (cu (itr (sstep m) n i c) 13 0 0) q m)) → Ev g 48 [some (.inr (.inr (o, 0))), some (.inr (.inr (7, 0))), some (.inl most), some (.inl lim), some (.inl q), some (.inl m), some (.inl i), none, none] [] (so (so σ 8 l) o c) := by
  have h_o := cas_obj hc
  have c_o := cas_cls hc
  have h7 := cas_ne (n := 7) hc (by decide)
  have hN := hPl.1
  have hG := hPl.2.1
  intro n
  induction n with
  | zero =>
    intro i c hi h1 hK h14 hQ
    simp only [itr] at hQ
    have hK0 : CK B (cu c 13 0 0) := CK_cu hK (Or.inl rfl)
    unfold c_end at hQ
    refine e_iload C d_Ca_passSome_48 rfl ?_
    refine e_aload_n C d_Ca_passSome_50 rfl ?_
    refine e_geti C fl_Ca_86 (by decide) rfl rfl d_Ca_passSome_51 (fun r_51 => ?_)
    try simp only [so_at, so_ne h7, so_78, wr_so, so_so] at r_51 ⊢
    refine e_icmp_ge C 107 d_Ca_passSome_54 (by decide) (by omega) (by omega) (fun c_54 => ?_) (fun c_54 => ?_)
    · refine e_aload_n C d_Ca_passSome_107 rfl ?_
      refine e_iconst C d_Ca_passSome_108 ?_
      refine e_puti C fp_Ca_96 h_o c_o rfl (by omega) d_Ca_passSome_109 ?_
      try simp only [so_at, so_ne h7, so_78, wr_so, so_so]
      refine e_iload C d_Ca_passSome_112 rfl ?_
      refine e_if_le C 127 d_Ca_passSome_114 (by decide) (by omega) (fun c_114 => ?_) (fun c_114 => ?_)
      · rw [if_neg (show ¬ 0 < q by omega)] at hQ
        have hK1 : CK (B + q) (cu c 13 0 0) := hK0.mono (by omega)
        refine e_iload C d_Ca_passSome_127 rfl ?_
        refine e_iload C d_Ca_passSome_129 rfl ?_
        refine e_icmp_le C 159 d_Ca_passSome_131 (by decide) (by omega) (by omega) (fun c_131 => ?_) (fun c_131 => ?_)
        · rw [if_neg (by omega)] at hQ
          refine e_iload C d_Ca_passSome_159 rfl ?_
          refine e_iret C F rfl d_Ca_passSome_161 (by omega) ?_
          exact hQ
        · rw [if_pos (by omega)] at hQ
          refine e_aload_n C d_Ca_passSome_134 rfl ?_
          refine e_aload_n C d_Ca_passSome_135 rfl ?_
          refine e_geti C fl_Ca_86 (by decide) rfl rfl d_Ca_passSome_136 (fun r_136 => ?_)
          try simp only [so_at, so_ne h7, so_78, wr_so, so_so] at r_136 ⊢
          refine e_callVV C ok_Ca_relieveAll lk_Ca_105 (o := o) h_o (by rw [c_o]; rfl) [_] rfl rfl (Nat.le_of_ble_eq_true rfl) (by decide) (Nat.le_of_ble_eq_true rfl) d_Ca_passSome_139 (s_Ca_relieveAll hc hN hK1 (by omega) (by omega)) (fun u_139 h_139 => ?_)
          subst h_139
          have hK2 := CK_relAll hN.2 (σ 7 3 0).toNat 0 (B + q) _ hK1 (by omega) (by omega) (by omega)
          refine e_aload_n C d_Ca_passSome_142 rfl ?_
          refine e_aload_n C d_Ca_passSome_143 rfl ?_
          refine e_geti C fl_Ca_86 (by decide) rfl rfl d_Ca_passSome_144 (fun r_144 => ?_)
          try simp only [so_at, so_ne h7, so_78, wr_so, so_so] at r_144 ⊢
          refine e_callVV C ok_Ca_fillAll lk_Ca_109 (o := o) h_o (by rw [c_o]; rfl) [_] rfl rfl (Nat.le_of_ble_eq_true rfl) (by decide) (Nat.le_of_ble_eq_true rfl) d_Ca_passSome_147 (s_Ca_fillAll hc hN hK2.1) (fun u_147 h_147 => ?_)
          subst h_147
          have hK3 := CK_fill (by omega) (σ 7 3 0).toNat 0 _ hK2
          refine e_aload_n C d_Ca_passSome_150 rfl ?_
          refine e_aload_n C d_Ca_passSome_151 rfl ?_
          refine e_geti C fl_Ca_99 (by decide) rfl rfl d_Ca_passSome_152 (fun r_152 => ?_)
          try simp only [so_at, so_ne h7, so_78, wr_so, so_so] at r_152 ⊢
          refine e_iconst C d_Ca_passSome_155 ?_
          refine e_callVV C ok_Ca_countMinutes lk_Ca_102 (o := o) h_o (by rw [c_o]; rfl) [_, _] rfl rfl (Nat.le_of_ble_eq_true rfl) (by decide) (Nat.le_of_ble_eq_true rfl) d_Ca_passSome_156 (s_Ca_countMinutes hc hG (by omega) hK3 (by omega)) (fun u_156 h_156 => ?_)
          subst h_156
          refine e_iload C d_Ca_passSome_159 rfl ?_
          refine e_iret C F rfl d_Ca_passSome_161 (by omega) ?_
          exact hQ
      · rw [if_pos (show 0 < q by omega)] at hQ
        refine e_aload_n C d_Ca_passSome_117 rfl ?_
        refine e_aload_n C d_Ca_passSome_118 rfl ?_
        refine e_geti C fl_Ca_99 (by decide) rfl rfl d_Ca_passSome_119 (fun r_119 => ?_)
        try simp only [so_at, so_ne h7, so_78, wr_so, so_so] at r_119 ⊢
        refine e_iload C d_Ca_passSome_122 rfl ?_
        refine e_callVV C ok_Ca_countMinutes lk_Ca_102 (o := o) h_o (by rw [c_o]; rfl) [_, _] rfl rfl (Nat.le_of_ble_eq_true rfl) (by decide) (Nat.le_of_ble_eq_true rfl) d_Ca_passSome_124 (s_Ca_countMinutes hc hG hq.1 hK0 (by omega)) (fun u_124 h_124 => ?_)
        subst h_124
        have hK1 := CK_count (G := σ 7 4 0) (m := q) hK0 hq.1
        refine e_iload C d_Ca_passSome_127 rfl ?_
        refine e_iload C d_Ca_passSome_129 rfl ?_
        refine e_icmp_le C 159 d_Ca_passSome_131 (by decide) (by omega) (by omega) (fun c_131 => ?_) (fun c_131 => ?_)
        · rw [if_neg (by omega)] at hQ
          refine e_iload C d_Ca_passSome_159 rfl ?_
          refine e_iret C F rfl d_Ca_passSome_161 (by omega) ?_
          exact hQ
        · rw [if_pos (by omega)] at hQ
          refine e_aload_n C d_Ca_passSome_134 rfl ?_
          refine e_aload_n C d_Ca_passSome_135 rfl ?_
          refine e_geti C fl_Ca_86 (by decide) rfl rfl d_Ca_passSome_136 (fun r_136 => ?_)
          try simp only [so_at, so_ne h7, so_78, wr_so, so_so] at r_136 ⊢
          refine e_callVV C ok_Ca_relieveAll lk_Ca_105 (o := o) h_o (by rw [c_o]; rfl) [_] rfl rfl (Nat.le_of_ble_eq_true rfl) (by decide) (Nat.le_of_ble_eq_true rfl) d_Ca_passSome_139 (s_Ca_relieveAll hc hN hK1 (by omega) (by omega)) (fun u_139 h_139 => ?_)
          subst h_139
          have hK2 := CK_relAll hN.2 (σ 7 3 0).toNat 0 (B + q) _ hK1 (by omega) (by omega) (by omega)
          refine e_aload_n C d_Ca_passSome_142 rfl ?_
          refine e_aload_n C d_Ca_passSome_143 rfl ?_
          refine e_geti C fl_Ca_86 (by decide) rfl rfl d_Ca_passSome_144 (fun r_144 => ?_)
          try simp only [so_at, so_ne h7, so_78, wr_so, so_so] at r_144 ⊢
          refine e_callVV C ok_Ca_fillAll lk_Ca_109 (o := o) h_o (by rw [c_o]; rfl) [_] rfl rfl (Nat.le_of_ble_eq_true rfl) (by decide) (Nat.le_of_ble_eq_true rfl) d_Ca_passSome_147 (s_Ca_fillAll hc hN hK2.1) (fun u_147 h_147 => ?_)
          subst h_147
          have hK3 := CK_fill (by omega) (σ 7 3 0).toNat 0 _ hK2
          refine e_aload_n C d_Ca_passSome_150 rfl ?_
          refine e_aload_n C d_Ca_passSome_151 rfl ?_
          refine e_geti C fl_Ca_99 (by decide) rfl rfl d_Ca_passSome_152 (fun r_152 => ?_)
          try simp only [so_at, so_ne h7, so_78, wr_so, so_so] at r_152 ⊢
          refine e_iconst C d_Ca_passSome_155 ?_
          refine e_callVV C ok_Ca_countMinutes lk_Ca_102 (o := o) h_o (by rw [c_o]; rfl) [_, _] rfl rfl (Nat.le_of_ble_eq_true rfl) (by decide) (Nat.le_of_ble_eq_true rfl) d_Ca_passSome_156 (s_Ca_countMinutes hc hG (by omega) hK3 (by omega)) (fun u_156 h_156 => ?_)
          subst h_156
          refine e_iload C d_Ca_passSome_159 rfl ?_
          refine e_iret C F rfl d_Ca_passSome_161 (by omega) ?_
          exact hQ
    · exact absurd h1 (by omega)
  | succ n ih =>
    intro i c hi h1 hK h14 hQ
    have h14i := h14 i hi (by omega)
    have hKi := hK.2.1 i hi (by omega)
    have hml := mul_r (x := c 14 i) (y := m)
    rw [itr_S] at hQ
    have hKS := CK_sstep (p := i) (m := m) hK (by omega) (by omega)
    have h14S : ∀ p, 0 ≤ p → p < 8 → 0 ≤ sstep m i c 14 p ∨ σ 7 3 0 ≤ p := by intro p; rw [sstep_14]; exact h14 p
    refine e_iload C d_Ca_passSome_48 rfl ?_
    refine e_aload_n C d_Ca_passSome_50 rfl ?_
    refine e_geti C fl_Ca_86 (by decide) rfl rfl d_Ca_passSome_51 (fun r_51 => ?_)
    try simp only [so_at, so_ne h7, so_78, wr_so, so_so] at r_51 ⊢
    refine e_icmp_ge C 107 d_Ca_passSome_54 (by decide) (by omega) (by omega) (fun c_54 => ?_) (fun c_54 => ?_)
    · exact absurd h1 (by omega)
    · refine e_aload_n C d_Ca_passSome_57 rfl ?_
      refine e_geta C fl_Ca_46 h_o c_o rfl d_Ca_passSome_58 ?_
      refine e_iload C d_Ca_passSome_61 rfl ?_
      refine e_iald (n := 8) C h_o c_o (by decide) rfl rfl (by decide) (by omega) (by omega) d_Ca_passSome_63 (fun r_63 => ?_)
      try simp only [so_at, so_ne h7, so_78, wr_so, so_so] at r_63 ⊢
      refine e_if_le C 101 d_Ca_passSome_64 (by decide) (by omega) (fun c_64 => ?_) (fun c_64 => ?_)
      · have e : sstep m i c = c := by unfold sstep; rw [if_neg (by omega)]
        refine e_iinc C d_Ca_passSome_101 rfl (by decide) rfl ?_
        refine e_goto C 48 d_Ca_passSome_104 (by decide) ?_
        refine e_drop 7 ?_
        rw [e] at hQ hKS h14S
        exact ih (i + 1) _ (by omega) (by omega) hKS h14S hQ
      · have e : sstep m i c = c_down c i (min (c 14 i * m) (c 0 i)) := by unfold sstep; rw [if_pos (by omega)]
        refine e_aload_n C d_Ca_passSome_67 rfl ?_
        refine e_geta C fl_Ca_46 h_o c_o rfl d_Ca_passSome_68 ?_
        refine e_iload C d_Ca_passSome_71 rfl ?_
        refine e_iald (n := 8) C h_o c_o (by decide) rfl rfl (by decide) (by omega) (by omega) d_Ca_passSome_73 (fun r_73 => ?_)
        try simp only [so_at, so_ne h7, so_78, wr_so, so_so] at r_73 ⊢
        refine e_i2l C d_Ca_passSome_74 (by omega) ?_
        refine e_iload C d_Ca_passSome_75 rfl ?_
        refine e_i2l C d_Ca_passSome_77 (by omega) ?_
        refine e_lmul C d_Ca_passSome_78 ?_
        refine e_lstore C d_Ca_passSome_79 (by decide) rfl ?_
        have hm2 := hml (by omega) (by omega)
        refine e_aload_n C d_Ca_passSome_81 rfl ?_
        refine e_iload C d_Ca_passSome_82 rfl ?_
        refine e_lload C d_Ca_passSome_84 rfl ?_
        refine e_aload_n C d_Ca_passSome_86 rfl ?_
        refine e_geta C fl_Ca_9 h_o c_o rfl d_Ca_passSome_87 ?_
        refine e_iload C d_Ca_passSome_90 rfl ?_
        refine e_iald (n := 8) C h_o c_o (by decide) rfl rfl (by decide) (by omega) (by omega) d_Ca_passSome_92 (fun r_92 => ?_)
        try simp only [so_at, so_ne h7, so_78, wr_so, so_so] at r_92 ⊢
        refine e_i2l C d_Ca_passSome_93 (by omega) ?_
        refine e_lmin C lk_Ca_89 d_Ca_passSome_94 (by decide) (Nat.le_of_ble_eq_true rfl) (by omega) (by omega) ?_
        refine e_l2i C d_Ca_passSome_97 ?_
        refine e_callVV C ok_Ca_runDown lk_Ca_92 (o := o) h_o (by rw [c_o]; rfl) [_, _] rfl rfl (Nat.le_of_ble_eq_true rfl) (by decide) (Nat.le_of_ble_eq_true rfl) d_Ca_passSome_98 (s_Ca_runDown hc (by omega) (by omega) (by omega)) (fun u_98 h_98 => ?_)
        subst h_98
        refine e_iinc C d_Ca_passSome_101 rfl (by decide) rfl ?_
        refine e_goto C 48 d_Ca_passSome_104 (by decide) ?_
        refine e_drop 7 ?_
        rw [e] at hQ hKS h14S
        exact ih (i + 1) _ (by omega) (by omega) hKS h14S hQ
set_option maxHeartbeats 2000000 in
theorem s_Ca_passSome {σ : St} {o : Nat} {c l : Cs} {φ : Phi} {most B : Int} (hc : o ∈ castles) (hPl : PlanOk (σ 7) l φ) (hK : CK B c) (hB : 0 ≤ B ∧ B < 900000000) (hm : 1 ≤ most ∧ most ≤ 10000) : CtI M_Ca_passSome [.inr (.inr (o, 0)), .inr (.inr (7, 0)), .inl most] (so (so σ 8 l) o c) (fun r u => r = c_some φ (σ 7) (l 0 0) c most ∧ ∃ l', LSm l l' ∧ u = so (so σ 8 l') o (c_pass φ (σ 7) (l 0 0) c most)) := by
  intro g C F
  have h_o := cas_obj hc
  have c_o := cas_cls hc
  have h7 := cas_ne (n := 7) hc (by decide)
  have hN := hPl.1
  have hH := hPl.2.2.1
  have hK3 := hK.2.2.2
  have hlim := c_lim_in (P := σ 7) (c := c) hm.1
  have hqi := c_q_in (z := l 0 0) hPl hK hm.1
  have hsi := c_some_in (z := l 0 0) hPl hK hm.1
  have h0 : ∀ p, 0 ≤ p → p < 8 → 0 ≤ c 0 p := fun p a b => (hK.2.1 p a b).1
  refine e_aload_n C d_Ca_passSome_0 rfl ?_
  refine e_geti C fl_Ca_75 (by decide) rfl rfl d_Ca_passSome_1 (fun r_1 => ?_)
  try simp only [so_at, so_ne h7, so_78] at r_1 ⊢
  refine e_iconst C d_Ca_passSome_4 ?_
  refine e_icmp_le C 25 d_Ca_passSome_5 (by decide) (by omega) (by omega) (fun c_5 => ?_) (fun c_5 => ?_)
  · have elim : c_lim (σ 7) c most = most := by unfold c_lim; rw [if_neg (by omega)]
    rw [← elim] at hm ⊢
    refine e_iload_n C d_Ca_passSome_25 rfl ?_
    refine e_istore_n C d_Ca_passSome_26 (by decide) rfl ?_
    refine e_aload_n C d_Ca_passSome_27 rfl ?_
    refine e_aload_n C d_Ca_passSome_28 rfl ?_
    refine e_iload_n C d_Ca_passSome_29 rfl ?_
    refine e_callIV C ok_Ca_lookAhead lk_Ca_83 (o := o) h_o (by rw [c_o]; rfl) [_, _] rfl rfl (Nat.le_of_ble_eq_true rfl) (by decide) (Nat.le_of_ble_eq_true rfl) d_Ca_passSome_30 (s_Ca_lookAhead hc hPl h0 hK3.1 (by omega)) (fun v_30 u_30 q_30 h_30 => ?_)
    obtain ⟨h_30, l1, hl1, rfl⟩ := h_30
    have eq : v_30 = c_q φ (σ 7) (l 0 0) c most := by rw [h_30]; unfold c_q; simp only [elim]; rfl
    subst eq
    refine e_istore C d_Ca_passSome_33 (by decide) rfl ?_
    refine e_iload C d_Ca_passSome_35 rfl ?_
    refine e_iconst C d_Ca_passSome_37 ?_
    refine e_iadd C d_Ca_passSome_38 ?_
    refine e_iload_n C d_Ca_passSome_39 rfl ?_
    refine e_mmin C lk_Ca_80 d_Ca_passSome_40 (by decide) (Nat.le_of_ble_eq_true rfl) (by omega) (by omega) ?_
    refine e_istore C d_Ca_passSome_43 (by decide) rfl ?_
    refine e_iconst C d_Ca_passSome_45 ?_
    refine e_istore C d_Ca_passSome_46 (by decide) rfl ?_
    refine l_Ca_passSome (m := c_some φ (σ 7) (l 0 0) c most) (q := c_q φ (σ 7) (l 0 0) c most) (B := B) C F hc (hPl.same hl1) (by omega) (by omega) (by omega) (σ 7 3 0).toNat 0 _ (by omega) (by omega) (CK_fl hK) ?_ ⟨rfl, l1, hl1, rfl⟩
    intro p a b
    by_cases e : p < σ 7 3 0
    · left; rw [c_fl_at ⟨a, e⟩]; exact (flw_in (h0 p a b)).1
    · right; omega
  · refine e_iload_n C d_Ca_passSome_8 rfl ?_
    refine e_bipush C d_Ca_passSome_9 (by decide) ?_
    refine e_aload_n C d_Ca_passSome_11 rfl ?_
    refine e_geti C fl_Ca_62 h_o c_o rfl d_Ca_passSome_12 (fun r_12 => ?_)
    try simp only [so_at, so_ne h7, so_78] at r_12 ⊢
    refine e_bipush C d_Ca_passSome_15 (by decide) ?_
    refine e_irem C d_Ca_passSome_17 (by omega) (by omega) (by omega) ?_
    rw [Int.tmod_eq_emod_of_nonneg (by omega)]
    have b1 := Int.emod_nonneg (c 12 0) (b := 60) (by omega)
    have b2 := Int.emod_lt_of_pos (c 12 0) (show (0 : Int) < 60 by omega)
    refine e_isub C d_Ca_passSome_18 ?_
    refine e_mmin C lk_Ca_80 d_Ca_passSome_19 (by decide) (Nat.le_of_ble_eq_true rfl) (by omega) (by omega) ?_
    have elim : c_lim (σ 7) c most = min most (60 - c 12 0 % 60) := by unfold c_lim; rw [if_pos (by omega)]
    rw [← elim]
    refine e_goto C 26 d_Ca_passSome_22 (by decide) ?_
    refine e_istore_n C d_Ca_passSome_26 (by decide) rfl ?_
    refine e_aload_n C d_Ca_passSome_27 rfl ?_
    refine e_aload_n C d_Ca_passSome_28 rfl ?_
    refine e_iload_n C d_Ca_passSome_29 rfl ?_
    refine e_callIV C ok_Ca_lookAhead lk_Ca_83 (o := o) h_o (by rw [c_o]; rfl) [_, _] rfl rfl (Nat.le_of_ble_eq_true rfl) (by decide) (Nat.le_of_ble_eq_true rfl) d_Ca_passSome_30 (s_Ca_lookAhead hc hPl h0 hK3.1 (by omega)) (fun v_30 u_30 q_30 h_30 => ?_)
    obtain ⟨h_30, l1, hl1, rfl⟩ := h_30
    have eq : v_30 = c_q φ (σ 7) (l 0 0) c most := by rw [h_30]; unfold c_q; simp only [elim]; rfl
    subst eq
    refine e_istore C d_Ca_passSome_33 (by decide) rfl ?_
    refine e_iload C d_Ca_passSome_35 rfl ?_
    refine e_iconst C d_Ca_passSome_37 ?_
    refine e_iadd C d_Ca_passSome_38 ?_
    refine e_iload_n C d_Ca_passSome_39 rfl ?_
    refine e_mmin C lk_Ca_80 d_Ca_passSome_40 (by decide) (Nat.le_of_ble_eq_true rfl) (by omega) (by omega) ?_
    refine e_istore C d_Ca_passSome_43 (by decide) rfl ?_
    refine e_iconst C d_Ca_passSome_45 ?_
    refine e_istore C d_Ca_passSome_46 (by decide) rfl ?_
    refine l_Ca_passSome (m := c_some φ (σ 7) (l 0 0) c most) (q := c_q φ (σ 7) (l 0 0) c most) (B := B) C F hc (hPl.same hl1) (by omega) (by omega) (by omega) (σ 7 3 0).toNat 0 _ (by omega) (by omega) (CK_fl hK) ?_ ⟨rfl, l1, hl1, rfl⟩
    intro p a b
    by_cases e : p < σ 7 3 0
    · left; rw [c_fl_at ⟨a, e⟩]; exact (flw_in (h0 p a b)).1
    · right; omega
