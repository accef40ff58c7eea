/-! Castle: bed, places, copies, counts -/
def itr {α : Type} (f : Int → α → α) : Nat → Int → α → α
  | 0, _, x => x
  | n + 1, i, x => itr f n (i + 1) (f i x)
theorem itr_S {α : Type} (f : Int → α → α) (n : Nat) (i : Int) (x : α) : itr f (n + 1) i x = itr f n (i + 1) (f i x) := rfl
theorem so_inj {σ : St} {o : Nat} {c d : Cs} (h : c = d) : so σ o c = so σ o d := by rw [h]
def c_lie (c : Cs) (a : Int) : Cs := if c 11 0 < 12 then cu (cu (cu (cu c 6 a (-2)) 8 a 0) 11 0 (c 11 0 + 1)) 10 (c 11 0) a else cu (cu c 6 a (-2)) 8 a 0
theorem k_Ca_lieBehindAll {σ : St} {o : Nat} {a : Int} (hc : o ∈ castles) (ha : 0 ≤ a ∧ a < 12) (h0 : 0 ≤ σ o 11 0) : CtV M_Ca_lieBehindAll [.inr (.inr (o, 0)), .inl a] σ (fun u => u = so σ o (c_lie (σ o) a)) := by
  intro g C F
  have h_o := cas_obj hc
  have c_o := cas_cls hc
  refine e_aload_n C d_Ca_lieBehindAll_0 rfl ?_
  refine e_geta C fl_Ca_31 h_o c_o rfl d_Ca_lieBehindAll_1 ?_
  refine e_iload_n C d_Ca_lieBehindAll_4 rfl ?_
  refine e_bipush C d_Ca_lieBehindAll_5 (by decide) ?_
  refine e_iast (n := 12) C h_o c_o (by decide) rfl rfl (by decide) (by omega) (by omega) (by omega) d_Ca_lieBehindAll_7 ?_
  try simp only [wr_so, so_so, so_at, cu_f, ne_eq, Nat.reduceEqDiff, not_false_eq_true]
  refine e_aload_n C d_Ca_lieBehindAll_8 rfl ?_
  refine e_geta C fl_Ca_37 h_o c_o rfl d_Ca_lieBehindAll_9 ?_
  refine e_iload_n C d_Ca_lieBehindAll_12 rfl ?_
  refine e_iconst C d_Ca_lieBehindAll_13 ?_
  refine e_iast (n := 12) C h_o c_o (by decide) rfl rfl (by decide) (by omega) (by omega) (by omega) d_Ca_lieBehindAll_14 ?_
  try simp only [wr_so, so_so, so_at, cu_f, ne_eq, Nat.reduceEqDiff, not_false_eq_true]
  refine e_aload_n C d_Ca_lieBehindAll_15 rfl ?_
  refine e_geti C fl_Ca_52 h_o c_o rfl d_Ca_lieBehindAll_16 (fun r_16 => ?_)
  try simp only [wr_so, so_so, so_at, cu_f, ne_eq, Nat.reduceEqDiff, not_false_eq_true] at r_16 ⊢
  refine e_bipush C d_Ca_lieBehindAll_19 (by decide) ?_
  refine e_icmp_ge C 41 d_Ca_lieBehindAll_21 (by decide) (by omega) (by omega) (fun c_21 => ?_) (fun c_21 => ?_)
  · refine e_vret C F rfl d_Ca_lieBehindAll_41 ?_
    refine so_inj ?_
    unfold c_lie
    first | rw [if_pos (by omega)] | rw [if_neg (by omega)]
  · refine e_aload_n C d_Ca_lieBehindAll_24 rfl ?_
    refine e_geta C fl_Ca_43 h_o c_o rfl d_Ca_lieBehindAll_25 ?_
    refine e_aload_n C d_Ca_lieBehindAll_28 rfl ?_
    refine e_dup C d_Ca_lieBehindAll_29 rfl ?_
    refine e_geti C fl_Ca_52 h_o c_o rfl d_Ca_lieBehindAll_30 (fun r_30 => ?_)
    try simp only [wr_so, so_so, so_at, cu_f, ne_eq, Nat.reduceEqDiff, not_false_eq_true] at r_30 ⊢
    refine e_dup_x1 C d_Ca_lieBehindAll_33 rfl rfl ?_
    refine e_iconst C d_Ca_lieBehindAll_34 ?_
    refine e_iadd C d_Ca_lieBehindAll_35 ?_
    refine e_puti C fp_Ca_52 h_o c_o rfl (by omega) d_Ca_lieBehindAll_36 ?_
    try simp only [wr_so, so_so, so_at, cu_f, ne_eq, Nat.reduceEqDiff, not_false_eq_true]
    refine e_iload_n C d_Ca_lieBehindAll_39 rfl ?_
    refine e_iast (n := 12) C h_o c_o (by decide) rfl rfl (by decide) (by omega) (by omega) (by omega) d_Ca_lieBehindAll_40 ?_
    try simp only [wr_so, so_so, so_at, cu_f, ne_eq, Nat.reduceEqDiff, not_false_eq_true]
    refine e_vret C F rfl d_Ca_lieBehindAll_41 ?_
    refine so_inj ?_
    unfold c_lie
    first | rw [if_pos (by omega)] | rw [if_neg (by omega)]
/-- who lies at a place gets up -/
def c_up (c : Cs) (k : Int) : Cs := fun f j => if f = 11 ∧ j = 0 then c 11 0 - 1 else if f = 10 ∧ k ≤ j ∧ j < c 11 0 - 1 then c 10 (j + 1) else c f j
def c_bed (c : Cs) (k i : Int) : Cs := fun f j => if f = 11 ∧ j = 0 then c 11 0 - 1 else if f = 10 ∧ k ≤ j ∧ j < i then c 10 (j + 1) else c f j
theorem c_bed_0 (c : Cs) (k : Int) : c_bed c k k = cu c 11 0 (c 11 0 - 1) := by
  funext f j
  unfold c_bed cu
  by_cases h : f = 11 ∧ j = 0
  · rw [if_pos h, if_pos h]
  · rw [if_neg h, if_neg h, if_neg (by omega)]
theorem c_bed_S {c : Cs} {k i : Int} (h : k ≤ i) : cu (c_bed c k i) 10 i (c_bed c k i 10 (i + 1)) = c_bed c k (i + 1) := by
  funext f j
  unfold c_bed cu
  by_cases h1 : f = 10 ∧ j = i
  · obtain ⟨rfl, rfl⟩ := h1
    rw [if_pos ⟨rfl, rfl⟩, if_neg (by omega), if_neg (by omega), if_neg (by omega), if_pos ⟨rfl, h, by omega⟩]
  · rw [if_neg h1]
    dsimp only
    by_cases h2 : f = 11 ∧ j = 0
    · rw [if_pos h2, if_pos h2]
    · rw [if_neg h2, if_neg h2]
      by_cases h3 : f = 10 ∧ k ≤ j ∧ j < i
      · rw [if_pos h3, if_pos ⟨h3.1, h3.2.1, by omega⟩]
      · rw [if_neg h3, if_neg (fun z => h3 ⟨z.1, z.2.1, by have := z.2.2; have : j ≠ i := fun e => h1 ⟨z.1, e⟩; omega⟩)]
theorem c_bed_11 (c : Cs) (k i : Int) : c_bed c k i 11 0 = c 11 0 - 1 := by unfold c_bed; rw [if_pos ⟨rfl, rfl⟩]
set_option maxHeartbeats 1000000 in
theorem l_Ca_leaveBed {g : Mach} {P : Int → St → Prop} (C : Cx M_Ca_leaveBed g) (F : FinI M_Ca_leaveBed g P) {σ : St} {o : Nat} {c : Cs} {k x : Int} (h_o : o ∈ objs) (c_o : cls o = 0) (hk : 0 ≤ k) (hl : c 11 0 ≤ 12) (hx : R32 x) (hP : P x (so σ o (c_up c k))) :
    ∀ (n : Nat) (i : Int), k ≤ i → i + n = c 11 0 - 1 → Ev g 33 [some (.inr (.inr (o, 0))), some (.inl k), some (.inl x), some (.inl i)] [] (so σ o (c_bed c k i)) := by
  intro n
  induction n with
  | zero =>
    intro i h1 h2
    refine e_iload_n C d_Ca_leaveBed_33 rfl ?_
    refine e_aload_n C d_Ca_leaveBed_34 rfl ?_
    refine e_geti C fl_Ca_52 h_o c_o rfl d_Ca_leaveBed_35 (fun r_35 => ?_)
    try simp only [wr_so, so_so, so_at, c_bed_11] at r_35 ⊢
    refine e_icmp_ge C 61 d_Ca_leaveBed_38 (by decide) (by omega) (by omega) (fun c_38 => ?_) (fun c_38 => ?_)
    · refine e_iload_n C d_Ca_leaveBed_61 rfl ?_
      refine e_iret C F rfl d_Ca_leaveBed_62 (by omega) ?_
      have e : c_bed c k i = c_up c k := by
        funext f j
        unfold c_bed c_up
        rw [show i = c 11 0 - 1 by omega]
      rw [e]
      exact hP
    · exact absurd h2 (by omega)
  | succ n ih =>
    intro i h1 h2
    refine e_iload_n C d_Ca_leaveBed_33 rfl ?_
    refine e_aload_n C d_Ca_leaveBed_34 rfl ?_
    refine e_geti C fl_Ca_52 h_o c_o rfl d_Ca_leaveBed_35 (fun r_35 => ?_)
    try simp only [wr_so, so_so, so_at, c_bed_11] at r_35 ⊢
    refine e_icmp_ge C 61 d_Ca_leaveBed_38 (by decide) (by omega) (by omega) (fun c_38 => ?_) (fun c_38 => ?_)
    · exact absurd h2 (by omega)
    · refine e_aload_n C d_Ca_leaveBed_41 rfl ?_
      refine e_geta C fl_Ca_43 h_o c_o rfl d_Ca_leaveBed_42 ?_
      refine e_iload_n C d_Ca_leaveBed_45 rfl ?_
      refine e_aload_n C d_Ca_leaveBed_46 rfl ?_
      refine e_geta C fl_Ca_43 h_o c_o rfl d_Ca_leaveBed_47 ?_
      refine e_iload_n C d_Ca_leaveBed_50 rfl ?_
      refine e_iconst C d_Ca_leaveBed_51 ?_
      refine e_iadd C d_Ca_leaveBed_52 ?_
      refine e_iald (n := 12) C h_o c_o (by decide) rfl rfl (by decide) (by omega) (by omega) d_Ca_leaveBed_53 (fun r_53 => ?_)
      try simp only [wr_so, so_so, so_at, c_bed_11] at r_53 ⊢
      refine e_iast (n := 12) C h_o c_o (by decide) rfl rfl (by decide) (by omega) (by omega) (by omega) d_Ca_leaveBed_54 ?_
      try simp only [wr_so, so_so, so_at, c_bed_11]
      refine e_iinc C d_Ca_leaveBed_55 rfl (by decide) rfl ?_
      refine e_goto C 33 d_Ca_leaveBed_58 (by decide) ?_
      rw [c_bed_S h1]
      exact ih (i + 1) (by omega) (by omega)
theorem k_Ca_leaveBed {σ : St} {o : Nat} {k : Int} (hc : o ∈ castles) (hl : σ o 11 0 ≤ 12) (h0 : 0 ≤ k) (h1 : k < σ o 11 0) : CtI M_Ca_leaveBed [.inr (.inr (o, 0)), .inl k] σ (fun r u => r = σ o 10 k ∧ u = so σ o (c_up (σ o) k)) := by
  intro g C F
  have h_o := cas_obj hc
  have c_o := cas_cls hc
  refine e_iload_n C d_Ca_leaveBed_0 rfl ?_
  refine e_if_lt C 12 d_Ca_leaveBed_1 (by decide) (by omega) (fun c_1 => ?_) (fun c_1 => ?_)
  · exact absurd c_1 (by omega)
  · refine e_iload_n C d_Ca_leaveBed_4 rfl ?_
    refine e_aload_n C d_Ca_leaveBed_5 rfl ?_
    refine e_geti C fl_Ca_52 h_o c_o rfl d_Ca_leaveBed_6 (fun r_6 => ?_)
    refine e_icmp_lt C 14 d_Ca_leaveBed_9 (by decide) (by omega) (by omega) (fun c_9 => ?_) (fun c_9 => ?_)
    · refine e_aload_n C d_Ca_leaveBed_14 rfl ?_
      refine e_geta C fl_Ca_43 h_o c_o rfl d_Ca_leaveBed_15 ?_
      refine e_iload_n C d_Ca_leaveBed_18 rfl ?_
      refine e_iald (n := 12) C h_o c_o (by decide) rfl rfl (by decide) (by omega) (by omega) d_Ca_leaveBed_19 (fun r_19 => ?_)
      refine e_istore_n C d_Ca_leaveBed_20 (by decide) rfl ?_
      refine e_aload_n C d_Ca_leaveBed_21 rfl ?_
      refine e_dup C d_Ca_leaveBed_22 rfl ?_
      refine e_geti C fl_Ca_52 h_o c_o rfl d_Ca_leaveBed_23 (fun r_23 => ?_)
      refine e_iconst C d_Ca_leaveBed_26 ?_
      refine e_isub C d_Ca_leaveBed_27 ?_
      refine e_puti C fp_Ca_52 h_o c_o rfl (by omega) d_Ca_leaveBed_28 ?_
      refine e_iload_n C d_Ca_leaveBed_31 rfl ?_
      refine e_istore_n C d_Ca_leaveBed_32 (by decide) rfl ?_
      simp only [wr_so]
      rw [← c_bed_0 (σ o) k]
      exact l_Ca_leaveBed C F h_o c_o h0 hl r_19 ⟨rfl, rfl⟩ (σ o 11 0 - 1 - k).toNat k (by omega) (by omega)
    · exact absurd h1 (by omega)
/-- the first place from i on, n of them, where p holds -/
def fnd (p : Int → Bool) : Nat → Int → Int
  | 0, _ => -2
  | n + 1, i => if p i = true then i else fnd p n (i + 1)
theorem l_Ca_placeInBed {g : Mach} {P : Int → St → Prop} (C : Cx M_Ca_placeInBed g) (F : FinI M_Ca_placeInBed g P) {σ : St} {o : Nat} {a : Int} (h_o : o ∈ objs) (c_o : cls o = 0) (ha : R32 a) (hl : σ o 11 0 ≤ 12) :
    ∀ (n : Nat) (i : Int), 0 ≤ i → i + n = σ o 11 0 → P (fnd (fun j => σ o 10 j == a) n i) σ → Ev g 2 [some (.inr (.inr (o, 0))), some (.inl a), some (.inl i)] [] σ := by
  intro n
  induction n with
  | zero =>
    intro i h1 h2 hP
    refine e_iload_n C d_Ca_placeInBed_2 rfl ?_
    refine e_aload_n C d_Ca_placeInBed_3 rfl ?_
    refine e_geti C fl_Ca_52 h_o c_o rfl d_Ca_placeInBed_4 (fun r_4 => ?_)
    refine e_icmp_ge C 28 d_Ca_placeInBed_7 (by decide) (by omega) (by omega) (fun c_7 => ?_) (fun c_7 => ?_)
    · refine e_bipush C d_Ca_placeInBed_28 (by decide) ?_
      refine e_iret C F rfl d_Ca_placeInBed_30 (by omega) ?_
      exact hP
    · exact absurd h2 (by omega)
  | succ n ih =>
    intro i h1 h2 hP
    unfold fnd at hP
    refine e_iload_n C d_Ca_placeInBed_2 rfl ?_
    refine e_aload_n C d_Ca_placeInBed_3 rfl ?_
    refine e_geti C fl_Ca_52 h_o c_o rfl d_Ca_placeInBed_4 (fun r_4 => ?_)
    refine e_icmp_ge C 28 d_Ca_placeInBed_7 (by decide) (by omega) (by omega) (fun c_7 => ?_) (fun c_7 => ?_)
    · exact absurd h2 (by omega)
    · refine e_aload_n C d_Ca_placeInBed_10 rfl ?_
      refine e_geta C fl_Ca_43 h_o c_o rfl d_Ca_placeInBed_11 ?_
      refine e_iload_n C d_Ca_placeInBed_14 rfl ?_
      refine e_iald (n := 12) C h_o c_o (by decide) rfl rfl (by decide) (by omega) (by omega) d_Ca_placeInBed_15 (fun r_15 => ?_)
      refine e_iload_n C d_Ca_placeInBed_16 rfl ?_
      refine e_icmp_ne C 22 d_Ca_placeInBed_17 (by decide) (by omega) (by omega) (fun c_17 => ?_) (fun c_17 => ?_)
      · rw [if_neg (fun z => c_17 (by simpa using z))] at hP
        refine e_iinc C d_Ca_placeInBed_22 rfl (by decide) rfl ?_
        refine e_goto C 2 d_Ca_placeInBed_25 (by decide) ?_
        exact ih (i + 1) (by omega) (by omega) hP
      · rw [if_pos (by simpa using c_17)] at hP
        refine e_iload_n C d_Ca_placeInBed_20 rfl ?_
        refine e_iret C F rfl d_Ca_placeInBed_21 (by omega) ?_
        exact hP
def c_place (c : Cs) (a : Int) : Int := fnd (fun j => c 10 j == a) (c 11 0).toNat 0
theorem k_Ca_placeInBed {σ : St} {o : Nat} {a : Int} (hc : o ∈ castles) (ha : R32 a) (hl : 0 ≤ σ o 11 0 ∧ σ o 11 0 ≤ 12) : CtI M_Ca_placeInBed [.inr (.inr (o, 0)), .inl a] σ (fun r u => r = c_place (σ o) a ∧ u = σ) := by
  intro g C F
  have h_o := cas_obj hc
  have c_o := cas_cls hc
  refine e_iconst C d_Ca_placeInBed_0 ?_
  refine e_istore_n C d_Ca_placeInBed_1 (by decide) rfl ?_
  exact l_Ca_placeInBed C F h_o c_o ha hl.2 _ 0 (by omega) (by omega) ⟨rfl, rfl⟩
def c_comer (c : Cs) (p a : Int) : Int := if c 2 p = -2 ∨ c 2 a = c 2 p then -2 else c 2 a
theorem k_Ca_comer {σ : St} {o : Nat} {p a : Int} (hc : o ∈ castles) (hp : 0 ≤ p ∧ p < 8) (ha : 0 ≤ a ∧ a < 8) : CtI M_Ca_comer [.inr (.inr (o, 0)), .inl p, .inl a] σ (fun r u => r = c_comer (σ o) p a ∧ u = σ) := by
  intro g C F
  have h_o := cas_obj hc
  have c_o := cas_cls hc
  refine e_aload_n C d_Ca_comer_0 rfl ?_
  refine e_geta C fl_Ca_18 h_o c_o rfl d_Ca_comer_1 ?_
  refine e_iload_n C d_Ca_comer_4 rfl ?_
  refine e_iald (n := 8) C h_o c_o (by decide) rfl rfl (by decide) (by omega) (by omega) d_Ca_comer_5 (fun r_5 => ?_)
  refine e_istore_n C d_Ca_comer_6 (by decide) rfl ?_
  refine e_iload_n C d_Ca_comer_7 rfl ?_
  refine e_bipush C d_Ca_comer_8 (by decide) ?_
  refine e_icmp_eq C 23 d_Ca_comer_10 (by decide) (by omega) (by omega) (fun c_10 => ?_) (fun c_10 => ?_)
  · refine e_bipush C d_Ca_comer_23 (by decide) ?_
    refine e_goto C 34 d_Ca_comer_25 (by decide) ?_
    refine e_iret C F rfl d_Ca_comer_34 (by omega) ?_
    refine ⟨?_, rfl⟩
    unfold c_comer
    first | rw [if_pos (by omega)] | rw [if_neg (by omega)]
  · refine e_aload_n C d_Ca_comer_13 rfl ?_
    refine e_geta C fl_Ca_18 h_o c_o rfl d_Ca_comer_14 ?_
    refine e_iload_n C d_Ca_comer_17 rfl ?_
    refine e_iald (n := 8) C h_o c_o (by decide) rfl rfl (by decide) (by omega) (by omega) d_Ca_comer_18 (fun r_18 => ?_)
    refine e_iload_n C d_Ca_comer_19 rfl ?_
    refine e_icmp_ne C 28 d_Ca_comer_20 (by decide) (by omega) (by omega) (fun c_20 => ?_) (fun c_20 => ?_)
    · refine e_aload_n C d_Ca_comer_28 rfl ?_
      refine e_geta C fl_Ca_18 h_o c_o rfl d_Ca_comer_29 ?_
      refine e_iload_n C d_Ca_comer_32 rfl ?_
      refine e_iald (n := 8) C h_o c_o (by decide) rfl rfl (by decide) (by omega) (by omega) d_Ca_comer_33 (fun r_33 => ?_)
      refine e_iret C F rfl d_Ca_comer_34 (by omega) ?_
      refine ⟨?_, rfl⟩
      unfold c_comer
      first | rw [if_pos (by omega)] | rw [if_neg (by omega)]
    · refine e_bipush C d_Ca_comer_23 (by decide) ?_
      refine e_goto C 34 d_Ca_comer_25 (by decide) ?_
      refine e_iret C F rfl d_Ca_comer_34 (by omega) ?_
      refine ⟨?_, rfl⟩
      unfold c_comer
      first | rw [if_pos (by omega)] | rw [if_neg (by omega)]
def cc (c : Cs) (f : Nat) (d : Int → Int) (n : Int) : Cs := fun f' k' => if f' = f ∧ 0 ≤ k' ∧ k' < n then d k' else c f' k'
theorem cpy_so (σ : St) (o f o1 f1 : Nat) (n : Int) : cpy σ o f o1 f1 n = so σ o (cc (σ o) f (σ o1 f1) n) := by
  funext o' f' k'
  unfold cpy so cc
  by_cases h : o' = o
  · subst h
    rw [if_pos rfl]
    by_cases h2 : f' = f ∧ 0 ≤ k' ∧ k' < n
    · rw [if_pos ⟨rfl, h2⟩, if_pos h2]
    · rw [if_neg (fun z => h2 z.2), if_neg h2]
  · rw [if_neg h, if_neg (fun z => h z.1)]
def c_copy (c d : Cs) : Cs := cu (cu (cc (cc (cc (cc (cc (cc (cc (cc (cc (cc (cc c 0 (d 0) 8) 1 (d 1) 8) 2 (d 2) 8) 3 (d 3) 8) 4 (d 4) 8) 5 (d 5) 8) 6 (d 6) 12) 7 (d 7) 12) 8 (d 8) 12) 9 (d 9) 12) 10 (d 10) 12) 11 0 (d 11 0)) 12 0 (d 12 0)
set_option maxHeartbeats 1000000 in
theorem k_Ca_copyFrom {σ : St} {o o1 : Nat} (hc : o ∈ castles) (hc1 : o1 ∈ castles) (hne : o1 ≠ o) : CtV M_Ca_copyFrom [.inr (.inr (o, 0)), .inr (.inr (o1, 0))] σ (fun u => u = so σ o (c_copy (σ o) (σ o1))) := by
  intro g C F
  have h_o := cas_obj hc
  have c_o := cas_cls hc
  have h_o1 := cas_obj hc1
  have c_o1 := cas_cls hc1
  refine e_aload_n C d_Ca_copyFrom_0 rfl ?_
  refine e_geta C fl_Ca_9 h_o1 c_o1 rfl d_Ca_copyFrom_1 ?_
  refine e_iconst C d_Ca_copyFrom_4 ?_
  refine e_aload_n C d_Ca_copyFrom_5 rfl ?_
  refine e_geta C fl_Ca_9 h_o c_o rfl d_Ca_copyFrom_6 ?_
  refine e_iconst C d_Ca_copyFrom_9 ?_
  refine e_bipush C d_Ca_copyFrom_10 (by decide) ?_
  refine e_copy (kn := 3) (ty := .int) C 0 (fun _ => rfl) (by decide) lk_Ca_56 h_o c_o (by decide) rfl h_o1 c_o1 (by decide) rfl (by decide) (by decide) (by decide) (by decide) (by decide) d_Ca_copyFrom_12 ?_
  refine e_aload_n C d_Ca_copyFrom_15 rfl ?_
  refine e_geta C fl_Ca_15 h_o1 c_o1 rfl d_Ca_copyFrom_16 ?_
  refine e_iconst C d_Ca_copyFrom_19 ?_
  refine e_aload_n C d_Ca_copyFrom_20 rfl ?_
  refine e_geta C fl_Ca_15 h_o c_o rfl d_Ca_copyFrom_21 ?_
  refine e_iconst C d_Ca_copyFrom_24 ?_
  refine e_bipush C d_Ca_copyFrom_25 (by decide) ?_
  refine e_copy (kn := 3) (ty := .int) C 0 (fun _ => rfl) (by decide) lk_Ca_56 h_o c_o (by decide) rfl h_o1 c_o1 (by decide) rfl (by decide) (by decide) (by decide) (by decide) (by decide) d_Ca_copyFrom_27 ?_
  refine e_aload_n C d_Ca_copyFrom_30 rfl ?_
  refine e_geta C fl_Ca_18 h_o1 c_o1 rfl d_Ca_copyFrom_31 ?_
  refine e_iconst C d_Ca_copyFrom_34 ?_
  refine e_aload_n C d_Ca_copyFrom_35 rfl ?_
  refine e_geta C fl_Ca_18 h_o c_o rfl d_Ca_copyFrom_36 ?_
  refine e_iconst C d_Ca_copyFrom_39 ?_
  refine e_bipush C d_Ca_copyFrom_40 (by decide) ?_
  refine e_copy (kn := 3) (ty := .int) C 0 (fun _ => rfl) (by decide) lk_Ca_56 h_o c_o (by decide) rfl h_o1 c_o1 (by decide) rfl (by decide) (by decide) (by decide) (by decide) (by decide) d_Ca_copyFrom_42 ?_
  refine e_aload_n C d_Ca_copyFrom_45 rfl ?_
  refine e_geta C fl_Ca_21 h_o1 c_o1 rfl d_Ca_copyFrom_46 ?_
  refine e_iconst C d_Ca_copyFrom_49 ?_
  refine e_aload_n C d_Ca_copyFrom_50 rfl ?_
  refine e_geta C fl_Ca_21 h_o c_o rfl d_Ca_copyFrom_51 ?_
  refine e_iconst C d_Ca_copyFrom_54 ?_
  refine e_bipush C d_Ca_copyFrom_55 (by decide) ?_
  refine e_copy (kn := 4) (ty := .boolean) C 1 (fun _ => rfl) (by decide) lk_Ca_56 h_o c_o (by decide) rfl h_o1 c_o1 (by decide) rfl (by decide) (by decide) (by decide) (by decide) (by decide) d_Ca_copyFrom_57 ?_
  refine e_aload_n C d_Ca_copyFrom_60 rfl ?_
  refine e_geta C fl_Ca_25 h_o1 c_o1 rfl d_Ca_copyFrom_61 ?_
  refine e_iconst C d_Ca_copyFrom_64 ?_
  refine e_aload_n C d_Ca_copyFrom_65 rfl ?_
  refine e_geta C fl_Ca_25 h_o c_o rfl d_Ca_copyFrom_66 ?_
  refine e_iconst C d_Ca_copyFrom_69 ?_
  refine e_bipush C d_Ca_copyFrom_70 (by decide) ?_
  refine e_copy (kn := 3) (ty := .int) C 0 (fun _ => rfl) (by decide) lk_Ca_56 h_o c_o (by decide) rfl h_o1 c_o1 (by decide) rfl (by decide) (by decide) (by decide) (by decide) (by decide) d_Ca_copyFrom_72 ?_
  refine e_aload_n C d_Ca_copyFrom_75 rfl ?_
  refine e_geta C fl_Ca_28 h_o1 c_o1 rfl d_Ca_copyFrom_76 ?_
  refine e_iconst C d_Ca_copyFrom_79 ?_
  refine e_aload_n C d_Ca_copyFrom_80 rfl ?_
  refine e_geta C fl_Ca_28 h_o c_o rfl d_Ca_copyFrom_81 ?_
  refine e_iconst C d_Ca_copyFrom_84 ?_
  refine e_bipush C d_Ca_copyFrom_85 (by decide) ?_
  refine e_copy (kn := 3) (ty := .int) C 0 (fun _ => rfl) (by decide) lk_Ca_56 h_o c_o (by decide) rfl h_o1 c_o1 (by decide) rfl (by decide) (by decide) (by decide) (by decide) (by decide) d_Ca_copyFrom_87 ?_
  refine e_aload_n C d_Ca_copyFrom_90 rfl ?_
  refine e_geta C fl_Ca_31 h_o1 c_o1 rfl d_Ca_copyFrom_91 ?_
  refine e_iconst C d_Ca_copyFrom_94 ?_
  refine e_aload_n C d_Ca_copyFrom_95 rfl ?_
  refine e_geta C fl_Ca_31 h_o c_o rfl d_Ca_copyFrom_96 ?_
  refine e_iconst C d_Ca_copyFrom_99 ?_
  refine e_bipush C d_Ca_copyFrom_100 (by decide) ?_
  refine e_copy (kn := 3) (ty := .int) C 0 (fun _ => rfl) (by decide) lk_Ca_56 h_o c_o (by decide) rfl h_o1 c_o1 (by decide) rfl (by decide) (by decide) (by decide) (by decide) (by decide) d_Ca_copyFrom_102 ?_
  refine e_aload_n C d_Ca_copyFrom_105 rfl ?_
  refine e_geta C fl_Ca_34 h_o1 c_o1 rfl d_Ca_copyFrom_106 ?_
  refine e_iconst C d_Ca_copyFrom_109 ?_
  refine e_aload_n C d_Ca_copyFrom_110 rfl ?_
  refine e_geta C fl_Ca_34 h_o c_o rfl d_Ca_copyFrom_111 ?_
  refine e_iconst C d_Ca_copyFrom_114 ?_
  refine e_bipush C d_Ca_copyFrom_115 (by decide) ?_
  refine e_copy (kn := 3) (ty := .int) C 0 (fun _ => rfl) (by decide) lk_Ca_56 h_o c_o (by decide) rfl h_o1 c_o1 (by decide) rfl (by decide) (by decide) (by decide) (by decide) (by decide) d_Ca_copyFrom_117 ?_
  refine e_aload_n C d_Ca_copyFrom_120 rfl ?_
  refine e_geta C fl_Ca_37 h_o1 c_o1 rfl d_Ca_copyFrom_121 ?_
  refine e_iconst C d_Ca_copyFrom_124 ?_
  refine e_aload_n C d_Ca_copyFrom_125 rfl ?_
  refine e_geta C fl_Ca_37 h_o c_o rfl d_Ca_copyFrom_126 ?_
  refine e_iconst C d_Ca_copyFrom_129 ?_
  refine e_bipush C d_Ca_copyFrom_130 (by decide) ?_
  refine e_copy (kn := 3) (ty := .int) C 0 (fun _ => rfl) (by decide) lk_Ca_56 h_o c_o (by decide) rfl h_o1 c_o1 (by decide) rfl (by decide) (by decide) (by decide) (by decide) (by decide) d_Ca_copyFrom_132 ?_
  refine e_aload_n C d_Ca_copyFrom_135 rfl ?_
  refine e_geta C fl_Ca_40 h_o1 c_o1 rfl d_Ca_copyFrom_136 ?_
  refine e_iconst C d_Ca_copyFrom_139 ?_
  refine e_aload_n C d_Ca_copyFrom_140 rfl ?_
  refine e_geta C fl_Ca_40 h_o c_o rfl d_Ca_copyFrom_141 ?_
  refine e_iconst C d_Ca_copyFrom_144 ?_
  refine e_bipush C d_Ca_copyFrom_145 (by decide) ?_
  refine e_copy (kn := 3) (ty := .int) C 0 (fun _ => rfl) (by decide) lk_Ca_56 h_o c_o (by decide) rfl h_o1 c_o1 (by decide) rfl (by decide) (by decide) (by decide) (by decide) (by decide) d_Ca_copyFrom_147 ?_
  refine e_aload_n C d_Ca_copyFrom_150 rfl ?_
  refine e_geta C fl_Ca_43 h_o1 c_o1 rfl d_Ca_copyFrom_151 ?_
  refine e_iconst C d_Ca_copyFrom_154 ?_
  refine e_aload_n C d_Ca_copyFrom_155 rfl ?_
  refine e_geta C fl_Ca_43 h_o c_o rfl d_Ca_copyFrom_156 ?_
  refine e_iconst C d_Ca_copyFrom_159 ?_
  refine e_bipush C d_Ca_copyFrom_160 (by decide) ?_
  refine e_copy (kn := 3) (ty := .int) C 0 (fun _ => rfl) (by decide) lk_Ca_56 h_o c_o (by decide) rfl h_o1 c_o1 (by decide) rfl (by decide) (by decide) (by decide) (by decide) (by decide) d_Ca_copyFrom_162 ?_
  refine e_aload_n C d_Ca_copyFrom_165 rfl ?_
  refine e_aload_n C d_Ca_copyFrom_166 rfl ?_
  refine e_geti C fl_Ca_52 h_o1 c_o1 rfl d_Ca_copyFrom_167 (fun r_167 => ?_)
  refine e_puti C fp_Ca_52 h_o c_o rfl (by omega) d_Ca_copyFrom_170 ?_
  refine e_aload_n C d_Ca_copyFrom_173 rfl ?_
  refine e_aload_n C d_Ca_copyFrom_174 rfl ?_
  refine e_geti C fl_Ca_62 h_o1 c_o1 rfl d_Ca_copyFrom_175 (fun r_175 => ?_)
  refine e_puti C fp_Ca_62 h_o c_o rfl (by omega) d_Ca_copyFrom_178 ?_
  refine e_vret C F rfl d_Ca_copyFrom_181 ?_
  simp only [wr_so, cpy_so, so_so, so_at, so_ne hne]
  rfl
def c_none (c : Cs) (i j : Int) : Cs := fun f k => if f = 2 ∧ 0 ≤ k ∧ k < i then -2 else if f = 6 ∧ 0 ≤ k ∧ k < j then -2 else c f k
theorem c_none_2 {c : Cs} {i j : Int} (h : 0 ≤ i) : cu (c_none c i j) 2 i (-2) = c_none c (i + 1) j := by
  funext f k
  unfold c_none cu
  by_cases h1 : f = 2 ∧ k = i
  · rw [if_pos h1, if_pos ⟨h1.1, by omega, by omega⟩]
  · rw [if_neg h1]
    dsimp only
    by_cases h2 : f = 2 ∧ 0 ≤ k ∧ k < i
    · rw [if_pos h2, if_pos ⟨h2.1, by omega, by omega⟩]
    · rw [if_neg h2, if_neg (c := f = 2 ∧ 0 ≤ k ∧ k < i + 1) (fun z => by have : k ≠ i := fun e => h1 ⟨z.1, e⟩; exact h2 ⟨z.1, z.2.1, by omega⟩)]
theorem c_none_6 {c : Cs} {i j : Int} (h : 0 ≤ j) : cu (c_none c i j) 6 j (-2) = c_none c i (j + 1) := by
  funext f k
  unfold c_none cu
  by_cases h1 : f = 6 ∧ k = j
  · rw [if_pos h1, if_neg (by omega), if_pos ⟨h1.1, by omega, by omega⟩]
  · rw [if_neg h1]
    dsimp only
    by_cases h3 : f = 2 ∧ 0 ≤ k ∧ k < i
    · rw [if_pos h3, if_pos h3]
    · rw [if_neg h3, if_neg h3]
      by_cases h2 : f = 6 ∧ 0 ≤ k ∧ k < j
      · rw [if_pos h2, if_pos ⟨h2.1, by omega, by omega⟩]
      · rw [if_neg h2, if_neg (c := f = 6 ∧ 0 ≤ k ∧ k < j + 1) (fun z => by have : k ≠ j := fun e => h1 ⟨z.1, e⟩; exact h2 ⟨z.1, z.2.1, by omega⟩)]
def c_empty (c : Cs) : Cs := cu (c_none c 8 12) 11 0 0
theorem l_Ca_leaveAll2 {g : Mach} {P : St → Prop} (C : Cx M_Ca_leaveAll g) (F : FinV M_Ca_leaveAll g P) {σ : St} {o : Nat} {c : Cs} (h_o : o ∈ objs) (c_o : cls o = 0) (hP : P (so σ o (c_empty c))) :
    ∀ (n : Nat) (i : Int), 0 ≤ i → i + n = 12 → Ev g 24 [some (.inr (.inr (o, 0))), some (.inl i)] [] (so σ o (c_none c 8 i)) := by
  intro n
  induction n with
  | zero =>
    intro i h1 h2
    refine e_iload_n C d_Ca_leaveAll_24 rfl ?_
    refine e_bipush C d_Ca_leaveAll_25 (by decide) ?_
    refine e_icmp_ge C 44 d_Ca_leaveAll_27 (by decide) (by omega) (by omega) (fun c_27 => ?_) (fun c_27 => ?_)
    · refine e_aload_n C d_Ca_leaveAll_44 rfl ?_
      refine e_iconst C d_Ca_leaveAll_45 ?_
      refine e_puti C fp_Ca_52 h_o c_o rfl (by omega) d_Ca_leaveAll_46 ?_
      refine e_vret C F rfl d_Ca_leaveAll_49 ?_
      simp only [wr_so, so_so, so_at]
      rw [show i = 12 by omega]
      exact hP
    · exact absurd h2 (by omega)
  | succ n ih =>
    intro i h1 h2
    refine e_iload_n C d_Ca_leaveAll_24 rfl ?_
    refine e_bipush C d_Ca_leaveAll_25 (by decide) ?_
    refine e_icmp_ge C 44 d_Ca_leaveAll_27 (by decide) (by omega) (by omega) (fun c_27 => ?_) (fun c_27 => ?_)
    · exact absurd h2 (by omega)
    · refine e_aload_n C d_Ca_leaveAll_30 rfl ?_
      refine e_geta C fl_Ca_31 h_o c_o rfl d_Ca_leaveAll_31 ?_
      refine e_iload_n C d_Ca_leaveAll_34 rfl ?_
      refine e_bipush C d_Ca_leaveAll_35 (by decide) ?_
      refine e_iast (n := 12) C h_o c_o (by decide) rfl rfl (by decide) (by omega) (by omega) (by omega) d_Ca_leaveAll_37 ?_
      refine e_iinc C d_Ca_leaveAll_38 rfl (by decide) rfl ?_
      refine e_goto C 24 d_Ca_leaveAll_41 (by decide) ?_
      simp only [wr_so, so_so, so_at]
      rw [c_none_6 h1]
      exact ih (i + 1) (by omega) (by omega)
theorem l_Ca_leaveAll1 {g : Mach} {P : St → Prop} (C : Cx M_Ca_leaveAll g) (F : FinV M_Ca_leaveAll g P) {σ : St} {o : Nat} {c : Cs} (h_o : o ∈ objs) (c_o : cls o = 0) (hP : P (so σ o (c_empty c))) :
    ∀ (n : Nat) (i : Int), 0 ≤ i → i + n = 8 → Ev g 2 [some (.inr (.inr (o, 0))), some (.inl i)] [] (so σ o (c_none c i 0)) := by
  intro n
  induction n with
  | zero =>
    intro i h1 h2
    refine e_iload_n C d_Ca_leaveAll_2 rfl ?_
    refine e_bipush C d_Ca_leaveAll_3 (by decide) ?_
    refine e_icmp_ge C 22 d_Ca_leaveAll_5 (by decide) (by omega) (by omega) (fun c_5 => ?_) (fun c_5 => ?_)
    · refine e_iconst C d_Ca_leaveAll_22 ?_
      refine e_istore_n C d_Ca_leaveAll_23 (by decide) rfl ?_
      rw [show i = 8 by omega]
      exact l_Ca_leaveAll2 C F h_o c_o hP 12 0 (by omega) (by omega)
    · exact absurd h2 (by omega)
  | succ n ih =>
    intro i h1 h2
    refine e_iload_n C d_Ca_leaveAll_2 rfl ?_
    refine e_bipush C d_Ca_leaveAll_3 (by decide) ?_
    refine e_icmp_ge C 22 d_Ca_leaveAll_5 (by decide) (by omega) (by omega) (fun c_5 => ?_) (fun c_5 => ?_)
    · exact absurd h2 (by omega)
    · refine e_aload_n C d_Ca_leaveAll_8 rfl ?_
      refine e_geta C fl_Ca_18 h_o c_o rfl d_Ca_leaveAll_9 ?_
      refine e_iload_n C d_Ca_leaveAll_12 rfl ?_
      refine e_bipush C d_Ca_leaveAll_13 (by decide) ?_
      refine e_iast (n := 8) C h_o c_o (by decide) rfl rfl (by decide) (by omega) (by omega) (by omega) d_Ca_leaveAll_15 ?_
      refine e_iinc C d_Ca_leaveAll_16 rfl (by decide) rfl ?_
      refine e_goto C 2 d_Ca_leaveAll_19 (by decide) ?_
      simp only [wr_so, so_so, so_at]
      rw [c_none_2 h1]
      exact ih (i + 1) (by omega) (by omega)
theorem k_Ca_leaveAll {σ : St} {o : Nat} (hc : o ∈ castles) : CtV M_Ca_leaveAll [.inr (.inr (o, 0))] σ (fun u => u = so σ o (c_empty (σ o))) := by
  intro g C F
  have h_o := cas_obj hc
  have c_o := cas_cls hc
  refine e_iconst C d_Ca_leaveAll_0 ?_
  refine e_istore_n C d_Ca_leaveAll_1 (by decide) rfl ?_
  have e : c_none (σ o) 0 0 = σ o := by
    funext f k
    unfold c_none
    rw [if_neg (by omega), if_neg (by omega)]
  have := l_Ca_leaveAll1 (σ := σ) (c := σ o) C F h_o c_o rfl 8 0 (by omega) (by omega)
  rw [e, so_id] at this
  exact this
