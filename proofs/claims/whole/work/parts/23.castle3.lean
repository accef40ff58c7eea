/-! Castle: who comes, who goes to bed, minutes -/
theorem s_Ca_stand {σ : St} {o : Nat} {c : Cs} {a p : Int} (hc : o ∈ castles) (ha : 0 ≤ a ∧ a < 12) (hp : 0 ≤ p ∧ p < 8) : CtV M_Ca_stand [.inr (.inr (o, 0)), .inl a, .inl p] (so σ o c) (fun u => u = so σ o (c_stand c a p)) := by
  have := k_Ca_stand (σ := so σ o c) hc ha hp
  simpa only [so_at, so_so] using this
theorem s_Ca_exchange {σ : St} {o : Nat} {c : Cs} {p : Int} (hc : o ∈ castles) (hp : 0 ≤ p ∧ p < 8) : CtV M_Ca_exchange [.inr (.inr (o, 0)), .inl p] (so σ o c) (fun u => u = so σ o (c_exchange c p)) := by
  have := k_Ca_exchange (σ := so σ o c) hc hp
  simpa only [so_at, so_so] using this
theorem s_Ca_runDown {σ : St} {o : Nat} {c : Cs} {p n : Int} (hc : o ∈ castles) (hp : 0 ≤ p ∧ p < 8) (h0 : R32 (c 0 p - n)) (h1 : R32 (c 1 p + n)) : CtV M_Ca_runDown [.inr (.inr (o, 0)), .inl p, .inl n] (so σ o c) (fun u => u = so σ o (c_down c p n)) := by
  have := k_Ca_runDown (σ := so σ o c) (n := n) hc hp (by rw [so_at]; exact h0) (by rw [so_at]; exact h1)
  simpa only [so_at, so_so] using this
theorem s_Ca_lieBehindAll {σ : St} {o : Nat} {c : Cs} {a : Int} (hc : o ∈ castles) (ha : 0 ≤ a ∧ a < 12) (h0 : 0 ≤ c 11 0) : CtV M_Ca_lieBehindAll [.inr (.inr (o, 0)), .inl a] (so σ o c) (fun u => u = so σ o (c_lie c a)) := by
  have := k_Ca_lieBehindAll (σ := so σ o c) hc ha (by rw [so_at]; exact h0)
  simpa only [so_at, so_so] using this
theorem s_Ca_leaveBed {σ : St} {o : Nat} {c : Cs} {k : Int} (hc : o ∈ castles) (hl : c 11 0 ≤ 12) (h0 : 0 ≤ k) (h1 : k < c 11 0) : CtI M_Ca_leaveBed [.inr (.inr (o, 0)), .inl k] (so σ o c) (fun r u => r = c 10 k ∧ u = so σ o (c_up c k)) := by
  have := k_Ca_leaveBed (σ := so σ o c) hc (by rw [so_at]; exact hl) h0 (by rw [so_at]; exact h1)
  simpa only [so_at, so_so] using this
theorem s_Ca_comer {σ : St} {o : Nat} {c : Cs} {p a : Int} (hc : o ∈ castles) (hp : 0 ≤ p ∧ p < 8) (ha : 0 ≤ a ∧ a < 8) : CtI M_Ca_comer [.inr (.inr (o, 0)), .inl p, .inl a] (so σ o c) (fun r u => r = c_comer c p a ∧ u = so σ o c) := by
  have := k_Ca_comer (σ := so σ o c) hc hp ha
  simpa only [so_at] using this
theorem z_ior_r (x y : Int) : R32 (z_ior x y) := r_of _
theorem z_ishl_r (x y : Int) : R32 (z_ishl x y) := r_of _
theorem c_stand_f {c : Cs} {a p k : Int} {f : Nat} (h2 : f ≠ 2) (h6 : f ≠ 6) (h8 : f ≠ 8) : c_stand c a p f k = c f k := by
  unfold c_stand
  rw [cu_f h8, cu_f h6, cu_f h2]
theorem c_up_f {c : Cs} {j k : Int} {f : Nat} (h : f ≠ 10) (h2 : f ≠ 11) : c_up c k f j = c f j := by
  unfold c_up
  rw [if_neg (fun z => h2 z.1), if_neg (fun z => h z.1)]
theorem c_up_11 (c : Cs) (k : Int) : c_up c k 11 0 = c 11 0 - 1 := by unfold c_up; rw [if_pos ⟨rfl, rfl⟩]
def CI (c : Cs) : Prop := (0 ≤ c 11 0 ∧ c 11 0 ≤ 12) ∧ (∀ k, 0 ≤ k → k < c 11 0 → 0 ≤ c 10 k ∧ c 10 k < 12) ∧ ∀ p, 0 ≤ p → p < 8 → c 2 p = -2 ∨ (0 ≤ c 2 p ∧ c 2 p < 12)
/-- ahead of the coming one's stand: the glass turned, the post that is left empty -/
def c_turn (c : Cs) (p a : Int) : Cs := cu (cu (cu (cu (cu c 0 p (c 1 p)) 1 p 0) 4 p (c 4 p + 1)) 13 0 (z_ior (c 13 0) (z_ishl 1 p))) 2 a (-2)
theorem c_turn_f {c : Cs} {a p k : Int} {f : Nat} (h0 : f ≠ 0) (h1 : f ≠ 1) (h2 : f ≠ 2) (h4 : f ≠ 4) (h13 : f ≠ 13) : c_turn c p a f k = c f k := by
  unfold c_turn
  rw [cu_f h2, cu_f h13, cu_f h4, cu_f h1, cu_f h0]
/-- the first of bed goes to the post that was left -/
def c_next (c : Cs) (a : Int) : Cs := if 0 < c 11 0 then c_stand (c_up c 0) (c 10 0) a else c
def c_tired (c : Cs) (t : Int) : Cs := c_lie (cu c 9 t (c 9 t + 1)) t
def c_relieve (c : Cs) (p a : Int) : Cs := if c_comer c p a = -2 then c else c_tired (c_next (c_stand (c_turn c p a) (c_comer c p a) p) a) (c 2 p)
set_option maxHeartbeats 1000000 in
theorem s_Ca_relieve {σ : St} {o : Nat} {c : Cs} {p a : Int} (hc : o ∈ castles) (hp : 0 ≤ p ∧ p < 8) (ha : 0 ≤ a ∧ a < 8) (hI : CI c) (h4 : c 4 p < 2147483647) (h9 : ∀ k, 0 ≤ k → k < 12 → c 9 k < 2147483647) : CtV M_Ca_relieve [.inr (.inr (o, 0)), .inl p, .inl a] (so σ o c) (fun u => u = so σ o (c_relieve c p a)) := by
  intro g C F
  have h_o := cas_obj hc
  have c_o := cas_cls hc
  have hI1 := hI.1
  have hIp := hI.2.2 p hp.1 hp.2
  have hIa := hI.2.2 a ha.1 ha.2
  refine e_aload_n C d_Ca_relieve_0 rfl ?_
  refine e_iload_n C d_Ca_relieve_1 rfl ?_
  refine e_iload_n C d_Ca_relieve_2 rfl ?_
  refine e_callIV C ok_Ca_comer lk_Ca_134 (o := o) h_o (by rw [c_o]; rfl) [_, _] rfl rfl (Nat.le_of_ble_eq_true rfl) (by decide) (Nat.le_of_ble_eq_true rfl) d_Ca_relieve_3 (s_Ca_comer hc hp ha) (fun v_3 u_3 q_3 h_3 => ?_)
  obtain ⟨h_3, rfl⟩ := h_3
  have h3b := h_3
  unfold c_comer at h3b
  refine e_istore_n C d_Ca_relieve_6 (by decide) rfl ?_
  refine e_iload_n C d_Ca_relieve_7 rfl ?_
  refine e_bipush C d_Ca_relieve_8 (by decide) ?_
  refine e_icmp_ne C 14 d_Ca_relieve_10 (by decide) (by omega) (by omega) (fun c_10 => ?_) (fun c_10 => ?_)
  · have hw : 0 ≤ v_3 ∧ v_3 < 12 ∧ c 2 p ≠ -2 := by
        split at h3b <;> omega
    have h9p := h9 (c 2 p) (by omega) (by omega)
    refine e_aload_n C d_Ca_relieve_14 rfl ?_
    refine e_geta C fl_Ca_18 h_o c_o rfl d_Ca_relieve_15 ?_
    refine e_iload_n C d_Ca_relieve_18 rfl ?_
    refine e_iald (n := 8) C h_o c_o (by decide) rfl rfl (by decide) (by omega) (by omega) d_Ca_relieve_19 (fun r_19 => ?_)
    try simp only [wr_so, so_so, so_at, cu_s, cu_f, c_stand_f, c_up_f, ne_eq, Nat.reduceEqDiff, not_false_eq_true] at r_19 ⊢
    refine e_istore C d_Ca_relieve_20 (by decide) rfl ?_
    refine e_aload_n C d_Ca_relieve_22 rfl ?_
    refine e_geta C fl_Ca_9 h_o c_o rfl d_Ca_relieve_23 ?_
    refine e_iload_n C d_Ca_relieve_26 rfl ?_
    refine e_aload_n C d_Ca_relieve_27 rfl ?_
    refine e_geta C fl_Ca_15 h_o c_o rfl d_Ca_relieve_28 ?_
    refine e_iload_n C d_Ca_relieve_31 rfl ?_
    refine e_iald (n := 8) C h_o c_o (by decide) rfl rfl (by decide) (by omega) (by omega) d_Ca_relieve_32 (fun r_32 => ?_)
    try simp only [wr_so, so_so, so_at, cu_s, cu_f, c_stand_f, c_up_f, ne_eq, Nat.reduceEqDiff, not_false_eq_true] at r_32 ⊢
    refine e_iast (n := 8) C h_o c_o (by decide) rfl rfl (by decide) (by omega) (by omega) (by omega) d_Ca_relieve_33 ?_
    try simp only [wr_so, so_so, so_at, cu_s, cu_f, c_stand_f, c_up_f, ne_eq, Nat.reduceEqDiff, not_false_eq_true]
    refine e_aload_n C d_Ca_relieve_34 rfl ?_
    refine e_geta C fl_Ca_15 h_o c_o rfl d_Ca_relieve_35 ?_
    refine e_iload_n C d_Ca_relieve_38 rfl ?_
    refine e_iconst C d_Ca_relieve_39 ?_
    refine e_iast (n := 8) C h_o c_o (by decide) rfl rfl (by decide) (by omega) (by omega) (by omega) d_Ca_relieve_40 ?_
    try simp only [wr_so, so_so, so_at, cu_s, cu_f, c_stand_f, c_up_f, ne_eq, Nat.reduceEqDiff, not_false_eq_true]
    refine e_aload_n C d_Ca_relieve_41 rfl ?_
    refine e_geta C fl_Ca_25 h_o c_o rfl d_Ca_relieve_42 ?_
    refine e_iload_n C d_Ca_relieve_45 rfl ?_
    refine e_dup2 C d_Ca_relieve_46 rfl rfl ?_
    refine e_iald (n := 8) C h_o c_o (by decide) rfl rfl (by decide) (by omega) (by omega) d_Ca_relieve_47 (fun r_47 => ?_)
    try simp only [wr_so, so_so, so_at, cu_s, cu_f, c_stand_f, c_up_f, ne_eq, Nat.reduceEqDiff, not_false_eq_true] at r_47 ⊢
    refine e_iconst C d_Ca_relieve_48 ?_
    refine e_iadd C d_Ca_relieve_49 ?_
    refine e_iast (n := 8) C h_o c_o (by decide) rfl rfl (by decide) (by omega) (by omega) (by omega) d_Ca_relieve_50 ?_
    try simp only [wr_so, so_so, so_at, cu_s, cu_f, c_stand_f, c_up_f, ne_eq, Nat.reduceEqDiff, not_false_eq_true]
    refine e_aload_n C d_Ca_relieve_51 rfl ?_
    refine e_dup C d_Ca_relieve_52 rfl ?_
    refine e_geti C fl_Ca_96 h_o c_o rfl d_Ca_relieve_53 (fun r_53 => ?_)
    try simp only [wr_so, so_so, so_at, cu_s, cu_f, c_stand_f, c_up_f, ne_eq, Nat.reduceEqDiff, not_false_eq_true] at r_53 ⊢
    refine e_iconst C d_Ca_relieve_56 ?_
    refine e_iload_n C d_Ca_relieve_57 rfl ?_
    refine e_ishl C d_Ca_relieve_58 ?_
    refine e_ior C d_Ca_relieve_59 ?_
    refine e_puti C fp_Ca_96 h_o c_o rfl (z_ior_r _ _) d_Ca_relieve_60 ?_
    try simp only [wr_so, so_so, so_at, cu_s, cu_f, c_stand_f, c_up_f, ne_eq, Nat.reduceEqDiff, not_false_eq_true]
    refine e_aload_n C d_Ca_relieve_63 rfl ?_
    refine e_geta C fl_Ca_18 h_o c_o rfl d_Ca_relieve_64 ?_
    refine e_iload_n C d_Ca_relieve_67 rfl ?_
    refine e_bipush C d_Ca_relieve_68 (by decide) ?_
    refine e_iast (n := 8) C h_o c_o (by decide) rfl rfl (by decide) (by omega) (by omega) (by omega) d_Ca_relieve_70 ?_
    try simp only [wr_so, so_so, so_at, cu_s, cu_f, c_stand_f, c_up_f, ne_eq, Nat.reduceEqDiff, not_false_eq_true]
    have e1 : cu (cu (cu (cu (cu c 0 p (c 1 p)) 1 p 0) 4 p (c 4 p + 1)) 13 0 (z_ior (c 13 0) (z_ishl 1 p))) 2 a (-2) = c_turn c p a := rfl
    rw [e1]
    refine e_aload_n C d_Ca_relieve_71 rfl ?_
    refine e_iload_n C d_Ca_relieve_72 rfl ?_
    refine e_iload_n C d_Ca_relieve_73 rfl ?_
    refine e_callVV C ok_Ca_stand lk_Ca_146 (o := o) h_o (by rw [c_o]; rfl) [_, _] rfl rfl (Nat.le_of_ble_eq_true rfl) (by decide) (Nat.le_of_ble_eq_true rfl) d_Ca_relieve_74 (s_Ca_stand hc (by omega) hp) (fun u_74 h_74 => ?_)
    subst h_74
    refine e_aload_n C d_Ca_relieve_77 rfl ?_
    refine e_geti C fl_Ca_52 h_o c_o rfl d_Ca_relieve_78 (fun r_78 => ?_)
    try simp only [wr_so, so_so, so_at, cu_s, cu_f, c_stand_f, c_up_f, ne_eq, Nat.reduceEqDiff, not_false_eq_true] at r_78 ⊢
    rw [c_turn_f (by decide) (by decide) (by decide) (by decide) (by decide)] at r_78 ⊢
    refine e_if_le C 94 d_Ca_relieve_81 (by decide) (by omega) (fun c_81 => ?_) (fun c_81 => ?_)
    · have el : c_stand (c_turn c p a) v_3 p 11 0 = c 11 0 := by rw [c_stand_f (by decide) (by decide) (by decide), c_turn_f (by decide) (by decide) (by decide) (by decide) (by decide)]
      have en : c_next (c_stand (c_turn c p a) v_3 p) a = c_stand (c_turn c p a) v_3 p := by
        unfold c_next
        rw [if_neg (by omega)]
      rw [← en]
      refine e_aload_n C d_Ca_relieve_94 rfl ?_
      refine e_geta C fl_Ca_40 h_o c_o rfl d_Ca_relieve_95 ?_
      refine e_iload C d_Ca_relieve_98 rfl ?_
      refine e_dup2 C d_Ca_relieve_100 rfl rfl ?_
      have e9 : ∀ k, c_next (c_stand (c_turn c p a) v_3 p) a 9 k = c 9 k := by
          intro k
          rw [en]
          simp only [c_stand_f, c_up_f, c_turn_f, ne_eq, Nat.reduceEqDiff, not_false_eq_true]
      have e11 : 0 ≤ c_next (c_stand (c_turn c p a) v_3 p) a 11 0 := by
          rw [en]
          simp only [c_stand_f, c_up_11, c_turn_f, ne_eq, Nat.reduceEqDiff, not_false_eq_true]
          omega
      refine e_iald (n := 12) C h_o c_o (by decide) rfl rfl (by decide) (by omega) (by omega) d_Ca_relieve_101 (fun r_101 => ?_)
      try simp only [wr_so, so_so, so_at, cu_s, cu_f, c_stand_f, c_up_f, ne_eq, Nat.reduceEqDiff, not_false_eq_true] at r_101 ⊢
      rw [e9] at r_101 ⊢
      refine e_iconst C d_Ca_relieve_102 ?_
      refine e_iadd C d_Ca_relieve_103 ?_
      refine e_iast (n := 12) C h_o c_o (by decide) rfl rfl (by decide) (by omega) (by omega) (by omega) d_Ca_relieve_104 ?_
      try simp only [wr_so, so_so, so_at, cu_s, cu_f, c_stand_f, c_up_f, ne_eq, Nat.reduceEqDiff, not_false_eq_true]
      refine e_aload_n C d_Ca_relieve_105 rfl ?_
      refine e_iload C d_Ca_relieve_106 rfl ?_
      refine e_callVV C ok_Ca_lieBehindAll lk_Ca_149 (o := o) h_o (by rw [c_o]; rfl) [_] rfl rfl (Nat.le_of_ble_eq_true rfl) (by decide) (Nat.le_of_ble_eq_true rfl) d_Ca_relieve_108 (s_Ca_lieBehindAll hc (by omega) (by rw [cu_f (by decide)]; exact e11)) (fun u_108 h_108 => ?_)
      subst h_108
      refine e_vret C F rfl d_Ca_relieve_111 ?_
      refine so_inj ?_
      unfold c_relieve c_tired
      rw [← h_3, if_neg (by omega), e9]
    · have hb0 := hI.2.1 0 (by omega) (by omega)
      have eb : c_stand (c_turn c p a) v_3 p 10 0 = c 10 0 := by rw [c_stand_f (by decide) (by decide) (by decide), c_turn_f (by decide) (by decide) (by decide) (by decide) (by decide)]
      have el : c_stand (c_turn c p a) v_3 p 11 0 = c 11 0 := by rw [c_stand_f (by decide) (by decide) (by decide), c_turn_f (by decide) (by decide) (by decide) (by decide) (by decide)]
      have en : c_next (c_stand (c_turn c p a) v_3 p) a = c_stand (c_up (c_stand (c_turn c p a) v_3 p) 0) (c 10 0) a := by
        unfold c_next
        rw [if_pos (by omega), eb]
      refine e_aload_n C d_Ca_relieve_84 rfl ?_
      refine e_aload_n C d_Ca_relieve_85 rfl ?_
      refine e_iconst C d_Ca_relieve_86 ?_
      refine e_callIV C ok_Ca_leaveBed lk_Ca_143 (o := o) h_o (by rw [c_o]; rfl) [_] rfl rfl (Nat.le_of_ble_eq_true rfl) (by decide) (Nat.le_of_ble_eq_true rfl) d_Ca_relieve_87 (s_Ca_leaveBed hc (by omega) (by omega) (by omega)) (fun v_87 u_87 q_87 h_87 => ?_)
      obtain ⟨h_87, rfl⟩ := h_87
      rw [eb] at h_87
      subst h_87
      refine e_iload_n C d_Ca_relieve_90 rfl ?_
      refine e_callVV C ok_Ca_stand lk_Ca_146 (o := o) h_o (by rw [c_o]; rfl) [_, _] rfl rfl (Nat.le_of_ble_eq_true rfl) (by decide) (Nat.le_of_ble_eq_true rfl) d_Ca_relieve_91 (s_Ca_stand hc hb0 ha) (fun u_91 h_91 => ?_)
      subst h_91
      rw [← en]
      refine e_aload_n C d_Ca_relieve_94 rfl ?_
      refine e_geta C fl_Ca_40 h_o c_o rfl d_Ca_relieve_95 ?_
      refine e_iload C d_Ca_relieve_98 rfl ?_
      refine e_dup2 C d_Ca_relieve_100 rfl rfl ?_
      have e9 : ∀ k, c_next (c_stand (c_turn c p a) v_3 p) a 9 k = c 9 k := by
          intro k
          rw [en]
          simp only [c_stand_f, c_up_f, c_turn_f, ne_eq, Nat.reduceEqDiff, not_false_eq_true]
      have e11 : 0 ≤ c_next (c_stand (c_turn c p a) v_3 p) a 11 0 := by
          rw [en]
          simp only [c_stand_f, c_up_11, c_turn_f, ne_eq, Nat.reduceEqDiff, not_false_eq_true]
          omega
      refine e_iald (n := 12) C h_o c_o (by decide) rfl rfl (by decide) (by omega) (by omega) d_Ca_relieve_101 (fun r_101 => ?_)
      try simp only [wr_so, so_so, so_at, cu_s, cu_f, c_stand_f, c_up_f, ne_eq, Nat.reduceEqDiff, not_false_eq_true] at r_101 ⊢
      rw [e9] at r_101 ⊢
      refine e_iconst C d_Ca_relieve_102 ?_
      refine e_iadd C d_Ca_relieve_103 ?_
      refine e_iast (n := 12) C h_o c_o (by decide) rfl rfl (by decide) (by omega) (by omega) (by omega) d_Ca_relieve_104 ?_
      try simp only [wr_so, so_so, so_at, cu_s, cu_f, c_stand_f, c_up_f, ne_eq, Nat.reduceEqDiff, not_false_eq_true]
      refine e_aload_n C d_Ca_relieve_105 rfl ?_
      refine e_iload C d_Ca_relieve_106 rfl ?_
      refine e_callVV C ok_Ca_lieBehindAll lk_Ca_149 (o := o) h_o (by rw [c_o]; rfl) [_] rfl rfl (Nat.le_of_ble_eq_true rfl) (by decide) (Nat.le_of_ble_eq_true rfl) d_Ca_relieve_108 (s_Ca_lieBehindAll hc (by omega) (by rw [cu_f (by decide)]; exact e11)) (fun u_108 h_108 => ?_)
      subst h_108
      refine e_vret C F rfl d_Ca_relieve_111 ?_
      refine so_inj ?_
      unfold c_relieve c_tired
      rw [← h_3, if_neg (by omega), e9]
  · skip
    refine e_vret C F rfl d_Ca_relieve_13 ?_
    refine so_inj ?_
    unfold c_relieve
    rw [if_pos (by omega)]
