/-! plan and law as a function; Castle: quiet minutes, some minutes, many -/
abbrev Phi : Type := Int → Int → Int → Int → Int → Int → Int
def LawIs (l : Cs) (φ : Phi) : Prop := LOk l ∧ ∀ a : Int → Int, (∀ k, 6 ≤ k → k < 406 → a k = l 6 k) → lrun l 401 0 a = φ (a 0) (a 1) (a 2) (a 3) (a 4) (a 5)
theorem lrun_cong {l l' : Cs} (h : ∀ f, f ≠ 6 → l' f = l f) : ∀ (n : Nat) (i : Int) (a : Int → Int), lrun l' n i a = lrun l n i a
  | 0, _, _ => rfl
  | n + 1, i, a => by
    unfold lrun
    rw [h 7 (by decide), h 2 (by decide), h 3 (by decide), h 4 (by decide), h 5 (by decide)]
    simp only [lrun_cong h n]
theorem LawIs.same {l l' : Cs} {φ : Phi} (h : LawIs l φ) (hs : LSm l l') : LawIs l' φ := by
  refine ⟨?_, fun a ha => ?_⟩
  · unfold LOk
    rw [hs.1 7 (by decide), hs.1 3 (by decide), hs.1 4 (by decide)]
    exact h.1
  · rw [lrun_cong hs.1]
    exact h.2 a (fun k h1 h2 => (ha k h1 h2).trans (hs.2 k h1 h2))
theorem LawIs.val {l : Cs} {φ : Phi} (h : LawIs l φ) (v1 v2 v3 v4 v5 v6 : Int) : lval l v1 v2 v3 v4 v5 v6 = φ v1 v2 v3 v4 v5 v6 := by
  unfold lval
  rw [h.2 (lenv l v1 v2 v3 v4 v5 v6) (fun k h1 h2 => by
    unfold lenv
    rw [ua_ne (by omega), ua_ne (by omega), ua_ne (by omega), ua_ne (by omega), ua_ne (by omega), ua_ne (by omega)])]
  rfl
/-- a plan whose law is φ -/
def PlanOk (P l : Cs) (φ : Phi) : Prop := (0 ≤ P 3 0 ∧ P 3 0 ≤ 8) ∧ (0 ≤ P 4 0 ∧ P 4 0 ≤ 12) ∧ (0 ≤ P 5 0 ∧ P 5 0 ≤ 24) ∧ (0 ≤ P 6 0 ∧ P 6 0 ≤ 9999) ∧ P 1 0 = 0 ∧ LawIs l φ ∧ (l 0 0 ≠ 0 → (∀ n w a b m q, φ n w a b m q = φ n w 0 0 0 q) ∧ ∀ p d, 0 ≤ p → p < P 3 0 → 0 ≤ d → d ≤ P 5 0 → P 8 (p * 25 + d) = φ (P 0 p) (P 1 d) 0 0 0 p)
theorem PlanOk.same {P l l' : Cs} {φ : Phi} (h : PlanOk P l φ) (hs : LSm l l') : PlanOk P l' φ := by
  refine ⟨h.1, h.2.1, h.2.2.1, h.2.2.2.1, h.2.2.2.2.1, h.2.2.2.2.2.1.same hs, ?_⟩
  rw [hs.1 0 (by decide)]
  exact h.2.2.2.2.2.2
/-- FLOW, held -/
def flw (φ : Phi) (P c : Cs) (p h : Int) : Int := if c 0 p = 0 then 0 else if φ (P 0 p) (P 1 (pl_damp c p h)) (c 0 p) (c 1 p) (c 12 0) p < 0 then 0 else min (φ (P 0 p) (P 1 (pl_damp c p h)) (c 0 p) (c 1 p) (c 12 0) p) (c 0 p)
theorem flw_pl {P l c : Cs} {φ : Phi} {p h : Int} (hP : PlanOk P l φ) (hp : 0 ≤ p ∧ p < P 3 0) (hh : 0 ≤ h ∧ h ≤ P 5 0) : pl_flow P l c p h = flw φ P c p h := by
  have hd : 0 ≤ pl_damp c p h ∧ pl_damp c p h ≤ P 5 0 := by unfold pl_damp; have := hP.2.2.1; split <;> omega
  have e : pl_told P l c p h = φ (P 0 p) (P 1 (pl_damp c p h)) (c 0 p) (c 1 p) (c 12 0) p := by
    unfold pl_told
    split
    · exact hP.2.2.2.2.2.1.val _ _ _ _ _ _
    · rename_i hs
      obtain ⟨h1, h2⟩ := hP.2.2.2.2.2.2 hs
      rw [h2 p _ hp.1 hp.2 hd.1 hd.2, h1 _ _ (c 0 p) (c 1 p) (c 12 0) p]
  unfold pl_flow flw
  rw [e]
  generalize φ (P 0 p) (P 1 (pl_damp c p h)) (c 0 p) (c 1 p) (c 12 0) p = t
  by_cases h0 : c 0 p = 0
  · rw [if_pos h0, if_pos h0]
  · rw [if_neg h0, if_neg h0]
    by_cases h1 : 0 ≤ t
    · rw [if_pos h1, if_neg (show ¬ t < 0 by omega)]
      split <;> omega
    · rw [if_neg h1, if_pos (show t < 0 by omega)]
theorem cas_ne {o n : Nat} (h : o ∈ castles) (hn : n < 16) : n ≠ o := by
  rcases List.mem_append.mp h with h | h
  · have := (List.mem_range'_1.mp h).1; omega
  · have := (List.mem_range'_1.mp h).1; omega
theorem so_78 (σ : St) (l : Cs) : so σ 8 l 7 = σ 7 := so_ne (by decide)
theorem so_88 (σ : St) (l : Cs) : so σ 8 l 8 = l := so_at σ 8 l
theorem so_sw {σ : St} {o o2 : Nat} {a b d : Cs} (h : o2 ≠ o) : so (so (so σ o2 a) o b) o2 d = so (so σ o2 d) o b := by
  funext q
  unfold so
  by_cases h1 : q = o2
  · subst h1; rw [if_pos rfl, if_neg h, if_pos rfl]
  · rw [if_neg h1, if_neg h1, if_neg h1]
theorem s_Pl_flow {σ : St} {o : Nat} {c l : Cs} {φ : Phi} {p h : Int} (hc : o ∈ castles) (hP : PlanOk (σ 7) l φ) (hp : 0 ≤ p ∧ p < σ 7 3 0) (hh : 0 ≤ h ∧ h ≤ σ 7 5 0) : CtI M_Pl_flow [.inr (.inr (7, 0)), .inr (.inr (o, 0)), .inl p, .inl h] (so (so σ 8 l) o c) (fun r u => r = flw φ (σ 7) c p h ∧ ∃ l', LSm l l' ∧ u = so (so σ 8 l') o c) := by
  have h7 := cas_ne (n := 7) hc (by decide)
  have h8 := cas_ne (n := 8) hc (by decide)
  have hb := hP.1
  have hb2 := hP.2.2.1
  have := k_Pl_flow (σ := so (so σ 8 l) o c) (o := o) (p := p) (h := h) hc (by omega) (by omega) (by rw [so_ne h8, so_88]; exact hP.2.2.2.2.2.1.1)
  intro g C F
  refine this g C ?_
  have e : (fun (r : Int) (u : St) => r = pl_flow (so (so σ 8 l) o c 7) (so (so σ 8 l) o c 8) (so (so σ 8 l) o c o) p h ∧ ∃ l', LSm (so (so σ 8 l) o c 8) l' ∧ u = so (so (so σ 8 l) o c) 8 l') = (fun r u => r = flw φ (σ 7) c p h ∧ ∃ l', LSm l l' ∧ u = so (so σ 8 l') o c) := by
    simp only [so_ne h7, so_ne h8, so_78, so_88, so_at, flw_pl hP hp hh, so_sw h8]
  rw [e]
  exact F
theorem s_Pl_hourOf {σ : St} {m : Int} (h0 : 0 ≤ m) (hm : R32 m) (hh : σ 7 5 0 ≤ 24) : CtI M_Pl_hourOf [.inr (.inr (7, 0)), .inl m] σ (fun r u => r = pl_hour (σ 7) m ∧ u = σ) := k_Pl_hourOf h0 hm hh
theorem pl_hour_in {P l : Cs} {φ : Phi} (hP : PlanOk P l φ) {m : Int} (h : 0 ≤ m) : 0 ≤ pl_hour P m ∧ pl_hour P m ≤ P 5 0 := by
  have h1 := hP.2.2.1
  unfold pl_hour
  split
  · have b1 := Int.emod_nonneg (m / 60) (b := P 5 0) (by omega)
    have b2 := Int.emod_lt_of_pos (m / 60) (show 0 < P 5 0 by omega)
    omega
  · omega
theorem flw_in {φ : Phi} {P c : Cs} {p h : Int} (h0 : 0 ≤ c 0 p) : 0 ≤ flw φ P c p h ∧ flw φ P c p h ≤ c 0 p := by
  unfold flw
  split
  · omega
  · split <;> omega
/-- quiet minutes at a post, with what flows there -/
def c_quiet (c : Cs) (p a z x : Int) : Int := if (0 < c 0 p ∧ z = 0) ∨ (c 2 p = -2 ∧ 0 < c 11 0) then 0 else if c_comer c p a = -2 then 2147483647 else if x = 0 then (if c 0 p = 0 then 0 else 2147483647) else (c 0 p - 1) / x
theorem s_Ca_quietAt {σ : St} {o : Nat} {c : Cs} {p a z : Int} (hc : o ∈ castles) (hp : 0 ≤ p ∧ p < 8) (ha : 0 ≤ a ∧ a < 8) (hz : z = 0 ∨ z = 1) (h0 : 0 ≤ c 0 p) (hx : 0 ≤ c 14 p ∧ c 14 p ≤ c 0 p) : CtI M_Ca_quietAt [.inr (.inr (o, 0)), .inl p, .inl a, .inl z] (so σ o c) (fun r u => (r = c_quiet c p a z (c 14 p) ∧ 0 ≤ r) ∧ u = so σ o c) := by
  intro g C F
  have h_o := cas_obj hc
  have c_o := cas_cls hc
  refine e_aload_n C d_Ca_quietAt_0 rfl ?_
  refine e_geta C fl_Ca_9 h_o c_o rfl d_Ca_quietAt_1 ?_
  refine e_iload_n C d_Ca_quietAt_4 rfl ?_
  refine e_iald (n := 8) C h_o c_o (by decide) rfl rfl (by decide) (by omega) (by omega) d_Ca_quietAt_5 (fun r_5 => ?_)
  try simp only [so_at] at r_5 ⊢
  refine e_if_le C 13 d_Ca_quietAt_6 (by decide) (by omega) (fun c_6 => ?_) (fun c_6 => ?_)
  · refine e_aload_n C d_Ca_quietAt_13 rfl ?_
    refine e_geta C fl_Ca_18 h_o c_o rfl d_Ca_quietAt_14 ?_
    refine e_iload_n C d_Ca_quietAt_17 rfl ?_
    refine e_iald (n := 8) C h_o c_o (by decide) rfl rfl (by decide) (by omega) (by omega) d_Ca_quietAt_18 (fun r_18 => ?_)
    try simp only [so_at] at r_18 ⊢
    refine e_bipush C d_Ca_quietAt_19 (by decide) ?_
    refine e_icmp_ne C 33 d_Ca_quietAt_21 (by decide) (by omega) (by omega) (fun c_21 => ?_) (fun c_21 => ?_)
    · refine e_aload_n C d_Ca_quietAt_33 rfl ?_
      refine e_iload_n C d_Ca_quietAt_34 rfl ?_
      refine e_iload_n C d_Ca_quietAt_35 rfl ?_
      refine e_callIV C ok_Ca_comer lk_Ca_134 (o := o) h_o (by rw [c_o]; rfl) [_, _] rfl rfl (Nat.le_of_ble_eq_true rfl) (by decide) (Nat.le_of_ble_eq_true rfl) d_Ca_quietAt_36 (s_Ca_comer hc hp ha) (fun v_36 u_36 q_36 h_36 => ?_)
      obtain ⟨h_36, rfl⟩ := h_36
      refine e_bipush C d_Ca_quietAt_39 (by decide) ?_
      refine e_icmp_ne C 47 d_Ca_quietAt_41 (by decide) (by omega) (by omega) (fun c_41 => ?_) (fun c_41 => ?_)
      · refine e_aload_n C d_Ca_quietAt_47 rfl ?_
        refine e_geta C fl_Ca_46 h_o c_o rfl d_Ca_quietAt_48 ?_
        refine e_iload_n C d_Ca_quietAt_51 rfl ?_
        refine e_iald (n := 8) C h_o c_o (by decide) rfl rfl (by decide) (by omega) (by omega) d_Ca_quietAt_52 (fun r_52 => ?_)
        try simp only [so_at] at r_52 ⊢
        refine e_if_ne C 72 d_Ca_quietAt_53 (by decide) (by omega) (fun c_53 => ?_) (fun c_53 => ?_)
        · have d1 := Int.ediv_nonneg (show 0 ≤ c 0 p - 1 by omega) hx.1
          have d2 := Int.ediv_le_self (c 14 p) (show 0 ≤ c 0 p - 1 by omega)
          refine e_aload_n C d_Ca_quietAt_72 rfl ?_
          refine e_geta C fl_Ca_9 h_o c_o rfl d_Ca_quietAt_73 ?_
          refine e_iload_n C d_Ca_quietAt_76 rfl ?_
          refine e_iald (n := 8) C h_o c_o (by decide) rfl rfl (by decide) (by omega) (by omega) d_Ca_quietAt_77 (fun r_77 => ?_)
          try simp only [so_at] at r_77 ⊢
          refine e_iconst C d_Ca_quietAt_78 ?_
          refine e_isub C d_Ca_quietAt_79 ?_
          refine e_aload_n C d_Ca_quietAt_80 rfl ?_
          refine e_geta C fl_Ca_46 h_o c_o rfl d_Ca_quietAt_81 ?_
          refine e_iload_n C d_Ca_quietAt_84 rfl ?_
          refine e_iald (n := 8) C h_o c_o (by decide) rfl rfl (by decide) (by omega) (by omega) d_Ca_quietAt_85 (fun r_85 => ?_)
          try simp only [so_at] at r_85 ⊢
          refine e_idiv C d_Ca_quietAt_86 (by omega) (by omega) (by omega) ?_
          rw [Int.tdiv_eq_ediv_of_nonneg (by omega)]
          refine e_iret C F rfl d_Ca_quietAt_87 (by omega) ?_
          refine ⟨⟨?_, by omega⟩, rfl⟩
          unfold c_quiet
          first
            | (exfalso; omega)
            | rw [if_pos (by omega)]
            | (rw [if_neg (by omega), if_pos (by omega)])
            | (rw [if_neg (by omega), if_neg (by omega), if_pos (by omega), if_pos (by omega)])
            | (rw [if_neg (by omega), if_neg (by omega), if_pos (by omega), if_neg (by omega)])
            | (rw [if_neg (by omega), if_neg (by omega), if_neg (by omega)])
        · refine e_aload_n C d_Ca_quietAt_56 rfl ?_
          refine e_geta C fl_Ca_9 h_o c_o rfl d_Ca_quietAt_57 ?_
          refine e_iload_n C d_Ca_quietAt_60 rfl ?_
          refine e_iald (n := 8) C h_o c_o (by decide) rfl rfl (by decide) (by omega) (by omega) d_Ca_quietAt_61 (fun r_61 => ?_)
          try simp only [so_at] at r_61 ⊢
          refine e_if_ne C 69 d_Ca_quietAt_62 (by decide) (by omega) (fun c_62 => ?_) (fun c_62 => ?_)
          · refine e_ldc (z := 2147483647) C w_c139 d_Ca_quietAt_69 ?_
            refine e_iret C F rfl d_Ca_quietAt_71 (by omega) ?_
            refine ⟨⟨?_, by omega⟩, rfl⟩
            unfold c_quiet
            first
              | (exfalso; omega)
              | rw [if_pos (by omega)]
              | (rw [if_neg (by omega), if_pos (by omega)])
              | (rw [if_neg (by omega), if_neg (by omega), if_pos (by omega), if_pos (by omega)])
              | (rw [if_neg (by omega), if_neg (by omega), if_pos (by omega), if_neg (by omega)])
              | (rw [if_neg (by omega), if_neg (by omega), if_neg (by omega)])
          · refine e_iconst C d_Ca_quietAt_65 ?_
            refine e_goto C 71 d_Ca_quietAt_66 (by decide) ?_
            refine e_iret C F rfl d_Ca_quietAt_71 (by omega) ?_
            refine ⟨⟨?_, by omega⟩, rfl⟩
            unfold c_quiet
            first
              | (exfalso; omega)
              | rw [if_pos (by omega)]
              | (rw [if_neg (by omega), if_pos (by omega)])
              | (rw [if_neg (by omega), if_neg (by omega), if_pos (by omega), if_pos (by omega)])
              | (rw [if_neg (by omega), if_neg (by omega), if_pos (by omega), if_neg (by omega)])
              | (rw [if_neg (by omega), if_neg (by omega), if_neg (by omega)])
      · refine e_ldc (z := 2147483647) C w_c139 d_Ca_quietAt_44 ?_
        refine e_iret C F rfl d_Ca_quietAt_46 (by omega) ?_
        refine ⟨⟨?_, by omega⟩, rfl⟩
        unfold c_quiet
        first
          | (exfalso; omega)
          | rw [if_pos (by omega)]
          | (rw [if_neg (by omega), if_pos (by omega)])
          | (rw [if_neg (by omega), if_neg (by omega), if_pos (by omega), if_pos (by omega)])
          | (rw [if_neg (by omega), if_neg (by omega), if_pos (by omega), if_neg (by omega)])
          | (rw [if_neg (by omega), if_neg (by omega), if_neg (by omega)])
    · refine e_aload_n C d_Ca_quietAt_24 rfl ?_
      refine e_geti C fl_Ca_52 h_o c_o rfl d_Ca_quietAt_25 (fun r_25 => ?_)
      try simp only [so_at] at r_25 ⊢
      refine e_if_le C 33 d_Ca_quietAt_28 (by decide) (by omega) (fun c_28 => ?_) (fun c_28 => ?_)
      · refine e_aload_n C d_Ca_quietAt_33 rfl ?_
        refine e_iload_n C d_Ca_quietAt_34 rfl ?_
        refine e_iload_n C d_Ca_quietAt_35 rfl ?_
        refine e_callIV C ok_Ca_comer lk_Ca_134 (o := o) h_o (by rw [c_o]; rfl) [_, _] rfl rfl (Nat.le_of_ble_eq_true rfl) (by decide) (Nat.le_of_ble_eq_true rfl) d_Ca_quietAt_36 (s_Ca_comer hc hp ha) (fun v_36 u_36 q_36 h_36 => ?_)
        obtain ⟨h_36, rfl⟩ := h_36
        refine e_bipush C d_Ca_quietAt_39 (by decide) ?_
        refine e_icmp_ne C 47 d_Ca_quietAt_41 (by decide) (by omega) (by omega) (fun c_41 => ?_) (fun c_41 => ?_)
        · refine e_aload_n C d_Ca_quietAt_47 rfl ?_
          refine e_geta C fl_Ca_46 h_o c_o rfl d_Ca_quietAt_48 ?_
          refine e_iload_n C d_Ca_quietAt_51 rfl ?_
          refine e_iald (n := 8) C h_o c_o (by decide) rfl rfl (by decide) (by omega) (by omega) d_Ca_quietAt_52 (fun r_52 => ?_)
          try simp only [so_at] at r_52 ⊢
          refine e_if_ne C 72 d_Ca_quietAt_53 (by decide) (by omega) (fun c_53 => ?_) (fun c_53 => ?_)
          · have d1 := Int.ediv_nonneg (show 0 ≤ c 0 p - 1 by omega) hx.1
            have d2 := Int.ediv_le_self (c 14 p) (show 0 ≤ c 0 p - 1 by omega)
            refine e_aload_n C d_Ca_quietAt_72 rfl ?_
            refine e_geta C fl_Ca_9 h_o c_o rfl d_Ca_quietAt_73 ?_
            refine e_iload_n C d_Ca_quietAt_76 rfl ?_
            refine e_iald (n := 8) C h_o c_o (by decide) rfl rfl (by decide) (by omega) (by omega) d_Ca_quietAt_77 (fun r_77 => ?_)
            try simp only [so_at] at r_77 ⊢
            refine e_iconst C d_Ca_quietAt_78 ?_
            refine e_isub C d_Ca_quietAt_79 ?_
            refine e_aload_n C d_Ca_quietAt_80 rfl ?_
            refine e_geta C fl_Ca_46 h_o c_o rfl d_Ca_quietAt_81 ?_
            refine e_iload_n C d_Ca_quietAt_84 rfl ?_
            refine e_iald (n := 8) C h_o c_o (by decide) rfl rfl (by decide) (by omega) (by omega) d_Ca_quietAt_85 (fun r_85 => ?_)
            try simp only [so_at] at r_85 ⊢
            refine e_idiv C d_Ca_quietAt_86 (by omega) (by omega) (by omega) ?_
            rw [Int.tdiv_eq_ediv_of_nonneg (by omega)]
            refine e_iret C F rfl d_Ca_quietAt_87 (by omega) ?_
            refine ⟨⟨?_, by omega⟩, rfl⟩
            unfold c_quiet
            first
              | (exfalso; omega)
              | rw [if_pos (by omega)]
              | (rw [if_neg (by omega), if_pos (by omega)])
              | (rw [if_neg (by omega), if_neg (by omega), if_pos (by omega), if_pos (by omega)])
              | (rw [if_neg (by omega), if_neg (by omega), if_pos (by omega), if_neg (by omega)])
              | (rw [if_neg (by omega), if_neg (by omega), if_neg (by omega)])
          · refine e_aload_n C d_Ca_quietAt_56 rfl ?_
            refine e_geta C fl_Ca_9 h_o c_o rfl d_Ca_quietAt_57 ?_
            refine e_iload_n C d_Ca_quietAt_60 rfl ?_
            refine e_iald (n := 8) C h_o c_o (by decide) rfl rfl (by decide) (by omega) (by omega) d_Ca_quietAt_61 (fun r_61 => ?_)
            try simp only [so_at] at r_61 ⊢
            refine e_if_ne C 69 d_Ca_quietAt_62 (by decide) (by omega) (fun c_62 => ?_) (fun c_62 => ?_)
            · refine e_ldc (z := 2147483647) C w_c139 d_Ca_quietAt_69 ?_
              refine e_iret C F rfl d_Ca_quietAt_71 (by omega) ?_
              refine ⟨⟨?_, by omega⟩, rfl⟩
              unfold c_quiet
              first
                | (exfalso; omega)
                | rw [if_pos (by omega)]
                | (rw [if_neg (by omega), if_pos (by omega)])
                | (rw [if_neg (by omega), if_neg (by omega), if_pos (by omega), if_pos (by omega)])
                | (rw [if_neg (by omega), if_neg (by omega), if_pos (by omega), if_neg (by omega)])
                | (rw [if_neg (by omega), if_neg (by omega), if_neg (by omega)])
            · refine e_iconst C d_Ca_quietAt_65 ?_
              refine e_goto C 71 d_Ca_quietAt_66 (by decide) ?_
              refine e_iret C F rfl d_Ca_quietAt_71 (by omega) ?_
              refine ⟨⟨?_, by omega⟩, rfl⟩
              unfold c_quiet
              first
                | (exfalso; omega)
                | rw [if_pos (by omega)]
                | (rw [if_neg (by omega), if_pos (by omega)])
                | (rw [if_neg (by omega), if_neg (by omega), if_pos (by omega), if_pos (by omega)])
                | (rw [if_neg (by omega), if_neg (by omega), if_pos (by omega), if_neg (by omega)])
                | (rw [if_neg (by omega), if_neg (by omega), if_neg (by omega)])
        · refine e_ldc (z := 2147483647) C w_c139 d_Ca_quietAt_44 ?_
          refine e_iret C F rfl d_Ca_quietAt_46 (by omega) ?_
          refine ⟨⟨?_, by omega⟩, rfl⟩
          unfold c_quiet
          first
            | (exfalso; omega)
            | rw [if_pos (by omega)]
            | (rw [if_neg (by omega), if_pos (by omega)])
            | (rw [if_neg (by omega), if_neg (by omega), if_pos (by omega), if_pos (by omega)])
            | (rw [if_neg (by omega), if_neg (by omega), if_pos (by omega), if_neg (by omega)])
            | (rw [if_neg (by omega), if_neg (by omega), if_neg (by omega)])
      · refine e_iconst C d_Ca_quietAt_31 ?_
        refine e_iret C F rfl d_Ca_quietAt_32 (by omega) ?_
        refine ⟨⟨?_, by omega⟩, rfl⟩
        unfold c_quiet
        first
          | (exfalso; omega)
          | rw [if_pos (by omega)]
          | (rw [if_neg (by omega), if_pos (by omega)])
          | (rw [if_neg (by omega), if_neg (by omega), if_pos (by omega), if_pos (by omega)])
          | (rw [if_neg (by omega), if_neg (by omega), if_pos (by omega), if_neg (by omega)])
          | (rw [if_neg (by omega), if_neg (by omega), if_neg (by omega)])
  · refine e_iload_n C d_Ca_quietAt_9 rfl ?_
    refine e_if_eq C 31 d_Ca_quietAt_10 (by decide) (by omega) (fun c_10 => ?_) (fun c_10 => ?_)
    · refine e_iconst C d_Ca_quietAt_31 ?_
      refine e_iret C F rfl d_Ca_quietAt_32 (by omega) ?_
      refine ⟨⟨?_, by omega⟩, rfl⟩
      unfold c_quiet
      first
        | (exfalso; omega)
        | rw [if_pos (by omega)]
        | (rw [if_neg (by omega), if_pos (by omega)])
        | (rw [if_neg (by omega), if_neg (by omega), if_pos (by omega), if_pos (by omega)])
        | (rw [if_neg (by omega), if_neg (by omega), if_pos (by omega), if_neg (by omega)])
        | (rw [if_neg (by omega), if_neg (by omega), if_neg (by omega)])
    · refine e_aload_n C d_Ca_quietAt_13 rfl ?_
      refine e_geta C fl_Ca_18 h_o c_o rfl d_Ca_quietAt_14 ?_
      refine e_iload_n C d_Ca_quietAt_17 rfl ?_
      refine e_iald (n := 8) C h_o c_o (by decide) rfl rfl (by decide) (by omega) (by omega) d_Ca_quietAt_18 (fun r_18 => ?_)
      try simp only [so_at] at r_18 ⊢
      refine e_bipush C d_Ca_quietAt_19 (by decide) ?_
      refine e_icmp_ne C 33 d_Ca_quietAt_21 (by decide) (by omega) (by omega) (fun c_21 => ?_) (fun c_21 => ?_)
      · refine e_aload_n C d_Ca_quietAt_33 rfl ?_
        refine e_iload_n C d_Ca_quietAt_34 rfl ?_
        refine e_iload_n C d_Ca_quietAt_35 rfl ?_
        refine e_callIV C ok_Ca_comer lk_Ca_134 (o := o) h_o (by rw [c_o]; rfl) [_, _] rfl rfl (Nat.le_of_ble_eq_true rfl) (by decide) (Nat.le_of_ble_eq_true rfl) d_Ca_quietAt_36 (s_Ca_comer hc hp ha) (fun v_36 u_36 q_36 h_36 => ?_)
        obtain ⟨h_36, rfl⟩ := h_36
        refine e_bipush C d_Ca_quietAt_39 (by decide) ?_
        refine e_icmp_ne C 47 d_Ca_quietAt_41 (by decide) (by omega) (by omega) (fun c_41 => ?_) (fun c_41 => ?_)
        · refine e_aload_n C d_Ca_quietAt_47 rfl ?_
          refine e_geta C fl_Ca_46 h_o c_o rfl d_Ca_quietAt_48 ?_
          refine e_iload_n C d_Ca_quietAt_51 rfl ?_
          refine e_iald (n := 8) C h_o c_o (by decide) rfl rfl (by decide) (by omega) (by omega) d_Ca_quietAt_52 (fun r_52 => ?_)
          try simp only [so_at] at r_52 ⊢
          refine e_if_ne C 72 d_Ca_quietAt_53 (by decide) (by omega) (fun c_53 => ?_) (fun c_53 => ?_)
          · have d1 := Int.ediv_nonneg (show 0 ≤ c 0 p - 1 by omega) hx.1
            have d2 := Int.ediv_le_self (c 14 p) (show 0 ≤ c 0 p - 1 by omega)
            refine e_aload_n C d_Ca_quietAt_72 rfl ?_
            refine e_geta C fl_Ca_9 h_o c_o rfl d_Ca_quietAt_73 ?_
            refine e_iload_n C d_Ca_quietAt_76 rfl ?_
            refine e_iald (n := 8) C h_o c_o (by decide) rfl rfl (by decide) (by omega) (by omega) d_Ca_quietAt_77 (fun r_77 => ?_)
            try simp only [so_at] at r_77 ⊢
            refine e_iconst C d_Ca_quietAt_78 ?_
            refine e_isub C d_Ca_quietAt_79 ?_
            refine e_aload_n C d_Ca_quietAt_80 rfl ?_
            refine e_geta C fl_Ca_46 h_o c_o rfl d_Ca_quietAt_81 ?_
            refine e_iload_n C d_Ca_quietAt_84 rfl ?_
            refine e_iald (n := 8) C h_o c_o (by decide) rfl rfl (by decide) (by omega) (by omega) d_Ca_quietAt_85 (fun r_85 => ?_)
            try simp only [so_at] at r_85 ⊢
            refine e_idiv C d_Ca_quietAt_86 (by omega) (by omega) (by omega) ?_
            rw [Int.tdiv_eq_ediv_of_nonneg (by omega)]
            refine e_iret C F rfl d_Ca_quietAt_87 (by omega) ?_
            refine ⟨⟨?_, by omega⟩, rfl⟩
            unfold c_quiet
            first
              | (exfalso; omega)
              | rw [if_pos (by omega)]
              | (rw [if_neg (by omega), if_pos (by omega)])
              | (rw [if_neg (by omega), if_neg (by omega), if_pos (by omega), if_pos (by omega)])
              | (rw [if_neg (by omega), if_neg (by omega), if_pos (by omega), if_neg (by omega)])
              | (rw [if_neg (by omega), if_neg (by omega), if_neg (by omega)])
          · refine e_aload_n C d_Ca_quietAt_56 rfl ?_
            refine e_geta C fl_Ca_9 h_o c_o rfl d_Ca_quietAt_57 ?_
            refine e_iload_n C d_Ca_quietAt_60 rfl ?_
            refine e_iald (n := 8) C h_o c_o (by decide) rfl rfl (by decide) (by omega) (by omega) d_Ca_quietAt_61 (fun r_61 => ?_)
            try simp only [so_at] at r_61 ⊢
            refine e_if_ne C 69 d_Ca_quietAt_62 (by decide) (by omega) (fun c_62 => ?_) (fun c_62 => ?_)
            · refine e_ldc (z := 2147483647) C w_c139 d_Ca_quietAt_69 ?_
              refine e_iret C F rfl d_Ca_quietAt_71 (by omega) ?_
              refine ⟨⟨?_, by omega⟩, rfl⟩
              unfold c_quiet
              first
                | (exfalso; omega)
                | rw [if_pos (by omega)]
                | (rw [if_neg (by omega), if_pos (by omega)])
                | (rw [if_neg (by omega), if_neg (by omega), if_pos (by omega), if_pos (by omega)])
                | (rw [if_neg (by omega), if_neg (by omega), if_pos (by omega), if_neg (by omega)])
                | (rw [if_neg (by omega), if_neg (by omega), if_neg (by omega)])
            · refine e_iconst C d_Ca_quietAt_65 ?_
              refine e_goto C 71 d_Ca_quietAt_66 (by decide) ?_
              refine e_iret C F rfl d_Ca_quietAt_71 (by omega) ?_
              refine ⟨⟨?_, by omega⟩, rfl⟩
              unfold c_quiet
              first
                | (exfalso; omega)
                | rw [if_pos (by omega)]
                | (rw [if_neg (by omega), if_pos (by omega)])
                | (rw [if_neg (by omega), if_neg (by omega), if_pos (by omega), if_pos (by omega)])
                | (rw [if_neg (by omega), if_neg (by omega), if_pos (by omega), if_neg (by omega)])
                | (rw [if_neg (by omega), if_neg (by omega), if_neg (by omega)])
        · refine e_ldc (z := 2147483647) C w_c139 d_Ca_quietAt_44 ?_
          refine e_iret C F rfl d_Ca_quietAt_46 (by omega) ?_
          refine ⟨⟨?_, by omega⟩, rfl⟩
          unfold c_quiet
          first
            | (exfalso; omega)
            | rw [if_pos (by omega)]
            | (rw [if_neg (by omega), if_pos (by omega)])
            | (rw [if_neg (by omega), if_neg (by omega), if_pos (by omega), if_pos (by omega)])
            | (rw [if_neg (by omega), if_neg (by omega), if_pos (by omega), if_neg (by omega)])
            | (rw [if_neg (by omega), if_neg (by omega), if_neg (by omega)])
      · refine e_aload_n C d_Ca_quietAt_24 rfl ?_
        refine e_geti C fl_Ca_52 h_o c_o rfl d_Ca_quietAt_25 (fun r_25 => ?_)
        try simp only [so_at] at r_25 ⊢
        refine e_if_le C 33 d_Ca_quietAt_28 (by decide) (by omega) (fun c_28 => ?_) (fun c_28 => ?_)
        · refine e_aload_n C d_Ca_quietAt_33 rfl ?_
          refine e_iload_n C d_Ca_quietAt_34 rfl ?_
          refine e_iload_n C d_Ca_quietAt_35 rfl ?_
          refine e_callIV C ok_Ca_comer lk_Ca_134 (o := o) h_o (by rw [c_o]; rfl) [_, _] rfl rfl (Nat.le_of_ble_eq_true rfl) (by decide) (Nat.le_of_ble_eq_true rfl) d_Ca_quietAt_36 (s_Ca_comer hc hp ha) (fun v_36 u_36 q_36 h_36 => ?_)
          obtain ⟨h_36, rfl⟩ := h_36
          refine e_bipush C d_Ca_quietAt_39 (by decide) ?_
          refine e_icmp_ne C 47 d_Ca_quietAt_41 (by decide) (by omega) (by omega) (fun c_41 => ?_) (fun c_41 => ?_)
          · refine e_aload_n C d_Ca_quietAt_47 rfl ?_
            refine e_geta C fl_Ca_46 h_o c_o rfl d_Ca_quietAt_48 ?_
            refine e_iload_n C d_Ca_quietAt_51 rfl ?_
            refine e_iald (n := 8) C h_o c_o (by decide) rfl rfl (by decide) (by omega) (by omega) d_Ca_quietAt_52 (fun r_52 => ?_)
            try simp only [so_at] at r_52 ⊢
            refine e_if_ne C 72 d_Ca_quietAt_53 (by decide) (by omega) (fun c_53 => ?_) (fun c_53 => ?_)
            · have d1 := Int.ediv_nonneg (show 0 ≤ c 0 p - 1 by omega) hx.1
              have d2 := Int.ediv_le_self (c 14 p) (show 0 ≤ c 0 p - 1 by omega)
              refine e_aload_n C d_Ca_quietAt_72 rfl ?_
              refine e_geta C fl_Ca_9 h_o c_o rfl d_Ca_quietAt_73 ?_
              refine e_iload_n C d_Ca_quietAt_76 rfl ?_
              refine e_iald (n := 8) C h_o c_o (by decide) rfl rfl (by decide) (by omega) (by omega) d_Ca_quietAt_77 (fun r_77 => ?_)
              try simp only [so_at] at r_77 ⊢
              refine e_iconst C d_Ca_quietAt_78 ?_
              refine e_isub C d_Ca_quietAt_79 ?_
              refine e_aload_n C d_Ca_quietAt_80 rfl ?_
              refine e_geta C fl_Ca_46 h_o c_o rfl d_Ca_quietAt_81 ?_
              refine e_iload_n C d_Ca_quietAt_84 rfl ?_
              refine e_iald (n := 8) C h_o c_o (by decide) rfl rfl (by decide) (by omega) (by omega) d_Ca_quietAt_85 (fun r_85 => ?_)
              try simp only [so_at] at r_85 ⊢
              refine e_idiv C d_Ca_quietAt_86 (by omega) (by omega) (by omega) ?_
              rw [Int.tdiv_eq_ediv_of_nonneg (by omega)]
              refine e_iret C F rfl d_Ca_quietAt_87 (by omega) ?_
              refine ⟨⟨?_, by omega⟩, rfl⟩
              unfold c_quiet
              first
                | (exfalso; omega)
                | rw [if_pos (by omega)]
                | (rw [if_neg (by omega), if_pos (by omega)])
                | (rw [if_neg (by omega), if_neg (by omega), if_pos (by omega), if_pos (by omega)])
                | (rw [if_neg (by omega), if_neg (by omega), if_pos (by omega), if_neg (by omega)])
                | (rw [if_neg (by omega), if_neg (by omega), if_neg (by omega)])
            · refine e_aload_n C d_Ca_quietAt_56 rfl ?_
              refine e_geta C fl_Ca_9 h_o c_o rfl d_Ca_quietAt_57 ?_
              refine e_iload_n C d_Ca_quietAt_60 rfl ?_
              refine e_iald (n := 8) C h_o c_o (by decide) rfl rfl (by decide) (by omega) (by omega) d_Ca_quietAt_61 (fun r_61 => ?_)
              try simp only [so_at] at r_61 ⊢
              refine e_if_ne C 69 d_Ca_quietAt_62 (by decide) (by omega) (fun c_62 => ?_) (fun c_62 => ?_)
              · refine e_ldc (z := 2147483647) C w_c139 d_Ca_quietAt_69 ?_
                refine e_iret C F rfl d_Ca_quietAt_71 (by omega) ?_
                refine ⟨⟨?_, by omega⟩, rfl⟩
                unfold c_quiet
                first
                  | (exfalso; omega)
                  | rw [if_pos (by omega)]
                  | (rw [if_neg (by omega), if_pos (by omega)])
                  | (rw [if_neg (by omega), if_neg (by omega), if_pos (by omega), if_pos (by omega)])
                  | (rw [if_neg (by omega), if_neg (by omega), if_pos (by omega), if_neg (by omega)])
                  | (rw [if_neg (by omega), if_neg (by omega), if_neg (by omega)])
              · refine e_iconst C d_Ca_quietAt_65 ?_
                refine e_goto C 71 d_Ca_quietAt_66 (by decide) ?_
                refine e_iret C F rfl d_Ca_quietAt_71 (by omega) ?_
                refine ⟨⟨?_, by omega⟩, rfl⟩
                unfold c_quiet
                first
                  | (exfalso; omega)
                  | rw [if_pos (by omega)]
                  | (rw [if_neg (by omega), if_pos (by omega)])
                  | (rw [if_neg (by omega), if_neg (by omega), if_pos (by omega), if_pos (by omega)])
                  | (rw [if_neg (by omega), if_neg (by omega), if_pos (by omega), if_neg (by omega)])
                  | (rw [if_neg (by omega), if_neg (by omega), if_neg (by omega)])
          · refine e_ldc (z := 2147483647) C w_c139 d_Ca_quietAt_44 ?_
            refine e_iret C F rfl d_Ca_quietAt_46 (by omega) ?_
            refine ⟨⟨?_, by omega⟩, rfl⟩
            unfold c_quiet
            first
              | (exfalso; omega)
              | rw [if_pos (by omega)]
              | (rw [if_neg (by omega), if_pos (by omega)])
              | (rw [if_neg (by omega), if_neg (by omega), if_pos (by omega), if_pos (by omega)])
              | (rw [if_neg (by omega), if_neg (by omega), if_pos (by omega), if_neg (by omega)])
              | (rw [if_neg (by omega), if_neg (by omega), if_neg (by omega)])
        · refine e_iconst C d_Ca_quietAt_31 ?_
          refine e_iret C F rfl d_Ca_quietAt_32 (by omega) ?_
          refine ⟨⟨?_, by omega⟩, rfl⟩
          unfold c_quiet
          first
            | (exfalso; omega)
            | rw [if_pos (by omega)]
            | (rw [if_neg (by omega), if_pos (by omega)])
            | (rw [if_neg (by omega), if_neg (by omega), if_pos (by omega), if_pos (by omega)])
            | (rw [if_neg (by omega), if_neg (by omega), if_pos (by omega), if_neg (by omega)])
            | (rw [if_neg (by omega), if_neg (by omega), if_neg (by omega)])
def c_fl (c : Cs) (i : Int) (fl : Int → Int) : Cs := fun f j => if f = 14 ∧ 0 ≤ j ∧ j < i then fl j else c f j
theorem c_fl_f {c : Cs} {i j : Int} {fl : Int → Int} {f : Nat} (h : f ≠ 14) : c_fl c i fl f j = c f j := by unfold c_fl; rw [if_neg (fun z => h z.1)]
theorem c_fl_0 (c : Cs) (fl : Int → Int) : c_fl c 0 fl = c := by
  funext f j
  unfold c_fl
  rw [if_neg (by omega)]
theorem c_fl_S {c : Cs} {i : Int} {fl : Int → Int} (h : 0 ≤ i) : cu (c_fl c i fl) 14 i (fl i) = c_fl c (i + 1) fl := by
  funext f j
  rw [cu_if]
  unfold c_fl
  by_cases h1 : f = 14 ∧ j = i
  · obtain ⟨rfl, rfl⟩ := h1
    rw [if_pos ⟨rfl, rfl⟩, if_pos ⟨rfl, h, by omega⟩]
  · rw [if_neg h1]
    by_cases e : j = i
    · subst e
      have : f ≠ 14 := fun z => h1 ⟨z, rfl⟩
      rw [if_neg (by omega), if_neg (by omega)]
    · have e2 : (j < i + 1) ↔ (j < i) := by omega
      simp only [e2]
theorem c_fl_at {c : Cs} {i j : Int} {fl : Int → Int} (h : 0 ≤ j ∧ j < i) : c_fl c i fl 14 j = fl j := by unfold c_fl; rw [if_pos ⟨rfl, h⟩]
theorem flw_fl (φ : Phi) (P c : Cs) (p h i : Int) (fl : Int → Int) : flw φ P (c_fl c i fl) p h = flw φ P c p h := by
  unfold flw pl_damp
  simp only [c_fl_f, ne_eq, Nat.reduceEqDiff, not_false_eq_true]
theorem quiet_fl (c : Cs) (p a z x i : Int) (fl : Int → Int) : c_quiet (c_fl c i fl) p a z x = c_quiet c p a z x := by
  unfold c_quiet c_comer
  simp only [c_fl_f, ne_eq, Nat.reduceEqDiff, not_false_eq_true]
def ahd (N p : Int) : Int := if p = 0 then N - 1 else p - 1
/-- for how many minutes it is quiet, of q -/
def qstep (c : Cs) (N z : Int) (fl : Int → Int) (p q : Int) : Int := if 0 < q then min q (c_quiet c p (ahd N p) z (fl p)) else q
set_option maxHeartbeats 1000000 in
theorem l_Ca_lookAhead {g : Mach} {P : Int → St → Prop} (C : Cx M_Ca_lookAhead g) (F : FinI M_Ca_lookAhead g P) {σ : St} {o : Nat} {c : Cs} {φ : Phi} {lim h : Int} {fl : Int → Int} (hc : o ∈ castles) (hh : 0 ≤ h ∧ h ≤ σ 7 5 0) (hfl : ∀ p, fl p = flw φ (σ 7) c p h) (h0 : ∀ p, 0 ≤ p → p < 8 → 0 ≤ c 0 p) :
    ∀ (n : Nat) (i a q : Int) (l : Cs), PlanOk (σ 7) l φ → 0 ≤ i → i + n = σ 7 3 0 → a = ahd (σ 7 3 0) i → 0 ≤ q → q < 2147483648 → (∀ l', LSm l l' → P (itr (qstep c (σ 7 3 0) (l 0 0) fl) n i q) (so (so σ 8 l') o (c_fl c (σ 7 3 0) fl))) → Ev g 23 [some (.inr (.inr (o, 0))), some (.inr (.inr (7, 0))), some (.inl lim), some (.inl q), some (.inl h), some (.inl a), some (.inl i)] [] (so (so σ 8 l) o (c_fl c i fl)) := by
  have h_o := cas_obj hc
  have c_o := cas_cls hc
  have h7 := cas_ne (n := 7) hc (by decide)
  have h8 := cas_ne (n := 8) hc (by decide)
  intro n
  induction n with
  | zero =>
    intro i a q l hPl hi h1 ha hq hq2 hP
    have hN := hPl.1
    refine e_iload C d_Ca_lookAhead_23 rfl ?_
    refine e_aload_n C d_Ca_lookAhead_25 rfl ?_
    refine e_geti C fl_Ca_86 (by decide) rfl rfl d_Ca_lookAhead_26 (fun r_26 => ?_)
    try simp only [so_at, so_ne h7, so_78] at r_26 ⊢
    refine e_icmp_ge C 82 d_Ca_lookAhead_29 (by decide) (by omega) (by omega) (fun c_29 => ?_) (fun c_29 => ?_)
    · refine e_iload_n C d_Ca_lookAhead_82 rfl ?_
      refine e_iret C F rfl d_Ca_lookAhead_83 (by omega) ?_
      rw [show i = σ 7 3 0 by omega]
      exact hP l (LSm.rf l)
    · exact absurd h1 (by omega)
  | succ n ih =>
    intro i a q l hPl hi h1 ha hq hq2 hP
    have hN := hPl.1
    have ha8 : 0 ≤ a ∧ a < 8 := by rw [ha]; unfold ahd; split <;> omega
    have h0i := h0 i hi (by omega)
    have hin := flw_in (φ := φ) (P := σ 7) (h := h) h0i
    rw [← hfl i] at hin
    refine e_iload C d_Ca_lookAhead_23 rfl ?_
    refine e_aload_n C d_Ca_lookAhead_25 rfl ?_
    refine e_geti C fl_Ca_86 (by decide) rfl rfl d_Ca_lookAhead_26 (fun r_26 => ?_)
    try simp only [so_at, so_ne h7, so_ne h8, so_78, so_88, wr_so, so_so] at r_26 ⊢
    refine e_icmp_ge C 82 d_Ca_lookAhead_29 (by decide) (by omega) (by omega) (fun c_29 => ?_) (fun c_29 => ?_)
    · exact absurd h1 (by omega)
    · refine e_aload_n C d_Ca_lookAhead_32 rfl ?_
      refine e_geta C fl_Ca_46 h_o c_o rfl d_Ca_lookAhead_33 ?_
      refine e_iload C d_Ca_lookAhead_36 rfl ?_
      refine e_aload_n C d_Ca_lookAhead_38 rfl ?_
      refine e_aload_n C d_Ca_lookAhead_39 rfl ?_
      refine e_iload C d_Ca_lookAhead_40 rfl ?_
      refine e_iload C d_Ca_lookAhead_42 rfl ?_
      refine e_callIV C ok_Pl_flow lk_Ca_116 (o := 7) (by decide) rfl [_, _, _] rfl rfl (Nat.le_of_ble_eq_true rfl) (by decide) (Nat.le_of_ble_eq_true rfl) d_Ca_lookAhead_44 (s_Pl_flow hc hPl (by omega) hh) (fun v_44 u_44 q_44 h_44 => ?_)
      obtain ⟨h_44, l1, hl1, rfl⟩ := h_44
      rw [flw_fl, ← hfl i] at h_44
      subst h_44
      have hP1 := hPl.same hl1
      have hz := hl1.1 0 (by decide)
      refine e_iast (n := 8) C h_o c_o (by decide) rfl rfl (by decide) (by omega) (by omega) (by omega) d_Ca_lookAhead_47 ?_
      try simp only [so_at, so_ne h7, so_ne h8, so_78, so_88, wr_so, so_so]
      rw [c_fl_S hi]
      refine e_iload_n C d_Ca_lookAhead_48 rfl ?_
      refine e_if_le C 72 d_Ca_lookAhead_49 (by decide) (by omega) (fun c_49 => ?_) (fun c_49 => ?_)
      · have hst : qstep c (σ 7 3 0) (l 0 0) fl i q = q := by unfold qstep; rw [if_neg (by omega)]
        refine e_iload C d_Ca_lookAhead_72 rfl ?_
        refine e_istore C d_Ca_lookAhead_74 (by decide) rfl ?_
        refine e_iinc C d_Ca_lookAhead_76 rfl (by decide) rfl ?_
        refine e_goto C 23 d_Ca_lookAhead_79 (by decide) ?_
        refine ih (i + 1) i _ l1 hP1 (by omega) (by omega) (by unfold ahd; rw [if_neg (by omega)]; omega) (by omega) (by omega) (fun l' hl' => ?_)
        have := hP l' (hl1.tr hl')
        rw [itr_S, hst] at this
        rw [hz]
        exact this
      · have hst : qstep c (σ 7 3 0) (l 0 0) fl i q = min q (c_quiet c i a (l 0 0) (fl i)) := by unfold qstep; rw [if_pos (by omega), ← ha]
        refine e_iload_n C d_Ca_lookAhead_52 rfl ?_
        refine e_aload_n C d_Ca_lookAhead_53 rfl ?_
        refine e_iload C d_Ca_lookAhead_54 rfl ?_
        refine e_iload C d_Ca_lookAhead_56 rfl ?_
        refine e_aload_n C d_Ca_lookAhead_58 rfl ?_
        refine e_geto (o2 := 8) C fl_Ca_120 (by decide) rfl rfl rfl d_Ca_lookAhead_59 ?_
        refine e_getz C fl_Ca_124 (by decide) rfl rfl d_Ca_lookAhead_62 (fun r_62 => ?_)
        try simp only [so_at, so_ne h7, so_ne h8, so_78, so_88, wr_so, so_so] at r_62 ⊢
        refine e_callIV C ok_Ca_quietAt lk_Ca_130 (o := o) h_o (by rw [c_o]; rfl) [_, _, _] rfl rfl (Nat.le_of_ble_eq_true rfl) (by decide) (Nat.le_of_ble_eq_true rfl) d_Ca_lookAhead_65 (s_Ca_quietAt hc (by omega) ha8 (by omega) (by rw [c_fl_f (by decide)]; exact h0i) (by rw [c_fl_at (by omega), c_fl_f (by decide)]; exact hin)) (fun v_65 u_65 q_65 h_65 => ?_)
        obtain ⟨⟨h_65, h65b⟩, rfl⟩ := h_65
        rw [quiet_fl, c_fl_at (by omega), hz] at h_65
        rw [← h_65] at hst
        refine e_mmin C lk_Ca_80 d_Ca_lookAhead_68 (by decide) (Nat.le_of_ble_eq_true rfl) (by omega) (by omega) ?_
        refine e_istore_n C d_Ca_lookAhead_71 (by decide) rfl ?_
        refine e_iload C d_Ca_lookAhead_72 rfl ?_
        refine e_istore C d_Ca_lookAhead_74 (by decide) rfl ?_
        refine e_iinc C d_Ca_lookAhead_76 rfl (by decide) rfl ?_
        refine e_goto C 23 d_Ca_lookAhead_79 (by decide) ?_
        refine ih (i + 1) i _ l1 hP1 (by omega) (by omega) (by unfold ahd; rw [if_neg (by omega)]; omega) (by omega) (by omega) (fun l' hl' => ?_)
        have := hP l' (hl1.tr hl')
        rw [itr_S, hst] at this
        rw [hz]
        exact this
theorem s_Ca_lookAhead {σ : St} {o : Nat} {c l : Cs} {φ : Phi} {lim : Int} (hc : o ∈ castles) (hPl : PlanOk (σ 7) l φ) (h0 : ∀ p, 0 ≤ p → p < 8 → 0 ≤ c 0 p) (hm : 0 ≤ c 12 0) (hl : 0 ≤ lim ∧ lim < 2147483648) : CtI M_Ca_lookAhead [.inr (.inr (o, 0)), .inr (.inr (7, 0)), .inl lim] (so (so σ 8 l) o c) (fun r u => r = itr (qstep c (σ 7 3 0) (l 0 0) (fun p => flw φ (σ 7) c p (pl_hour (σ 7) (c 12 0)))) (σ 7 3 0).toNat 0 lim ∧ ∃ l', LSm l l' ∧ u = so (so σ 8 l') o (c_fl c (σ 7 3 0) (fun p => flw φ (σ 7) c p (pl_hour (σ 7) (c 12 0))))) := by
  intro g C F
  have h_o := cas_obj hc
  have c_o := cas_cls hc
  have h7 := cas_ne (n := 7) hc (by decide)
  have hN := hPl.1
  have hH := hPl.2.2.1
  refine e_iload_n C d_Ca_lookAhead_0 rfl ?_
  refine e_istore_n C d_Ca_lookAhead_1 (by decide) rfl ?_
  refine e_aload_n C d_Ca_lookAhead_2 rfl ?_
  refine e_aload_n C d_Ca_lookAhead_3 rfl ?_
  refine e_geti C fl_Ca_62 h_o c_o rfl d_Ca_lookAhead_4 (fun r_4 => ?_)
  try simp only [so_at, so_ne h7, so_78] at r_4 ⊢
  refine e_callIV C ok_Pl_hourOf lk_Ca_112 (o := 7) (by decide) rfl [_] rfl rfl (Nat.le_of_ble_eq_true rfl) (by decide) (Nat.le_of_ble_eq_true rfl) d_Ca_lookAhead_7 (s_Pl_hourOf (by omega) (by omega) (by rw [so_ne h7, so_78]; omega)) (fun v_7 u_7 q_7 h_7 => ?_)
  obtain ⟨h_7, rfl⟩ := h_7
  rw [so_ne h7, so_78] at h_7
  subst h_7
  refine e_istore C d_Ca_lookAhead_10 (by decide) rfl ?_
  refine e_aload_n C d_Ca_lookAhead_12 rfl ?_
  refine e_geti C fl_Ca_86 (by decide) rfl rfl d_Ca_lookAhead_13 (fun r_13 => ?_)
  try simp only [so_at, so_ne h7, so_78] at r_13 ⊢
  refine e_iconst C d_Ca_lookAhead_16 ?_
  refine e_isub C d_Ca_lookAhead_17 ?_
  refine e_istore C d_Ca_lookAhead_18 (by decide) rfl ?_
  refine e_iconst C d_Ca_lookAhead_20 ?_
  refine e_istore C d_Ca_lookAhead_21 (by decide) rfl ?_
  have := l_Ca_lookAhead (lim := lim) C F hc (pl_hour_in hPl hm) (fun p => rfl) h0 (σ 7 3 0).toNat 0 (σ 7 3 0 - 1) lim l hPl (by omega) (by omega) rfl (by omega) (by omega) (fun l' hl' => ⟨rfl, l', hl', rfl⟩)
  rw [c_fl_0] at this
  exact this
