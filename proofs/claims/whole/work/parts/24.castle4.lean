/-! Castle: all who come, all posts filled, minutes counted -/
def CK (B : Int) (c : Cs) : Prop := CI c ∧ (∀ p, 0 ≤ p → p < 8 → 0 ≤ c 0 p ∧ 0 ≤ c 1 p ∧ c 0 p + c 1 p ≤ 1000000000 ∧ c 4 p ≤ B) ∧ (∀ k, 0 ≤ k → k < 12 → c 7 k ≤ B ∧ c 8 k ≤ B ∧ c 9 k ≤ B) ∧ (0 ≤ c 12 0 ∧ c 12 0 ≤ B)
theorem CK.mono {B B' : Int} {c : Cs} (h : CK B c) (hB : B ≤ B') : CK B' c :=
  ⟨h.1, fun p a b => ⟨(h.2.1 p a b).1, (h.2.1 p a b).2.1, (h.2.1 p a b).2.2.1, Int.le_trans (h.2.1 p a b).2.2.2 hB⟩, fun k a b => ⟨Int.le_trans (h.2.2.1 k a b).1 hB, Int.le_trans (h.2.2.1 k a b).2.1 hB, Int.le_trans (h.2.2.1 k a b).2.2 hB⟩, h.2.2.2.1, Int.le_trans h.2.2.2.2 hB⟩
theorem cu_if (c : Cs) (f : Nat) (k v : Int) (f' : Nat) (k' : Int) : cu c f k v f' k' = if f' = f ∧ k' = k then v else c f' k' := rfl
theorem CI_stand {c : Cs} {a p : Int} (h : CI c) (ha : 0 ≤ a ∧ a < 12) : CI (c_stand c a p) := by
  refine ⟨?_, ?_, ?_⟩
  · rw [c_stand_f (by decide) (by decide) (by decide)]; exact h.1
  · intro k; rw [c_stand_f (by decide) (by decide) (by decide), c_stand_f (by decide) (by decide) (by decide)]; exact h.2.1 k
  · intro q h1 h2
    unfold c_stand
    rw [cu_f (by decide), cu_f (by decide), cu_if]
    split
    · exact Or.inr ha
    · exact h.2.2 q h1 h2
theorem CI_up {c : Cs} {k : Int} (h : CI c) (hk : 0 ≤ k) (h0 : 0 < c 11 0) : CI (c_up c k) := by
  refine ⟨?_, ?_, ?_⟩
  · rw [c_up_11]; have := h.1; omega
  · intro j h1 h2
    rw [c_up_11] at h2
    unfold c_up
    rw [if_neg (by omega)]
    split
    · exact h.2.1 (j + 1) (by omega) (by omega)
    · exact h.2.1 j h1 (by omega)
  · intro q h1 h2; rw [c_up_f (by decide) (by decide)]; exact h.2.2 q h1 h2
theorem CI_cu {c : Cs} {f : Nat} {k v : Int} (h : CI c) (h2 : f ≠ 2) (h10 : f ≠ 10) (h11 : f ≠ 11) : CI (cu c f k v) := by
  refine ⟨?_, ?_, ?_⟩
  · rw [cu_f h11.symm]; exact h.1
  · intro j; rw [cu_f h11.symm, cu_f h10.symm]; exact h.2.1 j
  · intro q; rw [cu_f h2.symm]; exact h.2.2 q
theorem CI_cu2 {c : Cs} {k v : Int} (h : CI c) (hv : v = -2 ∨ (0 ≤ v ∧ v < 12)) : CI (cu c 2 k v) := by
  refine ⟨?_, ?_, ?_⟩
  · rw [cu_f (by decide)]; exact h.1
  · intro j; rw [cu_f (by decide), cu_f (by decide)]; exact h.2.1 j
  · intro q h1 h2
    rw [cu_if]
    split
    · exact hv
    · exact h.2.2 q h1 h2
theorem CI_lie {c : Cs} {a : Int} (h : CI c) (ha : 0 ≤ a ∧ a < 12) : CI (c_lie c a) := by
  have h1 := h.1
  unfold c_lie
  split
  · refine ⟨?_, ?_, ?_⟩
    · rw [cu_f (by decide), cu_s]; omega
    · intro j h2 h3
      rw [cu_f (by decide), cu_s] at h3
      rw [cu_if]
      split
      · exact ha
      · rw [cu_f (by decide), cu_f (by decide), cu_f (by decide)]; exact h.2.1 j h2 (by omega)
    · intro q; rw [cu_f (by decide), cu_f (by decide), cu_f (by decide), cu_f (by decide)]; exact h.2.2 q
  · exact CI_cu (CI_cu h (by decide) (by decide) (by decide)) (by decide) (by decide) (by decide)
theorem c_lie_f {c : Cs} {a k : Int} {f : Nat} (h6 : f ≠ 6) (h8 : f ≠ 8) (h10 : f ≠ 10) (h11 : f ≠ 11) : c_lie c a f k = c f k := by
  unfold c_lie
  split
  · rw [cu_f h10, cu_f h11, cu_f h8, cu_f h6]
  · rw [cu_f h8, cu_f h6]
theorem c_next_f {c : Cs} {a k : Int} {f : Nat} (h2 : f ≠ 2) (h6 : f ≠ 6) (h8 : f ≠ 8) (h10 : f ≠ 10) (h11 : f ≠ 11) : c_next c a f k = c f k := by
  unfold c_next
  split
  · rw [c_stand_f h2 h6 h8, c_up_f h10 h11]
  · rfl
theorem c_comer_in {c : Cs} {p a : Int} (h : CI c) (hp : 0 ≤ p ∧ p < 8) (ha : 0 ≤ a ∧ a < 8) (hw : ¬ c_comer c p a = -2) : (0 ≤ c_comer c p a ∧ c_comer c p a < 12) ∧ 0 ≤ c 2 p ∧ c 2 p < 12 := by
  have h1 := h.2.2 p hp.1 hp.2
  have h2 := h.2.2 a ha.1 ha.2
  unfold c_comer at hw ⊢
  split
  · rw [if_pos (by assumption)] at hw; exact absurd rfl hw
  · rename_i h3; rw [if_neg h3] at hw; omega
theorem CI_next {c : Cs} {a : Int} (h : CI c) : CI (c_next c a) := by
  unfold c_next
  split
  · rename_i h0; exact CI_stand (CI_up h (by omega) h0) (h.2.1 0 (by omega) h0)
  · exact h
theorem CI_relieve {c : Cs} {p a : Int} (h : CI c) (hp : 0 ≤ p ∧ p < 8) (ha : 0 ≤ a ∧ a < 8) : CI (c_relieve c p a) := by
  unfold c_relieve
  split
  · exact h
  · rename_i hw
    obtain ⟨h1, h2⟩ := c_comer_in h hp ha hw
    refine CI_lie (CI_cu (CI_next (CI_stand ?_ h1)) (by decide) (by decide) (by decide)) h2
    unfold c_turn
    exact CI_cu2 (CI_cu (CI_cu (CI_cu (CI_cu h (by decide) (by decide) (by decide)) (by decide) (by decide) (by decide)) (by decide) (by decide) (by decide)) (by decide) (by decide) (by decide)) (Or.inl rfl)
theorem CK_relieve {B : Int} {c : Cs} {p a : Int} (h : CK B c) (hB : 0 ≤ B) (hp : 0 ≤ p ∧ p < 8) (ha : 0 ≤ a ∧ a < 8) : CK (B + 1) (c_relieve c p a) := by
  refine ⟨CI_relieve h.1 hp ha, ?_⟩
  unfold c_relieve
  split
  · exact (h.mono (by omega)).2
  · rename_i hw
    unfold c_tired
    refine ⟨fun q h1 h2 => ?_, fun k h1 h2 => ?_, ?_⟩
    · have hq := h.2.1 q h1 h2
      have hpp := h.2.1 p hp.1 hp.2
      simp only [c_lie_f, cu_f, c_next_f, c_stand_f, c_turn, ne_eq, Nat.reduceEqDiff, not_false_eq_true]
      simp only [cu_if, Nat.reduceEqDiff, false_and, if_false, true_and]
      by_cases e : q = p
      · subst e; simp only [if_true]; omega
      · simp only [if_neg e]; omega
    · have hk := h.2.2.1 k h1 h2
      refine ⟨?_, ?_, ?_⟩
      · simp only [c_lie_f, cu_f, c_next_f, c_stand_f, c_turn, ne_eq, Nat.reduceEqDiff, not_false_eq_true]; omega
      · have e8 : ∀ d : Cs, ∀ z : Int, d 8 k ≤ B → c_lie d z 8 k ≤ B := by
          intro d z hd
          unfold c_lie
          split
          · rw [cu_f (by decide), cu_f (by decide), cu_if]; (split; exact hB; rw [cu_f (by decide)]; exact hd)
          · rw [cu_if]; (split; exact hB; rw [cu_f (by decide)]; exact hd)
        have e8s : ∀ d : Cs, ∀ z q : Int, d 8 k ≤ B → c_stand d z q 8 k ≤ B := by
          intro d z q hd
          unfold c_stand
          rw [cu_if]; (split; exact hB; rw [cu_f (by decide), cu_f (by decide)]; exact hd)
        have e8n : ∀ d : Cs, ∀ z : Int, d 8 k ≤ B → c_next d z 8 k ≤ B := by
          intro d z hd
          unfold c_next
          split
          · exact e8s _ _ _ (by rw [c_up_f (by decide) (by decide)]; exact hd)
          · exact hd
        have := e8 (cu (c_next (c_stand (c_turn c p a) (c_comer c p a) p) a) 9 (c 2 p) (c_next (c_stand (c_turn c p a) (c_comer c p a) p) a 9 (c 2 p) + 1)) (c 2 p) (by
          rw [cu_f (by decide)]
          exact e8n _ _ (e8s _ _ _ (by rw [c_turn_f (by decide) (by decide) (by decide) (by decide) (by decide)]; exact hk.2.1)))
        omega
      · simp only [c_lie_f, ne_eq, Nat.reduceEqDiff, not_false_eq_true]
        rw [cu_if]
        simp only [c_next_f, c_stand_f, c_turn_f, ne_eq, Nat.reduceEqDiff, not_false_eq_true]
        split
        · rename_i e; rw [← e.2]; omega
        · omega
    · simp only [c_lie_f, cu_f, c_next_f, c_stand_f, c_turn, ne_eq, Nat.reduceEqDiff, not_false_eq_true]
      have := h.2.2.2
      omega
def rstep (N : Int) (p : Int) (c : Cs) : Cs := if c 0 p = 0 then c_relieve c p (if p = 0 then N - 1 else p - 1) else c
def c_relAll (N : Int) (c : Cs) : Cs := itr (rstep N) N.toNat 0 c
theorem CK_rstep {B N p : Int} {c : Cs} (h : CK B c) (hB : 0 ≤ B) (hp : 0 ≤ p ∧ p < N) (hN : N ≤ 8) : CK (B + 1) (rstep N p c) := by
  unfold rstep
  split
  · refine CK_relieve h hB (by omega) ?_
    split <;> omega
  · exact h.mono (by omega)
theorem CK_relAll {N : Int} (hN : N ≤ 8) : ∀ (n : Nat) (i B : Int) (c : Cs), CK B c → 0 ≤ B → 0 ≤ i → i + n = N → CK (B + n) (itr (rstep N) n i c)
  | 0, i, B, c, h, _, _, _ => by simpa [itr] using h
  | n + 1, i, B, c, h, hB, h0, h1 => by
    rw [itr_S]
    have := CK_relAll hN n (i + 1) (B + 1) (rstep N i c) (CK_rstep h hB (by omega) hN) (by omega) (by omega) (by omega)
    rw [show B + ((n + 1 : Nat) : Int) = B + 1 + n by omega]
    exact this
theorem l_Ca_relieveAll {g : Mach} {P : St → Prop} (C : Cx M_Ca_relieveAll g) (F : FinV M_Ca_relieveAll g P) {σ : St} {o : Nat} {N : Int} (hc : o ∈ castles) (hN : 0 ≤ N ∧ N ≤ 8) :
    ∀ (n : Nat) (i a B : Int) (c : Cs), 0 ≤ i → i + n = N → a = (if i = 0 then N - 1 else i - 1) → CK B c → 0 ≤ B → B + n < 2147483647 → P (so σ o (itr (rstep N) n i c)) → Ev g 6 [some (.inr (.inr (o, 0))), some (.inl N), some (.inl a), some (.inl i)] [] (so σ o c) := by
  have h_o := cas_obj hc
  have c_o := cas_cls hc
  intro n
  induction n with
  | zero =>
    intro i a B c h0 h1 ha hK hB hb hP
    refine e_iload_n C d_Ca_relieveAll_6 rfl ?_
    refine e_iload_n C d_Ca_relieveAll_7 rfl ?_
    refine e_icmp_ge C 34 d_Ca_relieveAll_8 (by decide) (by omega) (by omega) (fun c_8 => ?_) (fun c_8 => ?_)
    · refine e_vret C F rfl d_Ca_relieveAll_34 ?_
      exact hP
    · exact absurd h1 (by omega)
  | succ n ih =>
    intro i a B c h0 h1 ha hK hB hb hP
    have hKi := hK.2.1 i h0 (by omega)
    have ha8 : 0 ≤ a ∧ a < 8 := by rw [ha]; split <;> omega
    rw [itr_S] at hP
    unfold rstep at hP
    refine e_iload_n C d_Ca_relieveAll_6 rfl ?_
    refine e_iload_n C d_Ca_relieveAll_7 rfl ?_
    refine e_icmp_ge C 34 d_Ca_relieveAll_8 (by decide) (by omega) (by omega) (fun c_8 => ?_) (fun c_8 => ?_)
    · exact absurd h1 (by omega)
    · refine e_aload_n C d_Ca_relieveAll_11 rfl ?_
      refine e_geta C fl_Ca_9 h_o c_o rfl d_Ca_relieveAll_12 ?_
      refine e_iload_n C d_Ca_relieveAll_15 rfl ?_
      refine e_iald (n := 8) C h_o c_o (by decide) rfl rfl (by decide) (by omega) (by omega) d_Ca_relieveAll_16 (fun r_16 => ?_)
      try simp only [so_at] at r_16 ⊢
      refine e_if_ne C 26 d_Ca_relieveAll_17 (by decide) (by omega) (fun c_17 => ?_) (fun c_17 => ?_)
      · rw [if_neg c_17] at hP
        refine e_iload_n C d_Ca_relieveAll_26 rfl ?_
        refine e_istore_n C d_Ca_relieveAll_27 (by decide) rfl ?_
        refine e_iinc C d_Ca_relieveAll_28 rfl (by decide) rfl ?_
        refine e_goto C 6 d_Ca_relieveAll_31 (by decide) ?_
        refine ih (i + 1) i (B + 1) _ (by omega) (by omega) (by rw [if_neg (by omega)]; omega) ?_ (by omega) (by omega) hP
        first | exact CK_relieve hK hB (by omega) ha8 | exact hK.mono (by omega)
      · rw [if_pos c_17, ← ha] at hP
        refine e_aload_n C d_Ca_relieveAll_20 rfl ?_
        refine e_iload_n C d_Ca_relieveAll_21 rfl ?_
        refine e_iload_n C d_Ca_relieveAll_22 rfl ?_
        refine e_callVV C ok_Ca_relieve lk_Ca_140 (o := o) h_o (by rw [c_o]; rfl) [_, _] rfl rfl (Nat.le_of_ble_eq_true rfl) (by decide) (Nat.le_of_ble_eq_true rfl) d_Ca_relieveAll_23 (s_Ca_relieve hc (by omega) ha8 hK.1 (by omega) (fun k k1 k2 => by have := (hK.2.2.1 k k1 k2).2.2; omega)) (fun u_23 h_23 => ?_)
        subst h_23
        refine e_iload_n C d_Ca_relieveAll_26 rfl ?_
        refine e_istore_n C d_Ca_relieveAll_27 (by decide) rfl ?_
        refine e_iinc C d_Ca_relieveAll_28 rfl (by decide) rfl ?_
        refine e_goto C 6 d_Ca_relieveAll_31 (by decide) ?_
        refine ih (i + 1) i (B + 1) _ (by omega) (by omega) (by rw [if_neg (by omega)]; omega) ?_ (by omega) (by omega) hP
        first | exact CK_relieve hK hB (by omega) ha8 | exact hK.mono (by omega)
theorem s_Ca_relieveAll {σ : St} {o : Nat} {N B : Int} {c : Cs} (hc : o ∈ castles) (hN : 0 ≤ N ∧ N ≤ 8) (hK : CK B c) (hB : 0 ≤ B) (hb : B + 8 < 2147483647) : CtV M_Ca_relieveAll [.inr (.inr (o, 0)), .inl N] (so σ o c) (fun u => u = so σ o (c_relAll N c)) := by
  intro g C F
  have h_o := cas_obj hc
  have c_o := cas_cls hc
  refine e_iload_n C d_Ca_relieveAll_0 rfl ?_
  refine e_iconst C d_Ca_relieveAll_1 ?_
  refine e_isub C d_Ca_relieveAll_2 ?_
  refine e_istore_n C d_Ca_relieveAll_3 (by decide) rfl ?_
  refine e_iconst C d_Ca_relieveAll_4 ?_
  refine e_istore_n C d_Ca_relieveAll_5 (by decide) rfl ?_
  exact l_Ca_relieveAll C F hc hN N.toNat 0 _ B c (by omega) (by omega) rfl hK hB (by omega) rfl
def fstep (p : Int) (c : Cs) : Cs := if 0 < c 11 0 ∧ c 2 p = -2 then c_stand (c_up c 0) (c 10 0) p else c
def c_fill (N : Int) (c : Cs) : Cs := itr fstep N.toNat 0 c
theorem fstep_id {c : Cs} (h : ¬ 0 < c 11 0) : ∀ (n : Nat) (i : Int), itr fstep n i c = c
  | 0, i => rfl
  | n + 1, i => by
    rw [itr_S]
    have e : fstep i c = c := by unfold fstep; rw [if_neg (fun z => h z.1)]
    rw [e]
    exact fstep_id h n (i + 1)
theorem CI_fstep {p : Int} {c : Cs} (h : CI c) : CI (fstep p c) := by
  unfold fstep
  split
  · rename_i h0; exact CI_stand (CI_up h (by omega) h0.1) (h.2.1 0 (by omega) h0.1)
  · exact h
theorem CK_fstep {B p : Int} {c : Cs} (h : CK B c) (hB : 0 ≤ B) : CK B (fstep p c) := by
  refine ⟨CI_fstep h.1, ?_⟩
  unfold fstep
  split
  · refine ⟨fun q h1 h2 => ?_, fun k h1 h2 => ?_, ?_⟩
    · simp only [c_stand_f, c_up_f, ne_eq, Nat.reduceEqDiff, not_false_eq_true]; exact h.2.1 q h1 h2
    · have hk := h.2.2.1 k h1 h2
      refine ⟨?_, ?_, ?_⟩
      · simp only [c_stand_f, c_up_f, ne_eq, Nat.reduceEqDiff, not_false_eq_true]; exact hk.1
      · unfold c_stand
        rw [cu_if]
        split
        · exact hB
        · simp only [cu_f, c_up_f, ne_eq, Nat.reduceEqDiff, not_false_eq_true]; exact hk.2.1
      · simp only [c_stand_f, c_up_f, ne_eq, Nat.reduceEqDiff, not_false_eq_true]; exact hk.2.2
    · simp only [c_stand_f, c_up_f, ne_eq, Nat.reduceEqDiff, not_false_eq_true]; exact h.2.2.2
  · exact h.2
theorem CK_fill {B : Int} (hB : 0 ≤ B) : ∀ (n : Nat) (i : Int) (c : Cs), CK B c → CK B (itr fstep n i c)
  | 0, i, c, h => h
  | n + 1, i, c, h => CK_fill hB n (i + 1) _ (CK_fstep h hB)
theorem l_Ca_fillAll {g : Mach} {P : St → Prop} (C : Cx M_Ca_fillAll g) (F : FinV M_Ca_fillAll g P) {σ : St} {o : Nat} {N : Int} (hc : o ∈ castles) (hN : 0 ≤ N ∧ N ≤ 8) :
    ∀ (n : Nat) (i : Int) (c : Cs), 0 ≤ i → i + n = N → CI c → P (so σ o (itr fstep n i c)) → Ev g 2 [some (.inr (.inr (o, 0))), some (.inl N), some (.inl i)] [] (so σ o c) := by
  have h_o := cas_obj hc
  have c_o := cas_cls hc
  intro n
  induction n with
  | zero =>
    intro i c h0 h1 hI hP
    refine e_iload_n C d_Ca_fillAll_2 rfl ?_
    refine e_iload_n C d_Ca_fillAll_3 rfl ?_
    refine e_icmp_ge C 41 d_Ca_fillAll_4 (by decide) (by omega) (by omega) (fun c_4 => ?_) (fun c_4 => ?_)
    · refine e_vret C F rfl d_Ca_fillAll_41 ?_
      exact hP
    · exact absurd h1 (by omega)
  | succ n ih =>
    intro i c h0 h1 hI hP
    have hI1 := hI.1
    refine e_iload_n C d_Ca_fillAll_2 rfl ?_
    refine e_iload_n C d_Ca_fillAll_3 rfl ?_
    refine e_icmp_ge C 41 d_Ca_fillAll_4 (by decide) (by omega) (by omega) (fun c_4 => ?_) (fun c_4 => ?_)
    · exact absurd h1 (by omega)
    · refine e_aload_n C d_Ca_fillAll_7 rfl ?_
      refine e_geti C fl_Ca_52 h_o c_o rfl d_Ca_fillAll_8 (fun r_8 => ?_)
      try simp only [so_at] at r_8 ⊢
      refine e_if_le C 41 d_Ca_fillAll_11 (by decide) (by omega) (fun c_11 => ?_) (fun c_11 => ?_)
      · rw [fstep_id (by omega)] at hP
        refine e_vret C F rfl d_Ca_fillAll_41 ?_
        exact hP
      · rw [itr_S] at hP
        unfold fstep at hP
        have hb0 := hI.2.1 0 (by omega) (by omega)
        refine e_aload_n C d_Ca_fillAll_14 rfl ?_
        refine e_geta C fl_Ca_18 h_o c_o rfl d_Ca_fillAll_15 ?_
        refine e_iload_n C d_Ca_fillAll_18 rfl ?_
        refine e_iald (n := 8) C h_o c_o (by decide) rfl rfl (by decide) (by omega) (by omega) d_Ca_fillAll_19 (fun r_19 => ?_)
        try simp only [so_at] at r_19 ⊢
        refine e_bipush C d_Ca_fillAll_20 (by decide) ?_
        refine e_icmp_ne C 35 d_Ca_fillAll_22 (by decide) (by omega) (by omega) (fun c_22 => ?_) (fun c_22 => ?_)
        · rw [if_neg (fun z => c_22 z.2)] at hP
          refine e_iinc C d_Ca_fillAll_35 rfl (by decide) rfl ?_
          refine e_goto C 2 d_Ca_fillAll_38 (by decide) ?_
          refine ih (i + 1) _ (by omega) (by omega) ?_ hP
          first | exact hI | exact CI_stand (CI_up hI (by omega) (by omega)) hb0
        · rw [if_pos ⟨by omega, c_22⟩] at hP
          refine e_aload_n C d_Ca_fillAll_25 rfl ?_
          refine e_aload_n C d_Ca_fillAll_26 rfl ?_
          refine e_iconst C d_Ca_fillAll_27 ?_
          refine e_callIV C ok_Ca_leaveBed lk_Ca_143 (o := o) h_o (by rw [c_o]; rfl) [_] rfl rfl (Nat.le_of_ble_eq_true rfl) (by decide) (Nat.le_of_ble_eq_true rfl) d_Ca_fillAll_28 (s_Ca_leaveBed hc hI1.2 (by omega) (by omega)) (fun v_28 u_28 q_28 h_28 => ?_)
          obtain ⟨rfl, rfl⟩ := h_28
          refine e_iload_n C d_Ca_fillAll_31 rfl ?_
          refine e_callVV C ok_Ca_stand lk_Ca_146 (o := o) h_o (by rw [c_o]; rfl) [_, _] rfl rfl (Nat.le_of_ble_eq_true rfl) (by decide) (Nat.le_of_ble_eq_true rfl) d_Ca_fillAll_32 (s_Ca_stand hc hb0 (by omega)) (fun u_32 h_32 => ?_)
          subst h_32
          refine e_iinc C d_Ca_fillAll_35 rfl (by decide) rfl ?_
          refine e_goto C 2 d_Ca_fillAll_38 (by decide) ?_
          refine ih (i + 1) _ (by omega) (by omega) ?_ hP
          first | exact hI | exact CI_stand (CI_up hI (by omega) (by omega)) hb0
theorem s_Ca_fillAll {σ : St} {o : Nat} {N : Int} {c : Cs} (hc : o ∈ castles) (hN : 0 ≤ N ∧ N ≤ 8) (hI : CI c) : CtV M_Ca_fillAll [.inr (.inr (o, 0)), .inl N] (so σ o c) (fun u => u = so σ o (c_fill N c)) := by
  intro g C F
  have h_o := cas_obj hc
  have c_o := cas_cls hc
  refine e_iconst C d_Ca_fillAll_0 ?_
  refine e_istore_n C d_Ca_fillAll_1 (by decide) rfl ?_
  exact l_Ca_fillAll C F hc hN N.toNat 0 c (by omega) (by omega) hI rfl
def c_cnt (c : Cs) (i m : Int) : Cs := fun f j => if f = 7 ∧ 0 ≤ j ∧ j < i ∧ c 6 j = -2 then c 7 j + m else if f = 8 ∧ 0 ≤ j ∧ j < i ∧ c 6 j ≠ -2 then c 8 j + m else c f j
def c_count (c : Cs) (G m : Int) : Cs := cu (c_cnt c G m) 12 0 (c 12 0 + m)
theorem c_cnt_f {c : Cs} {i m j : Int} {f : Nat} (h7 : f ≠ 7) (h8 : f ≠ 8) : c_cnt c i m f j = c f j := by
  unfold c_cnt
  rw [if_neg (fun z => h7 z.1), if_neg (fun z => h8 z.1)]
theorem c_cnt_0 (c : Cs) (m : Int) : c_cnt c 0 m = c := by
  funext f j
  unfold c_cnt
  rw [if_neg (by omega), if_neg (by omega)]
theorem c_cnt_at {c : Cs} {i m : Int} {f : Nat} : c_cnt c i m f i = c f i := by
  unfold c_cnt
  rw [if_neg (by omega), if_neg (by omega)]
theorem c_cnt_7 {c : Cs} {i m : Int} (h0 : 0 ≤ i) (h : c 6 i = -2) : cu (c_cnt c i m) 7 i (c 7 i + m) = c_cnt c (i + 1) m := by
  funext f j
  rw [cu_if]
  unfold c_cnt
  by_cases h1 : f = 7 ∧ j = i
  · obtain ⟨rfl, rfl⟩ := h1
    rw [if_pos ⟨rfl, rfl⟩, if_pos ⟨rfl, h0, by omega, h⟩]
  · rw [if_neg h1]
    by_cases e : j = i
    · subst e
      have : f ≠ 7 := fun z => h1 ⟨z, rfl⟩
      rw [if_neg (by omega), if_neg (by omega), if_neg (by omega), if_neg (by omega)]
    · have e2 : (j < i + 1) ↔ (j < i) := by omega
      simp only [e2]
theorem c_cnt_8 {c : Cs} {i m : Int} (h0 : 0 ≤ i) (h : c 6 i ≠ -2) : cu (c_cnt c i m) 8 i (c 8 i + m) = c_cnt c (i + 1) m := by
  funext f j
  rw [cu_if]
  unfold c_cnt
  by_cases h1 : f = 8 ∧ j = i
  · obtain ⟨rfl, rfl⟩ := h1
    rw [if_pos ⟨rfl, rfl⟩, if_neg (by omega), if_pos ⟨rfl, h0, by omega, h⟩]
  · rw [if_neg h1]
    by_cases e : j = i
    · subst e
      have : f ≠ 8 := fun z => h1 ⟨z, rfl⟩
      rw [if_neg (by omega), if_neg (by omega), if_neg (by omega), if_neg (by omega)]
    · have e2 : (j < i + 1) ↔ (j < i) := by omega
      simp only [e2]
theorem l_Ca_countMinutes {g : Mach} {P : St → Prop} (C : Cx M_Ca_countMinutes g) (F : FinV M_Ca_countMinutes g P) {σ : St} {o : Nat} {c : Cs} {G m B : Int} (hc : o ∈ castles) (hG : 0 ≤ G ∧ G ≤ 12) (hm : 0 ≤ m) (hK : CK B c) (hb : B + m < 2147483648) (hP : P (so σ o (c_count c G m))) :
    ∀ (n : Nat) (i : Int), 0 ≤ i → i + n = G → Ev g 2 [some (.inr (.inr (o, 0))), some (.inl G), some (.inl m), some (.inl i)] [] (so σ o (c_cnt c i m)) := by
  have h_o := cas_obj hc
  have c_o := cas_cls hc
  intro n
  have hK3 := hK.2.2.2
  induction n with
  | zero =>
    intro i h0 h1
    refine e_iload_n C d_Ca_countMinutes_2 rfl ?_
    refine e_iload_n C d_Ca_countMinutes_3 rfl ?_
    refine e_icmp_ge C 47 d_Ca_countMinutes_4 (by decide) (by omega) (by omega) (fun c_4 => ?_) (fun c_4 => ?_)
    · refine e_aload_n C d_Ca_countMinutes_47 rfl ?_
      refine e_dup C d_Ca_countMinutes_48 rfl ?_
      refine e_geti C fl_Ca_62 h_o c_o rfl d_Ca_countMinutes_49 (fun r_49 => ?_)
      try simp only [so_at, wr_so, so_so, c_cnt_f, ne_eq, Nat.reduceEqDiff, not_false_eq_true] at r_49 ⊢
      refine e_iload_n C d_Ca_countMinutes_52 rfl ?_
      refine e_iadd C d_Ca_countMinutes_53 ?_
      refine e_puti C fp_Ca_62 h_o c_o rfl (by omega) d_Ca_countMinutes_54 ?_
      try simp only [so_at, wr_so, so_so, c_cnt_f, ne_eq, Nat.reduceEqDiff, not_false_eq_true]
      refine e_vret C F rfl d_Ca_countMinutes_57 ?_
      rw [show i = G by omega]
      exact hP
    · exact absurd h1 (by omega)
  | succ n ih =>
    intro i h0 h1
    have hKi := hK.2.2.1 i h0 (by omega)
    refine e_iload_n C d_Ca_countMinutes_2 rfl ?_
    refine e_iload_n C d_Ca_countMinutes_3 rfl ?_
    refine e_icmp_ge C 47 d_Ca_countMinutes_4 (by decide) (by omega) (by omega) (fun c_4 => ?_) (fun c_4 => ?_)
    · exact absurd h1 (by omega)
    · refine e_aload_n C d_Ca_countMinutes_7 rfl ?_
      refine e_geta C fl_Ca_31 h_o c_o rfl d_Ca_countMinutes_8 ?_
      refine e_iload_n C d_Ca_countMinutes_11 rfl ?_
      refine e_iald (n := 12) C h_o c_o (by decide) rfl rfl (by decide) (by omega) (by omega) d_Ca_countMinutes_12 (fun r_12 => ?_)
      try simp only [so_at, wr_so, so_so, c_cnt_at] at r_12 ⊢
      refine e_bipush C d_Ca_countMinutes_13 (by decide) ?_
      refine e_icmp_ne C 31 d_Ca_countMinutes_15 (by decide) (by omega) (by omega) (fun c_15 => ?_) (fun c_15 => ?_)
      · refine e_aload_n C d_Ca_countMinutes_31 rfl ?_
        refine e_geta C fl_Ca_37 h_o c_o rfl d_Ca_countMinutes_32 ?_
        refine e_iload_n C d_Ca_countMinutes_35 rfl ?_
        refine e_dup2 C d_Ca_countMinutes_36 rfl rfl ?_
        refine e_iald (n := 12) C h_o c_o (by decide) rfl rfl (by decide) (by omega) (by omega) d_Ca_countMinutes_37 (fun r_37 => ?_)
        try simp only [so_at, wr_so, so_so, c_cnt_at] at r_37 ⊢
        refine e_iload_n C d_Ca_countMinutes_38 rfl ?_
        refine e_iadd C d_Ca_countMinutes_39 ?_
        refine e_iast (n := 12) C h_o c_o (by decide) rfl rfl (by decide) (by omega) (by omega) (by omega) d_Ca_countMinutes_40 ?_
        try simp only [so_at, wr_so, so_so, c_cnt_at]
        refine e_iinc C d_Ca_countMinutes_41 rfl (by decide) rfl ?_
        refine e_goto C 2 d_Ca_countMinutes_44 (by decide) ?_
        first | rw [c_cnt_7 h0 c_15] | rw [c_cnt_8 h0 c_15]
        exact ih (i + 1) (by omega) (by omega)
      · refine e_aload_n C d_Ca_countMinutes_18 rfl ?_
        refine e_geta C fl_Ca_34 h_o c_o rfl d_Ca_countMinutes_19 ?_
        refine e_iload_n C d_Ca_countMinutes_22 rfl ?_
        refine e_dup2 C d_Ca_countMinutes_23 rfl rfl ?_
        refine e_iald (n := 12) C h_o c_o (by decide) rfl rfl (by decide) (by omega) (by omega) d_Ca_countMinutes_24 (fun r_24 => ?_)
        try simp only [so_at, wr_so, so_so, c_cnt_at] at r_24 ⊢
        refine e_iload_n C d_Ca_countMinutes_25 rfl ?_
        refine e_iadd C d_Ca_countMinutes_26 ?_
        refine e_iast (n := 12) C h_o c_o (by decide) rfl rfl (by decide) (by omega) (by omega) (by omega) d_Ca_countMinutes_27 ?_
        try simp only [so_at, wr_so, so_so, c_cnt_at]
        refine e_goto C 41 d_Ca_countMinutes_28 (by decide) ?_
        refine e_iinc C d_Ca_countMinutes_41 rfl (by decide) rfl ?_
        refine e_goto C 2 d_Ca_countMinutes_44 (by decide) ?_
        first | rw [c_cnt_7 h0 c_15] | rw [c_cnt_8 h0 c_15]
        exact ih (i + 1) (by omega) (by omega)
theorem s_Ca_countMinutes {σ : St} {o : Nat} {c : Cs} {G m B : Int} (hc : o ∈ castles) (hG : 0 ≤ G ∧ G ≤ 12) (hm : 0 ≤ m) (hK : CK B c) (hb : B + m < 2147483648) : CtV M_Ca_countMinutes [.inr (.inr (o, 0)), .inl G, .inl m] (so σ o c) (fun u => u = so σ o (c_count c G m)) := by
  intro g C F
  have h_o := cas_obj hc
  have c_o := cas_cls hc
  refine e_iconst C d_Ca_countMinutes_0 ?_
  refine e_istore_n C d_Ca_countMinutes_1 (by decide) rfl ?_
  have := l_Ca_countMinutes (σ := σ) C F hc hG hm hK hb rfl G.toNat 0 (by omega) (by omega)
  rw [c_cnt_0] at this
  exact this
theorem CK_count {B G m : Int} {c : Cs} (h : CK B c) (hm : 0 ≤ m) : CK (B + m) (c_count c G m) := by
  unfold c_count
  refine ⟨CI_cu ⟨?_, ?_, ?_⟩ (by decide) (by decide) (by decide), fun p h1 h2 => ?_, fun k h1 h2 => ?_, ?_⟩
  · rw [c_cnt_f (by decide) (by decide)]; exact h.1.1
  · intro j; rw [c_cnt_f (by decide) (by decide), c_cnt_f (by decide) (by decide)]; exact h.1.2.1 j
  · intro q; rw [c_cnt_f (by decide) (by decide)]; exact h.1.2.2 q
  · simp only [cu_f, c_cnt_f, ne_eq, Nat.reduceEqDiff, not_false_eq_true]
    have := h.2.1 p h1 h2
    omega
  · have hk := h.2.2.1 k h1 h2
    rw [cu_f (by decide), cu_f (by decide), cu_f (by decide), c_cnt_f (f := 9) (by decide) (by decide)]
    unfold c_cnt
    refine ⟨?_, ?_, by omega⟩
    · (split; omega; rw [if_neg (by omega)]; omega)
    · rw [if_neg (by omega)]
      split <;> omega
  · rw [cu_s]; have := h.2.2.2; omega
