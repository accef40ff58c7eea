/-! Castle: its small methods. A castle is the slice of the store at its object; c f k: place k of field f -/
abbrev Cs : Type := Nat → Int → Int
def so (σ : St) (o : Nat) (c : Cs) : St := fun o' => if o' = o then c else σ o'
def cu (c : Cs) (f : Nat) (k v : Int) : Cs := fun f' k' => if f' = f ∧ k' = k then v else c f' k'
theorem wr_so (σ : St) (o f : Nat) (k v : Int) : wr σ o f k v = so σ o (cu (σ o) f k v) := by
  funext o' f' k'
  unfold wr so cu
  by_cases h : o' = o
  · subst h
    rw [if_pos rfl]
    by_cases h2 : f' = f ∧ k' = k
    · rw [if_pos ⟨rfl, h2⟩, if_pos h2]
    · rw [if_neg (fun z => h2 z.2), if_neg h2]
  · rw [if_neg h, if_neg (fun z => h z.1)]
theorem so_so (σ : St) (o : Nat) (c d : Cs) : so (so σ o c) o d = so σ o d := by
  funext o'
  unfold so
  by_cases h : o' = o
  · rw [if_pos h, if_pos h]
  · rw [if_neg h, if_neg h, if_neg h]
theorem so_at (σ : St) (o : Nat) (c : Cs) : so σ o c o = c := by unfold so; rw [if_pos rfl]
theorem so_ne {σ : St} {o o' : Nat} {c : Cs} (h : o' ≠ o) : so σ o c o' = σ o' := by unfold so; rw [if_neg h]
theorem so_id (σ : St) (o : Nat) : so σ o (σ o) = σ := by
  funext o'
  unfold so
  by_cases h : o' = o
  · rw [if_pos h, h]
  · rw [if_neg h]
theorem cu_s (c : Cs) (f : Nat) (k v : Int) : cu c f k v f k = v := by unfold cu; rw [if_pos ⟨rfl, rfl⟩]
theorem cu_f {c : Cs} {f f' : Nat} {k v k' : Int} (h : f' ≠ f) : cu c f k v f' k' = c f' k' := by unfold cu; rw [if_neg (fun z => h z.1)]
theorem cu_k {c : Cs} {f : Nat} {k v k' : Int} (h : k' ≠ k) : cu c f k v f k' = c f k' := by unfold cu; rw [if_neg (fun z => h z.2)]
theorem cas_obj {o : Nat} (h : o ∈ castles) : o ∈ objs := List.mem_append_right _ h
theorem cas_cls {o : Nat} (h : o ∈ castles) : cls o = 0 := by
  have : 14 ≤ o := by
    rcases List.mem_append.mp h with h | h
    · have := (List.mem_range'_1.mp h).1; omega
    · have := (List.mem_range'_1.mp h).1; omega
  unfold cls
  rw [if_neg (by omega)]
def c_stand (c : Cs) (a p : Int) : Cs := cu (cu (cu c 2 p a) 6 a p) 8 a 0
theorem k_Ca_stand {σ : St} {o : Nat} {a p : Int} (hc : o ∈ castles) (ha : 0 ≤ a ∧ a < 12) (hp : 0 ≤ p ∧ p < 8) : CtV M_Ca_stand [.inr (.inr (o, 0)), .inl a, .inl p] σ (fun u => u = so σ o (c_stand (σ o) a p)) := by
  intro g C F
  have h_o := cas_obj hc
  have c_o := cas_cls hc
  refine e_aload_n C d_Ca_stand_0 rfl ?_
  refine e_geta C fl_Ca_18 h_o c_o rfl d_Ca_stand_1 ?_
  refine e_iload_n C d_Ca_stand_4 rfl ?_
  refine e_iload_n C d_Ca_stand_5 rfl ?_
  refine e_iast (n := 8) C h_o c_o (by decide) rfl rfl (by decide) (by omega) (by omega) (by omega) d_Ca_stand_6 ?_
  refine e_aload_n C d_Ca_stand_7 rfl ?_
  refine e_geta C fl_Ca_31 h_o c_o rfl d_Ca_stand_8 ?_
  refine e_iload_n C d_Ca_stand_11 rfl ?_
  refine e_iload_n C d_Ca_stand_12 rfl ?_
  refine e_iast (n := 12) C h_o c_o (by decide) rfl rfl (by decide) (by omega) (by omega) (by omega) d_Ca_stand_13 ?_
  refine e_aload_n C d_Ca_stand_14 rfl ?_
  refine e_geta C fl_Ca_37 h_o c_o rfl d_Ca_stand_15 ?_
  refine e_iload_n C d_Ca_stand_18 rfl ?_
  refine e_iconst C d_Ca_stand_19 ?_
  refine e_iast (n := 12) C h_o c_o (by decide) rfl rfl (by decide) (by omega) (by omega) (by omega) d_Ca_stand_20 ?_
  refine e_vret C F rfl d_Ca_stand_21 ?_
  simp only [wr_so, so_so, so_at]; rfl
def c_exchange (c : Cs) (p : Int) : Cs := cu (cu c 1 p (c 0 p)) 0 p (c 1 p)
theorem k_Ca_exchange {σ : St} {o : Nat} {p : Int} (hc : o ∈ castles) (hp : 0 ≤ p ∧ p < 8) : CtV M_Ca_exchange [.inr (.inr (o, 0)), .inl p] σ (fun u => u = so σ o (c_exchange (σ o) p)) := by
  intro g C F
  have h_o := cas_obj hc
  have c_o := cas_cls hc
  refine e_aload_n C d_Ca_exchange_0 rfl ?_
  refine e_geta C fl_Ca_15 h_o c_o rfl d_Ca_exchange_1 ?_
  refine e_iload_n C d_Ca_exchange_4 rfl ?_
  refine e_iald (n := 8) C h_o c_o (by decide) rfl rfl (by decide) (by omega) (by omega) d_Ca_exchange_5 (fun r_5 => ?_)
  refine e_istore_n C d_Ca_exchange_6 (by decide) rfl ?_
  refine e_aload_n C d_Ca_exchange_7 rfl ?_
  refine e_geta C fl_Ca_15 h_o c_o rfl d_Ca_exchange_8 ?_
  refine e_iload_n C d_Ca_exchange_11 rfl ?_
  refine e_aload_n C d_Ca_exchange_12 rfl ?_
  refine e_geta C fl_Ca_9 h_o c_o rfl d_Ca_exchange_13 ?_
  refine e_iload_n C d_Ca_exchange_16 rfl ?_
  refine e_iald (n := 8) C h_o c_o (by decide) rfl rfl (by decide) (by omega) (by omega) d_Ca_exchange_17 (fun r_17 => ?_)
  refine e_iast (n := 8) C h_o c_o (by decide) rfl rfl (by decide) (by omega) (by omega) (by omega) d_Ca_exchange_18 ?_
  refine e_aload_n C d_Ca_exchange_19 rfl ?_
  refine e_geta C fl_Ca_9 h_o c_o rfl d_Ca_exchange_20 ?_
  refine e_iload_n C d_Ca_exchange_23 rfl ?_
  refine e_iload_n C d_Ca_exchange_24 rfl ?_
  refine e_iast (n := 8) C h_o c_o (by decide) rfl rfl (by decide) (by omega) (by omega) (by omega) d_Ca_exchange_25 ?_
  refine e_vret C F rfl d_Ca_exchange_26 ?_
  simp only [wr_so, so_so, so_at]; rfl
def c_down (c : Cs) (p n : Int) : Cs := cu (cu c 0 p (c 0 p - n)) 1 p (c 1 p + n)
theorem k_Ca_runDown {σ : St} {o : Nat} {p n : Int} (hc : o ∈ castles) (hp : 0 ≤ p ∧ p < 8) (h0 : R32 (σ o 0 p - n)) (h1 : R32 (σ o 1 p + n)) : CtV M_Ca_runDown [.inr (.inr (o, 0)), .inl p, .inl n] σ (fun u => u = so σ o (c_down (σ o) p n)) := by
  intro g C F
  have h_o := cas_obj hc
  have c_o := cas_cls hc
  refine e_aload_n C d_Ca_runDown_0 rfl ?_
  refine e_geta C fl_Ca_9 h_o c_o rfl d_Ca_runDown_1 ?_
  refine e_iload_n C d_Ca_runDown_4 rfl ?_
  refine e_dup2 C d_Ca_runDown_5 rfl rfl ?_
  refine e_iald (n := 8) C h_o c_o (by decide) rfl rfl (by decide) (by omega) (by omega) d_Ca_runDown_6 (fun r_6 => ?_)
  refine e_iload_n C d_Ca_runDown_7 rfl ?_
  refine e_isub C d_Ca_runDown_8 ?_
  refine e_iast (n := 8) C h_o c_o (by decide) rfl rfl (by decide) (by omega) (by omega) (by omega) d_Ca_runDown_9 ?_
  simp only [wr_so]
  refine e_aload_n C d_Ca_runDown_10 rfl ?_
  refine e_geta C fl_Ca_15 h_o c_o rfl d_Ca_runDown_11 ?_
  refine e_iload_n C d_Ca_runDown_14 rfl ?_
  refine e_dup2 C d_Ca_runDown_15 rfl rfl ?_
  refine e_iald (n := 8) C h_o c_o (by decide) rfl rfl (by decide) (by omega) (by omega) d_Ca_runDown_16 (fun r_16 => ?_)
  simp only [so_at, cu_f, ne_eq, Nat.reduceEqDiff, not_false_eq_true]
  refine e_iload_n C d_Ca_runDown_17 rfl ?_
  refine e_iadd C d_Ca_runDown_18 ?_
  refine e_iast (n := 8) C h_o c_o (by decide) rfl rfl (by decide) (by omega) (by omega) (by omega) d_Ca_runDown_19 ?_
  refine e_vret C F rfl d_Ca_runDown_20 ?_
  simp only [wr_so, so_so, so_at]; rfl
