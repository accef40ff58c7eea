/-! a castle in the making -/
theorem map_set {α β : Type} {l : List α} {F F' : α → β} {j : Nat} {k : α} (hj : l[j]? = some k) (hnd : l.Nodup) (h : ∀ k' ∈ l, k' ≠ k → F k' = F' k') : (l.map F).set j (F' k) = l.map F' := by
  obtain ⟨hjl, hjk⟩ := List.getElem?_eq_some_iff.mp hj
  apply List.ext_getElem?
  intro i
  by_cases hi : i = j
  · subst hi
    rw [List.getElem?_set_self (by rw [List.length_map]; exact hjl), List.getElem?_map, hj]
    rfl
  · rw [List.getElem?_set_ne (fun z => hi z.symm), List.getElem?_map, List.getElem?_map]
    cases hk : l[i]? with
    | none => rfl
    | some k' =>
      show some _ = some _
      rw [h k' (List.mem_of_getElem? hk) ?_]
      intro e
      subst e
      obtain ⟨hil, hik⟩ := List.getElem?_eq_some_iff.mp hk
      have hp := List.pairwise_iff_getElem.mp hnd
      rcases Nat.lt_trichotomy i j with c | c | c
      · exact hp i j hil hjl c (by rw [hik, hjk])
      · exact hi c
      · exact hp j i hjl hil c (by rw [hik, hjk])
theorem cell_congF {w : Wd} {σ σ' : St} {o f : Nat} (h : σ o f = σ' o f) : nvC w σ (o, f + 1) = nvC w σ' (o, f + 1) := by
  unfold nvC
  congr 1
  show Sum.inl (_, _, con w.2.2 σ o f (kd (cls o) f)) = Sum.inl (_, _, con w.2.2 σ' o f (kd (cls o) f))
  unfold con
  rw [h]
theorem sm_c : ∀ i : Fin 64, (Int32.ofInt i.val).toNatClampNeg = i.val := by decide +kernel
theorem sm_a : ∀ i : Fin 64, Int32.ofInt i.val + Int32.ofInt 1 = Int32.ofInt ((i.val + 1 : Nat) : Int) := by decide +kernel
theorem sm_n : ∀ i : Fin 64, ¬ Int32.ofInt i.val < 0 := by decide +kernel
theorem sm_8 : ∀ i : Fin 64, ((8 : Int32) ≤ Int32.ofInt i.val ↔ 8 ≤ i.val) := by decide +kernel
theorem sm_12 : ∀ i : Fin 64, ((12 : Int32) ≤ Int32.ofInt i.val ↔ 12 ≤ i.val) := by decide +kernel
theorem sm_40 : ∀ i : Fin 64, ((40 : Int32) ≤ Int32.ofInt i.val ↔ 40 ≤ i.val) := by decide +kernel
theorem sm_in {i N : Nat} (h : i < 64) (hN : i < N) : vp_in (Int32.ofInt i) N := by
  rintro (h2 | h2)
  · exact sm_n ⟨i, h⟩ h2
  · have := sm_c ⟨i, h⟩
    simp only at this
    omega
section RowsK
variable {M : Md} {g : Mach} {b pc n cells slots : Nat} {L : List (Nat × Value)} {st : List Value} {ws : va_W}
theorem n_iastK (C : Cn M g b) {o f ci N a r : Nat} {σ σ' : St} {Kp : List (Nat × Nat)} {ob : va_E} {x y : Int32} (j : Nat) (hcl : cls o = ci) (hk : kd ci f = 3) (hln : ln ci f = N) (hj : Kp[j]? = some (o, f + 1)) (hnd : Kp.Nodup) (hσ : ∀ k ∈ Kp, k ≠ (o, f + 1) → nvC (gw g) σ k = nvC (gw g) σ' k) (hup : ∀ q : Nat, Int32.ofInt (σ' o f q) = if q = x.toNatClampNeg then y else Int32.ofInt (σ o f q)) (hin : vp_in x N) (hr : (gw g).2.2 o (f + 1) = r) (hd : decode M.2.1 pc = .ok (.iastore, 1)) (kk : Nv g b (pc + 1) L st n cells slots ((a, ob) :: ([] ++ Kp.map (nvC (gw g) σ')))) : Nv g b pc L (.int y :: .int x :: .ref r :: st) n cells slots ((a, ob) :: ([] ++ Kp.map (nvC (gw g) σ))) := by
  obtain ⟨⟨p, l, e, R⟩, ⟨s, m, args, below⟩, ⟨meth, c, mc, ms⟩, ⟨D, ca, ρ⟩, Q⟩ := g
  obtain ⟨hx, hb, hml, hown, hts, hK, hlk2, hf, hlc, hbs, h1, h2, hAO⟩ := C
  intro H locs ls hl hn hP hD hS
  have hσ : ∀ k ∈ Kp, k ≠ (o, f + 1) → nvC (D, ca, ρ) σ k = nvC (D, ca, ρ) σ' k := hσ
  have e0 : nvC (D, ca, ρ) σ (o, f + 1) = (r, .inl (ca 3, N, .inl fun q => Int32.ofInt (σ o f q))) := by
    unfold nvC
    rw [cell_i hcl hk (by decide), hln]
    show (ρ o (f + 1), _) = _
    rw [show ρ o (f + 1) = r from hr]
  have e1 : nvC (D, ca, ρ) σ' (o, f + 1) = (r, .inl (ca 3, N, .inl (upd (fun q => Int32.ofInt (σ o f q)) x.toNatClampNeg y))) := by
    unfold nvC
    rw [cell_i hcl hk (by decide), hln]
    show (ρ o (f + 1), _) = _
    rw [show ρ o (f + 1) = r from hr]
    congr 5
    funext q
    rw [hup q]
    rfl
  have hg0 : ((a, ob) :: ([] ++ Kp.map (nvC (D, ca, ρ) σ)))[j + 1]? = some (r, .inl (ca 3, N, .inl fun q => Int32.ofInt (σ o f q))) := by
    rw [← e0]
    show (Kp.map (nvC (D, ca, ρ) σ))[j]? = _
    rw [List.getElem?_map, hj]
    rfl
  refine va_iast (D := D) (cl := classes) hx hb hK hP hD (va_S_here hS) (j + 1) 0 hg0 rfl hin hd (fun H1 locs1 hP1 hD1 hS1 => ?_)
  have e2 : ((a, ob) :: ([] ++ Kp.map (nvC (D, ca, ρ) σ))).set (j + 1) (r, .inl (ca 3, N, .inl (upd (fun q => Int32.ofInt (σ o f q)) x.toNatClampNeg y))) = (a, ob) :: ([] ++ Kp.map (nvC (D, ca, ρ) σ')) := by
    rw [← e1]
    show (a, ob) :: (Kp.map (nvC (D, ca, ρ) σ)).set j _ = (a, ob) :: Kp.map (nvC (D, ca, ρ) σ')
    rw [map_set hj hnd hσ]
  replace hP1 : va_P D classes ((a, ob) :: ([] ++ Kp.map (nvC (D, ca, ρ) σ'))) H1 := by rw [← e2]; exact hP1
  replace hD1 : va_D (fun q => b ≤ q) ((a, ob) :: ([] ++ Kp.map (nvC (D, ca, ρ) σ'))) := by rw [← e2]; exact hD1
  exact kk H1 locs1 ls hl (Nat.le_trans hn hS1.1) hP1 hD1 (va_S_trans hS hS1)
theorem n_lastK (C : Cn M g b) {o f ci N a r : Nat} {σ σ' : St} {Kp : List (Nat × Nat)} {ob : va_E} {x : Int32} {y : Int64} (j : Nat) (hcl : cls o = ci) (hk : kd ci f = 6) (hln : ln ci f = N) (hj : Kp[j]? = some (o, f + 1)) (hnd : Kp.Nodup) (hσ : ∀ k ∈ Kp, k ≠ (o, f + 1) → nvC (gw g) σ k = nvC (gw g) σ' k) (hup : ∀ q : Nat, Int64.ofInt (σ' o f q) = if q = x.toNatClampNeg then y else Int64.ofInt (σ o f q)) (hin : vp_in x N) (hr : (gw g).2.2 o (f + 1) = r) (hd : decode M.2.1 pc = .ok (.lastore, 1)) (kk : Nv g b (pc + 1) L st n cells slots ((a, ob) :: ([] ++ Kp.map (nvC (gw g) σ')))) : Nv g b pc L (.long y :: .int x :: .ref r :: st) n cells slots ((a, ob) :: ([] ++ Kp.map (nvC (gw g) σ))) := by
  obtain ⟨⟨p, l, e, R⟩, ⟨s, m, args, below⟩, ⟨meth, c, mc, ms⟩, ⟨D, ca, ρ⟩, Q⟩ := g
  obtain ⟨hx, hb, hml, hown, hts, hK, hlk2, hf, hlc, hbs, h1, h2, hAO⟩ := C
  intro H locs ls hl hn hP hD hS
  have hσ : ∀ k ∈ Kp, k ≠ (o, f + 1) → nvC (D, ca, ρ) σ k = nvC (D, ca, ρ) σ' k := hσ
  have e0 : nvC (D, ca, ρ) σ (o, f + 1) = (r, .inl (ca 6, N, .inr (.inl fun q => Int64.ofInt (σ o f q)))) := by
    unfold nvC
    rw [cell_l hcl hk, hln]
    show (ρ o (f + 1), _) = _
    rw [show ρ o (f + 1) = r from hr]
  have e1 : nvC (D, ca, ρ) σ' (o, f + 1) = (r, .inl (ca 6, N, .inr (.inl (vp_updL (fun q => Int64.ofInt (σ o f q)) x.toNatClampNeg y)))) := by
    unfold nvC
    rw [cell_l hcl hk, hln]
    show (ρ o (f + 1), _) = _
    rw [show ρ o (f + 1) = r from hr]
    congr 6
    funext q
    rw [hup q]
    rfl
  have hg0 : ((a, ob) :: ([] ++ Kp.map (nvC (D, ca, ρ) σ)))[j + 1]? = some (r, .inl (ca 6, N, .inr (.inl fun q => Int64.ofInt (σ o f q)))) := by
    rw [← e0]
    show (Kp.map (nvC (D, ca, ρ) σ))[j]? = _
    rw [List.getElem?_map, hj]
    rfl
  refine va_last (D := D) (cl := classes) hx hb hK hP hD (va_S_here hS) (j + 1) 3 hg0 rfl hin hd (fun H1 locs1 hP1 hD1 hS1 => ?_)
  have e2 : ((a, ob) :: ([] ++ Kp.map (nvC (D, ca, ρ) σ))).set (j + 1) (r, .inl (ca 6, N, .inr (.inl (vp_updL (fun q => Int64.ofInt (σ o f q)) x.toNatClampNeg y)))) = (a, ob) :: ([] ++ Kp.map (nvC (D, ca, ρ) σ')) := by
    rw [← e1]
    show (a, ob) :: (Kp.map (nvC (D, ca, ρ) σ)).set j _ = (a, ob) :: Kp.map (nvC (D, ca, ρ) σ')
    rw [map_set hj hnd hσ]
  replace hP1 : va_P D classes ((a, ob) :: ([] ++ Kp.map (nvC (D, ca, ρ) σ'))) H1 := by rw [← e2]; exact hP1
  replace hD1 : va_D (fun q => b ≤ q) ((a, ob) :: ([] ++ Kp.map (nvC (D, ca, ρ) σ'))) := by rw [← e2]; exact hD1
  exact kk H1 locs1 ls hl (Nat.le_trans hn hS1.1) hP1 hD1 (va_S_trans hS hS1)
end RowsK
/-- a castle's keys in the order of their making -/
def kCt (o : Nat) : List (Nat × Nat) := [(o, 1), (o, 2), (o, 3), (o, 4), (o, 5), (o, 6), (o, 7), (o, 8), (o, 9), (o, 10), (o, 11), (o, 15)]
def kCa (o : Nat) : List (Nat × Nat) := (o, 0) :: kCt o
theorem kCt_nd (o : Nat) : (kCt o).Nodup := List.Pairwise.of_map (S := fun x y : Nat => x ≠ y) (fun q : Nat × Nat => q.2) (fun a b h e => h (by rw [e])) (by decide : ([1, 2, 3, 4, 5, 6, 7, 8, 9, 10, 11, 15] : List Nat).Nodup)
/-- watchers and stations, as far as they are out -/
def cst (i j : Nat) : St := fun _ f k => if f = 2 ∧ 0 ≤ k ∧ k < i then -2 else if f = 6 ∧ 0 ≤ k ∧ k < j then -2 else 0
theorem cst_z {i j o f : Nat} {k : Int} (h2 : f ≠ 2) (h6 : f ≠ 6) : cst i j o f k = 0 := by unfold cst; rw [if_neg (fun z => h2 z.1), if_neg (fun z => h6 z.1)]
theorem cst_0 {o f : Nat} {k : Int} : cst 0 0 o f k = 0 := by unfold cst; rw [if_neg (by omega), if_neg (by omega)]
theorem cst_s {o : Nat} (h : 16 ≤ o) : cst 8 12 o = s00 o := by
  funext f k
  rw [s00_c h]
  rfl
def caF (w : Wd) (o : Nat) : List Value := [.ref (w.2.2 o 1), .ref (w.2.2 o 2), .ref (w.2.2 o 3), .ref (w.2.2 o 4), .ref (w.2.2 o 5), .ref (w.2.2 o 6), .ref (w.2.2 o 7), .ref (w.2.2 o 8), .ref (w.2.2 o 9), .ref (w.2.2 o 10), .ref (w.2.2 o 11), .int 0, .int 0, .int 0, .ref (w.2.2 o 15)]
theorem cls_ca {o : Nat} (h : 16 ≤ o) : cls o = 0 := by unfold cls; rw [if_neg (by omega)]
theorem ca_ob {w : Wd} {i j o : Nat} (h : 16 ≤ o) : nvC w (cst i j) (o, 0) = (w.2.2 o 0, .inr (0, caF w o)) := by
  unfold nvC
  show (w.2.2 o 0, Sum.inr (cls o, (List.range (nf (cls o))).map fun f => toV w.2.2 (fvl (cst i j) o f (kd (cls o) f)))) = _
  rw [cls_ca h]
  have e11 : cst i j o 11 0 = 0 := cst_z (by decide) (by decide)
  have e12 : cst i j o 12 0 = 0 := cst_z (by decide) (by decide)
  have e13 : cst i j o 13 0 = 0 := cst_z (by decide) (by decide)
  show (w.2.2 o 0, Sum.inr (0, [Value.ref (w.2.2 o 1), .ref (w.2.2 o 2), .ref (w.2.2 o 3), .ref (w.2.2 o 4), .ref (w.2.2 o 5), .ref (w.2.2 o 6), .ref (w.2.2 o 7), .ref (w.2.2 o 8), .ref (w.2.2 o 9), .ref (w.2.2 o 10), .ref (w.2.2 o 11), .int (Int32.ofInt (cst i j o 11 0)), .int (Int32.ofInt (cst i j o 12 0)), .int (Int32.ofInt (cst i j o 13 0)), .ref (w.2.2 o 15)])) = _
  rw [e11, e12, e13]
  rfl
theorem ca_c2 {w : Wd} {i j o : Nat} : ∀ k ∈ kCt o, k ≠ (o, 3) → nvC w (cst i j) k = nvC w (cst (i + 1) j) k := by
  intro k hk hne
  have key : ∀ f, f ≠ 2 → nvC w (cst i j) (o, f + 1) = nvC w (cst (i + 1) j) (o, f + 1) := fun f hf => cell_congF (by
    funext z
    unfold cst
    rw [if_neg (c := f = 2 ∧ 0 ≤ z ∧ z < (i : Int)) (fun z => hf z.1), if_neg (c := f = 2 ∧ 0 ≤ z ∧ z < ((i + 1 : Nat) : Int)) (fun z => hf z.1)])
  have : ∃ f, k = (o, f + 1) := by
    simp only [kCt, List.mem_cons, List.not_mem_nil, or_false] at hk
    rcases hk with h | h | h | h | h | h | h | h | h | h | h | h <;> exact ⟨_, h⟩
  obtain ⟨f, rfl⟩ := this
  exact key f (fun e => hne (by rw [e]))
theorem ca_c6 {w : Wd} {i j o : Nat} : ∀ k ∈ kCt o, k ≠ (o, 7) → nvC w (cst i j) k = nvC w (cst i (j + 1)) k := by
  intro k hk hne
  have key : ∀ f, f ≠ 6 → nvC w (cst i j) (o, f + 1) = nvC w (cst i (j + 1)) (o, f + 1) := fun f hf => cell_congF (by
    funext z
    unfold cst
    rw [if_neg (c := f = 6 ∧ 0 ≤ z ∧ z < (j : Int)) (fun z => hf z.1), if_neg (c := f = 6 ∧ 0 ≤ z ∧ z < ((j + 1 : Nat) : Int)) (fun z => hf z.1)])
  have : ∃ f, k = (o, f + 1) := by
    simp only [kCt, List.mem_cons, List.not_mem_nil, or_false] at hk
    rcases hk with h | h | h | h | h | h | h | h | h | h | h | h <;> exact ⟨_, h⟩
  obtain ⟨f, rfl⟩ := this
  exact key f (fun e => hne (by rw [e]))
def caW (w : Wd) (b o i j : Nat) : va_W := (b, .inr (0, caF w o)) :: ([] ++ (kCt o).map (nvC w (cst i j)))
theorem caW_is {w : Wd} {b o i j : Nat} (h : 16 ≤ o) (hb : w.2.2 o 0 = b) : caW w b o i j = (kCa o).map (nvC w (cst i j)) := by
  show _ = nvC w (cst i j) (o, 0) :: (kCt o).map (nvC w (cst i j))
  rw [ca_ob h, hb]
  rfl
section Leave
variable {g : Mach} {b n o : Nat}
theorem l_lv1 (C : Cn M_Ca_leaveAll g b) (ho : 16 ≤ o) (K : Nv g b 22 [(1, .int (Int32.ofInt (8 : Nat))), (0, .ref b)] [] n 0 0 (caW (gw g) b o 8 0)) : ∀ d i : Nat, i + d = 8 → Nv g b 2 [(1, .int (Int32.ofInt i)), (0, .ref b)] [] n 0 0 (caW (gw g) b o i 0) := by
  intro d
  induction d with
  | zero =>
    intro i hi
    have : i = 8 := by omega
    subst this
    refine n_iload C 0 d_Ca_leaveAll_2 rfl rfl ?_
    refine n_bipush C d_Ca_leaveAll_3 (v := 8) (by decide) ?_
    refine n_icmp_ge C 22 d_Ca_leaveAll_5 (by decide) (fun _ => K) (fun h => absurd (by decide) h)
  | succ d ih =>
    intro i hi
    have hlt : i < 8 := by omega
    refine n_iload C 0 d_Ca_leaveAll_2 rfl rfl ?_
    refine n_bipush C d_Ca_leaveAll_3 (v := 8) (by decide) ?_
    refine n_icmp_ge C 22 d_Ca_leaveAll_5 (by decide) (fun h => absurd ((sm_8 ⟨i, by omega⟩).mp h) (by simp only; omega)) (fun _ => ?_)
    refine n_aload C 1 d_Ca_leaveAll_8 rfl rfl ?_
    refine n_get C fl_Ca_18 (v := .ref ((gw g).2.2 o 3)) rfl d_Ca_leaveAll_9 ?_
    refine n_iload C 0 d_Ca_leaveAll_12 rfl rfl ?_
    refine n_bipush C d_Ca_leaveAll_13 (v := -2) (by decide) ?_
    refine n_iastK C (o := o) (f := 2) (σ' := cst (i + 1) 0) 2 (cls_ca ho) rfl rfl rfl (kCt_nd o) ca_c2 (fun q => ?_) (sm_in (by omega) hlt) rfl d_Ca_leaveAll_15 ?_
    · rw [sm_c ⟨i, by omega⟩]
      unfold cst
      by_cases e : q = i
      · subst e
        rw [if_pos rfl, if_pos ⟨rfl, by omega, by omega⟩]
        rfl
      · rw [if_neg e]
        by_cases e2 : q < i
        · rw [if_pos ⟨rfl, by omega, by omega⟩, if_pos ⟨rfl, by omega, by omega⟩]
        · rw [if_neg (by omega), if_neg (c := 2 = 2 ∧ 0 ≤ (q : Int) ∧ (q : Int) < (i : Int)) (by omega)]
    · refine n_iinc C (v := Int32.ofInt ((i + 1 : Nat) : Int)) 0 d_Ca_leaveAll_16 rfl (sm_a ⟨i, by omega⟩) (by decide) rfl ?_
      refine n_goto C 2 d_Ca_leaveAll_19 (by decide) ?_
      exact ih (i + 1) (by omega)
theorem l_lv2 (C : Cn M_Ca_leaveAll g b) (ho : 16 ≤ o) (K : Nv g b 44 [(1, .int (Int32.ofInt (12 : Nat))), (0, .ref b)] [] n 0 0 (caW (gw g) b o 8 12)) : ∀ d i : Nat, i + d = 12 → Nv g b 24 [(1, .int (Int32.ofInt i)), (0, .ref b)] [] n 0 0 (caW (gw g) b o 8 i) := by
  intro d
  induction d with
  | zero =>
    intro i hi
    have : i = 12 := by omega
    subst this
    refine n_iload C 0 d_Ca_leaveAll_24 rfl rfl ?_
    refine n_bipush C d_Ca_leaveAll_25 (v := 12) (by decide) ?_
    refine n_icmp_ge C 44 d_Ca_leaveAll_27 (by decide) (fun _ => K) (fun h => absurd (by decide) h)
  | succ d ih =>
    intro i hi
    have hlt : i < 12 := by omega
    refine n_iload C 0 d_Ca_leaveAll_24 rfl rfl ?_
    refine n_bipush C d_Ca_leaveAll_25 (v := 12) (by decide) ?_
    refine n_icmp_ge C 44 d_Ca_leaveAll_27 (by decide) (fun h => absurd ((sm_12 ⟨i, by omega⟩).mp h) (by simp only; omega)) (fun _ => ?_)
    refine n_aload C 1 d_Ca_leaveAll_30 rfl rfl ?_
    refine n_get C fl_Ca_31 (v := .ref ((gw g).2.2 o 7)) rfl d_Ca_leaveAll_31 ?_
    refine n_iload C 0 d_Ca_leaveAll_34 rfl rfl ?_
    refine n_bipush C d_Ca_leaveAll_35 (v := -2) (by decide) ?_
    refine n_iastK C (o := o) (f := 6) (σ' := cst 8 (i + 1)) 6 (cls_ca ho) rfl rfl rfl (kCt_nd o) ca_c6 (fun q => ?_) (sm_in (by omega) hlt) rfl d_Ca_leaveAll_37 ?_
    · rw [sm_c ⟨i, by omega⟩]
      unfold cst
      rw [if_neg (by omega), if_neg (c := 6 = 2 ∧ 0 ≤ (q : Int) ∧ (q : Int) < ((8 : Nat) : Int)) (by omega)]
      by_cases e : q = i
      · subst e
        rw [if_pos rfl, if_pos ⟨rfl, by omega, by omega⟩]
        rfl
      · rw [if_neg e]
        by_cases e2 : q < i
        · rw [if_pos ⟨rfl, by omega, by omega⟩, if_pos ⟨rfl, by omega, by omega⟩]
        · rw [if_neg (by omega), if_neg (c := 6 = 6 ∧ 0 ≤ (q : Int) ∧ (q : Int) < (i : Int)) (by omega)]
    · refine n_iinc C (v := Int32.ofInt ((i + 1 : Nat) : Int)) 0 d_Ca_leaveAll_38 rfl (sm_a ⟨i, by omega⟩) (by decide) rfl ?_
      refine n_goto C 24 d_Ca_leaveAll_41 (by decide) ?_
      exact ih (i + 1) (by omega)
theorem l_lv (C : Cn M_Ca_leaveAll g b) (ho : 16 ≤ o) (K : Nv g b 49 [(1, .int (Int32.ofInt (12 : Nat))), (0, .ref b)] [] n 0 0 (caW (gw g) b o 8 12)) : Nv g b 0 [(0, .ref b)] [] n 0 0 (caW (gw g) b o 0 0) := by
  refine n_iconst C d_Ca_leaveAll_0 (v := Int32.ofInt ((0 : Nat) : Int)) (by decide) ?_
  refine n_istore C d_Ca_leaveAll_1 (i := 1) (L' := [(1, .int (Int32.ofInt ((0 : Nat) : Int))), (0, .ref b)]) rfl (by decide) rfl ?_
  refine l_lv1 C ho ?_ 8 0 rfl
  refine n_iconst C d_Ca_leaveAll_22 (v := Int32.ofInt ((0 : Nat) : Int)) (by decide) ?_
  refine n_istore C d_Ca_leaveAll_23 (i := 1) (L' := [(1, .int (Int32.ofInt ((0 : Nat) : Int))), (0, .ref b)]) rfl (by decide) rfl ?_
  refine l_lv2 C ho ?_ 12 0 rfl
  refine n_aload C 1 d_Ca_leaveAll_44 rfl rfl ?_
  refine n_iconst C d_Ca_leaveAll_45 (v := 0) (by decide) ?_
  refine n_put C (v := .int 0) (fs := caF (gw g) o) fp_Ca_52 rfl rfl (by show 11 < 15; decide) d_Ca_leaveAll_46 ?_
  exact K
end Leave
def preU (w : Wd) (b o : Nat) (U : State) : Prop := va_P w.1 classes (caW w b o 0 0) U.heap ∧ va_K w.1 classes (tysOf w.2.1) U ∧ NX U
theorem met_U (l : Launch) (w : Wd) (b o : Nat) (ho : 16 ≤ o) (hB : Bs w.2.2 (kCa o) b) : Met l M_Ca_leaveAll.1 (wsM M_Ca_leaveAll) (rmM M_Ca_leaveAll) (va_Pc [.ref b] (preU w b o)) (va_Qv (fun _ : Unit => True) (fun _ t => va_P w.1 classes (caW w b o 8 12) t.heap) (fun q => b ≤ q)) 0 0 (fun q => b ≤ q) := by
  refine Met.ofW (cc := M_Ca_leaveAll.2.1) (maxL := M_Ca_leaveAll.2.2.1) (ret := M_Ca_leaveAll.2.2.2.1) ok_Ca_leaveAll.1.1 rfl ?_
  intro p e s m args below meth c s₁ B hml hv
  obtain ⟨rfl, hP, hK, hAO⟩ := hv
  have hts : ∀ t ∈ lw_gd, t.before ([.ref b] : List Value).toArray s = true := fun t ht => atoms_spec (ws := wsM M_Ca_leaveAll) B.pre t (List.mem_cons_of_mem _ ht)
  have hown : s.vm.findClass M_Ca_leaveAll.1.cls = some m.cls := findClass_of_methodNamed B.named
  have hl := lv_entry ([.ref b]) (n := M_Ca_leaveAll.2.2.1) (Nat.le_of_ble_eq_true rfl)
  have hr0 : w.2.2 o 0 = b := hB 0 (o, 0) rfl
  have hD : va_D (fun q => b ≤ q) (caW w b o 0 0) := by rw [caW_is ho hr0]; exact Bs.D hB (fun q h => h)
  have hbs : b < s.heap.size := (hP 0 _ rfl).lt
  rw [lg_entry_eq]
  refine l_lv (g := ((p, l, e, (headSpec (wsM M_Ca_leaveAll) (rmM M_Ca_leaveAll)).room), (s, m, ([.ref b] : List Value).toArray, below), (meth, c, 0, 0), w, MQ below (va_Qv (fun _ : Unit => True) (fun _ t => va_P w.1 classes (caW w b o 8 12) t.heap) (fun q => b ≤ q)) ([.ref b] : List Value).toArray s 0 0 (fun q => b ≤ q))) (b := b) (n := 0) (o := o)
    ⟨B.exec, B.bytes, hml, hown, hts, hK, B.notSynchronized, Nat.le_refl _, Nat.le_refl _, Nat.le_of_lt hbs, Nat.le_refl _, Nat.le_refl _, hAO⟩ ho ?_ s.heap [] _ (by rw [hml]; exact hl) (Nat.zero_le _) hP hD va_S.rf
  intro H locs ls hl hn hP hD hS
  exact W.vret B.exec B.bytes B.returns (fun t ht hW => ⟨⟨(), rfl, trivial, by show va_P w.1 classes (caW w b o 8 12) t.heap; rw [ht]; exact hP⟩, hS.F ht⟩) hS.2.2 d_Ca_leaveAll_49 B.notSynchronized
theorem n_callU {g : Mach} {b o n cells slots : Nat} {L : List (Nat × Value)} (C : Cn M_Ca_init g b) (ho : 16 ≤ o) (hB : Bs (gw g).2.2 (kCa o) b) (hmc : cells ≤ gmc g) (hms : slots ≤ gms g) (kk : Nv g b 104 L [] n cells slots (caW (gw g) b o 8 12)) : Nv g b 101 L [.ref b] n cells slots (caW (gw g) b o 0 0) := by
  obtain ⟨⟨p, l, e, R⟩, ⟨s, m, args, below⟩, ⟨meth, c, mc, ms⟩, ⟨D, ca, ρ⟩, Q⟩ := g
  obtain ⟨hx, hb, hml, hown, hts, hK, hlk, hfr, hlo, hbs, h1, h2c, hAO⟩ := C
  intro H locs ls hl hn hP hD hS
  have hM := met_U l (D, ca, ρ) b o ho hB
  have h2 := ok_Ca_leaveAll
  have hCB : CallB R s args M_Ca_init.1.cls 49 M_Ca_leaveAll.1 M_Ca_leaveAll.2.1 M_Ca_leaveAll.2.2.1 M_Ca_leaveAll.2.2.2.1 (wsM M_Ca_leaveAll) (rmM M_Ca_leaveAll) 0 0 0 := callB_of 0 hts (good_M h2.1) rfl rfl rfl (hts _ h2.1.2.2.1) (hts _ lk_Ca_49) h2.1.2.2.2 ⟨Nat.le_trans (by decide) hfr, Nat.le_trans (by decide) hlo⟩
  have hrun := va_runV (l := l) (e := e) (below := below) (meth := meth) (locs := locs) (cells := cells) (slots := slots) (g := F0 m 101 ls [.ref b]) (b := b) (As := []) (rest := []) ⟨hx, hb, hml, hown, hts⟩ hM ⟨hCB, hts _ h2.2.1, hts _ h2.2.2⟩
    ⟨fun a U g mk q => by obtain ⟨q0, q1, q3, q4⟩ := q; exact ⟨q0, q1, va_K.moved (u := U) (U := U.calling g mk a) (Vm.Alike.refl U.vm) q3, NX.same (u := U) (U := U.calling g mk a) rfl q4⟩, va_recv hK hP (ci := 0) (q0 := 0) rfl rfl, fun U hU hW => ⟨rfl, by rw [hU]; exact hP, va_K.moved hW.alike hK, NX.warm hW hAO⟩⟩ rfl rfl (hl.1.trans hml) rfl (lv_room (Nat.le_of_ble_eq_true rfl)) d_Ca_init_101 ⟨Nat.le_trans hmc h1, Nat.le_trans hms h2c⟩
  refine va_callv hrun hS (fun q _ h => h) (fun q h => h) (fun u t H1 locs1 ht hvm hw hB1 hz1 hk1 hS1 => ?_)
  rw [ht] at hB1
  have hr0 : ρ o 0 = b := hB 0 (o, 0) rfl
  refine kk H1 locs1 ls hl (Nat.le_trans hn hz1) hB1 ?_ hS1
  show va_D (fun q => b ≤ q) (caW (D, ca, ρ) b o 8 12)
  rw [caW_is ho hr0]
  exact Bs.D hB (fun q h => h)
