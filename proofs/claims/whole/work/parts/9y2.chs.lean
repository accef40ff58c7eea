/-! History() and SandGuards() (written by wip/gen/gen9y2.py) -/
theorem arrV_cong {cA : ClassId} {N : Nat} {f f' : Nat → Value} (h : ∀ j, j < N → f j = f' j) : arrV cA N f = arrV cA N f' := by
  unfold arrV
  congr 2
  funext i
  exact h i i.2
theorem va_at_q {D : va_G} {cl : List vw_C} {H : Heap} {r N : Nat} {cA : ClassId} {f f' : Nat → Option Nat} (h : ∀ j, j < N → f j = f' j) (hv : va_at D cl (r, .inl (cA, N, .inr (.inr (.inr (.inr f))))) H) : va_at D cl (r, .inl (cA, N, .inr (.inr (.inr (.inr f'))))) H := by
  have hv : H[r]? = some (vp_cell cA (N, .inr (.inr (.inr (.inr f))))) := hv
  show H[r]? = some (vp_cell cA (N, .inr (.inr (.inr (.inr f')))))
  rw [hv, vp_cell_q, vp_cell_q, arrV_cong (f := fun j => va_rf (f j)) (f' := fun j => va_rf (f' j)) (fun j hj => by rw [h j hj])]
theorem n_aast {M : Md} {g : Mach} {b pc n cells slots : Nat} {L : List (Nat × Value)} {st : List Value} {ws : va_W} (C : Cn M g b) {a r v N : Nat} {ob : va_E} {f : Nat → Option Nat} {vs : List Value} {x : Int32} (hv : ((v, .inr (0, vs)) : Nat × va_E) ∈ ws) (hin : vp_in x N) (hd : decode M.2.1 pc = .ok (.aastore, 1)) (kk : Nv g b (pc + 1) L st n cells slots ((a, ob) :: ([(r, .inl ((gw g).2.1 8, N, .inr (.inr (.inr (.inr (va_up f x.toNatClampNeg (some v)))))))] ++ ws))) : Nv g b pc L (.ref v :: .int x :: .ref r :: st) n cells slots ((a, ob) :: ([(r, .inl ((gw g).2.1 8, N, .inr (.inr (.inr (.inr f)))))] ++ ws)) := by
  obtain ⟨⟨p, l, e, R⟩, ⟨s, m, args, below⟩, ⟨meth, c, mc, ms⟩, ⟨D, ca, ρ⟩, Q⟩ := g
  obtain ⟨hx, hb, hml, hown, hts, hK, hlk2, hf, hlc, hbs, h1, h2, hAO⟩ := C
  intro H locs ls hl hn hP hD hS
  obtain ⟨i, hi⟩ := List.getElem?_of_mem hv
  refine va_astq (D := D) (cl := classes) (r := (R_Ca, F_Ca, 15)) hx hb hK hP hD (va_S_here hS) 1 4 (i + 2) 0 rfl rfl hi rfl hin hd (fun H1 locs1 hP1 hD1 hS1 => ?_)
  exact kk H1 locs1 ls hl (Nat.le_trans hn hS1.1) hP1 hD1 (va_S_trans hS hS1)
theorem ca_in {w : Wd} {o : Nat} {Kp : List (Nat × Nat)} (h : 16 ≤ o) : (((w.2.2 o 0, .inr (0, caF w o)) : Nat × va_E) ∈ (Kp ++ kCa o).map (nvC w s00)) := by
  refine List.mem_map.mpr ⟨(o, 0), List.mem_append_right _ List.mem_cons_self, ?_⟩
  rw [← cell_cong (cst_s h), ca_ob h]
def hiK (i : Nat) : List (Nat × Nat) := (List.range i).flatMap fun j => kCa (32 + j)
theorem hiK_s (i : Nat) : hiK (i + 1) = hiK i ++ kCa (32 + i) := by
  unfold hiK
  rw [List.range_succ, List.flatMap_append]
  rfl
def kO_9 : List (Nat × Nat) := (9, 0) :: (9, 2) :: hiK 40
theorem hi_cut : ∀ i : Fin 40, (kO_9.drop (2 + 13 * i.val)).take 13 = kCa (32 + i.val) := by decide +kernel
theorem hi_len : kO_9.length = 522 := by decide +kernel
def hiF (ρ : Nat → Nat → Nat) (i : Nat) : Nat → Option Nat := fun j => if j < i then some (ρ (32 + j) 0) else none
def hiW (w : Wd) (b i : Nat) : va_W := (b, .inr (3, [.int 0, .ref (b + 1), .int 0])) :: ([(b + 1, .inl (w.2.1 8, 40, .inr (.inr (.inr (.inr (hiF w.2.2 i))))))] ++ (hiK i).map (nvC w s00))
theorem l_hi {g : Mach} {b : Nat} (C : Cn M_Hi_init g b) (hB : Bs (gw g).2.2 kO_9 b) (hsz : gsz g = b + 1) (hmc : gmc g = 521) (hms : gms g = 5280) (K : Nv g b 40 [(1, .int (Int32.ofInt (40 : Nat))), (0, .ref b)] [] (b + 2 + 13 * 40) (1 + 13 * 40) (40 + 131 * 40) (hiW (gw g) b 40)) : ∀ d i : Nat, i + d = 40 → Nv g b 15 [(1, .int (Int32.ofInt i)), (0, .ref b)] [] (b + 2 + 13 * i) (1 + 13 * i) (40 + 131 * i) (hiW (gw g) b i) := by
  intro d
  induction d with
  | zero =>
    intro i hi
    have : i = 40 := by omega
    subst this
    refine n_iload C 0 d_Hi_init_15 rfl rfl ?_
    refine n_bipush C d_Hi_init_16 (v := 40) (by decide) ?_
    refine n_icmp_ge C 40 d_Hi_init_18 (by decide) (fun _ => K) (fun h => absurd (by decide) h)
  | succ d ih =>
    intro i hi
    have hlt : i < 40 := by omega
    refine n_iload C 0 d_Hi_init_15 rfl rfl ?_
    refine n_bipush C d_Hi_init_16 (v := 40) (by decide) ?_
    refine n_icmp_ge C 40 d_Hi_init_18 (by decide) (fun h => absurd ((sm_40 ⟨i, by omega⟩).mp h) (by simp only; omega)) (fun _ => ?_)
    refine n_aload C 1 d_Hi_init_21 rfl rfl ?_
    refine n_get C fl_Hi_11 (v := .ref (b + 1)) rfl d_Hi_init_22 ?_
    refine n_iload C 0 d_Hi_init_25 rfl rfl ?_
    have hBi : Bs (gw g).2.2 (kCa (32 + i)) (b + 2 + 13 * i) := by
      rw [show b + 2 + 13 * i = b + (2 + 13 * i) by omega]
      exact hB.sub _ (hi_cut ⟨i, hlt⟩)
    have hr : (gw g).2.2 (32 + i) 0 = b + 2 + 13 * i := hBi 0 (32 + i, 0) rfl
    refine n_mk C (o := 32 + i) (ci := 0) (K := kCa (32 + i)) (len := 13) (ms2 := 116) oi_Ca_init (k_Ca_init (by omega)) (cls_ca (by omega)) k_Ca t_Ca_ok nu_Ca iw_Ca cl_Hi_9 (Or.inl lk_Hi_15) hBi (by decide) (Nat.le_of_ble_eq_true rfl) d_Hi_init_26 d_Hi_init_29 d_Hi_init_30 (by omega) (by omega) rfl (by decide) (by omega) (by omega) ?_
    refine n_aast C (vs := caF (gw g) (32 + i)) ?_ (sm_in (by omega) hlt) d_Hi_init_33 ?_
    · rw [← hr]
      exact ca_in (by omega)
    · rw [sm_c ⟨i, by omega⟩]
      have ef : va_up (hiF (gw g).2.2 i) i (some (b + 2 + 13 * i)) = hiF (gw g).2.2 (i + 1) := by
        funext j
        unfold va_up hiF
        by_cases e1 : j = i
        · subst e1
          rw [if_pos rfl, if_pos (by omega), hr]
        · rw [if_neg e1]
          by_cases e2 : j < i
          · rw [if_pos e2, if_pos (by omega)]
          · rw [if_neg e2, if_neg (by omega)]
      rw [ef, ← hiK_s]
      refine n_iinc C (v := Int32.ofInt ((i + 1 : Nat) : Int)) 0 d_Hi_init_34 rfl (sm_a ⟨i, by omega⟩) (by decide) rfl ?_
      refine n_goto C 15 d_Hi_init_37 (by decide) ?_
      have := ih (i + 1) (by omega)
      rw [show b + 2 + 13 * (i + 1) = b + 2 + 13 * i + 13 by omega, show 1 + 13 * (i + 1) = 1 + 13 * i + 13 by omega, show 40 + 131 * (i + 1) = 40 + 131 * i + 15 + 116 by omega] at this
      exact this
theorem k_O_9 : CtN M_Hi_init 9 kO_9 5280 := by
  intro g b C F hB hsz hI
  have hmc : gmc g = 521 := by rw [F.mc, hi_len]
  have hms : gms g = 5280 := F.ms
  show Nv g b 0 [(0, .ref b)] [] (b + 1) 0 0 ((b, .inr (3, [.int 0, .null, .int 0])) :: ([] ++ ([] : List (Nat × Nat)).map (nvC (gw g) s00)))
  refine n_aload C 0 d_Hi_init_0 rfl rfl ?_
  refine n_oinit C lo_Hi oi_i oi_c d_Hi_init_1 (by decide) (by decide) ?_
  refine n_aload C 0 d_Hi_init_4 rfl rfl ?_
  refine n_bipush C d_Hi_init_5 (v := 40) (by decide) ?_
  refine n_newq C (N := 40) cl_Hi_9 (by decide) (by decide) (by decide) (by omega) (by omega) (by omega) d_Hi_init_7 ?_
  refine n_putF C hI ff_Hi_11 rfl rfl (by show 1 < 3; decide) d_Hi_init_10 ?_
  refine n_iconst C d_Hi_init_13 (v := Int32.ofInt ((0 : Nat) : Int)) (by decide) ?_
  refine n_istore C d_Hi_init_14 (i := 1) (L' := [(1, .int (Int32.ofInt ((0 : Nat) : Int))), (0, .ref b)]) rfl (by decide) rfl ?_
  have h0 : hiF (gw g).2.2 0 = fun _ => none := by
    funext j
    unfold hiF
    rw [if_neg (by omega)]
  have K := l_hi C hB hsz hmc hms ?_ 40 0 rfl
  · unfold hiW at K
    rw [h0] at K
    exact K
  · refine n_ret C F d_Hi_init_40 (by rw [hi_len]; decide) (by decide) (by rw [hi_len]; omega) (fun H h => va_P_mem.mpr fun q hq => ?_)
    have h := va_P_mem.mp h
    obtain ⟨k, hk, rfl⟩ := List.mem_map.mp hq
    rcases List.mem_cons.mp hk with e | hk
    · subst e
      have e0 : nvC (gw g) s00 (9, 0) = (b, .inr (3, [.int 0, .ref (b + 1), .int 0])) := by
        show (((gw g).2.2 9 0, Sum.inr (3, ([.int 0, .ref ((gw g).2.2 9 2), .int 0] : List Value))) : Nat × va_E) = _
        rw [show (gw g).2.2 9 0 = b from hB 0 (9, 0) rfl, show (gw g).2.2 9 2 = b + 1 from hB 1 (9, 2) rfl]
      rw [e0]
      exact h _ List.mem_cons_self
    · rcases List.mem_cons.mp hk with e | hk
      · subst e
        have e2 : nvC (gw g) s00 (9, 2) = (b + 1, .inl ((gw g).2.1 8, 40, .inr (.inr (.inr (.inr fun j => some ((gw g).2.2 (32 + j) 0)))))) := by
          show (((gw g).2.2 9 2, _) : Nat × va_E) = _
          rw [show (gw g).2.2 9 2 = b + 1 from hB 1 (9, 2) rfl]
          rfl
        rw [e2]
        refine va_at_q (f := hiF (gw g).2.2 40) (fun j hj => ?_) (h _ (List.mem_cons_of_mem _ (List.mem_append_left _ List.mem_cons_self)))
        unfold hiF
        rw [if_pos hj]
      · exact h _ (List.mem_cons_of_mem _ (List.mem_append_right _ (List.mem_map.mpr ⟨k, hk, rfl⟩)))
def sgA : List (Nat × Nat) := (((((([] ++ kO_2) ++ kO_3) ++ kO_7) ++ (kCa 17)) ++ (kCa 18)) ++ kO_9)
def kO_0 : List (Nat × Nat) := (0, 0) :: (sgA ++ ((0, 7) :: ([(0, 8)] ++ (kO_10 ++ (kO_11 ++ (kO_12 ++ (kO_13 ++ (kCa 23 ++ (kCa 24 ++ kCa 25)))))))))
theorem sg_len : kO_0.length = 697 := by decide +kernel
set_option maxRecDepth 20000 in
theorem sg_mem : ∀ k ∈ kO_0, k = (0, 0) ∨ k = (0, 7) ∨ k ∈ (((((((((((((([] ++ kO_2) ++ kO_3) ++ kO_7) ++ (kCa 17)) ++ (kCa 18)) ++ kO_9) ++ [(0, 8)]) ++ kO_10) ++ kO_11) ++ kO_12) ++ kO_13) ++ (kCa 23)) ++ (kCa 24)) ++ (kCa 25)) := by
  intro k hk
  simp only [kO_0, sgA, List.mem_cons, List.mem_append, List.not_mem_nil, or_false, false_or] at hk ⊢
  grind
set_option maxRecDepth 20000 in
theorem k_O_0 : CtN M_Sg_init 0 kO_0 21589 := by
  intro g b C F hB hsz hI
  have hmc : gmc g = 696 := by rw [F.mc, sg_len]
  have hms : gms g = 21589 := F.ms
  show Nv g b 0 [(0, .ref b)] [] (b + 1) 0 0 ((b, .inr (11, [.null, .null, .null, .null, .null, .null, .null, .null, .null, .null, .null, .null, .int 0])) :: ([] ++ ([] : List (Nat × Nat)).map (nvC (gw g) s00)))
  refine n_aload C 0 d_Sg_init_0 rfl rfl ?_
  refine n_oinit C lo_Sg oi_i oi_c d_Sg_init_1 (by decide) (by decide) ?_
  refine n_aload C 0 d_Sg_init_4 rfl rfl ?_
  refine n_mk C (o := 2) (ci := 9) (K := kO_2) (len := 2) (ms2 := 2000) oi_Ta_init k_O_2 rfl k_Ta t_Ta_ok nu_Ta iw_Ta cl_Sg_7 (Or.inr (by decide +kernel)) (hB.sub 1 (by decide +kernel)) (by decide) (Nat.le_of_ble_eq_true rfl) d_Sg_init_5 d_Sg_init_8 d_Sg_init_9 (by omega) (by omega) (by decide +kernel) (by decide) (by omega) (by omega) ?_
  refine n_putF C hI ff_Sg_10 rfl rfl (by show 0 < 13; decide) d_Sg_init_12 ?_
  show Nv g b 15 _ _ (b + 3) 2 2002 ((b, .inr (11, [.ref (b + 1), .null, .null, .null, .null, .null, .null, .null, .null, .null, .null, .null, .int 0])) :: _)
  refine n_aload C 0 d_Sg_init_15 rfl rfl ?_
  refine n_mk C (o := 3) (ci := 7) (K := kO_3) (len := 33) (ms2 := 4470) oi_Re_init k_O_3 rfl k_Re t_Re_ok nu_Re iw_Re cl_Sg_16 (Or.inr (by decide +kernel)) (hB.sub 3 (by decide +kernel)) (by decide) (Nat.le_of_ble_eq_true rfl) d_Sg_init_16 d_Sg_init_19 d_Sg_init_20 (by omega) (by omega) (by decide +kernel) (by decide) (by omega) (by omega) ?_
  refine n_putF C hI ff_Sg_19 rfl rfl (by show 1 < 13; decide) d_Sg_init_23 ?_
  show Nv g b 26 _ _ (b + 36) 35 6489 ((b, .inr (11, [.ref (b + 1), .ref (b + 3), .null, .null, .null, .null, .null, .null, .null, .null, .null, .null, .int 0])) :: _)
  refine n_aload C 0 d_Sg_init_26 rfl rfl ?_
  refine n_mk C (o := 7) (ci := 6) (K := kO_7) (len := 10) (ms2 := 2648) oi_Pl_init k_O_7 rfl k_Pl t_Pl_ok nu_Pl iw_Pl cl_Sg_23 (Or.inr (by decide +kernel)) (hB.sub 36 (by decide +kernel)) (by decide) (Nat.le_of_ble_eq_true rfl) d_Sg_init_27 d_Sg_init_30 d_Sg_init_31 (by omega) (by omega) (by decide +kernel) (by decide) (by omega) (by omega) ?_
  refine n_putF C hI ff_Sg_26 rfl rfl (by show 2 < 13; decide) d_Sg_init_34 ?_
  show Nv g b 37 _ _ (b + 46) 45 9146 ((b, .inr (11, [.ref (b + 1), .ref (b + 3), .ref (b + 36), .null, .null, .null, .null, .null, .null, .null, .null, .null, .int 0])) :: _)
  refine n_aload C 0 d_Sg_init_37 rfl rfl ?_
  refine n_mk C (o := 17) (ci := 0) (K := (kCa 17)) (len := 13) (ms2 := 116) oi_Ca_init (k_Ca_init (o := 17) (by decide)) rfl k_Ca t_Ca_ok nu_Ca iw_Ca cl_Sg_30 (Or.inl lk_Sg_32) (hB.sub 46 (by decide +kernel)) (by decide) (Nat.le_of_ble_eq_true rfl) d_Sg_init_38 d_Sg_init_41 d_Sg_init_42 (by omega) (by omega) (by decide +kernel) (by decide) (by omega) (by omega) ?_
  refine n_putF C hI ff_Sg_33 rfl rfl (by show 3 < 13; decide) d_Sg_init_45 ?_
  show Nv g b 48 _ _ (b + 59) 58 9277 ((b, .inr (11, [.ref (b + 1), .ref (b + 3), .ref (b + 36), .ref (b + 46), .null, .null, .null, .null, .null, .null, .null, .null, .int 0])) :: _)
  refine n_aload C 0 d_Sg_init_48 rfl rfl ?_
  refine n_mk C (o := 18) (ci := 0) (K := (kCa 18)) (len := 13) (ms2 := 116) oi_Ca_init (k_Ca_init (o := 18) (by decide)) rfl k_Ca t_Ca_ok nu_Ca iw_Ca cl_Sg_30 (Or.inl lk_Sg_32) (hB.sub 59 (by decide +kernel)) (by decide) (Nat.le_of_ble_eq_true rfl) d_Sg_init_49 d_Sg_init_52 d_Sg_init_53 (by omega) (by omega) (by decide +kernel) (by decide) (by omega) (by omega) ?_
  refine n_putF C hI ff_Sg_37 rfl rfl (by show 4 < 13; decide) d_Sg_init_56 ?_
  show Nv g b 59 _ _ (b + 72) 71 9408 ((b, .inr (11, [.ref (b + 1), .ref (b + 3), .ref (b + 36), .ref (b + 46), .ref (b + 59), .null, .null, .null, .null, .null, .null, .null, .int 0])) :: _)
  refine n_aload C 0 d_Sg_init_59 rfl rfl ?_
  refine n_mk C (o := 9) (ci := 3) (K := kO_9) (len := 522) (ms2 := 5280) oi_Hi_init k_O_9 rfl k_Hi t_Hi_ok nu_Hi iw_Hi cl_Sg_40 (Or.inl lk_Sg_42) (hB.sub 72 (by decide +kernel)) (by decide) (Nat.le_of_ble_eq_true rfl) d_Sg_init_60 d_Sg_init_63 d_Sg_init_64 (by omega) (by omega) (by decide +kernel) (by decide) (by omega) (by omega) ?_
  refine n_putF C hI ff_Sg_43 rfl rfl (by show 5 < 13; decide) d_Sg_init_67 ?_
  show Nv g b 70 _ _ (b + 594) 593 14691 ((b, .inr (11, [.ref (b + 1), .ref (b + 3), .ref (b + 36), .ref (b + 46), .ref (b + 59), .ref (b + 72), .null, .null, .null, .null, .null, .null, .int 0])) :: _)
  refine n_aload C 0 d_Sg_init_70 rfl rfl ?_
  refine n_iconst C d_Sg_init_71 (v := 3) (by decide) ?_
  refine n_newq C (N := 3) cl_Sg_30 (by decide) (by decide) (by decide) (by omega) (by omega) (by omega) d_Sg_init_72 ?_
  refine n_perm (ws' := (b, .inr (11, [.ref (b + 1), .ref (b + 3), .ref (b + 36), .ref (b + 46), .ref (b + 59), .ref (b + 72), .null, .null, .null, .null, .null, .null, .int 0])) :: ([(b + 594, .inl ((gw g).2.1 8, 3, .inr (.inr (.inr (.inr fun _ => none)))))] ++ (((((([] ++ kO_2) ++ kO_3) ++ kO_7) ++ (kCa 17)) ++ (kCa 18)) ++ kO_9).map (nvC (gw g) s00))) (List.Perm.cons _ List.perm_append_comm) ?_
  refine n_putF C hI ff_Sg_47 rfl rfl (by show 6 < 13; decide) d_Sg_init_75 ?_
  show Nv g b 78 _ _ (b + 595) 594 14694 ((b, .inr (11, [.ref (b + 1), .ref (b + 3), .ref (b + 36), .ref (b + 46), .ref (b + 59), .ref (b + 72), .ref (b + 594), .null, .null, .null, .null, .null, .int 0])) :: _)
  refine n_aload C 0 d_Sg_init_78 rfl rfl ?_
  refine n_iconst C d_Sg_init_79 (v := 3) (by decide) ?_
  refine n_az C (o := 0) (f := 7) (ci := 11) (N := 3) rfl rfl rfl (fun j => by unfold s00; rw [if_pos rfl, if_neg (by decide)]) (hB 595 (0, 8) (by decide +kernel)) ac_boolean (by decide) (by decide) (by decide) (by omega) (by omega) (by omega) d_Sg_init_80 ?_
  refine n_putF C hI ff_Sg_51 rfl rfl (by show 7 < 13; decide) d_Sg_init_82 ?_
  show Nv g b 85 _ _ (b + 596) 595 14697 ((b, .inr (11, [.ref (b + 1), .ref (b + 3), .ref (b + 36), .ref (b + 46), .ref (b + 59), .ref (b + 72), .ref (b + 594), .ref (b + 595), .null, .null, .null, .null, .int 0])) :: _)
  refine n_aload C 0 d_Sg_init_85 rfl rfl ?_
  refine n_mk C (o := 10) (ci := 5) (K := kO_10) (len := 14) (ms2 := 131) oi_Ou_init k_O_10 rfl k_Ou t_Ou_ok nu_Ou iw_Ou cl_Sg_55 (Or.inr (by decide +kernel)) (hB.sub 596 (by decide +kernel)) (by decide) (Nat.le_of_ble_eq_true rfl) d_Sg_init_86 d_Sg_init_89 d_Sg_init_90 (by omega) (by omega) (by decide +kernel) (by decide) (by omega) (by omega) ?_
  refine n_putF C hI ff_Sg_58 rfl rfl (by show 8 < 13; decide) d_Sg_init_93 ?_
  show Nv g b 96 _ _ (b + 610) 609 14831 ((b, .inr (11, [.ref (b + 1), .ref (b + 3), .ref (b + 36), .ref (b + 46), .ref (b + 59), .ref (b + 72), .ref (b + 594), .ref (b + 595), .ref (b + 596), .null, .null, .null, .int 0])) :: _)
  refine n_aload C 0 d_Sg_init_96 rfl rfl ?_
  refine n_mk C (o := 11) (ci := 1) (K := kO_11) (len := 14) (ms2 := 131) oi_Dr_init k_O_11 rfl k_Dr t_Dr_ok nu_Dr iw_Dr cl_Sg_62 (Or.inr (by decide +kernel)) (hB.sub 610 (by decide +kernel)) (by decide) (Nat.le_of_ble_eq_true rfl) d_Sg_init_97 d_Sg_init_100 d_Sg_init_101 (by omega) (by omega) (by decide +kernel) (by decide) (by omega) (by omega) ?_
  refine n_putF C hI ff_Sg_65 rfl rfl (by show 9 < 13; decide) d_Sg_init_104 ?_
  show Nv g b 107 _ _ (b + 624) 623 14971 ((b, .inr (11, [.ref (b + 1), .ref (b + 3), .ref (b + 36), .ref (b + 46), .ref (b + 59), .ref (b + 72), .ref (b + 594), .ref (b + 595), .ref (b + 596), .ref (b + 610), .null, .null, .int 0])) :: _)
  refine n_aload C 0 d_Sg_init_107 rfl rfl ?_
  refine n_mk C (o := 12) (ci := 2) (K := kO_12) (len := 16) (ms2 := 2435) oi_Ga_init k_O_12 rfl k_Ga t_Ga_ok nu_Ga iw_Ga cl_Sg_69 (Or.inr (by decide +kernel)) (hB.sub 624 (by decide +kernel)) (by decide) (Nat.le_of_ble_eq_true rfl) d_Sg_init_108 d_Sg_init_111 d_Sg_init_112 (by omega) (by omega) (by decide +kernel) (by decide) (by omega) (by omega) ?_
  refine n_putF C hI ff_Sg_72 rfl rfl (by show 10 < 13; decide) d_Sg_init_115 ?_
  show Nv g b 118 _ _ (b + 640) 639 17413 ((b, .inr (11, [.ref (b + 1), .ref (b + 3), .ref (b + 36), .ref (b + 46), .ref (b + 59), .ref (b + 72), .ref (b + 594), .ref (b + 595), .ref (b + 596), .ref (b + 610), .ref (b + 624), .null, .int 0])) :: _)
  refine n_aload C 0 d_Sg_init_118 rfl rfl ?_
  refine n_mk C (o := 13) (ci := 8) (K := kO_13) (len := 18) (ms2 := 3773) oi_Ru_init k_O_13 rfl k_Ru t_Ru_ok nu_Ru iw_Ru cl_Sg_76 (Or.inr (by decide +kernel)) (hB.sub 640 (by decide +kernel)) (by decide) (Nat.le_of_ble_eq_true rfl) d_Sg_init_119 d_Sg_init_122 d_Sg_init_123 (by omega) (by omega) (by decide +kernel) (by decide) (by omega) (by omega) ?_
  refine n_putF C hI ff_Sg_79 rfl rfl (by show 11 < 13; decide) d_Sg_init_126 ?_
  show Nv g b 129 _ _ (b + 658) 657 21196 ((b, .inr (11, [.ref (b + 1), .ref (b + 3), .ref (b + 36), .ref (b + 46), .ref (b + 59), .ref (b + 72), .ref (b + 594), .ref (b + 595), .ref (b + 596), .ref (b + 610), .ref (b + 624), .ref (b + 640), .int 0])) :: _)
  refine n_aload C 0 d_Sg_init_129 rfl rfl ?_
  refine n_iconst C d_Sg_init_130 (v := -1) (by decide) ?_
  refine n_put C fp_Sg_83 rfl rfl (by show 12 < 13; decide) d_Sg_init_131 ?_
  show Nv g b 134 _ _ (b + 658) 657 21196 ((b, .inr (11, [.ref (b + 1), .ref (b + 3), .ref (b + 36), .ref (b + 46), .ref (b + 59), .ref (b + 72), .ref (b + 594), .ref (b + 595), .ref (b + 596), .ref (b + 610), .ref (b + 624), .ref (b + 640), .int (-1)])) :: _)
  refine n_iconst C d_Sg_init_134 (v := 0) (by decide) ?_
  refine n_istore C d_Sg_init_135 (i := 1) (L' := [(1, .int 0), (0, .ref b)]) rfl (by decide) rfl ?_
  refine n_iload C 0 d_Sg_init_136 rfl rfl ?_
  refine n_iconst C d_Sg_init_137 (v := 3) (by decide) ?_
  refine n_icmp_ge C 160 d_Sg_init_138 (by decide) (fun h => absurd h (by decide)) (fun _ => ?_)
  refine n_aload C 1 d_Sg_init_141 rfl rfl ?_
  refine n_get C fl_Sg_47 (v := .ref (b + 594)) rfl d_Sg_init_142 ?_
  refine n_iload C 0 d_Sg_init_145 rfl rfl ?_
  refine n_mk C (o := 23) (ci := 0) (K := (kCa 23)) (len := 13) (ms2 := 116) oi_Ca_init (k_Ca_init (o := 23) (by decide)) rfl k_Ca t_Ca_ok nu_Ca iw_Ca cl_Sg_30 (Or.inl lk_Sg_32) (hB.sub 658 (by decide +kernel)) (by decide) (Nat.le_of_ble_eq_true rfl) d_Sg_init_146 d_Sg_init_149 d_Sg_init_150 (by omega) (by omega) (by decide +kernel) (by decide) (by omega) (by omega) ?_
  refine n_aast C (v := b + 658) (vs := caF (gw g) 23) ?_ (by unfold vp_in; decide) d_Sg_init_153 ?_
  · rw [show b + 658 = (gw g).2.2 23 0 from (hB 658 (23, 0) (by decide +kernel)).symm]
    exact ca_in (by decide)
  refine n_iinc C (v := 1) 0 d_Sg_init_154 rfl (by decide) (by decide) rfl ?_
  refine n_goto C 136 d_Sg_init_157 (by decide) ?_
  show Nv g b 136 [(1, .int 1), (0, .ref b)] [] (b + 671) 670 21327 ((b, .inr (11, [.ref (b + 1), .ref (b + 3), .ref (b + 36), .ref (b + 46), .ref (b + 59), .ref (b + 72), .ref (b + 594), .ref (b + 595), .ref (b + 596), .ref (b + 610), .ref (b + 624), .ref (b + 640), .int (-1)])) :: ([(b + 594, .inl ((gw g).2.1 8, 3, .inr (.inr (.inr (.inr (va_up (fun _ => none) 0 (some (b + 658))))))))] ++ (((((((((((([] ++ kO_2) ++ kO_3) ++ kO_7) ++ (kCa 17)) ++ (kCa 18)) ++ kO_9) ++ [(0, 8)]) ++ kO_10) ++ kO_11) ++ kO_12) ++ kO_13) ++ (kCa 23)).map (nvC (gw g) s00)))
  refine n_iload C 0 d_Sg_init_136 rfl rfl ?_
  refine n_iconst C d_Sg_init_137 (v := 3) (by decide) ?_
  refine n_icmp_ge C 160 d_Sg_init_138 (by decide) (fun h => absurd h (by decide)) (fun _ => ?_)
  refine n_aload C 1 d_Sg_init_141 rfl rfl ?_
  refine n_get C fl_Sg_47 (v := .ref (b + 594)) rfl d_Sg_init_142 ?_
  refine n_iload C 0 d_Sg_init_145 rfl rfl ?_
  refine n_mk C (o := 24) (ci := 0) (K := (kCa 24)) (len := 13) (ms2 := 116) oi_Ca_init (k_Ca_init (o := 24) (by decide)) rfl k_Ca t_Ca_ok nu_Ca iw_Ca cl_Sg_30 (Or.inl lk_Sg_32) (hB.sub 671 (by decide +kernel)) (by decide) (Nat.le_of_ble_eq_true rfl) d_Sg_init_146 d_Sg_init_149 d_Sg_init_150 (by omega) (by omega) (by decide +kernel) (by decide) (by omega) (by omega) ?_
  refine n_aast C (v := b + 671) (vs := caF (gw g) 24) ?_ (by unfold vp_in; decide) d_Sg_init_153 ?_
  · rw [show b + 671 = (gw g).2.2 24 0 from (hB 671 (24, 0) (by decide +kernel)).symm]
    exact ca_in (by decide)
  refine n_iinc C (v := 2) 0 d_Sg_init_154 rfl (by decide) (by decide) rfl ?_
  refine n_goto C 136 d_Sg_init_157 (by decide) ?_
  show Nv g b 136 [(1, .int 2), (0, .ref b)] [] (b + 684) 683 21458 ((b, .inr (11, [.ref (b + 1), .ref (b + 3), .ref (b + 36), .ref (b + 46), .ref (b + 59), .ref (b + 72), .ref (b + 594), .ref (b + 595), .ref (b + 596), .ref (b + 610), .ref (b + 624), .ref (b + 640), .int (-1)])) :: ([(b + 594, .inl ((gw g).2.1 8, 3, .inr (.inr (.inr (.inr (va_up (va_up (fun _ => none) 0 (some (b + 658))) 1 (some (b + 671))))))))] ++ ((((((((((((([] ++ kO_2) ++ kO_3) ++ kO_7) ++ (kCa 17)) ++ (kCa 18)) ++ kO_9) ++ [(0, 8)]) ++ kO_10) ++ kO_11) ++ kO_12) ++ kO_13) ++ (kCa 23)) ++ (kCa 24)).map (nvC (gw g) s00)))
  refine n_iload C 0 d_Sg_init_136 rfl rfl ?_
  refine n_iconst C d_Sg_init_137 (v := 3) (by decide) ?_
  refine n_icmp_ge C 160 d_Sg_init_138 (by decide) (fun h => absurd h (by decide)) (fun _ => ?_)
  refine n_aload C 1 d_Sg_init_141 rfl rfl ?_
  refine n_get C fl_Sg_47 (v := .ref (b + 594)) rfl d_Sg_init_142 ?_
  refine n_iload C 0 d_Sg_init_145 rfl rfl ?_
  refine n_mk C (o := 25) (ci := 0) (K := (kCa 25)) (len := 13) (ms2 := 116) oi_Ca_init (k_Ca_init (o := 25) (by decide)) rfl k_Ca t_Ca_ok nu_Ca iw_Ca cl_Sg_30 (Or.inl lk_Sg_32) (hB.sub 684 (by decide +kernel)) (by decide) (Nat.le_of_ble_eq_true rfl) d_Sg_init_146 d_Sg_init_149 d_Sg_init_150 (by omega) (by omega) (by decide +kernel) (by decide) (by omega) (by omega) ?_
  refine n_aast C (v := b + 684) (vs := caF (gw g) 25) ?_ (by unfold vp_in; decide) d_Sg_init_153 ?_
  · rw [show b + 684 = (gw g).2.2 25 0 from (hB 684 (25, 0) (by decide +kernel)).symm]
    exact ca_in (by decide)
  refine n_iinc C (v := 3) 0 d_Sg_init_154 rfl (by decide) (by decide) rfl ?_
  refine n_goto C 136 d_Sg_init_157 (by decide) ?_
  show Nv g b 136 [(1, .int 3), (0, .ref b)] [] (b + 697) 696 21589 ((b, .inr (11, [.ref (b + 1), .ref (b + 3), .ref (b + 36), .ref (b + 46), .ref (b + 59), .ref (b + 72), .ref (b + 594), .ref (b + 595), .ref (b + 596), .ref (b + 610), .ref (b + 624), .ref (b + 640), .int (-1)])) :: ([(b + 594, .inl ((gw g).2.1 8, 3, .inr (.inr (.inr (.inr (va_up (va_up (va_up (fun _ => none) 0 (some (b + 658))) 1 (some (b + 671))) 2 (some (b + 684))))))))] ++ (((((((((((((([] ++ kO_2) ++ kO_3) ++ kO_7) ++ (kCa 17)) ++ (kCa 18)) ++ kO_9) ++ [(0, 8)]) ++ kO_10) ++ kO_11) ++ kO_12) ++ kO_13) ++ (kCa 23)) ++ (kCa 24)) ++ (kCa 25)).map (nvC (gw g) s00)))
  refine n_iload C 0 d_Sg_init_136 rfl rfl ?_
  refine n_iconst C d_Sg_init_137 (v := 3) (by decide) ?_
  refine n_icmp_ge C 160 d_Sg_init_138 (by decide) (fun _ => ?_) (fun h => absurd (by decide) h)
  refine n_ret C F d_Sg_init_160 (by rw [sg_len]; decide) (by decide) (by rw [sg_len]; omega) (fun H h => va_P_mem.mpr fun q hq => ?_)
  have h := va_P_mem.mp h
  obtain ⟨k, hk, rfl⟩ := List.mem_map.mp hq
  rcases sg_mem k hk with e | e | e
  · subst e
    have e0 : nvC (gw g) s00 (0, 0) = (b, .inr (11, [.ref (b + 1), .ref (b + 3), .ref (b + 36), .ref (b + 46), .ref (b + 59), .ref (b + 72), .ref (b + 594), .ref (b + 595), .ref (b + 596), .ref (b + 610), .ref (b + 624), .ref (b + 640), .int (-1)])) := by
      show (((gw g).2.2 0 0, Sum.inr (11, ([.ref ((gw g).2.2 2 0), .ref ((gw g).2.2 3 0), .ref ((gw g).2.2 7 0), .ref ((gw g).2.2 17 0), .ref ((gw g).2.2 18 0), .ref ((gw g).2.2 9 0), .ref ((gw g).2.2 0 7), .ref ((gw g).2.2 0 8), .ref ((gw g).2.2 10 0), .ref ((gw g).2.2 11 0), .ref ((gw g).2.2 12 0), .ref ((gw g).2.2 13 0), .int (-1)] : List Value))) : Nat × va_E) = _
      rw [show (gw g).2.2 0 0 = b from hB 0 (0, 0) rfl, show (gw g).2.2 2 0 = b + 1 from hB 1 (2, 0) (by decide +kernel), show (gw g).2.2 3 0 = b + 3 from hB 3 (3, 0) (by decide +kernel), show (gw g).2.2 7 0 = b + 36 from hB 36 (7, 0) (by decide +kernel), show (gw g).2.2 17 0 = b + 46 from hB 46 (17, 0) (by decide +kernel), show (gw g).2.2 18 0 = b + 59 from hB 59 (18, 0) (by decide +kernel), show (gw g).2.2 9 0 = b + 72 from hB 72 (9, 0) (by decide +kernel), show (gw g).2.2 0 7 = b + 594 from hB 594 (0, 7) (by decide +kernel), show (gw g).2.2 0 8 = b + 595 from hB 595 (0, 8) (by decide +kernel), show (gw g).2.2 10 0 = b + 596 from hB 596 (10, 0) (by decide +kernel), show (gw g).2.2 11 0 = b + 610 from hB 610 (11, 0) (by decide +kernel), show (gw g).2.2 12 0 = b + 624 from hB 624 (12, 0) (by decide +kernel), show (gw g).2.2 13 0 = b + 640 from hB 640 (13, 0) (by decide +kernel)]
    rw [e0]
    exact h _ List.mem_cons_self
  · subst e
    have e2 : nvC (gw g) s00 (0, 7) = (b + 594, .inl ((gw g).2.1 8, 3, .inr (.inr (.inr (.inr fun j => some ((gw g).2.2 (23 + j) 0)))))) := by
      show (((gw g).2.2 0 7, _) : Nat × va_E) = _
      rw [show (gw g).2.2 0 7 = b + 594 from hB 594 (0, 7) (by decide +kernel)]
      rfl
    rw [e2]
    refine va_at_q (f := (va_up (va_up (va_up (fun _ => none) 0 (some (b + 658))) 1 (some (b + 671))) 2 (some (b + 684)))) (fun j hj => ?_) (h _ (List.mem_cons_of_mem _ (List.mem_append_left _ List.mem_cons_self)))
    rcases (show j = 0 ∨ j = 1 ∨ j = 2 by omega) with e | e | e <;> subst e
    · show some (b + 658) = some ((gw g).2.2 23 0)
      rw [show (gw g).2.2 23 0 = b + 658 from hB 658 (23, 0) (by decide +kernel)]
    · show some (b + 671) = some ((gw g).2.2 24 0)
      rw [show (gw g).2.2 24 0 = b + 671 from hB 671 (24, 0) (by decide +kernel)]
    · show some (b + 684) = some ((gw g).2.2 25 0)
      rw [show (gw g).2.2 25 0 = b + 684 from hB 684 (25, 0) (by decide +kernel)]
  · exact h _ (List.mem_cons_of_mem _ (List.mem_append_right _ (List.mem_map.mpr ⟨k, e, rfl⟩)))
