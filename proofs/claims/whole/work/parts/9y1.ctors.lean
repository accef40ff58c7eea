/-! constructors (written by wip/gen/gen9y.py) -/
set_option maxRecDepth 20000 in
theorem k_Ca_init {o : Nat} (ho : 16 ≤ o) : CtN M_Ca_init o (kCa o) 116 := by
  intro g b C F hB hsz hI
  have hmc : gmc g = 12 := F.mc
  have hms : gms g = 116 := F.ms
  rw [cls_ca ho]
  show Nv g b 0 [(0, .ref b)] [] (b + 1) 0 0 ((b, .inr (0, [.null, .null, .null, .null, .null, .null, .null, .null, .null, .null, .null, .int 0, .int 0, .int 0, .null])) :: ([] ++ ([] : List (Nat × Nat)).map (nvC (gw g) (cst 0 0))))
  refine n_aload C 0 d_Ca_init_0 rfl rfl ?_
  refine n_oinit C lo_Ca oi_i oi_c d_Ca_init_1 (by decide) (by decide) ?_
  refine n_aload C 0 d_Ca_init_4 rfl rfl ?_
  refine n_bipush C d_Ca_init_5 (v := 8) (by decide) ?_
  refine n_ai C (o := o) (f := 0) (ci := 0) (N := 8) (cls_ca ho) rfl rfl (fun j => cst_0) (hB 1 (o, 1) rfl) ac_int (by decide) (by decide) (by decide) (by omega) (by omega) (by omega) d_Ca_init_7 ?_
  refine n_putF C hI ff_Ca_9 rfl rfl (by show 0 < 15; decide) d_Ca_init_9 ?_
  show Nv g b 12 _ _ (b + 2) 1 8 ((b, .inr (0, [.ref (b + 1), .null, .null, .null, .null, .null, .null, .null, .null, .null, .null, .int 0, .int 0, .int 0, .null])) :: _)
  refine n_aload C 0 d_Ca_init_12 rfl rfl ?_
  refine n_bipush C d_Ca_init_13 (v := 8) (by decide) ?_
  refine n_ai C (o := o) (f := 1) (ci := 0) (N := 8) (cls_ca ho) rfl rfl (fun j => cst_0) (hB 2 (o, 2) rfl) ac_int (by decide) (by decide) (by decide) (by omega) (by omega) (by omega) d_Ca_init_15 ?_
  refine n_putF C hI ff_Ca_15 rfl rfl (by show 1 < 15; decide) d_Ca_init_17 ?_
  show Nv g b 20 _ _ (b + 3) 2 16 ((b, .inr (0, [.ref (b + 1), .ref (b + 2), .null, .null, .null, .null, .null, .null, .null, .null, .null, .int 0, .int 0, .int 0, .null])) :: _)
  refine n_aload C 0 d_Ca_init_20 rfl rfl ?_
  refine n_bipush C d_Ca_init_21 (v := 8) (by decide) ?_
  refine n_ai C (o := o) (f := 2) (ci := 0) (N := 8) (cls_ca ho) rfl rfl (fun j => cst_0) (hB 3 (o, 3) rfl) ac_int (by decide) (by decide) (by decide) (by omega) (by omega) (by omega) d_Ca_init_23 ?_
  refine n_putF C hI ff_Ca_18 rfl rfl (by show 2 < 15; decide) d_Ca_init_25 ?_
  show Nv g b 28 _ _ (b + 4) 3 24 ((b, .inr (0, [.ref (b + 1), .ref (b + 2), .ref (b + 3), .null, .null, .null, .null, .null, .null, .null, .null, .int 0, .int 0, .int 0, .null])) :: _)
  refine n_aload C 0 d_Ca_init_28 rfl rfl ?_
  refine n_bipush C d_Ca_init_29 (v := 8) (by decide) ?_
  refine n_az C (o := o) (f := 3) (ci := 0) (N := 8) (cls_ca ho) rfl rfl (fun j => cst_0) (hB 4 (o, 4) rfl) ac_boolean (by decide) (by decide) (by decide) (by omega) (by omega) (by omega) d_Ca_init_31 ?_
  refine n_putF C hI ff_Ca_21 rfl rfl (by show 3 < 15; decide) d_Ca_init_33 ?_
  show Nv g b 36 _ _ (b + 5) 4 32 ((b, .inr (0, [.ref (b + 1), .ref (b + 2), .ref (b + 3), .ref (b + 4), .null, .null, .null, .null, .null, .null, .null, .int 0, .int 0, .int 0, .null])) :: _)
  refine n_aload C 0 d_Ca_init_36 rfl rfl ?_
  refine n_bipush C d_Ca_init_37 (v := 8) (by decide) ?_
  refine n_ai C (o := o) (f := 4) (ci := 0) (N := 8) (cls_ca ho) rfl rfl (fun j => cst_0) (hB 5 (o, 5) rfl) ac_int (by decide) (by decide) (by decide) (by omega) (by omega) (by omega) d_Ca_init_39 ?_
  refine n_putF C hI ff_Ca_25 rfl rfl (by show 4 < 15; decide) d_Ca_init_41 ?_
  show Nv g b 44 _ _ (b + 6) 5 40 ((b, .inr (0, [.ref (b + 1), .ref (b + 2), .ref (b + 3), .ref (b + 4), .ref (b + 5), .null, .null, .null, .null, .null, .null, .int 0, .int 0, .int 0, .null])) :: _)
  refine n_aload C 0 d_Ca_init_44 rfl rfl ?_
  refine n_bipush C d_Ca_init_45 (v := 8) (by decide) ?_
  refine n_ai C (o := o) (f := 5) (ci := 0) (N := 8) (cls_ca ho) rfl rfl (fun j => cst_0) (hB 6 (o, 6) rfl) ac_int (by decide) (by decide) (by decide) (by omega) (by omega) (by omega) d_Ca_init_47 ?_
  refine n_putF C hI ff_Ca_28 rfl rfl (by show 5 < 15; decide) d_Ca_init_49 ?_
  show Nv g b 52 _ _ (b + 7) 6 48 ((b, .inr (0, [.ref (b + 1), .ref (b + 2), .ref (b + 3), .ref (b + 4), .ref (b + 5), .ref (b + 6), .null, .null, .null, .null, .null, .int 0, .int 0, .int 0, .null])) :: _)
  refine n_aload C 0 d_Ca_init_52 rfl rfl ?_
  refine n_bipush C d_Ca_init_53 (v := 12) (by decide) ?_
  refine n_ai C (o := o) (f := 6) (ci := 0) (N := 12) (cls_ca ho) rfl rfl (fun j => cst_0) (hB 7 (o, 7) rfl) ac_int (by decide) (by decide) (by decide) (by omega) (by omega) (by omega) d_Ca_init_55 ?_
  refine n_putF C hI ff_Ca_31 rfl rfl (by show 6 < 15; decide) d_Ca_init_57 ?_
  show Nv g b 60 _ _ (b + 8) 7 60 ((b, .inr (0, [.ref (b + 1), .ref (b + 2), .ref (b + 3), .ref (b + 4), .ref (b + 5), .ref (b + 6), .ref (b + 7), .null, .null, .null, .null, .int 0, .int 0, .int 0, .null])) :: _)
  refine n_aload C 0 d_Ca_init_60 rfl rfl ?_
  refine n_bipush C d_Ca_init_61 (v := 12) (by decide) ?_
  refine n_ai C (o := o) (f := 7) (ci := 0) (N := 12) (cls_ca ho) rfl rfl (fun j => cst_0) (hB 8 (o, 8) rfl) ac_int (by decide) (by decide) (by decide) (by omega) (by omega) (by omega) d_Ca_init_63 ?_
  refine n_putF C hI ff_Ca_34 rfl rfl (by show 7 < 15; decide) d_Ca_init_65 ?_
  show Nv g b 68 _ _ (b + 9) 8 72 ((b, .inr (0, [.ref (b + 1), .ref (b + 2), .ref (b + 3), .ref (b + 4), .ref (b + 5), .ref (b + 6), .ref (b + 7), .ref (b + 8), .null, .null, .null, .int 0, .int 0, .int 0, .null])) :: _)
  refine n_aload C 0 d_Ca_init_68 rfl rfl ?_
  refine n_bipush C d_Ca_init_69 (v := 12) (by decide) ?_
  refine n_ai C (o := o) (f := 8) (ci := 0) (N := 12) (cls_ca ho) rfl rfl (fun j => cst_0) (hB 9 (o, 9) rfl) ac_int (by decide) (by decide) (by decide) (by omega) (by omega) (by omega) d_Ca_init_71 ?_
  refine n_putF C hI ff_Ca_37 rfl rfl (by show 8 < 15; decide) d_Ca_init_73 ?_
  show Nv g b 76 _ _ (b + 10) 9 84 ((b, .inr (0, [.ref (b + 1), .ref (b + 2), .ref (b + 3), .ref (b + 4), .ref (b + 5), .ref (b + 6), .ref (b + 7), .ref (b + 8), .ref (b + 9), .null, .null, .int 0, .int 0, .int 0, .null])) :: _)
  refine n_aload C 0 d_Ca_init_76 rfl rfl ?_
  refine n_bipush C d_Ca_init_77 (v := 12) (by decide) ?_
  refine n_ai C (o := o) (f := 9) (ci := 0) (N := 12) (cls_ca ho) rfl rfl (fun j => cst_0) (hB 10 (o, 10) rfl) ac_int (by decide) (by decide) (by decide) (by omega) (by omega) (by omega) d_Ca_init_79 ?_
  refine n_putF C hI ff_Ca_40 rfl rfl (by show 9 < 15; decide) d_Ca_init_81 ?_
  show Nv g b 84 _ _ (b + 11) 10 96 ((b, .inr (0, [.ref (b + 1), .ref (b + 2), .ref (b + 3), .ref (b + 4), .ref (b + 5), .ref (b + 6), .ref (b + 7), .ref (b + 8), .ref (b + 9), .ref (b + 10), .null, .int 0, .int 0, .int 0, .null])) :: _)
  refine n_aload C 0 d_Ca_init_84 rfl rfl ?_
  refine n_bipush C d_Ca_init_85 (v := 12) (by decide) ?_
  refine n_ai C (o := o) (f := 10) (ci := 0) (N := 12) (cls_ca ho) rfl rfl (fun j => cst_0) (hB 11 (o, 11) rfl) ac_int (by decide) (by decide) (by decide) (by omega) (by omega) (by omega) d_Ca_init_87 ?_
  refine n_putF C hI ff_Ca_43 rfl rfl (by show 10 < 15; decide) d_Ca_init_89 ?_
  show Nv g b 92 _ _ (b + 12) 11 108 ((b, .inr (0, [.ref (b + 1), .ref (b + 2), .ref (b + 3), .ref (b + 4), .ref (b + 5), .ref (b + 6), .ref (b + 7), .ref (b + 8), .ref (b + 9), .ref (b + 10), .ref (b + 11), .int 0, .int 0, .int 0, .null])) :: _)
  refine n_aload C 0 d_Ca_init_92 rfl rfl ?_
  refine n_bipush C d_Ca_init_93 (v := 8) (by decide) ?_
  refine n_ai C (o := o) (f := 14) (ci := 0) (N := 8) (cls_ca ho) rfl rfl (fun j => cst_0) (hB 12 (o, 15) rfl) ac_int (by decide) (by decide) (by decide) (by omega) (by omega) (by omega) d_Ca_init_95 ?_
  refine n_putF C hI ff_Ca_46 rfl rfl (by show 14 < 15; decide) d_Ca_init_97 ?_
  show Nv g b 100 _ _ (b + 13) 12 116 ((b, .inr (0, [.ref (b + 1), .ref (b + 2), .ref (b + 3), .ref (b + 4), .ref (b + 5), .ref (b + 6), .ref (b + 7), .ref (b + 8), .ref (b + 9), .ref (b + 10), .ref (b + 11), .int 0, .int 0, .int 0, .ref (b + 12)])) :: _)
  refine n_aload C 0 d_Ca_init_100 rfl rfl ?_
  have eF : [Value.ref (b + 1), .ref (b + 2), .ref (b + 3), .ref (b + 4), .ref (b + 5), .ref (b + 6), .ref (b + 7), .ref (b + 8), .ref (b + 9), .ref (b + 10), .ref (b + 11), .int 0, .int 0, .int 0, .ref (b + 12)] = caF (gw g) o := by
    unfold caF
    rw [show (gw g).2.2 o 1 = b + 1 from hB 1 (o, 1) rfl, show (gw g).2.2 o 2 = b + 2 from hB 2 (o, 2) rfl, show (gw g).2.2 o 3 = b + 3 from hB 3 (o, 3) rfl, show (gw g).2.2 o 4 = b + 4 from hB 4 (o, 4) rfl, show (gw g).2.2 o 5 = b + 5 from hB 5 (o, 5) rfl, show (gw g).2.2 o 6 = b + 6 from hB 6 (o, 6) rfl, show (gw g).2.2 o 7 = b + 7 from hB 7 (o, 7) rfl, show (gw g).2.2 o 8 = b + 8 from hB 8 (o, 8) rfl, show (gw g).2.2 o 9 = b + 9 from hB 9 (o, 9) rfl, show (gw g).2.2 o 10 = b + 10 from hB 10 (o, 10) rfl, show (gw g).2.2 o 11 = b + 11 from hB 11 (o, 11) rfl, show (gw g).2.2 o 15 = b + 12 from hB 12 (o, 15) rfl]
  rw [eF]
  refine n_callU C ho hB (by omega) (by omega) ?_
  refine n_ret C F d_Ca_init_104 (by show 12 ≤ 12; decide) (by decide) (by show b + 13 ≤ b + 13; omega) (fun H h => ?_)
  rw [caW_is ho (show (gw g).2.2 o 0 = b from hB 0 (o, 0) rfl)] at h
  rw [show (kCa o).map (nvC (gw g) s00) = (kCa o).map (nvC (gw g) (cst 8 12)) from List.map_congr_left (fun k hk => ?_)]
  · exact h
  · have : ∃ f, k = (o, f) := by
      simp only [kCa, kCt, List.mem_cons, List.not_mem_nil, or_false] at hk
      rcases hk with h | h | h | h | h | h | h | h | h | h | h | h | h <;> exact ⟨_, h⟩
    obtain ⟨f, rfl⟩ := this
    exact (cell_cong (cst_s ho)).symm
def kO_2 : List (Nat × Nat) := (2, 0) :: ([] ++ [(2, 1)])
set_option maxRecDepth 20000 in
theorem k_O_2 : CtN M_Ta_init 2 kO_2 2000 := by
  intro g b C F hB hsz hI
  have hmc : gmc g = 1 := F.mc
  have hms : gms g = 2000 := F.ms
  show Nv g b 0 [(0, .ref b)] [] (b + 1) 0 0 ((b, .inr (9, [.null, .int 0])) :: ([] ++ ([] : List (Nat × Nat)).map (nvC (gw g) s00)))
  refine n_aload C 0 d_Ta_init_0 rfl rfl ?_
  refine n_oinit C lo_Ta oi_i oi_c d_Ta_init_1 (by decide) (by decide) ?_
  refine n_aload C 0 d_Ta_init_4 rfl rfl ?_
  refine n_sipush C d_Ta_init_5 (v := 2000) (by decide) ?_
  refine n_ab C (o := 2) (f := 0) (ci := 9) (N := 2000) rfl rfl rfl (fun j => s00_z (by decide) (by decide) (by decide) (by decide)) (hB 1 (2, 1) rfl) ac_byte (by decide) (by decide) (by decide) (by omega) (by omega) (by omega) d_Ta_init_8 ?_
  refine n_putF C hI ff_Ta_9 rfl rfl (by show 0 < 2; decide) d_Ta_init_10 ?_
  show Nv g b 13 _ _ (b + 2) 1 2000 ((b, .inr (9, [.ref (b + 1), .int 0])) :: _)
  refine n_ret C F d_Ta_init_13 (by decide +kernel) (by decide) (by show b + 2 ≤ b + 2; omega) (fun H h => ?_)
  have e0 : nvC (gw g) s00 (2, 0) = (b, .inr (9, [.ref (b + 1), .int 0])) := by
    show (((gw g).2.2 2 0, Sum.inr (9, ([.ref ((gw g).2.2 2 1), .int 0] : List Value))) : Nat × va_E) = _
    rw [show (gw g).2.2 2 0 = b from hB 0 (2, 0) rfl, show (gw g).2.2 2 1 = b + 1 from hB 1 (2, 1) (by decide +kernel)]
  have e1 : kO_2.map (nvC (gw g) s00) = (b, .inr (9, [.ref (b + 1), .int 0])) :: ([] ++ ([] ++ [(2, 1)]).map (nvC (gw g) s00)) := by
    rw [← e0]
    rfl
  rw [e1]
  exact h
def kO_5 : List (Nat × Nat) := (5, 0) :: ((((([] ++ [(5, 3)]) ++ [(5, 4)]) ++ [(5, 5)]) ++ [(5, 6)]) ++ [(5, 7)])
set_option maxRecDepth 20000 in
theorem k_O_5 : CtN M_La_init 5 kO_5 2406 := by
  intro g b C F hB hsz hI
  have hmc : gmc g = 5 := F.mc
  have hms : gms g = 2406 := F.ms
  show Nv g b 0 [(0, .ref b)] [] (b + 1) 0 0 ((b, .inr (4, [.int 0, .int 0, .null, .null, .null, .null, .null, .int 0, .int 0])) :: ([] ++ ([] : List (Nat × Nat)).map (nvC (gw g) s00)))
  refine n_aload C 0 d_La_init_0 rfl rfl ?_
  refine n_oinit C lo_La oi_i oi_c d_La_init_1 (by decide) (by decide) ?_
  refine n_aload C 0 d_La_init_4 rfl rfl ?_
  refine n_sipush C d_La_init_5 (v := 400) (by decide) ?_
  refine n_ai C (o := 5) (f := 2) (ci := 4) (N := 400) rfl rfl rfl (fun j => s00_z (by decide) (by decide) (by decide) (by decide)) (hB 1 (5, 3) rfl) ac_int (by decide) (by decide) (by decide) (by omega) (by omega) (by omega) d_La_init_8 ?_
  refine n_putF C hI ff_La_11 rfl rfl (by show 2 < 9; decide) d_La_init_10 ?_
  show Nv g b 13 _ _ (b + 2) 1 400 ((b, .inr (4, [.int 0, .int 0, .ref (b + 1), .null, .null, .null, .null, .int 0, .int 0])) :: _)
  refine n_aload C 0 d_La_init_13 rfl rfl ?_
  refine n_sipush C d_La_init_14 (v := 400) (by decide) ?_
  refine n_ai C (o := 5) (f := 3) (ci := 4) (N := 400) rfl rfl rfl (fun j => s00_z (by decide) (by decide) (by decide) (by decide)) (hB 2 (5, 4) rfl) ac_int (by decide) (by decide) (by decide) (by omega) (by omega) (by omega) d_La_init_17 ?_
  refine n_putF C hI ff_La_15 rfl rfl (by show 3 < 9; decide) d_La_init_19 ?_
  show Nv g b 22 _ _ (b + 3) 2 800 ((b, .inr (4, [.int 0, .int 0, .ref (b + 1), .ref (b + 2), .null, .null, .null, .int 0, .int 0])) :: _)
  refine n_aload C 0 d_La_init_22 rfl rfl ?_
  refine n_sipush C d_La_init_23 (v := 400) (by decide) ?_
  refine n_ai C (o := 5) (f := 4) (ci := 4) (N := 400) rfl rfl rfl (fun j => s00_z (by decide) (by decide) (by decide) (by decide)) (hB 3 (5, 5) rfl) ac_int (by decide) (by decide) (by decide) (by omega) (by omega) (by omega) d_La_init_26 ?_
  refine n_putF C hI ff_La_18 rfl rfl (by show 4 < 9; decide) d_La_init_28 ?_
  show Nv g b 31 _ _ (b + 4) 3 1200 ((b, .inr (4, [.int 0, .int 0, .ref (b + 1), .ref (b + 2), .ref (b + 3), .null, .null, .int 0, .int 0])) :: _)
  refine n_aload C 0 d_La_init_31 rfl rfl ?_
  refine n_sipush C d_La_init_32 (v := 400) (by decide) ?_
  refine n_ai C (o := 5) (f := 5) (ci := 4) (N := 400) rfl rfl rfl (fun j => s00_z (by decide) (by decide) (by decide) (by decide)) (hB 4 (5, 6) rfl) ac_int (by decide) (by decide) (by decide) (by omega) (by omega) (by omega) d_La_init_35 ?_
  refine n_putF C hI ff_La_21 rfl rfl (by show 5 < 9; decide) d_La_init_37 ?_
  show Nv g b 40 _ _ (b + 5) 4 1600 ((b, .inr (4, [.int 0, .int 0, .ref (b + 1), .ref (b + 2), .ref (b + 3), .ref (b + 4), .null, .int 0, .int 0])) :: _)
  refine n_aload C 0 d_La_init_40 rfl rfl ?_
  refine n_sipush C d_La_init_41 (v := 806) (by decide) ?_
  refine n_ai C (o := 5) (f := 6) (ci := 4) (N := 806) rfl rfl rfl (fun j => s00_z (by decide) (by decide) (by decide) (by decide)) (hB 5 (5, 7) rfl) ac_int (by decide) (by decide) (by decide) (by omega) (by omega) (by omega) d_La_init_44 ?_
  refine n_putF C hI ff_La_24 rfl rfl (by show 6 < 9; decide) d_La_init_46 ?_
  show Nv g b 49 _ _ (b + 6) 5 2406 ((b, .inr (4, [.int 0, .int 0, .ref (b + 1), .ref (b + 2), .ref (b + 3), .ref (b + 4), .ref (b + 5), .int 0, .int 0])) :: _)
  refine n_ret C F d_La_init_49 (by decide +kernel) (by decide) (by show b + 6 ≤ b + 6; omega) (fun H h => ?_)
  have e0 : nvC (gw g) s00 (5, 0) = (b, .inr (4, [.int 0, .int 0, .ref (b + 1), .ref (b + 2), .ref (b + 3), .ref (b + 4), .ref (b + 5), .int 0, .int 0])) := by
    show (((gw g).2.2 5 0, Sum.inr (4, ([.int 0, .int 0, .ref ((gw g).2.2 5 3), .ref ((gw g).2.2 5 4), .ref ((gw g).2.2 5 5), .ref ((gw g).2.2 5 6), .ref ((gw g).2.2 5 7), .int 0, .int 0] : List Value))) : Nat × va_E) = _
    rw [show (gw g).2.2 5 0 = b from hB 0 (5, 0) rfl, show (gw g).2.2 5 3 = b + 1 from hB 1 (5, 3) (by decide +kernel), show (gw g).2.2 5 4 = b + 2 from hB 2 (5, 4) (by decide +kernel), show (gw g).2.2 5 5 = b + 3 from hB 3 (5, 5) (by decide +kernel), show (gw g).2.2 5 6 = b + 4 from hB 4 (5, 6) (by decide +kernel), show (gw g).2.2 5 7 = b + 5 from hB 5 (5, 7) (by decide +kernel)]
  have e1 : kO_5.map (nvC (gw g) s00) = (b, .inr (4, [.int 0, .int 0, .ref (b + 1), .ref (b + 2), .ref (b + 3), .ref (b + 4), .ref (b + 5), .int 0, .int 0])) :: ([] ++ ((((([] ++ [(5, 3)]) ++ [(5, 4)]) ++ [(5, 5)]) ++ [(5, 6)]) ++ [(5, 7)]).map (nvC (gw g) s00)) := by
    rw [← e0]
    rfl
  rw [e1]
  exact h
def kO_8 : List (Nat × Nat) := (8, 0) :: ((((([] ++ [(8, 3)]) ++ [(8, 4)]) ++ [(8, 5)]) ++ [(8, 6)]) ++ [(8, 7)])
set_option maxRecDepth 20000 in
theorem k_O_8 : CtN M_La_init 8 kO_8 2406 := by
  intro g b C F hB hsz hI
  have hmc : gmc g = 5 := F.mc
  have hms : gms g = 2406 := F.ms
  show Nv g b 0 [(0, .ref b)] [] (b + 1) 0 0 ((b, .inr (4, [.int 0, .int 0, .null, .null, .null, .null, .null, .int 0, .int 0])) :: ([] ++ ([] : List (Nat × Nat)).map (nvC (gw g) s00)))
  refine n_aload C 0 d_La_init_0 rfl rfl ?_
  refine n_oinit C lo_La oi_i oi_c d_La_init_1 (by decide) (by decide) ?_
  refine n_aload C 0 d_La_init_4 rfl rfl ?_
  refine n_sipush C d_La_init_5 (v := 400) (by decide) ?_
  refine n_ai C (o := 8) (f := 2) (ci := 4) (N := 400) rfl rfl rfl (fun j => s00_z (by decide) (by decide) (by decide) (by decide)) (hB 1 (8, 3) rfl) ac_int (by decide) (by decide) (by decide) (by omega) (by omega) (by omega) d_La_init_8 ?_
  refine n_putF C hI ff_La_11 rfl rfl (by show 2 < 9; decide) d_La_init_10 ?_
  show Nv g b 13 _ _ (b + 2) 1 400 ((b, .inr (4, [.int 0, .int 0, .ref (b + 1), .null, .null, .null, .null, .int 0, .int 0])) :: _)
  refine n_aload C 0 d_La_init_13 rfl rfl ?_
  refine n_sipush C d_La_init_14 (v := 400) (by decide) ?_
  refine n_ai C (o := 8) (f := 3) (ci := 4) (N := 400) rfl rfl rfl (fun j => s00_z (by decide) (by decide) (by decide) (by decide)) (hB 2 (8, 4) rfl) ac_int (by decide) (by decide) (by decide) (by omega) (by omega) (by omega) d_La_init_17 ?_
  refine n_putF C hI ff_La_15 rfl rfl (by show 3 < 9; decide) d_La_init_19 ?_
  show Nv g b 22 _ _ (b + 3) 2 800 ((b, .inr (4, [.int 0, .int 0, .ref (b + 1), .ref (b + 2), .null, .null, .null, .int 0, .int 0])) :: _)
  refine n_aload C 0 d_La_init_22 rfl rfl ?_
  refine n_sipush C d_La_init_23 (v := 400) (by decide) ?_
  refine n_ai C (o := 8) (f := 4) (ci := 4) (N := 400) rfl rfl rfl (fun j => s00_z (by decide) (by decide) (by decide) (by decide)) (hB 3 (8, 5) rfl) ac_int (by decide) (by decide) (by decide) (by omega) (by omega) (by omega) d_La_init_26 ?_
  refine n_putF C hI ff_La_18 rfl rfl (by show 4 < 9; decide) d_La_init_28 ?_
  show Nv g b 31 _ _ (b + 4) 3 1200 ((b, .inr (4, [.int 0, .int 0, .ref (b + 1), .ref (b + 2), .ref (b + 3), .null, .null, .int 0, .int 0])) :: _)
  refine n_aload C 0 d_La_init_31 rfl rfl ?_
  refine n_sipush C d_La_init_32 (v := 400) (by decide) ?_
  refine n_ai C (o := 8) (f := 5) (ci := 4) (N := 400) rfl rfl rfl (fun j => s00_z (by decide) (by decide) (by decide) (by decide)) (hB 4 (8, 6) rfl) ac_int (by decide) (by decide) (by decide) (by omega) (by omega) (by omega) d_La_init_35 ?_
  refine n_putF C hI ff_La_21 rfl rfl (by show 5 < 9; decide) d_La_init_37 ?_
  show Nv g b 40 _ _ (b + 5) 4 1600 ((b, .inr (4, [.int 0, .int 0, .ref (b + 1), .ref (b + 2), .ref (b + 3), .ref (b + 4), .null, .int 0, .int 0])) :: _)
  refine n_aload C 0 d_La_init_40 rfl rfl ?_
  refine n_sipush C d_La_init_41 (v := 806) (by decide) ?_
  refine n_ai C (o := 8) (f := 6) (ci := 4) (N := 806) rfl rfl rfl (fun j => s00_z (by decide) (by decide) (by decide) (by decide)) (hB 5 (8, 7) rfl) ac_int (by decide) (by decide) (by decide) (by omega) (by omega) (by omega) d_La_init_44 ?_
  refine n_putF C hI ff_La_24 rfl rfl (by show 6 < 9; decide) d_La_init_46 ?_
  show Nv g b 49 _ _ (b + 6) 5 2406 ((b, .inr (4, [.int 0, .int 0, .ref (b + 1), .ref (b + 2), .ref (b + 3), .ref (b + 4), .ref (b + 5), .int 0, .int 0])) :: _)
  refine n_ret C F d_La_init_49 (by decide +kernel) (by decide) (by show b + 6 ≤ b + 6; omega) (fun H h => ?_)
  have e0 : nvC (gw g) s00 (8, 0) = (b, .inr (4, [.int 0, .int 0, .ref (b + 1), .ref (b + 2), .ref (b + 3), .ref (b + 4), .ref (b + 5), .int 0, .int 0])) := by
    show (((gw g).2.2 8 0, Sum.inr (4, ([.int 0, .int 0, .ref ((gw g).2.2 8 3), .ref ((gw g).2.2 8 4), .ref ((gw g).2.2 8 5), .ref ((gw g).2.2 8 6), .ref ((gw g).2.2 8 7), .int 0, .int 0] : List Value))) : Nat × va_E) = _
    rw [show (gw g).2.2 8 0 = b from hB 0 (8, 0) rfl, show (gw g).2.2 8 3 = b + 1 from hB 1 (8, 3) (by decide +kernel), show (gw g).2.2 8 4 = b + 2 from hB 2 (8, 4) (by decide +kernel), show (gw g).2.2 8 5 = b + 3 from hB 3 (8, 5) (by decide +kernel), show (gw g).2.2 8 6 = b + 4 from hB 4 (8, 6) (by decide +kernel), show (gw g).2.2 8 7 = b + 5 from hB 5 (8, 7) (by decide +kernel)]
  have e1 : kO_8.map (nvC (gw g) s00) = (b, .inr (4, [.int 0, .int 0, .ref (b + 1), .ref (b + 2), .ref (b + 3), .ref (b + 4), .ref (b + 5), .int 0, .int 0])) :: ([] ++ ((((([] ++ [(8, 3)]) ++ [(8, 4)]) ++ [(8, 5)]) ++ [(8, 6)]) ++ [(8, 7)]).map (nvC (gw g) s00)) := by
    rw [← e0]
    rfl
  rw [e1]
  exact h
def kO_4 : List (Nat × Nat) := (4, 0) :: (((([] ++ [(4, 1)]) ++ [(4, 2)]) ++ kO_5) ++ [(4, 9)])
set_option maxRecDepth 20000 in
theorem k_O_4 : CtN M_Pl_init 4 kO_4 2648 := by
  intro g b C F hB hsz hI
  have hmc : gmc g = 9 := F.mc
  have hms : gms g = 2648 := F.ms
  show Nv g b 0 [(0, .ref b)] [] (b + 1) 0 0 ((b, .inr (6, [.null, .null, .null, .int 0, .int 0, .int 0, .int 0, .int 0, .null])) :: ([] ++ ([] : List (Nat × Nat)).map (nvC (gw g) s00)))
  refine n_aload C 0 d_Pl_init_0 rfl rfl ?_
  refine n_oinit C lo_Pl oi_i oi_c d_Pl_init_1 (by decide) (by decide) ?_
  refine n_aload C 0 d_Pl_init_4 rfl rfl ?_
  refine n_bipush C d_Pl_init_5 (v := 8) (by decide) ?_
  refine n_ai C (o := 4) (f := 0) (ci := 6) (N := 8) rfl rfl rfl (fun j => by rw [s00_p (by decide), if_neg (by decide)]) (hB 1 (4, 1) rfl) ac_int (by decide) (by decide) (by decide) (by omega) (by omega) (by omega) d_Pl_init_7 ?_
  refine n_putF C hI ff_Pl_9 rfl rfl (by show 0 < 9; decide) d_Pl_init_9 ?_
  show Nv g b 12 _ _ (b + 2) 1 8 ((b, .inr (6, [.ref (b + 1), .null, .null, .int 0, .int 0, .int 0, .int 0, .int 0, .null])) :: _)
  refine n_aload C 0 d_Pl_init_12 rfl rfl ?_
  refine n_bipush C d_Pl_init_13 (v := 25) (by decide) ?_
  refine n_ai C (o := 4) (f := 1) (ci := 6) (N := 25) rfl rfl rfl (fun j => by rw [s00_p (by decide), if_neg (by decide)]) (hB 2 (4, 2) rfl) ac_int (by decide) (by decide) (by decide) (by omega) (by omega) (by omega) d_Pl_init_15 ?_
  refine n_putF C hI ff_Pl_15 rfl rfl (by show 1 < 9; decide) d_Pl_init_17 ?_
  show Nv g b 20 _ _ (b + 3) 2 33 ((b, .inr (6, [.ref (b + 1), .ref (b + 2), .null, .int 0, .int 0, .int 0, .int 0, .int 0, .null])) :: _)
  refine n_aload C 0 d_Pl_init_20 rfl rfl ?_
  refine n_mk C (o := 5) (ci := 4) (K := kO_5) (len := 6) (ms2 := 2406) oi_La_init k_O_5 rfl k_La t_La_ok nu_La iw_La cl_Pl_18 (Or.inr (by decide +kernel)) (hB.sub 3 (by decide +kernel)) (by decide) (Nat.le_of_ble_eq_true rfl) d_Pl_init_21 d_Pl_init_24 d_Pl_init_25 (by omega) (by omega) (by decide +kernel) (by decide) (by omega) (by omega) ?_
  refine n_putF C hI ff_Pl_21 rfl rfl (by show 2 < 9; decide) d_Pl_init_28 ?_
  show Nv g b 31 _ _ (b + 9) 8 2448 ((b, .inr (6, [.ref (b + 1), .ref (b + 2), .ref (b + 3), .int 0, .int 0, .int 0, .int 0, .int 0, .null])) :: _)
  refine n_aload C 0 d_Pl_init_31 rfl rfl ?_
  refine n_bipush C d_Pl_init_32 (v := 60) (by decide) ?_
  refine n_put C fp_Pl_25 rfl rfl (by show 6 < 9; decide) d_Pl_init_34 ?_
  show Nv g b 37 _ _ (b + 9) 8 2448 ((b, .inr (6, [.ref (b + 1), .ref (b + 2), .ref (b + 3), .int 0, .int 0, .int 0, .int (60), .int 0, .null])) :: _)
  refine n_aload C 0 d_Pl_init_37 rfl rfl ?_
  refine n_sipush C d_Pl_init_38 (v := 200) (by decide) ?_
  refine n_ai C (o := 4) (f := 8) (ci := 6) (N := 200) rfl rfl rfl (fun j => by rw [s00_p (by decide), if_neg (by decide)]) (hB 9 (4, 9) rfl) ac_int (by decide) (by decide) (by decide) (by omega) (by omega) (by omega) d_Pl_init_41 ?_
  refine n_putF C hI ff_Pl_29 rfl rfl (by show 8 < 9; decide) d_Pl_init_43 ?_
  show Nv g b 46 _ _ (b + 10) 9 2648 ((b, .inr (6, [.ref (b + 1), .ref (b + 2), .ref (b + 3), .int 0, .int 0, .int 0, .int (60), .int 0, .ref (b + 9)])) :: _)
  refine n_ret C F d_Pl_init_46 (by decide +kernel) (by decide) (by show b + 10 ≤ b + 10; omega) (fun H h => ?_)
  have e0 : nvC (gw g) s00 (4, 0) = (b, .inr (6, [.ref (b + 1), .ref (b + 2), .ref (b + 3), .int 0, .int 0, .int 0, .int (60), .int 0, .ref (b + 9)])) := by
    show (((gw g).2.2 4 0, Sum.inr (6, ([.ref ((gw g).2.2 4 1), .ref ((gw g).2.2 4 2), .ref ((gw g).2.2 5 0), .int 0, .int 0, .int 0, .int (60), .int 0, .ref ((gw g).2.2 4 9)] : List Value))) : Nat × va_E) = _
    rw [show (gw g).2.2 4 0 = b from hB 0 (4, 0) rfl, show (gw g).2.2 4 1 = b + 1 from hB 1 (4, 1) (by decide +kernel), show (gw g).2.2 4 2 = b + 2 from hB 2 (4, 2) (by decide +kernel), show (gw g).2.2 5 0 = b + 3 from hB 3 (5, 0) (by decide +kernel), show (gw g).2.2 4 9 = b + 9 from hB 9 (4, 9) (by decide +kernel)]
  have e1 : kO_4.map (nvC (gw g) s00) = (b, .inr (6, [.ref (b + 1), .ref (b + 2), .ref (b + 3), .int 0, .int 0, .int 0, .int (60), .int 0, .ref (b + 9)])) :: ([] ++ (((([] ++ [(4, 1)]) ++ [(4, 2)]) ++ kO_5) ++ [(4, 9)]).map (nvC (gw g) s00)) := by
    rw [← e0]
    rfl
  rw [e1]
  exact h
def kO_7 : List (Nat × Nat) := (7, 0) :: (((([] ++ [(7, 1)]) ++ [(7, 2)]) ++ kO_8) ++ [(7, 9)])
set_option maxRecDepth 20000 in
theorem k_O_7 : CtN M_Pl_init 7 kO_7 2648 := by
  intro g b C F hB hsz hI
  have hmc : gmc g = 9 := F.mc
  have hms : gms g = 2648 := F.ms
  show Nv g b 0 [(0, .ref b)] [] (b + 1) 0 0 ((b, .inr (6, [.null, .null, .null, .int 0, .int 0, .int 0, .int 0, .int 0, .null])) :: ([] ++ ([] : List (Nat × Nat)).map (nvC (gw g) s00)))
  refine n_aload C 0 d_Pl_init_0 rfl rfl ?_
  refine n_oinit C lo_Pl oi_i oi_c d_Pl_init_1 (by decide) (by decide) ?_
  refine n_aload C 0 d_Pl_init_4 rfl rfl ?_
  refine n_bipush C d_Pl_init_5 (v := 8) (by decide) ?_
  refine n_ai C (o := 7) (f := 0) (ci := 6) (N := 8) rfl rfl rfl (fun j => by rw [s00_p (by decide), if_neg (by decide)]) (hB 1 (7, 1) rfl) ac_int (by decide) (by decide) (by decide) (by omega) (by omega) (by omega) d_Pl_init_7 ?_
  refine n_putF C hI ff_Pl_9 rfl rfl (by show 0 < 9; decide) d_Pl_init_9 ?_
  show Nv g b 12 _ _ (b + 2) 1 8 ((b, .inr (6, [.ref (b + 1), .null, .null, .int 0, .int 0, .int 0, .int 0, .int 0, .null])) :: _)
  refine n_aload C 0 d_Pl_init_12 rfl rfl ?_
  refine n_bipush C d_Pl_init_13 (v := 25) (by decide) ?_
  refine n_ai C (o := 7) (f := 1) (ci := 6) (N := 25) rfl rfl rfl (fun j => by rw [s00_p (by decide), if_neg (by decide)]) (hB 2 (7, 2) rfl) ac_int (by decide) (by decide) (by decide) (by omega) (by omega) (by omega) d_Pl_init_15 ?_
  refine n_putF C hI ff_Pl_15 rfl rfl (by show 1 < 9; decide) d_Pl_init_17 ?_
  show Nv g b 20 _ _ (b + 3) 2 33 ((b, .inr (6, [.ref (b + 1), .ref (b + 2), .null, .int 0, .int 0, .int 0, .int 0, .int 0, .null])) :: _)
  refine n_aload C 0 d_Pl_init_20 rfl rfl ?_
  refine n_mk C (o := 8) (ci := 4) (K := kO_8) (len := 6) (ms2 := 2406) oi_La_init k_O_8 rfl k_La t_La_ok nu_La iw_La cl_Pl_18 (Or.inr (by decide +kernel)) (hB.sub 3 (by decide +kernel)) (by decide) (Nat.le_of_ble_eq_true rfl) d_Pl_init_21 d_Pl_init_24 d_Pl_init_25 (by omega) (by omega) (by decide +kernel) (by decide) (by omega) (by omega) ?_
  refine n_putF C hI ff_Pl_21 rfl rfl (by show 2 < 9; decide) d_Pl_init_28 ?_
  show Nv g b 31 _ _ (b + 9) 8 2448 ((b, .inr (6, [.ref (b + 1), .ref (b + 2), .ref (b + 3), .int 0, .int 0, .int 0, .int 0, .int 0, .null])) :: _)
  refine n_aload C 0 d_Pl_init_31 rfl rfl ?_
  refine n_bipush C d_Pl_init_32 (v := 60) (by decide) ?_
  refine n_put C fp_Pl_25 rfl rfl (by show 6 < 9; decide) d_Pl_init_34 ?_
  show Nv g b 37 _ _ (b + 9) 8 2448 ((b, .inr (6, [.ref (b + 1), .ref (b + 2), .ref (b + 3), .int 0, .int 0, .int 0, .int (60), .int 0, .null])) :: _)
  refine n_aload C 0 d_Pl_init_37 rfl rfl ?_
  refine n_sipush C d_Pl_init_38 (v := 200) (by decide) ?_
  refine n_ai C (o := 7) (f := 8) (ci := 6) (N := 200) rfl rfl rfl (fun j => by rw [s00_p (by decide), if_neg (by decide)]) (hB 9 (7, 9) rfl) ac_int (by decide) (by decide) (by decide) (by omega) (by omega) (by omega) d_Pl_init_41 ?_
  refine n_putF C hI ff_Pl_29 rfl rfl (by show 8 < 9; decide) d_Pl_init_43 ?_
  show Nv g b 46 _ _ (b + 10) 9 2648 ((b, .inr (6, [.ref (b + 1), .ref (b + 2), .ref (b + 3), .int 0, .int 0, .int 0, .int (60), .int 0, .ref (b + 9)])) :: _)
  refine n_ret C F d_Pl_init_46 (by decide +kernel) (by decide) (by show b + 10 ≤ b + 10; omega) (fun H h => ?_)
  have e0 : nvC (gw g) s00 (7, 0) = (b, .inr (6, [.ref (b + 1), .ref (b + 2), .ref (b + 3), .int 0, .int 0, .int 0, .int (60), .int 0, .ref (b + 9)])) := by
    show (((gw g).2.2 7 0, Sum.inr (6, ([.ref ((gw g).2.2 7 1), .ref ((gw g).2.2 7 2), .ref ((gw g).2.2 8 0), .int 0, .int 0, .int 0, .int (60), .int 0, .ref ((gw g).2.2 7 9)] : List Value))) : Nat × va_E) = _
    rw [show (gw g).2.2 7 0 = b from hB 0 (7, 0) rfl, show (gw g).2.2 7 1 = b + 1 from hB 1 (7, 1) (by decide +kernel), show (gw g).2.2 7 2 = b + 2 from hB 2 (7, 2) (by decide +kernel), show (gw g).2.2 8 0 = b + 3 from hB 3 (8, 0) (by decide +kernel), show (gw g).2.2 7 9 = b + 9 from hB 9 (7, 9) (by decide +kernel)]
  have e1 : kO_7.map (nvC (gw g) s00) = (b, .inr (6, [.ref (b + 1), .ref (b + 2), .ref (b + 3), .int 0, .int 0, .int 0, .int (60), .int 0, .ref (b + 9)])) :: ([] ++ (((([] ++ [(7, 1)]) ++ [(7, 2)]) ++ kO_8) ++ [(7, 9)]).map (nvC (gw g) s00)) := by
    rw [← e0]
    rfl
  rw [e1]
  exact h
def kO_6 : List (Nat × Nat) := (6, 0) :: (((([] ++ [(6, 1)]) ++ [(6, 2)]) ++ [(6, 3)]) ++ [(6, 4)])
set_option maxRecDepth 20000 in
theorem k_O_6 : CtN M_To_init 6 kO_6 1608 := by
  intro g b C F hB hsz hI
  have hmc : gmc g = 4 := F.mc
  have hms : gms g = 1608 := F.ms
  show Nv g b 0 [(0, .ref b)] [] (b + 1) 0 0 ((b, .inr (10, [.null, .null, .null, .null])) :: ([] ++ ([] : List (Nat × Nat)).map (nvC (gw g) s00)))
  refine n_aload C 0 d_To_init_0 rfl rfl ?_
  refine n_oinit C lo_To oi_i oi_c d_To_init_1 (by decide) (by decide) ?_
  refine n_aload C 0 d_To_init_4 rfl rfl ?_
  refine n_sipush C d_To_init_5 (v := 402) (by decide) ?_
  refine n_ai C (o := 6) (f := 0) (ci := 10) (N := 402) rfl rfl rfl (fun j => s00_z (by decide) (by decide) (by decide) (by decide)) (hB 1 (6, 1) rfl) ac_int (by decide) (by decide) (by decide) (by omega) (by omega) (by omega) d_To_init_8 ?_
  refine n_putF C hI ff_To_11 rfl rfl (by show 0 < 4; decide) d_To_init_10 ?_
  show Nv g b 13 _ _ (b + 2) 1 402 ((b, .inr (10, [.ref (b + 1), .null, .null, .null])) :: _)
  refine n_aload C 0 d_To_init_13 rfl rfl ?_
  refine n_sipush C d_To_init_14 (v := 402) (by decide) ?_
  refine n_ai C (o := 6) (f := 1) (ci := 10) (N := 402) rfl rfl rfl (fun j => s00_z (by decide) (by decide) (by decide) (by decide)) (hB 2 (6, 2) rfl) ac_int (by decide) (by decide) (by decide) (by omega) (by omega) (by omega) d_To_init_17 ?_
  refine n_putF C hI ff_To_15 rfl rfl (by show 1 < 4; decide) d_To_init_19 ?_
  show Nv g b 22 _ _ (b + 3) 2 804 ((b, .inr (10, [.ref (b + 1), .ref (b + 2), .null, .null])) :: _)
  refine n_aload C 0 d_To_init_22 rfl rfl ?_
  refine n_sipush C d_To_init_23 (v := 402) (by decide) ?_
  refine n_ai C (o := 6) (f := 2) (ci := 10) (N := 402) rfl rfl rfl (fun j => s00_z (by decide) (by decide) (by decide) (by decide)) (hB 3 (6, 3) rfl) ac_int (by decide) (by decide) (by decide) (by omega) (by omega) (by omega) d_To_init_26 ?_
  refine n_putF C hI ff_To_18 rfl rfl (by show 2 < 4; decide) d_To_init_28 ?_
  show Nv g b 31 _ _ (b + 4) 3 1206 ((b, .inr (10, [.ref (b + 1), .ref (b + 2), .ref (b + 3), .null])) :: _)
  refine n_aload C 0 d_To_init_31 rfl rfl ?_
  refine n_sipush C d_To_init_32 (v := 402) (by decide) ?_
  refine n_al C (o := 6) (f := 3) (ci := 10) (N := 402) rfl rfl rfl (fun j => s00_z (by decide) (by decide) (by decide) (by decide)) (hB 4 (6, 4) rfl) ac_long (by decide) (by decide) (by decide) (by omega) (by omega) (by omega) d_To_init_35 ?_
  refine n_putF C hI ff_To_21 rfl rfl (by show 3 < 4; decide) d_To_init_37 ?_
  show Nv g b 40 _ _ (b + 5) 4 1608 ((b, .inr (10, [.ref (b + 1), .ref (b + 2), .ref (b + 3), .ref (b + 4)])) :: _)
  refine n_ret C F d_To_init_40 (by decide +kernel) (by decide) (by show b + 5 ≤ b + 5; omega) (fun H h => ?_)
  have e0 : nvC (gw g) s00 (6, 0) = (b, .inr (10, [.ref (b + 1), .ref (b + 2), .ref (b + 3), .ref (b + 4)])) := by
    show (((gw g).2.2 6 0, Sum.inr (10, ([.ref ((gw g).2.2 6 1), .ref ((gw g).2.2 6 2), .ref ((gw g).2.2 6 3), .ref ((gw g).2.2 6 4)] : List Value))) : Nat × va_E) = _
    rw [show (gw g).2.2 6 0 = b from hB 0 (6, 0) rfl, show (gw g).2.2 6 1 = b + 1 from hB 1 (6, 1) (by decide +kernel), show (gw g).2.2 6 2 = b + 2 from hB 2 (6, 2) (by decide +kernel), show (gw g).2.2 6 3 = b + 3 from hB 3 (6, 3) (by decide +kernel), show (gw g).2.2 6 4 = b + 4 from hB 4 (6, 4) (by decide +kernel)]
  have e1 : kO_6.map (nvC (gw g) s00) = (b, .inr (10, [.ref (b + 1), .ref (b + 2), .ref (b + 3), .ref (b + 4)])) :: ([] ++ (((([] ++ [(6, 1)]) ++ [(6, 2)]) ++ [(6, 3)]) ++ [(6, 4)]).map (nvC (gw g) s00)) := by
    rw [← e0]
    rfl
  rw [e1]
  exact h
def kO_3 : List (Nat × Nat) := (3, 0) :: ((((((([] ++ kO_4) ++ (kCa 16)) ++ kO_6) ++ [(3, 5)]) ++ [(3, 6)]) ++ [(3, 7)]) ++ [(3, 9)])
set_option maxRecDepth 20000 in
theorem k_O_3 : CtN M_Re_init 3 kO_3 4470 := by
  intro g b C F hB hsz hI
  have hmc : gmc g = 32 := F.mc
  have hms : gms g = 4470 := F.ms
  show Nv g b 0 [(0, .ref b)] [] (b + 1) 0 0 ((b, .inr (7, [.null, .null, .int 0, .null, .null, .null, .null, .int 0, .null, .int 0, .int 0, .int 0, .int 0, .int 0, .long 0, .int 0, .int 0])) :: ([] ++ ([] : List (Nat × Nat)).map (nvC (gw g) s00)))
  refine n_aload C 0 d_Re_init_0 rfl rfl ?_
  refine n_oinit C lo_Re oi_i oi_c d_Re_init_1 (by decide) (by decide) ?_
  refine n_aload C 0 d_Re_init_4 rfl rfl ?_
  refine n_mk C (o := 4) (ci := 6) (K := kO_4) (len := 10) (ms2 := 2648) oi_Pl_init k_O_4 rfl k_Pl t_Pl_ok nu_Pl iw_Pl cl_Re_11 (Or.inr (by decide +kernel)) (hB.sub 1 (by decide +kernel)) (by decide) (Nat.le_of_ble_eq_true rfl) d_Re_init_5 d_Re_init_8 d_Re_init_9 (by omega) (by omega) (by decide +kernel) (by decide) (by omega) (by omega) ?_
  refine n_putF C hI ff_Re_14 rfl rfl (by show 0 < 17; decide) d_Re_init_12 ?_
  show Nv g b 15 _ _ (b + 11) 10 2657 ((b, .inr (7, [.ref (b + 1), .null, .int 0, .null, .null, .null, .null, .int 0, .null, .int 0, .int 0, .int 0, .int 0, .int 0, .long 0, .int 0, .int 0])) :: _)
  refine n_aload C 0 d_Re_init_15 rfl rfl ?_
  refine n_mk C (o := 16) (ci := 0) (K := (kCa 16)) (len := 13) (ms2 := 116) oi_Ca_init (k_Ca_init (o := 16) (by decide)) rfl k_Ca t_Ca_ok nu_Ca iw_Ca cl_Re_18 (Or.inl lk_Re_20) (hB.sub 11 (by decide +kernel)) (by decide) (Nat.le_of_ble_eq_true rfl) d_Re_init_16 d_Re_init_19 d_Re_init_20 (by omega) (by omega) (by decide +kernel) (by decide) (by omega) (by omega) ?_
  refine n_putF C hI ff_Re_21 rfl rfl (by show 1 < 17; decide) d_Re_init_23 ?_
  show Nv g b 26 _ _ (b + 24) 23 2788 ((b, .inr (7, [.ref (b + 1), .ref (b + 11), .int 0, .null, .null, .null, .null, .int 0, .null, .int 0, .int 0, .int 0, .int 0, .int 0, .long 0, .int 0, .int 0])) :: _)
  refine n_aload C 0 d_Re_init_26 rfl rfl ?_
  refine n_mk C (o := 6) (ci := 10) (K := kO_6) (len := 5) (ms2 := 1608) oi_To_init k_O_6 rfl k_To t_To_ok nu_To iw_To cl_Re_25 (Or.inr (by decide +kernel)) (hB.sub 24 (by decide +kernel)) (by decide) (Nat.le_of_ble_eq_true rfl) d_Re_init_27 d_Re_init_30 d_Re_init_31 (by omega) (by omega) (by decide +kernel) (by decide) (by omega) (by omega) ?_
  refine n_putF C hI ff_Re_28 rfl rfl (by show 3 < 17; decide) d_Re_init_34 ?_
  show Nv g b 37 _ _ (b + 29) 28 4400 ((b, .inr (7, [.ref (b + 1), .ref (b + 11), .int 0, .ref (b + 24), .null, .null, .null, .int 0, .null, .int 0, .int 0, .int 0, .int 0, .int 0, .long 0, .int 0, .int 0])) :: _)
  refine n_aload C 0 d_Re_init_37 rfl rfl ?_
  refine n_bipush C d_Re_init_38 (v := 20) (by decide) ?_
  refine n_al C (o := 3) (f := 4) (ci := 7) (N := 20) rfl rfl rfl (fun j => s00_z (by decide) (by decide) (by decide) (by decide)) (hB 29 (3, 5) rfl) ac_long (by decide) (by decide) (by decide) (by omega) (by omega) (by omega) d_Re_init_40 ?_
  refine n_putF C hI ff_Re_32 rfl rfl (by show 4 < 17; decide) d_Re_init_42 ?_
  show Nv g b 45 _ _ (b + 30) 29 4420 ((b, .inr (7, [.ref (b + 1), .ref (b + 11), .int 0, .ref (b + 24), .ref (b + 29), .null, .null, .int 0, .null, .int 0, .int 0, .int 0, .int 0, .int 0, .long 0, .int 0, .int 0])) :: _)
  refine n_aload C 0 d_Re_init_45 rfl rfl ?_
  refine n_bipush C d_Re_init_46 (v := 8) (by decide) ?_
  refine n_al C (o := 3) (f := 5) (ci := 7) (N := 8) rfl rfl rfl (fun j => s00_z (by decide) (by decide) (by decide) (by decide)) (hB 30 (3, 6) rfl) ac_long (by decide) (by decide) (by decide) (by omega) (by omega) (by omega) d_Re_init_48 ?_
  refine n_putF C hI ff_Re_36 rfl rfl (by show 5 < 17; decide) d_Re_init_50 ?_
  show Nv g b 53 _ _ (b + 31) 30 4428 ((b, .inr (7, [.ref (b + 1), .ref (b + 11), .int 0, .ref (b + 24), .ref (b + 29), .ref (b + 30), .null, .int 0, .null, .int 0, .int 0, .int 0, .int 0, .int 0, .long 0, .int 0, .int 0])) :: _)
  refine n_aload C 0 d_Re_init_53 rfl rfl ?_
  refine n_bipush C d_Re_init_54 (v := 21) (by decide) ?_
  refine n_ai C (o := 3) (f := 6) (ci := 7) (N := 21) rfl rfl rfl (fun j => s00_z (by decide) (by decide) (by decide) (by decide)) (hB 31 (3, 7) rfl) ac_int (by decide) (by decide) (by decide) (by omega) (by omega) (by omega) d_Re_init_56 ?_
  refine n_putF C hI ff_Re_39 rfl rfl (by show 6 < 17; decide) d_Re_init_58 ?_
  show Nv g b 61 _ _ (b + 32) 31 4449 ((b, .inr (7, [.ref (b + 1), .ref (b + 11), .int 0, .ref (b + 24), .ref (b + 29), .ref (b + 30), .ref (b + 31), .int 0, .null, .int 0, .int 0, .int 0, .int 0, .int 0, .long 0, .int 0, .int 0])) :: _)
  refine n_aload C 0 d_Re_init_61 rfl rfl ?_
  refine n_bipush C d_Re_init_62 (v := 21) (by decide) ?_
  refine n_ai C (o := 3) (f := 8) (ci := 7) (N := 21) rfl rfl rfl (fun j => s00_z (by decide) (by decide) (by decide) (by decide)) (hB 32 (3, 9) rfl) ac_int (by decide) (by decide) (by decide) (by omega) (by omega) (by omega) d_Re_init_64 ?_
  refine n_putF C hI ff_Re_43 rfl rfl (by show 8 < 17; decide) d_Re_init_66 ?_
  show Nv g b 69 _ _ (b + 33) 32 4470 ((b, .inr (7, [.ref (b + 1), .ref (b + 11), .int 0, .ref (b + 24), .ref (b + 29), .ref (b + 30), .ref (b + 31), .int 0, .ref (b + 32), .int 0, .int 0, .int 0, .int 0, .int 0, .long 0, .int 0, .int 0])) :: _)
  refine n_ret C F d_Re_init_69 (by decide +kernel) (by decide) (by show b + 33 ≤ b + 33; omega) (fun H h => ?_)
  have e0 : nvC (gw g) s00 (3, 0) = (b, .inr (7, [.ref (b + 1), .ref (b + 11), .int 0, .ref (b + 24), .ref (b + 29), .ref (b + 30), .ref (b + 31), .int 0, .ref (b + 32), .int 0, .int 0, .int 0, .int 0, .int 0, .long 0, .int 0, .int 0])) := by
    show (((gw g).2.2 3 0, Sum.inr (7, ([.ref ((gw g).2.2 4 0), .ref ((gw g).2.2 16 0), .int 0, .ref ((gw g).2.2 6 0), .ref ((gw g).2.2 3 5), .ref ((gw g).2.2 3 6), .ref ((gw g).2.2 3 7), .int 0, .ref ((gw g).2.2 3 9), .int 0, .int 0, .int 0, .int 0, .int 0, .long 0, .int 0, .int 0] : List Value))) : Nat × va_E) = _
    rw [show (gw g).2.2 3 0 = b from hB 0 (3, 0) rfl, show (gw g).2.2 4 0 = b + 1 from hB 1 (4, 0) (by decide +kernel), show (gw g).2.2 16 0 = b + 11 from hB 11 (16, 0) (by decide +kernel), show (gw g).2.2 6 0 = b + 24 from hB 24 (6, 0) (by decide +kernel), show (gw g).2.2 3 5 = b + 29 from hB 29 (3, 5) (by decide +kernel), show (gw g).2.2 3 6 = b + 30 from hB 30 (3, 6) (by decide +kernel), show (gw g).2.2 3 7 = b + 31 from hB 31 (3, 7) (by decide +kernel), show (gw g).2.2 3 9 = b + 32 from hB 32 (3, 9) (by decide +kernel)]
  have e1 : kO_3.map (nvC (gw g) s00) = (b, .inr (7, [.ref (b + 1), .ref (b + 11), .int 0, .ref (b + 24), .ref (b + 29), .ref (b + 30), .ref (b + 31), .int 0, .ref (b + 32), .int 0, .int 0, .int 0, .int 0, .int 0, .long 0, .int 0, .int 0])) :: ([] ++ ((((((([] ++ kO_4) ++ (kCa 16)) ++ kO_6) ++ [(3, 5)]) ++ [(3, 6)]) ++ [(3, 7)]) ++ [(3, 9)]).map (nvC (gw g) s00)) := by
    rw [← e0]
    rfl
  rw [e1]
  exact h
def kO_10 : List (Nat × Nat) := (10, 0) :: ([] ++ (kCa 19))
set_option maxRecDepth 20000 in
theorem k_O_10 : CtN M_Ou_init 10 kO_10 131 := by
  intro g b C F hB hsz hI
  have hmc : gmc g = 13 := F.mc
  have hms : gms g = 131 := F.ms
  show Nv g b 0 [(0, .ref b)] [] (b + 1) 0 0 ((b, .inr (5, [.null, .int 0, .int 0])) :: ([] ++ ([] : List (Nat × Nat)).map (nvC (gw g) s00)))
  refine n_aload C 0 d_Ou_init_0 rfl rfl ?_
  refine n_oinit C lo_Ou oi_i oi_c d_Ou_init_1 (by decide) (by decide) ?_
  refine n_aload C 0 d_Ou_init_4 rfl rfl ?_
  refine n_mk C (o := 19) (ci := 0) (K := (kCa 19)) (len := 13) (ms2 := 116) oi_Ca_init (k_Ca_init (o := 19) (by decide)) rfl k_Ca t_Ca_ok nu_Ca iw_Ca cl_Ou_9 (Or.inl lk_Ou_11) (hB.sub 1 (by decide +kernel)) (by decide) (Nat.le_of_ble_eq_true rfl) d_Ou_init_5 d_Ou_init_8 d_Ou_init_9 (by omega) (by omega) (by decide +kernel) (by decide) (by omega) (by omega) ?_
  refine n_putF C hI ff_Ou_12 rfl rfl (by show 0 < 3; decide) d_Ou_init_12 ?_
  show Nv g b 15 _ _ (b + 14) 13 131 ((b, .inr (5, [.ref (b + 1), .int 0, .int 0])) :: _)
  refine n_ret C F d_Ou_init_15 (by decide +kernel) (by decide) (by show b + 14 ≤ b + 14; omega) (fun H h => ?_)
  have e0 : nvC (gw g) s00 (10, 0) = (b, .inr (5, [.ref (b + 1), .int 0, .int 0])) := by
    show (((gw g).2.2 10 0, Sum.inr (5, ([.ref ((gw g).2.2 19 0), .int 0, .int 0] : List Value))) : Nat × va_E) = _
    rw [show (gw g).2.2 10 0 = b from hB 0 (10, 0) rfl, show (gw g).2.2 19 0 = b + 1 from hB 1 (19, 0) (by decide +kernel)]
  have e1 : kO_10.map (nvC (gw g) s00) = (b, .inr (5, [.ref (b + 1), .int 0, .int 0])) :: ([] ++ ([] ++ (kCa 19)).map (nvC (gw g) s00)) := by
    rw [← e0]
    rfl
  rw [e1]
  exact h
def kO_11 : List (Nat × Nat) := (11, 0) :: ([] ++ (kCa 20))
set_option maxRecDepth 20000 in
theorem k_O_11 : CtN M_Dr_init 11 kO_11 131 := by
  intro g b C F hB hsz hI
  have hmc : gmc g = 13 := F.mc
  have hms : gms g = 131 := F.ms
  show Nv g b 0 [(0, .ref b)] [] (b + 1) 0 0 ((b, .inr (1, [.int 0, .int 0, .int 0, .int 0, .null, .int 0, .int 0, .int 0, .int 0])) :: ([] ++ ([] : List (Nat × Nat)).map (nvC (gw g) s00)))
  refine n_aload C 0 d_Dr_init_0 rfl rfl ?_
  refine n_oinit C lo_Dr oi_i oi_c d_Dr_init_1 (by decide) (by decide) ?_
  refine n_aload C 0 d_Dr_init_4 rfl rfl ?_
  refine n_mk C (o := 20) (ci := 0) (K := (kCa 20)) (len := 13) (ms2 := 116) oi_Ca_init (k_Ca_init (o := 20) (by decide)) rfl k_Ca t_Ca_ok nu_Ca iw_Ca cl_Dr_9 (Or.inl lk_Dr_11) (hB.sub 1 (by decide +kernel)) (by decide) (Nat.le_of_ble_eq_true rfl) d_Dr_init_5 d_Dr_init_8 d_Dr_init_9 (by omega) (by omega) (by decide +kernel) (by decide) (by omega) (by omega) ?_
  refine n_putF C hI ff_Dr_12 rfl rfl (by show 4 < 9; decide) d_Dr_init_12 ?_
  show Nv g b 15 _ _ (b + 14) 13 131 ((b, .inr (1, [.int 0, .int 0, .int 0, .int 0, .ref (b + 1), .int 0, .int 0, .int 0, .int 0])) :: _)
  refine n_ret C F d_Dr_init_15 (by decide +kernel) (by decide) (by show b + 14 ≤ b + 14; omega) (fun H h => ?_)
  have e0 : nvC (gw g) s00 (11, 0) = (b, .inr (1, [.int 0, .int 0, .int 0, .int 0, .ref (b + 1), .int 0, .int 0, .int 0, .int 0])) := by
    show (((gw g).2.2 11 0, Sum.inr (1, ([.int 0, .int 0, .int 0, .int 0, .ref ((gw g).2.2 20 0), .int 0, .int 0, .int 0, .int 0] : List Value))) : Nat × va_E) = _
    rw [show (gw g).2.2 11 0 = b from hB 0 (11, 0) rfl, show (gw g).2.2 20 0 = b + 1 from hB 1 (20, 0) (by decide +kernel)]
  have e1 : kO_11.map (nvC (gw g) s00) = (b, .inr (1, [.int 0, .int 0, .int 0, .int 0, .ref (b + 1), .int 0, .int 0, .int 0, .int 0])) :: ([] ++ ([] ++ (kCa 20)).map (nvC (gw g) s00)) := by
    rw [← e0]
    rfl
  rw [e1]
  exact h
def kO_12 : List (Nat × Nat) := (12, 0) :: ((([] ++ [(12, 1)]) ++ (kCa 21)) ++ [(12, 5)])
set_option maxRecDepth 20000 in
theorem k_O_12 : CtN M_Ga_init 12 kO_12 2435 := by
  intro g b C F hB hsz hI
  have hmc : gmc g = 15 := F.mc
  have hms : gms g = 2435 := F.ms
  show Nv g b 0 [(0, .ref b)] [] (b + 1) 0 0 ((b, .inr (2, [.null, .int 0, .int 0, .null, .null, .int 0, .int 0])) :: ([] ++ ([] : List (Nat × Nat)).map (nvC (gw g) s00)))
  refine n_aload C 0 d_Ga_init_0 rfl rfl ?_
  refine n_oinit C lo_Ga oi_i oi_c d_Ga_init_1 (by decide) (by decide) ?_
  refine n_aload C 0 d_Ga_init_4 rfl rfl ?_
  refine n_sipush C d_Ga_init_5 (v := 256) (by decide) ?_
  refine n_ai C (o := 12) (f := 0) (ci := 2) (N := 256) rfl rfl rfl (fun j => s00_z (by decide) (by decide) (by decide) (by decide)) (hB 1 (12, 1) rfl) ac_int (by decide) (by decide) (by decide) (by omega) (by omega) (by omega) d_Ga_init_8 ?_
  refine n_putF C hI ff_Ga_11 rfl rfl (by show 0 < 7; decide) d_Ga_init_10 ?_
  show Nv g b 13 _ _ (b + 2) 1 256 ((b, .inr (2, [.ref (b + 1), .int 0, .int 0, .null, .null, .int 0, .int 0])) :: _)
  refine n_aload C 0 d_Ga_init_13 rfl rfl ?_
  refine n_mk C (o := 21) (ci := 0) (K := (kCa 21)) (len := 13) (ms2 := 116) oi_Ca_init (k_Ca_init (o := 21) (by decide)) rfl k_Ca t_Ca_ok nu_Ca iw_Ca cl_Ga_15 (Or.inl lk_Ga_17) (hB.sub 2 (by decide +kernel)) (by decide) (Nat.le_of_ble_eq_true rfl) d_Ga_init_14 d_Ga_init_17 d_Ga_init_18 (by omega) (by omega) (by decide +kernel) (by decide) (by omega) (by omega) ?_
  refine n_putF C hI ff_Ga_18 rfl rfl (by show 3 < 7; decide) d_Ga_init_21 ?_
  show Nv g b 24 _ _ (b + 15) 14 387 ((b, .inr (2, [.ref (b + 1), .int 0, .int 0, .ref (b + 2), .null, .int 0, .int 0])) :: _)
  refine n_aload C 0 d_Ga_init_24 rfl rfl ?_
  refine n_sipush C d_Ga_init_25 (v := 2048) (by decide) ?_
  refine n_ai C (o := 12) (f := 4) (ci := 2) (N := 2048) rfl rfl rfl (fun j => s00_z (by decide) (by decide) (by decide) (by decide)) (hB 15 (12, 5) rfl) ac_int (by decide) (by decide) (by decide) (by omega) (by omega) (by omega) d_Ga_init_28 ?_
  refine n_putF C hI ff_Ga_22 rfl rfl (by show 4 < 7; decide) d_Ga_init_30 ?_
  show Nv g b 33 _ _ (b + 16) 15 2435 ((b, .inr (2, [.ref (b + 1), .int 0, .int 0, .ref (b + 2), .ref (b + 15), .int 0, .int 0])) :: _)
  refine n_ret C F d_Ga_init_33 (by decide +kernel) (by decide) (by show b + 16 ≤ b + 16; omega) (fun H h => ?_)
  have e0 : nvC (gw g) s00 (12, 0) = (b, .inr (2, [.ref (b + 1), .int 0, .int 0, .ref (b + 2), .ref (b + 15), .int 0, .int 0])) := by
    show (((gw g).2.2 12 0, Sum.inr (2, ([.ref ((gw g).2.2 12 1), .int 0, .int 0, .ref ((gw g).2.2 21 0), .ref ((gw g).2.2 12 5), .int 0, .int 0] : List Value))) : Nat × va_E) = _
    rw [show (gw g).2.2 12 0 = b from hB 0 (12, 0) rfl, show (gw g).2.2 12 1 = b + 1 from hB 1 (12, 1) (by decide +kernel), show (gw g).2.2 21 0 = b + 2 from hB 2 (21, 0) (by decide +kernel), show (gw g).2.2 12 5 = b + 15 from hB 15 (12, 5) (by decide +kernel)]
  have e1 : kO_12.map (nvC (gw g) s00) = (b, .inr (2, [.ref (b + 1), .int 0, .int 0, .ref (b + 2), .ref (b + 15), .int 0, .int 0])) :: ([] ++ ((([] ++ [(12, 1)]) ++ (kCa 21)) ++ [(12, 5)]).map (nvC (gw g) s00)) := by
    rw [← e0]
    rfl
  rw [e1]
  exact h
def kO_13 : List (Nat × Nat) := (13, 0) :: ((((([] ++ [(13, 1)]) ++ (kCa 22)) ++ [(13, 5)]) ++ [(13, 6)]) ++ [(13, 7)])
set_option maxRecDepth 20000 in
theorem k_O_13 : CtN M_Ru_init 13 kO_13 3773 := by
  intro g b C F hB hsz hI
  have hmc : gmc g = 17 := F.mc
  have hms : gms g = 3773 := F.ms
  show Nv g b 0 [(0, .ref b)] [] (b + 1) 0 0 ((b, .inr (8, [.null, .int 0, .int 0, .null, .null, .null, .null, .int 0, .int 0, .int 0])) :: ([] ++ ([] : List (Nat × Nat)).map (nvC (gw g) s00)))
  refine n_aload C 0 d_Ru_init_0 rfl rfl ?_
  refine n_oinit C lo_Ru oi_i oi_c d_Ru_init_1 (by decide) (by decide) ?_
  refine n_aload C 0 d_Ru_init_4 rfl rfl ?_
  refine n_sipush C d_Ru_init_5 (v := 1601) (by decide) ?_
  refine n_ai C (o := 13) (f := 0) (ci := 8) (N := 1601) rfl rfl rfl (fun j => s00_z (by decide) (by decide) (by decide) (by decide)) (hB 1 (13, 1) rfl) ac_int (by decide) (by decide) (by decide) (by omega) (by omega) (by omega) d_Ru_init_8 ?_
  refine n_putF C hI ff_Ru_11 rfl rfl (by show 0 < 10; decide) d_Ru_init_10 ?_
  show Nv g b 13 _ _ (b + 2) 1 1601 ((b, .inr (8, [.ref (b + 1), .int 0, .int 0, .null, .null, .null, .null, .int 0, .int 0, .int 0])) :: _)
  refine n_aload C 0 d_Ru_init_13 rfl rfl ?_
  refine n_mk C (o := 22) (ci := 0) (K := (kCa 22)) (len := 13) (ms2 := 116) oi_Ca_init (k_Ca_init (o := 22) (by decide)) rfl k_Ca t_Ca_ok nu_Ca iw_Ca cl_Ru_15 (Or.inl lk_Ru_17) (hB.sub 2 (by decide +kernel)) (by decide) (Nat.le_of_ble_eq_true rfl) d_Ru_init_14 d_Ru_init_17 d_Ru_init_18 (by omega) (by omega) (by decide +kernel) (by decide) (by omega) (by omega) ?_
  refine n_putF C hI ff_Ru_18 rfl rfl (by show 3 < 10; decide) d_Ru_init_21 ?_
  show Nv g b 24 _ _ (b + 15) 14 1732 ((b, .inr (8, [.ref (b + 1), .int 0, .int 0, .ref (b + 2), .null, .null, .null, .int 0, .int 0, .int 0])) :: _)
  refine n_aload C 0 d_Ru_init_24 rfl rfl ?_
  refine n_bipush C d_Ru_init_25 (v := 20) (by decide) ?_
  refine n_ai C (o := 13) (f := 4) (ci := 8) (N := 20) rfl rfl rfl (fun j => s00_z (by decide) (by decide) (by decide) (by decide)) (hB 15 (13, 5) rfl) ac_int (by decide) (by decide) (by decide) (by omega) (by omega) (by omega) d_Ru_init_27 ?_
  refine n_putF C hI ff_Ru_22 rfl rfl (by show 4 < 10; decide) d_Ru_init_29 ?_
  show Nv g b 32 _ _ (b + 16) 15 1752 ((b, .inr (8, [.ref (b + 1), .int 0, .int 0, .ref (b + 2), .ref (b + 15), .null, .null, .int 0, .int 0, .int 0])) :: _)
  refine n_aload C 0 d_Ru_init_32 rfl rfl ?_
  refine n_bipush C d_Ru_init_33 (v := 20) (by decide) ?_
  refine n_ai C (o := 13) (f := 5) (ci := 8) (N := 20) rfl rfl rfl (fun j => s00_z (by decide) (by decide) (by decide) (by decide)) (hB 16 (13, 6) rfl) ac_int (by decide) (by decide) (by decide) (by omega) (by omega) (by omega) d_Ru_init_35 ?_
  refine n_putF C hI ff_Ru_25 rfl rfl (by show 5 < 10; decide) d_Ru_init_37 ?_
  show Nv g b 40 _ _ (b + 17) 16 1772 ((b, .inr (8, [.ref (b + 1), .int 0, .int 0, .ref (b + 2), .ref (b + 15), .ref (b + 16), .null, .int 0, .int 0, .int 0])) :: _)
  refine n_aload C 0 d_Ru_init_40 rfl rfl ?_
  refine n_sipush C d_Ru_init_41 (v := 2001) (by decide) ?_
  refine n_ai C (o := 13) (f := 6) (ci := 8) (N := 2001) rfl rfl rfl (fun j => s00_z (by decide) (by decide) (by decide) (by decide)) (hB 17 (13, 7) rfl) ac_int (by decide) (by decide) (by decide) (by omega) (by omega) (by omega) d_Ru_init_44 ?_
  refine n_putF C hI ff_Ru_28 rfl rfl (by show 6 < 10; decide) d_Ru_init_46 ?_
  show Nv g b 49 _ _ (b + 18) 17 3773 ((b, .inr (8, [.ref (b + 1), .int 0, .int 0, .ref (b + 2), .ref (b + 15), .ref (b + 16), .ref (b + 17), .int 0, .int 0, .int 0])) :: _)
  refine n_ret C F d_Ru_init_49 (by decide +kernel) (by decide) (by show b + 18 ≤ b + 18; omega) (fun H h => ?_)
  have e0 : nvC (gw g) s00 (13, 0) = (b, .inr (8, [.ref (b + 1), .int 0, .int 0, .ref (b + 2), .ref (b + 15), .ref (b + 16), .ref (b + 17), .int 0, .int 0, .int 0])) := by
    show (((gw g).2.2 13 0, Sum.inr (8, ([.ref ((gw g).2.2 13 1), .int 0, .int 0, .ref ((gw g).2.2 22 0), .ref ((gw g).2.2 13 5), .ref ((gw g).2.2 13 6), .ref ((gw g).2.2 13 7), .int 0, .int 0, .int 0] : List Value))) : Nat × va_E) = _
    rw [show (gw g).2.2 13 0 = b from hB 0 (13, 0) rfl, show (gw g).2.2 13 1 = b + 1 from hB 1 (13, 1) (by decide +kernel), show (gw g).2.2 22 0 = b + 2 from hB 2 (22, 0) (by decide +kernel), show (gw g).2.2 13 5 = b + 15 from hB 15 (13, 5) (by decide +kernel), show (gw g).2.2 13 6 = b + 16 from hB 16 (13, 6) (by decide +kernel), show (gw g).2.2 13 7 = b + 17 from hB 17 (13, 7) (by decide +kernel)]
  have e1 : kO_13.map (nvC (gw g) s00) = (b, .inr (8, [.ref (b + 1), .int 0, .int 0, .ref (b + 2), .ref (b + 15), .ref (b + 16), .ref (b + 17), .int 0, .int 0, .int 0])) :: ([] ++ ((((([] ++ [(13, 1)]) ++ (kCa 22)) ++ [(13, 5)]) ++ [(13, 6)]) ++ [(13, 7)]).map (nvC (gw g) s00)) := by
    rw [← e0]
    rfl
  rw [e1]
  exact h
