/-! what the tables say of the constructors (written by wip/gen/gen9x.py) -/
theorem ac_int : Cond.arrayClass .int ∈ lw_gd := gd (i := 188) (by decide +kernel) (by decide +kernel)
theorem ac_boolean : Cond.arrayClass .boolean ∈ lw_gd := gd (i := 326) (by decide +kernel) (by decide +kernel)
theorem ac_byte : Cond.arrayClass .byte ∈ lw_gd := gd (i := 137) (by decide +kernel) (by decide +kernel)
theorem ac_long : Cond.arrayClass .long ∈ lw_gd := gd (i := 350) (by decide +kernel) (by decide +kernel)
theorem oi_i : Cond.instanceMethod Lib.objectInit ∈ lw_gd := gd (i := 119) (by decide +kernel) (by decide +kernel)
theorem oi_c : Cond.code Lib.objectInit ⟨#[0xb1]⟩ 1 none ∈ lw_gd := gd (i := 120) rfl (by decide +kernel)
theorem cl_Lw_7 : Cond.classLink "SandGuardsLaw" 7 "SandGuards" ∈ lw_gd := gd (i := 113) (by decide +kernel) (by decide +kernel)
theorem iw_Sg : Cond.instantiable "SandGuards" 13 ∈ lw_gd ∧ Cond.initialized "SandGuards" ∈ lw_gd := ⟨gd (i := 114) (by decide +kernel) (by decide +kernel), gd (i := 98) (by decide +kernel) (by decide +kernel)⟩
theorem lo_Sg : Cond.methodLink "SandGuards" 1 Lib.objectInit ∈ lw_gd := gd (i := 118) (by decide +kernel) (by decide +kernel)
theorem cl_Sg_7 : Cond.classLink "SandGuards" 7 "SandGuards$Tape" ∈ lw_gd := gd (i := 121) (by decide +kernel) (by decide +kernel)
theorem iw_Ta : Cond.instantiable "SandGuards$Tape" 2 ∈ lw_gd ∧ Cond.initialized "SandGuards$Tape" ∈ lw_gd := ⟨gd (i := 122) (by decide +kernel) (by decide +kernel), gd (i := 99) (by decide +kernel) (by decide +kernel)⟩
theorem lo_Ta : Cond.methodLink "SandGuards$Tape" 1 Lib.objectInit ∈ lw_gd := gd (i := 126) (by decide +kernel) (by decide +kernel)
theorem cl_Sg_16 : Cond.classLink "SandGuards" 16 "SandGuards$Reader" ∈ lw_gd := gd (i := 138) (by decide +kernel) (by decide +kernel)
theorem iw_Re : Cond.instantiable "SandGuards$Reader" 17 ∈ lw_gd ∧ Cond.initialized "SandGuards$Reader" ∈ lw_gd := ⟨gd (i := 139) (by decide +kernel) (by decide +kernel), gd (i := 100) (by decide +kernel) (by decide +kernel)⟩
theorem lo_Re : Cond.methodLink "SandGuards$Reader" 5 Lib.objectInit ∈ lw_gd := gd (i := 143) (by decide +kernel) (by decide +kernel)
theorem cl_Re_11 : Cond.classLink "SandGuards$Reader" 11 "SandGuards$Plan" ∈ lw_gd := gd (i := 144) (by decide +kernel) (by decide +kernel)
theorem iw_Pl : Cond.instantiable "SandGuards$Plan" 9 ∈ lw_gd ∧ Cond.initialized "SandGuards$Plan" ∈ lw_gd := ⟨gd (i := 145) (by decide +kernel) (by decide +kernel), gd (i := 101) (by decide +kernel) (by decide +kernel)⟩
theorem lo_Pl : Cond.methodLink "SandGuards$Plan" 3 Lib.objectInit ∈ lw_gd := gd (i := 149) (by decide +kernel) (by decide +kernel)
theorem cl_Pl_18 : Cond.classLink "SandGuards$Plan" 18 "SandGuards$Law" ∈ lw_gd := gd (i := 150) (by decide +kernel) (by decide +kernel)
theorem iw_La : Cond.instantiable "SandGuards$Law" 9 ∈ lw_gd ∧ Cond.initialized "SandGuards$Law" ∈ lw_gd := ⟨gd (i := 151) (by decide +kernel) (by decide +kernel), gd (i := 102) (by decide +kernel) (by decide +kernel)⟩
theorem lo_La : Cond.methodLink "SandGuards$Law" 5 Lib.objectInit ∈ lw_gd := gd (i := 155) (by decide +kernel) (by decide +kernel)
theorem cl_Re_18 : Cond.classLink "SandGuards$Reader" 18 "SandGuards$Castle" ∈ lw_gd := gd (i := 240) (by decide +kernel) (by decide +kernel)
theorem iw_Ca : Cond.instantiable "SandGuards$Castle" 15 ∈ lw_gd ∧ Cond.initialized "SandGuards$Castle" ∈ lw_gd := ⟨gd (i := 241) (by decide +kernel) (by decide +kernel), gd (i := 103) (by decide +kernel) (by decide +kernel)⟩
theorem lo_Ca : Cond.methodLink "SandGuards$Castle" 3 Lib.objectInit ∈ lw_gd := gd (i := 245) (by decide +kernel) (by decide +kernel)
theorem cl_Re_25 : Cond.classLink "SandGuards$Reader" 25 "SandGuards$Tokens" ∈ lw_gd := gd (i := 327) (by decide +kernel) (by decide +kernel)
theorem iw_To : Cond.instantiable "SandGuards$Tokens" 4 ∈ lw_gd ∧ Cond.initialized "SandGuards$Tokens" ∈ lw_gd := ⟨gd (i := 328) (by decide +kernel) (by decide +kernel), gd (i := 104) (by decide +kernel) (by decide +kernel)⟩
theorem lo_To : Cond.methodLink "SandGuards$Tokens" 3 Lib.objectInit ∈ lw_gd := gd (i := 332) (by decide +kernel) (by decide +kernel)
theorem cl_Sg_23 : Cond.classLink "SandGuards" 23 "SandGuards$Plan" ∈ lw_gd := gd (i := 406) (by decide +kernel) (by decide +kernel)
theorem cl_Sg_30 : Cond.classLink "SandGuards" 30 "SandGuards$Castle" ∈ lw_gd := gd (i := 408) (by decide +kernel) (by decide +kernel)
theorem cl_Sg_40 : Cond.classLink "SandGuards" 40 "SandGuards$History" ∈ lw_gd := gd (i := 410) (by decide +kernel) (by decide +kernel)
theorem iw_Hi : Cond.instantiable "SandGuards$History" 3 ∈ lw_gd ∧ Cond.initialized "SandGuards$History" ∈ lw_gd := ⟨gd (i := 411) (by decide +kernel) (by decide +kernel), gd (i := 105) (by decide +kernel) (by decide +kernel)⟩
theorem lo_Hi : Cond.methodLink "SandGuards$History" 1 Lib.objectInit ∈ lw_gd := gd (i := 415) (by decide +kernel) (by decide +kernel)
theorem cl_Hi_9 : Cond.classLink "SandGuards$History" 9 "SandGuards$Castle" ∈ lw_gd := gd (i := 416) (by decide +kernel) (by decide +kernel)
theorem cl_Sg_55 : Cond.classLink "SandGuards" 55 "SandGuards$Outlook" ∈ lw_gd := gd (i := 430) (by decide +kernel) (by decide +kernel)
theorem iw_Ou : Cond.instantiable "SandGuards$Outlook" 3 ∈ lw_gd ∧ Cond.initialized "SandGuards$Outlook" ∈ lw_gd := ⟨gd (i := 431) (by decide +kernel) (by decide +kernel), gd (i := 106) (by decide +kernel) (by decide +kernel)⟩
theorem lo_Ou : Cond.methodLink "SandGuards$Outlook" 3 Lib.objectInit ∈ lw_gd := gd (i := 435) (by decide +kernel) (by decide +kernel)
theorem cl_Ou_9 : Cond.classLink "SandGuards$Outlook" 9 "SandGuards$Castle" ∈ lw_gd := gd (i := 436) (by decide +kernel) (by decide +kernel)
theorem cl_Sg_62 : Cond.classLink "SandGuards" 62 "SandGuards$Dryings" ∈ lw_gd := gd (i := 451) (by decide +kernel) (by decide +kernel)
theorem iw_Dr : Cond.instantiable "SandGuards$Dryings" 9 ∈ lw_gd ∧ Cond.initialized "SandGuards$Dryings" ∈ lw_gd := ⟨gd (i := 452) (by decide +kernel) (by decide +kernel), gd (i := 107) (by decide +kernel) (by decide +kernel)⟩
theorem lo_Dr : Cond.methodLink "SandGuards$Dryings" 3 Lib.objectInit ∈ lw_gd := gd (i := 456) (by decide +kernel) (by decide +kernel)
theorem cl_Dr_9 : Cond.classLink "SandGuards$Dryings" 9 "SandGuards$Castle" ∈ lw_gd := gd (i := 457) (by decide +kernel) (by decide +kernel)
theorem cl_Sg_69 : Cond.classLink "SandGuards" 69 "SandGuards$Game" ∈ lw_gd := gd (i := 491) (by decide +kernel) (by decide +kernel)
theorem iw_Ga : Cond.instantiable "SandGuards$Game" 7 ∈ lw_gd ∧ Cond.initialized "SandGuards$Game" ∈ lw_gd := ⟨gd (i := 492) (by decide +kernel) (by decide +kernel), gd (i := 108) (by decide +kernel) (by decide +kernel)⟩
theorem lo_Ga : Cond.methodLink "SandGuards$Game" 3 Lib.objectInit ∈ lw_gd := gd (i := 496) (by decide +kernel) (by decide +kernel)
theorem cl_Ga_15 : Cond.classLink "SandGuards$Game" 15 "SandGuards$Castle" ∈ lw_gd := gd (i := 497) (by decide +kernel) (by decide +kernel)
theorem cl_Sg_76 : Cond.classLink "SandGuards" 76 "SandGuards$Rumours" ∈ lw_gd := gd (i := 524) (by decide +kernel) (by decide +kernel)
theorem iw_Ru : Cond.instantiable "SandGuards$Rumours" 10 ∈ lw_gd ∧ Cond.initialized "SandGuards$Rumours" ∈ lw_gd := ⟨gd (i := 525) (by decide +kernel) (by decide +kernel), gd (i := 109) (by decide +kernel) (by decide +kernel)⟩
theorem lo_Ru : Cond.methodLink "SandGuards$Rumours" 3 Lib.objectInit ∈ lw_gd := gd (i := 529) (by decide +kernel) (by decide +kernel)
theorem cl_Ru_15 : Cond.classLink "SandGuards$Rumours" 15 "SandGuards$Castle" ∈ lw_gd := gd (i := 530) (by decide +kernel) (by decide +kernel)
theorem cl_Lw_10 : Cond.classLink "SandGuardsLaw" 10 "SandGuardsModel" ∈ lw_gd := gd (i := 1193) (by decide +kernel) (by decide +kernel)
theorem iw_Mo : Cond.instantiable "SandGuardsModel" 61 ∈ lw_gd ∧ Cond.initialized "SandGuardsModel" ∈ lw_gd := ⟨gd (i := 1194) (by decide +kernel) (by decide +kernel), gd (i := 110) (by decide +kernel) (by decide +kernel)⟩
theorem lo_Mo : Cond.methodLink "SandGuardsModel" 7 Lib.objectInit ∈ lw_gd := gd (i := 1198) (by decide +kernel) (by decide +kernel)
set_option maxRecDepth 40000 in
theorem oi_Ca_init : OkI M_Ca_init := ⟨⟨by decide +kernel, gd (i := 244) rfl (by decide +kernel), gd (i := 103) (by decide +kernel) (by decide +kernel), by decide +kernel, by decide +kernel, by decide +kernel⟩, gd (i := 243) (by decide +kernel) (by decide +kernel), rfl, rfl, by decide⟩
theorem nu_Ca : ∀ j, j < 15 → defaultValue (t_Ca j) = vp_V (nul 0) j := by decide +kernel
theorem ff_Ca_9 : FF "SandGuards$Castle" 9 0 0 (.array .int) := ⟨_, _, _, k_Ca, by decide, gd (i := 250) (by decide +kernel) (by decide +kernel), rfl, rfl, by decide +kernel⟩
theorem ff_Ca_15 : FF "SandGuards$Castle" 15 0 1 (.array .int) := ⟨_, _, _, k_Ca, by decide, gd (i := 257) (by decide +kernel) (by decide +kernel), rfl, rfl, by decide +kernel⟩
theorem ff_Ca_18 : FF "SandGuards$Castle" 18 0 2 (.array .int) := ⟨_, _, _, k_Ca, by decide, gd (i := 261) (by decide +kernel) (by decide +kernel), rfl, rfl, by decide +kernel⟩
theorem ff_Ca_21 : FF "SandGuards$Castle" 21 0 3 (.array .boolean) := ⟨_, _, _, k_Ca, by decide, gd (i := 265) (by decide +kernel) (by decide +kernel), rfl, rfl, by decide +kernel⟩
theorem ff_Ca_25 : FF "SandGuards$Castle" 25 0 4 (.array .int) := ⟨_, _, _, k_Ca, by decide, gd (i := 269) (by decide +kernel) (by decide +kernel), rfl, rfl, by decide +kernel⟩
theorem ff_Ca_28 : FF "SandGuards$Castle" 28 0 5 (.array .int) := ⟨_, _, _, k_Ca, by decide, gd (i := 271) (by decide +kernel) (by decide +kernel), rfl, rfl, by decide +kernel⟩
theorem ff_Ca_31 : FF "SandGuards$Castle" 31 0 6 (.array .int) := ⟨_, _, _, k_Ca, by decide, gd (i := 273) (by decide +kernel) (by decide +kernel), rfl, rfl, by decide +kernel⟩
theorem ff_Ca_34 : FF "SandGuards$Castle" 34 0 7 (.array .int) := ⟨_, _, _, k_Ca, by decide, gd (i := 276) (by decide +kernel) (by decide +kernel), rfl, rfl, by decide +kernel⟩
theorem ff_Ca_37 : FF "SandGuards$Castle" 37 0 8 (.array .int) := ⟨_, _, _, k_Ca, by decide, gd (i := 280) (by decide +kernel) (by decide +kernel), rfl, rfl, by decide +kernel⟩
theorem ff_Ca_40 : FF "SandGuards$Castle" 40 0 9 (.array .int) := ⟨_, _, _, k_Ca, by decide, gd (i := 282) (by decide +kernel) (by decide +kernel), rfl, rfl, by decide +kernel⟩
theorem ff_Ca_43 : FF "SandGuards$Castle" 43 0 10 (.array .int) := ⟨_, _, _, k_Ca, by decide, gd (i := 285) (by decide +kernel) (by decide +kernel), rfl, rfl, by decide +kernel⟩
theorem ff_Ca_46 : FF "SandGuards$Castle" 46 0 14 (.array .int) := ⟨_, _, _, k_Ca, by decide, gd (i := 294) (by decide +kernel) (by decide +kernel), rfl, rfl, by decide +kernel⟩
set_option maxRecDepth 40000 in
theorem oi_Dr_init : OkI M_Dr_init := ⟨⟨by decide +kernel, gd (i := 455) rfl (by decide +kernel), gd (i := 107) (by decide +kernel) (by decide +kernel), by decide +kernel, by decide +kernel, by decide +kernel⟩, gd (i := 454) (by decide +kernel) (by decide +kernel), rfl, rfl, by decide⟩
theorem nu_Dr : ∀ j, j < 9 → defaultValue (t_Dr j) = vp_V (nul 1) j := by decide +kernel
theorem ff_Dr_12 : FF "SandGuards$Dryings" 12 1 4 (.object "SandGuards$Castle") := ⟨_, _, _, k_Dr, by decide, gd (i := 467) (by decide +kernel) (by decide +kernel), rfl, rfl, by decide +kernel⟩
set_option maxRecDepth 40000 in
theorem oi_Ga_init : OkI M_Ga_init := ⟨⟨by decide +kernel, gd (i := 495) rfl (by decide +kernel), gd (i := 108) (by decide +kernel) (by decide +kernel), by decide +kernel, by decide +kernel, by decide +kernel⟩, gd (i := 494) (by decide +kernel) (by decide +kernel), rfl, rfl, by decide⟩
theorem nu_Ga : ∀ j, j < 7 → defaultValue (t_Ga j) = vp_V (nul 2) j := by decide +kernel
theorem ff_Ga_11 : FF "SandGuards$Game" 11 2 0 (.array .int) := ⟨_, _, _, k_Ga, by decide, gd (i := 499) (by decide +kernel) (by decide +kernel), rfl, rfl, by decide +kernel⟩
theorem ff_Ga_18 : FF "SandGuards$Game" 18 2 3 (.object "SandGuards$Castle") := ⟨_, _, _, k_Ga, by decide, gd (i := 505) (by decide +kernel) (by decide +kernel), rfl, rfl, by decide +kernel⟩
theorem ff_Ga_22 : FF "SandGuards$Game" 22 2 4 (.array .int) := ⟨_, _, _, k_Ga, by decide, gd (i := 506) (by decide +kernel) (by decide +kernel), rfl, rfl, by decide +kernel⟩
set_option maxRecDepth 40000 in
theorem oi_Hi_init : OkI M_Hi_init := ⟨⟨by decide +kernel, gd (i := 414) rfl (by decide +kernel), gd (i := 105) (by decide +kernel) (by decide +kernel), by decide +kernel, by decide +kernel, by decide +kernel⟩, gd (i := 413) (by decide +kernel) (by decide +kernel), rfl, rfl, by decide⟩
theorem nu_Hi : ∀ j, j < 3 → defaultValue (t_Hi j) = vp_V (nul 3) j := by decide +kernel
theorem ff_Hi_11 : FF "SandGuards$History" 11 3 1 (.array (.object "SandGuards$Castle")) := ⟨_, _, _, k_Hi, by decide, gd (i := 421) (by decide +kernel) (by decide +kernel), rfl, rfl, by decide +kernel⟩
set_option maxRecDepth 40000 in
theorem oi_La_init : OkI M_La_init := ⟨⟨by decide +kernel, gd (i := 154) rfl (by decide +kernel), gd (i := 102) (by decide +kernel) (by decide +kernel), by decide +kernel, by decide +kernel, by decide +kernel⟩, gd (i := 153) (by decide +kernel) (by decide +kernel), rfl, rfl, by decide⟩
theorem nu_La : ∀ j, j < 9 → defaultValue (t_La j) = vp_V (nul 4) j := by decide +kernel
theorem ff_La_11 : FF "SandGuards$Law" 11 4 2 (.array .int) := ⟨_, _, _, k_La, by decide, gd (i := 162) (by decide +kernel) (by decide +kernel), rfl, rfl, by decide +kernel⟩
theorem ff_La_15 : FF "SandGuards$Law" 15 4 3 (.array .int) := ⟨_, _, _, k_La, by decide, gd (i := 163) (by decide +kernel) (by decide +kernel), rfl, rfl, by decide +kernel⟩
theorem ff_La_18 : FF "SandGuards$Law" 18 4 4 (.array .int) := ⟨_, _, _, k_La, by decide, gd (i := 164) (by decide +kernel) (by decide +kernel), rfl, rfl, by decide +kernel⟩
theorem ff_La_21 : FF "SandGuards$Law" 21 4 5 (.array .int) := ⟨_, _, _, k_La, by decide, gd (i := 165) (by decide +kernel) (by decide +kernel), rfl, rfl, by decide +kernel⟩
theorem ff_La_24 : FF "SandGuards$Law" 24 4 6 (.array .int) := ⟨_, _, _, k_La, by decide, gd (i := 166) (by decide +kernel) (by decide +kernel), rfl, rfl, by decide +kernel⟩
set_option maxRecDepth 40000 in
theorem oi_Ou_init : OkI M_Ou_init := ⟨⟨by decide +kernel, gd (i := 434) rfl (by decide +kernel), gd (i := 106) (by decide +kernel) (by decide +kernel), by decide +kernel, by decide +kernel, by decide +kernel⟩, gd (i := 433) (by decide +kernel) (by decide +kernel), rfl, rfl, by decide⟩
theorem nu_Ou : ∀ j, j < 3 → defaultValue (t_Ou j) = vp_V (nul 5) j := by decide +kernel
theorem ff_Ou_12 : FF "SandGuards$Outlook" 12 5 0 (.object "SandGuards$Castle") := ⟨_, _, _, k_Ou, by decide, gd (i := 438) (by decide +kernel) (by decide +kernel), rfl, rfl, by decide +kernel⟩
set_option maxRecDepth 40000 in
theorem oi_Pl_init : OkI M_Pl_init := ⟨⟨by decide +kernel, gd (i := 148) rfl (by decide +kernel), gd (i := 101) (by decide +kernel) (by decide +kernel), by decide +kernel, by decide +kernel, by decide +kernel⟩, gd (i := 147) (by decide +kernel) (by decide +kernel), rfl, rfl, by decide⟩
theorem nu_Pl : ∀ j, j < 9 → defaultValue (t_Pl j) = vp_V (nul 6) j := by decide +kernel
theorem ff_Pl_9 : FF "SandGuards$Plan" 9 6 0 (.array .int) := ⟨_, _, _, k_Pl, by decide, gd (i := 189) (by decide +kernel) (by decide +kernel), rfl, rfl, by decide +kernel⟩
theorem ff_Pl_15 : FF "SandGuards$Plan" 15 6 1 (.array .int) := ⟨_, _, _, k_Pl, by decide, gd (i := 191) (by decide +kernel) (by decide +kernel), rfl, rfl, by decide +kernel⟩
theorem ff_Pl_21 : FF "SandGuards$Plan" 21 6 2 (.object "SandGuards$Law") := ⟨_, _, _, k_Pl, by decide, gd (i := 193) (by decide +kernel) (by decide +kernel), rfl, rfl, by decide +kernel⟩
theorem ff_Pl_29 : FF "SandGuards$Plan" 29 6 8 (.array .int) := ⟨_, _, _, k_Pl, by decide, gd (i := 220) (by decide +kernel) (by decide +kernel), rfl, rfl, by decide +kernel⟩
set_option maxRecDepth 40000 in
theorem oi_Re_init : OkI M_Re_init := ⟨⟨by decide +kernel, gd (i := 142) rfl (by decide +kernel), gd (i := 100) (by decide +kernel) (by decide +kernel), by decide +kernel, by decide +kernel, by decide +kernel⟩, gd (i := 141) (by decide +kernel) (by decide +kernel), rfl, rfl, by decide⟩
theorem nu_Re : ∀ j, j < 17 → defaultValue (t_Re j) = vp_V (nul 7) j := by decide +kernel
theorem ff_Re_14 : FF "SandGuards$Reader" 14 7 0 (.object "SandGuards$Plan") := ⟨_, _, _, k_Re, by decide, gd (i := 351) (by decide +kernel) (by decide +kernel), rfl, rfl, by decide +kernel⟩
theorem ff_Re_21 : FF "SandGuards$Reader" 21 7 1 (.object "SandGuards$Castle") := ⟨_, _, _, k_Re, by decide, gd (i := 353) (by decide +kernel) (by decide +kernel), rfl, rfl, by decide +kernel⟩
theorem ff_Re_28 : FF "SandGuards$Reader" 28 7 3 (.object "SandGuards$Tokens") := ⟨_, _, _, k_Re, by decide, gd (i := 357) (by decide +kernel) (by decide +kernel), rfl, rfl, by decide +kernel⟩
theorem ff_Re_32 : FF "SandGuards$Reader" 32 7 4 (.array .long) := ⟨_, _, _, k_Re, by decide, gd (i := 358) (by decide +kernel) (by decide +kernel), rfl, rfl, by decide +kernel⟩
theorem ff_Re_36 : FF "SandGuards$Reader" 36 7 5 (.array .long) := ⟨_, _, _, k_Re, by decide, gd (i := 359) (by decide +kernel) (by decide +kernel), rfl, rfl, by decide +kernel⟩
theorem ff_Re_39 : FF "SandGuards$Reader" 39 7 6 (.array .int) := ⟨_, _, _, k_Re, by decide, gd (i := 360) (by decide +kernel) (by decide +kernel), rfl, rfl, by decide +kernel⟩
theorem ff_Re_43 : FF "SandGuards$Reader" 43 7 8 (.array .int) := ⟨_, _, _, k_Re, by decide, gd (i := 362) (by decide +kernel) (by decide +kernel), rfl, rfl, by decide +kernel⟩
set_option maxRecDepth 40000 in
theorem oi_Ru_init : OkI M_Ru_init := ⟨⟨by decide +kernel, gd (i := 528) rfl (by decide +kernel), gd (i := 109) (by decide +kernel) (by decide +kernel), by decide +kernel, by decide +kernel, by decide +kernel⟩, gd (i := 527) (by decide +kernel) (by decide +kernel), rfl, rfl, by decide⟩
theorem nu_Ru : ∀ j, j < 10 → defaultValue (t_Ru j) = vp_V (nul 8) j := by decide +kernel
theorem ff_Ru_11 : FF "SandGuards$Rumours" 11 8 0 (.array .int) := ⟨_, _, _, k_Ru, by decide, gd (i := 532) (by decide +kernel) (by decide +kernel), rfl, rfl, by decide +kernel⟩
theorem ff_Ru_18 : FF "SandGuards$Rumours" 18 8 3 (.object "SandGuards$Castle") := ⟨_, _, _, k_Ru, by decide, gd (i := 538) (by decide +kernel) (by decide +kernel), rfl, rfl, by decide +kernel⟩
theorem ff_Ru_22 : FF "SandGuards$Rumours" 22 8 4 (.array .int) := ⟨_, _, _, k_Ru, by decide, gd (i := 539) (by decide +kernel) (by decide +kernel), rfl, rfl, by decide +kernel⟩
theorem ff_Ru_25 : FF "SandGuards$Rumours" 25 8 5 (.array .int) := ⟨_, _, _, k_Ru, by decide, gd (i := 540) (by decide +kernel) (by decide +kernel), rfl, rfl, by decide +kernel⟩
theorem ff_Ru_28 : FF "SandGuards$Rumours" 28 8 6 (.array .int) := ⟨_, _, _, k_Ru, by decide, gd (i := 541) (by decide +kernel) (by decide +kernel), rfl, rfl, by decide +kernel⟩
set_option maxRecDepth 40000 in
theorem oi_Ta_init : OkI M_Ta_init := ⟨⟨by decide +kernel, gd (i := 125) rfl (by decide +kernel), gd (i := 99) (by decide +kernel) (by decide +kernel), by decide +kernel, by decide +kernel, by decide +kernel⟩, gd (i := 124) (by decide +kernel) (by decide +kernel), rfl, rfl, by decide⟩
theorem nu_Ta : ∀ j, j < 2 → defaultValue (t_Ta j) = vp_V (nul 9) j := by decide +kernel
theorem ff_Ta_9 : FF "SandGuards$Tape" 9 9 0 (.array .byte) := ⟨_, _, _, k_Ta, by decide, gd (i := 127) (by decide +kernel) (by decide +kernel), rfl, rfl, by decide +kernel⟩
set_option maxRecDepth 40000 in
theorem oi_To_init : OkI M_To_init := ⟨⟨by decide +kernel, gd (i := 331) rfl (by decide +kernel), gd (i := 104) (by decide +kernel) (by decide +kernel), by decide +kernel, by decide +kernel, by decide +kernel⟩, gd (i := 330) (by decide +kernel) (by decide +kernel), rfl, rfl, by decide⟩
theorem nu_To : ∀ j, j < 4 → defaultValue (t_To j) = vp_V (nul 10) j := by decide +kernel
theorem ff_To_11 : FF "SandGuards$Tokens" 11 10 0 (.array .int) := ⟨_, _, _, k_To, by decide, gd (i := 333) (by decide +kernel) (by decide +kernel), rfl, rfl, by decide +kernel⟩
theorem ff_To_15 : FF "SandGuards$Tokens" 15 10 1 (.array .int) := ⟨_, _, _, k_To, by decide, gd (i := 335) (by decide +kernel) (by decide +kernel), rfl, rfl, by decide +kernel⟩
theorem ff_To_18 : FF "SandGuards$Tokens" 18 10 2 (.array .int) := ⟨_, _, _, k_To, by decide, gd (i := 337) (by decide +kernel) (by decide +kernel), rfl, rfl, by decide +kernel⟩
theorem ff_To_21 : FF "SandGuards$Tokens" 21 10 3 (.array .long) := ⟨_, _, _, k_To, by decide, gd (i := 339) (by decide +kernel) (by decide +kernel), rfl, rfl, by decide +kernel⟩
set_option maxRecDepth 40000 in
theorem oi_Sg_init : OkI M_Sg_init := ⟨⟨by decide +kernel, gd (i := 117) rfl (by decide +kernel), gd (i := 98) (by decide +kernel) (by decide +kernel), by decide +kernel, by decide +kernel, by decide +kernel⟩, gd (i := 116) (by decide +kernel) (by decide +kernel), rfl, rfl, by decide⟩
theorem nu_Sg : ∀ j, j < 13 → defaultValue (t_Sg j) = vp_V (nul 11) j := by decide +kernel
theorem ff_Sg_10 : FF "SandGuards" 10 11 0 (.object "SandGuards$Tape") := ⟨_, _, _, k_Sg, by decide, gd (i := 566) (by decide +kernel) (by decide +kernel), rfl, rfl, by decide +kernel⟩
theorem ff_Sg_19 : FF "SandGuards" 19 11 1 (.object "SandGuards$Reader") := ⟨_, _, _, k_Sg, by decide, gd (i := 567) (by decide +kernel) (by decide +kernel), rfl, rfl, by decide +kernel⟩
theorem ff_Sg_26 : FF "SandGuards" 26 11 2 (.object "SandGuards$Plan") := ⟨_, _, _, k_Sg, by decide, gd (i := 568) (by decide +kernel) (by decide +kernel), rfl, rfl, by decide +kernel⟩
theorem ff_Sg_33 : FF "SandGuards" 33 11 3 (.object "SandGuards$Castle") := ⟨_, _, _, k_Sg, by decide, gd (i := 569) (by decide +kernel) (by decide +kernel), rfl, rfl, by decide +kernel⟩
theorem ff_Sg_37 : FF "SandGuards" 37 11 4 (.object "SandGuards$Castle") := ⟨_, _, _, k_Sg, by decide, gd (i := 570) (by decide +kernel) (by decide +kernel), rfl, rfl, by decide +kernel⟩
theorem ff_Sg_43 : FF "SandGuards" 43 11 5 (.object "SandGuards$History") := ⟨_, _, _, k_Sg, by decide, gd (i := 571) (by decide +kernel) (by decide +kernel), rfl, rfl, by decide +kernel⟩
theorem ff_Sg_47 : FF "SandGuards" 47 11 6 (.array (.object "SandGuards$Castle")) := ⟨_, _, _, k_Sg, by decide, gd (i := 572) (by decide +kernel) (by decide +kernel), rfl, rfl, by decide +kernel⟩
theorem ff_Sg_51 : FF "SandGuards" 51 11 7 (.array .boolean) := ⟨_, _, _, k_Sg, by decide, gd (i := 573) (by decide +kernel) (by decide +kernel), rfl, rfl, by decide +kernel⟩
theorem ff_Sg_58 : FF "SandGuards" 58 11 8 (.object "SandGuards$Outlook") := ⟨_, _, _, k_Sg, by decide, gd (i := 574) (by decide +kernel) (by decide +kernel), rfl, rfl, by decide +kernel⟩
theorem ff_Sg_65 : FF "SandGuards" 65 11 9 (.object "SandGuards$Dryings") := ⟨_, _, _, k_Sg, by decide, gd (i := 575) (by decide +kernel) (by decide +kernel), rfl, rfl, by decide +kernel⟩
theorem ff_Sg_72 : FF "SandGuards" 72 11 10 (.object "SandGuards$Game") := ⟨_, _, _, k_Sg, by decide, gd (i := 576) (by decide +kernel) (by decide +kernel), rfl, rfl, by decide +kernel⟩
theorem ff_Sg_79 : FF "SandGuards" 79 11 11 (.object "SandGuards$Rumours") := ⟨_, _, _, k_Sg, by decide, gd (i := 577) (by decide +kernel) (by decide +kernel), rfl, rfl, by decide +kernel⟩
set_option maxRecDepth 40000 in
theorem oi_Mo_init : OkI M_Mo_init := ⟨⟨by decide +kernel, gd (i := 1197) rfl (by decide +kernel), gd (i := 110) (by decide +kernel) (by decide +kernel), by decide +kernel, by decide +kernel, by decide +kernel⟩, gd (i := 1196) (by decide +kernel) (by decide +kernel), rfl, rfl, by decide⟩
theorem nu_Mo : ∀ j, j < 61 → defaultValue (t_Mo j) = vp_V (nul 12) j := by decide +kernel
theorem ff_Mo_13 : FF "SandGuardsModel" 13 12 1 (.array .byte) := ⟨_, _, _, k_Mo, by decide, gd (i := 1206) (by decide +kernel) (by decide +kernel), rfl, rfl, by decide +kernel⟩
theorem ff_Mo_17 : FF "SandGuardsModel" 17 12 3 (.array .byte) := ⟨_, _, _, k_Mo, by decide, gd (i := 1208) (by decide +kernel) (by decide +kernel), rfl, rfl, by decide +kernel⟩
theorem ff_Mo_20 : FF "SandGuardsModel" 20 12 5 (.array .int) := ⟨_, _, _, k_Mo, by decide, gd (i := 1210) (by decide +kernel) (by decide +kernel), rfl, rfl, by decide +kernel⟩
theorem ff_Mo_24 : FF "SandGuardsModel" 24 12 6 (.array .int) := ⟨_, _, _, k_Mo, by decide, gd (i := 1211) (by decide +kernel) (by decide +kernel), rfl, rfl, by decide +kernel⟩
theorem ff_Mo_27 : FF "SandGuardsModel" 27 12 7 (.array .int) := ⟨_, _, _, k_Mo, by decide, gd (i := 1212) (by decide +kernel) (by decide +kernel), rfl, rfl, by decide +kernel⟩
theorem ff_Mo_30 : FF "SandGuardsModel" 30 12 8 (.array .long) := ⟨_, _, _, k_Mo, by decide, gd (i := 1213) (by decide +kernel) (by decide +kernel), rfl, rfl, by decide +kernel⟩
theorem ff_Mo_34 : FF "SandGuardsModel" 34 12 9 (.array .long) := ⟨_, _, _, k_Mo, by decide, gd (i := 1214) (by decide +kernel) (by decide +kernel), rfl, rfl, by decide +kernel⟩
theorem ff_Mo_40 : FF "SandGuardsModel" 40 12 21 (.array .long) := ⟨_, _, _, k_Mo, by decide, gd (i := 1226) (by decide +kernel) (by decide +kernel), rfl, rfl, by decide +kernel⟩
theorem ff_Mo_43 : FF "SandGuardsModel" 43 12 22 (.array .int) := ⟨_, _, _, k_Mo, by decide, gd (i := 1227) (by decide +kernel) (by decide +kernel), rfl, rfl, by decide +kernel⟩
theorem ff_Mo_46 : FF "SandGuardsModel" 46 12 23 (.array .int) := ⟨_, _, _, k_Mo, by decide, gd (i := 1228) (by decide +kernel) (by decide +kernel), rfl, rfl, by decide +kernel⟩
theorem ff_Mo_49 : FF "SandGuardsModel" 49 12 24 (.array .int) := ⟨_, _, _, k_Mo, by decide, gd (i := 1229) (by decide +kernel) (by decide +kernel), rfl, rfl, by decide +kernel⟩
theorem ff_Mo_52 : FF "SandGuardsModel" 52 12 25 (.array .int) := ⟨_, _, _, k_Mo, by decide, gd (i := 1230) (by decide +kernel) (by decide +kernel), rfl, rfl, by decide +kernel⟩
theorem ff_Mo_55 : FF "SandGuardsModel" 55 12 26 (.array .int) := ⟨_, _, _, k_Mo, by decide, gd (i := 1231) (by decide +kernel) (by decide +kernel), rfl, rfl, by decide +kernel⟩
theorem ff_Mo_58 : FF "SandGuardsModel" 58 12 27 (.array .int) := ⟨_, _, _, k_Mo, by decide, gd (i := 1232) (by decide +kernel) (by decide +kernel), rfl, rfl, by decide +kernel⟩
theorem ff_Mo_61 : FF "SandGuardsModel" 61 12 28 (.array .int) := ⟨_, _, _, k_Mo, by decide, gd (i := 1233) (by decide +kernel) (by decide +kernel), rfl, rfl, by decide +kernel⟩
theorem ff_Mo_64 : FF "SandGuardsModel" 64 12 29 (.array .int) := ⟨_, _, _, k_Mo, by decide, gd (i := 1234) (by decide +kernel) (by decide +kernel), rfl, rfl, by decide +kernel⟩
theorem ff_Mo_67 : FF "SandGuardsModel" 67 12 30 (.array .int) := ⟨_, _, _, k_Mo, by decide, gd (i := 1235) (by decide +kernel) (by decide +kernel), rfl, rfl, by decide +kernel⟩
theorem ff_Mo_70 : FF "SandGuardsModel" 70 12 31 (.array .int) := ⟨_, _, _, k_Mo, by decide, gd (i := 1236) (by decide +kernel) (by decide +kernel), rfl, rfl, by decide +kernel⟩
theorem ff_Mo_73 : FF "SandGuardsModel" 73 12 32 (.array .int) := ⟨_, _, _, k_Mo, by decide, gd (i := 1237) (by decide +kernel) (by decide +kernel), rfl, rfl, by decide +kernel⟩
theorem ff_Mo_76 : FF "SandGuardsModel" 76 12 33 (.array .int) := ⟨_, _, _, k_Mo, by decide, gd (i := 1238) (by decide +kernel) (by decide +kernel), rfl, rfl, by decide +kernel⟩
theorem ff_Mo_79 : FF "SandGuardsModel" 79 12 34 (.array .int) := ⟨_, _, _, k_Mo, by decide, gd (i := 1239) (by decide +kernel) (by decide +kernel), rfl, rfl, by decide +kernel⟩
theorem ff_Mo_82 : FF "SandGuardsModel" 82 12 35 (.array .int) := ⟨_, _, _, k_Mo, by decide, gd (i := 1240) (by decide +kernel) (by decide +kernel), rfl, rfl, by decide +kernel⟩
theorem ff_Mo_85 : FF "SandGuardsModel" 85 12 37 (.array .boolean) := ⟨_, _, _, k_Mo, by decide, gd (i := 1242) (by decide +kernel) (by decide +kernel), rfl, rfl, by decide +kernel⟩
theorem ff_Mo_89 : FF "SandGuardsModel" 89 12 38 (.array .int) := ⟨_, _, _, k_Mo, by decide, gd (i := 1243) (by decide +kernel) (by decide +kernel), rfl, rfl, by decide +kernel⟩
theorem ff_Mo_92 : FF "SandGuardsModel" 92 12 39 (.array .int) := ⟨_, _, _, k_Mo, by decide, gd (i := 1244) (by decide +kernel) (by decide +kernel), rfl, rfl, by decide +kernel⟩
theorem ff_Mo_95 : FF "SandGuardsModel" 95 12 40 (.array .int) := ⟨_, _, _, k_Mo, by decide, gd (i := 1245) (by decide +kernel) (by decide +kernel), rfl, rfl, by decide +kernel⟩
theorem ff_Mo_98 : FF "SandGuardsModel" 98 12 41 (.array .int) := ⟨_, _, _, k_Mo, by decide, gd (i := 1246) (by decide +kernel) (by decide +kernel), rfl, rfl, by decide +kernel⟩
theorem ff_Mo_101 : FF "SandGuardsModel" 101 12 43 (.array .int) := ⟨_, _, _, k_Mo, by decide, gd (i := 1248) (by decide +kernel) (by decide +kernel), rfl, rfl, by decide +kernel⟩
theorem ff_Mo_104 : FF "SandGuardsModel" 104 12 44 (.array .int) := ⟨_, _, _, k_Mo, by decide, gd (i := 1249) (by decide +kernel) (by decide +kernel), rfl, rfl, by decide +kernel⟩
theorem ff_Mo_107 : FF "SandGuardsModel" 107 12 45 (.array .int) := ⟨_, _, _, k_Mo, by decide, gd (i := 1250) (by decide +kernel) (by decide +kernel), rfl, rfl, by decide +kernel⟩
theorem ff_Mo_110 : FF "SandGuardsModel" 110 12 47 (.array .int) := ⟨_, _, _, k_Mo, by decide, gd (i := 1252) (by decide +kernel) (by decide +kernel), rfl, rfl, by decide +kernel⟩
theorem ff_Mo_113 : FF "SandGuardsModel" 113 12 48 (.array .int) := ⟨_, _, _, k_Mo, by decide, gd (i := 1253) (by decide +kernel) (by decide +kernel), rfl, rfl, by decide +kernel⟩
theorem ff_Mo_116 : FF "SandGuardsModel" 116 12 50 (.array .int) := ⟨_, _, _, k_Mo, by decide, gd (i := 1255) (by decide +kernel) (by decide +kernel), rfl, rfl, by decide +kernel⟩
theorem ff_Mo_119 : FF "SandGuardsModel" 119 12 51 (.array .int) := ⟨_, _, _, k_Mo, by decide, gd (i := 1256) (by decide +kernel) (by decide +kernel), rfl, rfl, by decide +kernel⟩
theorem ff_Mo_122 : FF "SandGuardsModel" 122 12 53 (.array .int) := ⟨_, _, _, k_Mo, by decide, gd (i := 1258) (by decide +kernel) (by decide +kernel), rfl, rfl, by decide +kernel⟩
theorem ff_Mo_125 : FF "SandGuardsModel" 125 12 54 (.array .int) := ⟨_, _, _, k_Mo, by decide, gd (i := 1259) (by decide +kernel) (by decide +kernel), rfl, rfl, by decide +kernel⟩
theorem ff_Mo_128 : FF "SandGuardsModel" 128 12 56 (.array .int) := ⟨_, _, _, k_Mo, by decide, gd (i := 1261) (by decide +kernel) (by decide +kernel), rfl, rfl, by decide +kernel⟩
theorem ff_Mo_131 : FF "SandGuardsModel" 131 12 57 (.array .int) := ⟨_, _, _, k_Mo, by decide, gd (i := 1262) (by decide +kernel) (by decide +kernel), rfl, rfl, by decide +kernel⟩
theorem ff_Mo_134 : FF "SandGuardsModel" 134 12 58 (.array .int) := ⟨_, _, _, k_Mo, by decide, gd (i := 1263) (by decide +kernel) (by decide +kernel), rfl, rfl, by decide +kernel⟩
theorem ff_Mo_137 : FF "SandGuardsModel" 137 12 59 (.array .boolean) := ⟨_, _, _, k_Mo, by decide, gd (i := 1264) (by decide +kernel) (by decide +kernel), rfl, rfl, by decide +kernel⟩
theorem ff_Mo_140 : FF "SandGuardsModel" 140 12 60 (.array .int) := ⟨_, _, _, k_Mo, by decide, gd (i := 1265) (by decide +kernel) (by decide +kernel), rfl, rfl, by decide +kernel⟩
