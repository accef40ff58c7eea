section
-- ===== PART A: goes FIRST, ahead of the names: the tables' words, and 'selects' of the private methods out of them =====
/-- a private method of a class that the tables say can be made, by its rows of tables_1 -/
def lw_okq (q : MethodName × Nat) : Prop := (q.1.cls ≠ "java/lang/invoke/MethodHandle" ∧ q.1.cls ≠ "java/lang/invoke/VarHandle") ∧ Cond.instantiable q.1.cls q.2 ∈ tables_1 ∧ Cond.privateMethod q.1 ∈ tables_1 ∧ Cond.instanceMethod q.1 ∈ tables_1
theorem lw_p0 : lw_okq (⟨"SandGuards$Tokens", "addToken", "(LSandGuards$Tape;II)I"⟩, 4) := ⟨⟨by decide +kernel, by decide +kernel⟩, List.mem_of_getElem? (i := 231) (by decide +kernel), List.mem_of_getElem? (i := 545) (by decide +kernel), List.mem_of_getElem? (i := 546) (by decide +kernel)⟩
theorem lw_p1 : lw_okq (⟨"SandGuards$Tokens", "addWord", "(LSandGuards$Tape;II)I"⟩, 4) := ⟨⟨by decide +kernel, by decide +kernel⟩, List.mem_of_getElem? (i := 231) (by decide +kernel), List.mem_of_getElem? (i := 552) (by decide +kernel), List.mem_of_getElem? (i := 553) (by decide +kernel)⟩
theorem lw_p2 : lw_okq (⟨"SandGuards$Tokens", "addNumber", "(LSandGuards$Tape;II)I"⟩, 4) := ⟨⟨by decide +kernel, by decide +kernel⟩, List.mem_of_getElem? (i := 231) (by decide +kernel), List.mem_of_getElem? (i := 564) (by decide +kernel), List.mem_of_getElem? (i := 565) (by decide +kernel)⟩
theorem lw_p3 : lw_okq (⟨"SandGuards$Reader", "kind", "()I"⟩, 17) := ⟨⟨by decide +kernel, by decide +kernel⟩, List.mem_of_getElem? (i := 42) (by decide +kernel), List.mem_of_getElem? (i := 584) (by decide +kernel), List.mem_of_getElem? (i := 585) (by decide +kernel)⟩
theorem lw_p4 : lw_okq (⟨"SandGuards$Reader", "takeTell", "()Z"⟩, 17) := ⟨⟨by decide +kernel, by decide +kernel⟩, List.mem_of_getElem? (i := 42) (by decide +kernel), List.mem_of_getElem? (i := 588) (by decide +kernel), List.mem_of_getElem? (i := 589) (by decide +kernel)⟩
theorem lw_p5 : lw_okq (⟨"SandGuards$Reader", "takePost", "()Z"⟩, 17) := ⟨⟨by decide +kernel, by decide +kernel⟩, List.mem_of_getElem? (i := 42) (by decide +kernel), List.mem_of_getElem? (i := 592) (by decide +kernel), List.mem_of_getElem? (i := 593) (by decide +kernel)⟩
theorem lw_p6 : lw_okq (⟨"SandGuards$Reader", "refuse", "(I)Z"⟩, 17) := ⟨⟨by decide +kernel, by decide +kernel⟩, List.mem_of_getElem? (i := 42) (by decide +kernel), List.mem_of_getElem? (i := 596) (by decide +kernel), List.mem_of_getElem? (i := 597) (by decide +kernel)⟩
theorem lw_p7 : lw_okq (⟨"SandGuards$Reader", "take", "(I)Z"⟩, 17) := ⟨⟨by decide +kernel, by decide +kernel⟩, List.mem_of_getElem? (i := 42) (by decide +kernel), List.mem_of_getElem? (i := 600) (by decide +kernel), List.mem_of_getElem? (i := 601) (by decide +kernel)⟩
theorem lw_p8 : lw_okq (⟨"SandGuards$Reader", "takeNewName", "()Z"⟩, 17) := ⟨⟨by decide +kernel, by decide +kernel⟩, List.mem_of_getElem? (i := 42) (by decide +kernel), List.mem_of_getElem? (i := 604) (by decide +kernel), List.mem_of_getElem? (i := 605) (by decide +kernel)⟩
theorem lw_p9 : lw_okq (⟨"SandGuards$Reader", "note", "(II)V"⟩, 17) := ⟨⟨by decide +kernel, by decide +kernel⟩, List.mem_of_getElem? (i := 42) (by decide +kernel), List.mem_of_getElem? (i := 608) (by decide +kernel), List.mem_of_getElem? (i := 609) (by decide +kernel)⟩
theorem lw_p10 : lw_okq (⟨"SandGuards$Reader", "takeInt", "(I)Z"⟩, 17) := ⟨⟨by decide +kernel, by decide +kernel⟩, List.mem_of_getElem? (i := 42) (by decide +kernel), List.mem_of_getElem? (i := 612) (by decide +kernel), List.mem_of_getElem? (i := 613) (by decide +kernel)⟩
theorem lw_p11 : lw_okq (⟨"SandGuards$Reader", "takeGuard", "()Z"⟩, 17) := ⟨⟨by decide +kernel, by decide +kernel⟩, List.mem_of_getElem? (i := 42) (by decide +kernel), List.mem_of_getElem? (i := 616) (by decide +kernel), List.mem_of_getElem? (i := 617) (by decide +kernel)⟩
theorem lw_p12 : lw_okq (⟨"SandGuards$Reader", "takePostOf", "(I)Z"⟩, 17) := ⟨⟨by decide +kernel, by decide +kernel⟩, List.mem_of_getElem? (i := 42) (by decide +kernel), List.mem_of_getElem? (i := 624) (by decide +kernel), List.mem_of_getElem? (i := 625) (by decide +kernel)⟩
theorem lw_p13 : lw_okq (⟨"SandGuards$Reader", "postNamed", "(J)I"⟩, 17) := ⟨⟨by decide +kernel, by decide +kernel⟩, List.mem_of_getElem? (i := 42) (by decide +kernel), List.mem_of_getElem? (i := 628) (by decide +kernel), List.mem_of_getElem? (i := 629) (by decide +kernel)⟩
theorem lw_p14 : lw_okq (⟨"SandGuards$Reader", "takeFlow", "()Z"⟩, 17) := ⟨⟨by decide +kernel, by decide +kernel⟩, List.mem_of_getElem? (i := 42) (by decide +kernel), List.mem_of_getElem? (i := 636) (by decide +kernel), List.mem_of_getElem? (i := 637) (by decide +kernel)⟩
theorem lw_p15 : lw_okq (⟨"SandGuards$Reader", "takeIf", "()Z"⟩, 17) := ⟨⟨by decide +kernel, by decide +kernel⟩, List.mem_of_getElem? (i := 42) (by decide +kernel), List.mem_of_getElem? (i := 641) (by decide +kernel), List.mem_of_getElem? (i := 642) (by decide +kernel)⟩
def lw_privs_1 : List (MethodName × Nat) := [(⟨"SandGuards$Tokens", "addToken", "(LSandGuards$Tape;II)I"⟩, 4), (⟨"SandGuards$Tokens", "addWord", "(LSandGuards$Tape;II)I"⟩, 4), (⟨"SandGuards$Tokens", "addNumber", "(LSandGuards$Tape;II)I"⟩, 4), (⟨"SandGuards$Reader", "kind", "()I"⟩, 17), (⟨"SandGuards$Reader", "takeTell", "()Z"⟩, 17), (⟨"SandGuards$Reader", "takePost", "()Z"⟩, 17), (⟨"SandGuards$Reader", "refuse", "(I)Z"⟩, 17), (⟨"SandGuards$Reader", "take", "(I)Z"⟩, 17), (⟨"SandGuards$Reader", "takeNewName", "()Z"⟩, 17), (⟨"SandGuards$Reader", "note", "(II)V"⟩, 17), (⟨"SandGuards$Reader", "takeInt", "(I)Z"⟩, 17), (⟨"SandGuards$Reader", "takeGuard", "()Z"⟩, 17), (⟨"SandGuards$Reader", "takePostOf", "(I)Z"⟩, 17), (⟨"SandGuards$Reader", "postNamed", "(J)I"⟩, 17), (⟨"SandGuards$Reader", "takeFlow", "()Z"⟩, 17), (⟨"SandGuards$Reader", "takeIf", "()Z"⟩, 17)]
theorem lw_r1 : ∀ q ∈ lw_privs_1, lw_okq q := List.forall_mem_cons.mpr ⟨lw_p0, List.forall_mem_cons.mpr ⟨lw_p1, List.forall_mem_cons.mpr ⟨lw_p2, List.forall_mem_cons.mpr ⟨lw_p3, List.forall_mem_cons.mpr ⟨lw_p4, List.forall_mem_cons.mpr ⟨lw_p5, List.forall_mem_cons.mpr ⟨lw_p6, List.forall_mem_cons.mpr ⟨lw_p7, List.forall_mem_cons.mpr ⟨lw_p8, List.forall_mem_cons.mpr ⟨lw_p9, List.forall_mem_cons.mpr ⟨lw_p10, List.forall_mem_cons.mpr ⟨lw_p11, List.forall_mem_cons.mpr ⟨lw_p12, List.forall_mem_cons.mpr ⟨lw_p13, List.forall_mem_cons.mpr ⟨lw_p14, List.forall_mem_cons.mpr ⟨lw_p15, fun _ h => absurd h List.not_mem_nil⟩⟩⟩⟩⟩⟩⟩⟩⟩⟩⟩⟩⟩⟩⟩⟩
theorem lw_p16 : lw_okq (⟨"SandGuards$Reader", "takeSum", "()Z"⟩, 17) := ⟨⟨by decide +kernel, by decide +kernel⟩, List.mem_of_getElem? (i := 42) (by decide +kernel), List.mem_of_getElem? (i := 645) (by decide +kernel), List.mem_of_getElem? (i := 646) (by decide +kernel)⟩
theorem lw_p17 : lw_okq (⟨"SandGuards$Reader", "letWait", "(I)V"⟩, 17) := ⟨⟨by decide +kernel, by decide +kernel⟩, List.mem_of_getElem? (i := 42) (by decide +kernel), List.mem_of_getElem? (i := 649) (by decide +kernel), List.mem_of_getElem? (i := 650) (by decide +kernel)⟩
theorem lw_p18 : lw_okq (⟨"SandGuards$Reader", "addUnit", "(I)Z"⟩, 17) := ⟨⟨by decide +kernel, by decide +kernel⟩, List.mem_of_getElem? (i := 42) (by decide +kernel), List.mem_of_getElem? (i := 653) (by decide +kernel), List.mem_of_getElem? (i := 654) (by decide +kernel)⟩
theorem lw_p19 : lw_okq (⟨"SandGuards$Reader", "pushUnit", "(I)V"⟩, 17) := ⟨⟨by decide +kernel, by decide +kernel⟩, List.mem_of_getElem? (i := 42) (by decide +kernel), List.mem_of_getElem? (i := 661) (by decide +kernel), List.mem_of_getElem? (i := 662) (by decide +kernel)⟩
theorem lw_p20 : lw_okq (⟨"SandGuards$Reader", "release", "(I)V"⟩, 17) := ⟨⟨by decide +kernel, by decide +kernel⟩, List.mem_of_getElem? (i := 42) (by decide +kernel), List.mem_of_getElem? (i := 672) (by decide +kernel), List.mem_of_getElem? (i := 673) (by decide +kernel)⟩
theorem lw_p21 : lw_okq (⟨"SandGuards$Reader", "popUnit", "()I"⟩, 17) := ⟨⟨by decide +kernel, by decide +kernel⟩, List.mem_of_getElem? (i := 42) (by decide +kernel), List.mem_of_getElem? (i := 676) (by decide +kernel), List.mem_of_getElem? (i := 677) (by decide +kernel)⟩
theorem lw_p22 : lw_okq (⟨"SandGuards$Reader", "addEnd", "()V"⟩, 17) := ⟨⟨by decide +kernel, by decide +kernel⟩, List.mem_of_getElem? (i := 42) (by decide +kernel), List.mem_of_getElem? (i := 684) (by decide +kernel), List.mem_of_getElem? (i := 685) (by decide +kernel)⟩
theorem lw_p23 : lw_okq (⟨"SandGuards$Reader", "takeDamp", "()Z"⟩, 17) := ⟨⟨by decide +kernel, by decide +kernel⟩, List.mem_of_getElem? (i := 42) (by decide +kernel), List.mem_of_getElem? (i := 692) (by decide +kernel), List.mem_of_getElem? (i := 693) (by decide +kernel)⟩
theorem lw_p24 : lw_okq (⟨"SandGuards$Reader", "takeSleep", "()Z"⟩, 17) := ⟨⟨by decide +kernel, by decide +kernel⟩, List.mem_of_getElem? (i := 42) (by decide +kernel), List.mem_of_getElem? (i := 696) (by decide +kernel), List.mem_of_getElem? (i := 697) (by decide +kernel)⟩
theorem lw_p25 : lw_okq (⟨"SandGuards", "beginAnew", "()V"⟩, 13) := ⟨⟨by decide +kernel, by decide +kernel⟩, List.mem_of_getElem? (i := 17) (by decide +kernel), List.mem_of_getElem? (i := 708) (by decide +kernel), List.mem_of_getElem? (i := 709) (by decide +kernel)⟩
theorem lw_p26 : lw_okq (⟨"SandGuards", "noteChange", "()V"⟩, 13) := ⟨⟨by decide +kernel, by decide +kernel⟩, List.mem_of_getElem? (i := 17) (by decide +kernel), List.mem_of_getElem? (i := 733) (by decide +kernel), List.mem_of_getElem? (i := 734) (by decide +kernel)⟩
theorem lw_p27 : lw_okq (⟨"SandGuards", "isPost", "(I)Z"⟩, 13) := ⟨⟨by decide +kernel, by decide +kernel⟩, List.mem_of_getElem? (i := 17) (by decide +kernel), List.mem_of_getElem? (i := 749) (by decide +kernel), List.mem_of_getElem? (i := 750) (by decide +kernel)⟩
theorem lw_p28 : lw_okq (⟨"SandGuards", "isGuard", "(I)Z"⟩, 13) := ⟨⟨by decide +kernel, by decide +kernel⟩, List.mem_of_getElem? (i := 17) (by decide +kernel), List.mem_of_getElem? (i := 765) (by decide +kernel), List.mem_of_getElem? (i := 766) (by decide +kernel)⟩
theorem lw_p29 : lw_okq (⟨"SandGuards", "beginThing", "()V"⟩, 13) := ⟨⟨by decide +kernel, by decide +kernel⟩, List.mem_of_getElem? (i := 17) (by decide +kernel), List.mem_of_getElem? (i := 777) (by decide +kernel), List.mem_of_getElem? (i := 778) (by decide +kernel)⟩
theorem lw_p30 : lw_okq (⟨"SandGuards$Castle", "lookAhead", "(LSandGuards$Plan;I)I"⟩, 15) := ⟨⟨by decide +kernel, by decide +kernel⟩, List.mem_of_getElem? (i := 144) (by decide +kernel), List.mem_of_getElem? (i := 798) (by decide +kernel), List.mem_of_getElem? (i := 799) (by decide +kernel)⟩
theorem lw_p31 : lw_okq (⟨"SandGuards$Castle", "quietAt", "(IIZ)I"⟩, 15) := ⟨⟨by decide +kernel, by decide +kernel⟩, List.mem_of_getElem? (i := 144) (by decide +kernel), List.mem_of_getElem? (i := 804) (by decide +kernel), List.mem_of_getElem? (i := 805) (by decide +kernel)⟩
def lw_privs_2 : List (MethodName × Nat) := [(⟨"SandGuards$Reader", "takeSum", "()Z"⟩, 17), (⟨"SandGuards$Reader", "letWait", "(I)V"⟩, 17), (⟨"SandGuards$Reader", "addUnit", "(I)Z"⟩, 17), (⟨"SandGuards$Reader", "pushUnit", "(I)V"⟩, 17), (⟨"SandGuards$Reader", "release", "(I)V"⟩, 17), (⟨"SandGuards$Reader", "popUnit", "()I"⟩, 17), (⟨"SandGuards$Reader", "addEnd", "()V"⟩, 17), (⟨"SandGuards$Reader", "takeDamp", "()Z"⟩, 17), (⟨"SandGuards$Reader", "takeSleep", "()Z"⟩, 17), (⟨"SandGuards", "beginAnew", "()V"⟩, 13), (⟨"SandGuards", "noteChange", "()V"⟩, 13), (⟨"SandGuards", "isPost", "(I)Z"⟩, 13), (⟨"SandGuards", "isGuard", "(I)Z"⟩, 13), (⟨"SandGuards", "beginThing", "()V"⟩, 13), (⟨"SandGuards$Castle", "lookAhead", "(LSandGuards$Plan;I)I"⟩, 15), (⟨"SandGuards$Castle", "quietAt", "(IIZ)I"⟩, 15)]
theorem lw_r2 : ∀ q ∈ lw_privs_2, lw_okq q := List.forall_mem_cons.mpr ⟨lw_p16, List.forall_mem_cons.mpr ⟨lw_p17, List.forall_mem_cons.mpr ⟨lw_p18, List.forall_mem_cons.mpr ⟨lw_p19, List.forall_mem_cons.mpr ⟨lw_p20, List.forall_mem_cons.mpr ⟨lw_p21, List.forall_mem_cons.mpr ⟨lw_p22, List.forall_mem_cons.mpr ⟨lw_p23, List.forall_mem_cons.mpr ⟨lw_p24, List.forall_mem_cons.mpr ⟨lw_p25, List.forall_mem_cons.mpr ⟨lw_p26, List.forall_mem_cons.mpr ⟨lw_p27, List.forall_mem_cons.mpr ⟨lw_p28, List.forall_mem_cons.mpr ⟨lw_p29, List.forall_mem_cons.mpr ⟨lw_p30, List.forall_mem_cons.mpr ⟨lw_p31, fun _ h => absurd h List.not_mem_nil⟩⟩⟩⟩⟩⟩⟩⟩⟩⟩⟩⟩⟩⟩⟩⟩
theorem lw_p32 : lw_okq (⟨"SandGuards$Castle", "comer", "(II)I"⟩, 15) := ⟨⟨by decide +kernel, by decide +kernel⟩, List.mem_of_getElem? (i := 144) (by decide +kernel), List.mem_of_getElem? (i := 808) (by decide +kernel), List.mem_of_getElem? (i := 809) (by decide +kernel)⟩
theorem lw_p33 : lw_okq (⟨"SandGuards$Castle", "countMinutes", "(II)V"⟩, 15) := ⟨⟨by decide +kernel, by decide +kernel⟩, List.mem_of_getElem? (i := 144) (by decide +kernel), List.mem_of_getElem? (i := 820) (by decide +kernel), List.mem_of_getElem? (i := 821) (by decide +kernel)⟩
theorem lw_p34 : lw_okq (⟨"SandGuards$Castle", "relieveAll", "(I)V"⟩, 15) := ⟨⟨by decide +kernel, by decide +kernel⟩, List.mem_of_getElem? (i := 144) (by decide +kernel), List.mem_of_getElem? (i := 824) (by decide +kernel), List.mem_of_getElem? (i := 825) (by decide +kernel)⟩
theorem lw_p35 : lw_okq (⟨"SandGuards$Castle", "relieve", "(II)V"⟩, 15) := ⟨⟨by decide +kernel, by decide +kernel⟩, List.mem_of_getElem? (i := 144) (by decide +kernel), List.mem_of_getElem? (i := 828) (by decide +kernel), List.mem_of_getElem? (i := 829) (by decide +kernel)⟩
theorem lw_p36 : lw_okq (⟨"SandGuards$Castle", "fillAll", "(I)V"⟩, 15) := ⟨⟨by decide +kernel, by decide +kernel⟩, List.mem_of_getElem? (i := 144) (by decide +kernel), List.mem_of_getElem? (i := 838) (by decide +kernel), List.mem_of_getElem? (i := 839) (by decide +kernel)⟩
theorem lw_p37 : lw_okq (⟨"SandGuards$Dryings", "soonest", "(LSandGuards$Plan;I)I"⟩, 9) := ⟨⟨by decide +kernel, by decide +kernel⟩, List.mem_of_getElem? (i := 355) (by decide +kernel), List.mem_of_getElem? (i := 901) (by decide +kernel), List.mem_of_getElem? (i := 902) (by decide +kernel)⟩
theorem lw_p38 : lw_okq (⟨"SandGuards$Dryings", "tryOne", "(LSandGuards$Plan;LSandGuards$Castle;I)V"⟩, 9) := ⟨⟨by decide +kernel, by decide +kernel⟩, List.mem_of_getElem? (i := 355) (by decide +kernel), List.mem_of_getElem? (i := 919) (by decide +kernel), List.mem_of_getElem? (i := 920) (by decide +kernel)⟩
theorem lw_p39 : lw_okq (⟨"SandGuards$Dryings", "tryTwo", "(LSandGuards$Plan;LSandGuards$Castle;II)V"⟩, 9) := ⟨⟨by decide +kernel, by decide +kernel⟩, List.mem_of_getElem? (i := 355) (by decide +kernel), List.mem_of_getElem? (i := 934) (by decide +kernel), List.mem_of_getElem? (i := 935) (by decide +kernel)⟩
theorem lw_p40 : lw_okq (⟨"SandGuards$Outlook", "isNotOut", "(LSandGuards$Plan;LSandGuards$Castle;III)Z"⟩, 3) := ⟨⟨by decide +kernel, by decide +kernel⟩, List.mem_of_getElem? (i := 334) (by decide +kernel), List.mem_of_getElem? (i := 946) (by decide +kernel), List.mem_of_getElem? (i := 947) (by decide +kernel)⟩
theorem lw_p41 : lw_okq (⟨"SandGuards$Game", "putPinches", "(III)V"⟩, 7) := ⟨⟨by decide +kernel, by decide +kernel⟩, List.mem_of_getElem? (i := 395) (by decide +kernel), List.mem_of_getElem? (i := 1018) (by decide +kernel), List.mem_of_getElem? (i := 1019) (by decide +kernel)⟩
theorem lw_p42 : lw_okq (⟨"SandGuards$Game", "noteSleeps", "(ILSandGuards$Castle;I)V"⟩, 7) := ⟨⟨by decide +kernel, by decide +kernel⟩, List.mem_of_getElem? (i := 395) (by decide +kernel), List.mem_of_getElem? (i := 1025) (by decide +kernel), List.mem_of_getElem? (i := 1026) (by decide +kernel)⟩
theorem lw_p43 : lw_okq (⟨"SandGuards$Game", "isAtRest", "(III)Z"⟩, 7) := ⟨⟨by decide +kernel, by decide +kernel⟩, List.mem_of_getElem? (i := 395) (by decide +kernel), List.mem_of_getElem? (i := 1029) (by decide +kernel), List.mem_of_getElem? (i := 1030) (by decide +kernel)⟩
theorem lw_p44 : lw_okq (⟨"SandGuards$Rumours", "setDue", "(I)I"⟩, 10) := ⟨⟨by decide +kernel, by decide +kernel⟩, List.mem_of_getElem? (i := 428) (by decide +kernel), List.mem_of_getElem? (i := 1057) (by decide +kernel), List.mem_of_getElem? (i := 1058) (by decide +kernel)⟩
theorem lw_p45 : lw_okq (⟨"SandGuards$Rumours", "comesAsDue", "(LSandGuards$Plan;I)Z"⟩, 10) := ⟨⟨by decide +kernel, by decide +kernel⟩, List.mem_of_getElem? (i := 428) (by decide +kernel), List.mem_of_getElem? (i := 1063) (by decide +kernel), List.mem_of_getElem? (i := 1064) (by decide +kernel)⟩
theorem lw_p46 : lw_okq (⟨"SandGuards$Rumours", "isMissed", "(II)Z"⟩, 10) := ⟨⟨by decide +kernel, by decide +kernel⟩, List.mem_of_getElem? (i := 428) (by decide +kernel), List.mem_of_getElem? (i := 1068) (by decide +kernel), List.mem_of_getElem? (i := 1069) (by decide +kernel)⟩
theorem lw_p47 : lw_okq (⟨"SandGuards", "slotsHeld", "()I"⟩, 13) := ⟨⟨by decide +kernel, by decide +kernel⟩, List.mem_of_getElem? (i := 17) (by decide +kernel), List.mem_of_getElem? (i := 1092) (by decide +kernel), List.mem_of_getElem? (i := 1093) (by decide +kernel)⟩
def lw_privs_3 : List (MethodName × Nat) := [(⟨"SandGuards$Castle", "comer", "(II)I"⟩, 15), (⟨"SandGuards$Castle", "countMinutes", "(II)V"⟩, 15), (⟨"SandGuards$Castle", "relieveAll", "(I)V"⟩, 15), (⟨"SandGuards$Castle", "relieve", "(II)V"⟩, 15), (⟨"SandGuards$Castle", "fillAll", "(I)V"⟩, 15), (⟨"SandGuards$Dryings", "soonest", "(LSandGuards$Plan;I)I"⟩, 9), (⟨"SandGuards$Dryings", "tryOne", "(LSandGuards$Plan;LSandGuards$Castle;I)V"⟩, 9), (⟨"SandGuards$Dryings", "tryTwo", "(LSandGuards$Plan;LSandGuards$Castle;II)V"⟩, 9), (⟨"SandGuards$Outlook", "isNotOut", "(LSandGuards$Plan;LSandGuards$Castle;III)Z"⟩, 3), (⟨"SandGuards$Game", "putPinches", "(III)V"⟩, 7), (⟨"SandGuards$Game", "noteSleeps", "(ILSandGuards$Castle;I)V"⟩, 7), (⟨"SandGuards$Game", "isAtRest", "(III)Z"⟩, 7), (⟨"SandGuards$Rumours", "setDue", "(I)I"⟩, 10), (⟨"SandGuards$Rumours", "comesAsDue", "(LSandGuards$Plan;I)Z"⟩, 10), (⟨"SandGuards$Rumours", "isMissed", "(II)Z"⟩, 10), (⟨"SandGuards", "slotsHeld", "()I"⟩, 13)]
theorem lw_r3 : ∀ q ∈ lw_privs_3, lw_okq q := List.forall_mem_cons.mpr ⟨lw_p32, List.forall_mem_cons.mpr ⟨lw_p33, List.forall_mem_cons.mpr ⟨lw_p34, List.forall_mem_cons.mpr ⟨lw_p35, List.forall_mem_cons.mpr ⟨lw_p36, List.forall_mem_cons.mpr ⟨lw_p37, List.forall_mem_cons.mpr ⟨lw_p38, List.forall_mem_cons.mpr ⟨lw_p39, List.forall_mem_cons.mpr ⟨lw_p40, List.forall_mem_cons.mpr ⟨lw_p41, List.forall_mem_cons.mpr ⟨lw_p42, List.forall_mem_cons.mpr ⟨lw_p43, List.forall_mem_cons.mpr ⟨lw_p44, List.forall_mem_cons.mpr ⟨lw_p45, List.forall_mem_cons.mpr ⟨lw_p46, List.forall_mem_cons.mpr ⟨lw_p47, fun _ h => absurd h List.not_mem_nil⟩⟩⟩⟩⟩⟩⟩⟩⟩⟩⟩⟩⟩⟩⟩⟩
theorem lw_p48 : lw_okq (⟨"SandGuardsModel", "put", "(I)V"⟩, 61) := ⟨⟨by decide +kernel, by decide +kernel⟩, List.mem_of_getElem? (i := 1097) (by decide +kernel), List.mem_of_getElem? (i := 1297) (by decide +kernel), List.mem_of_getElem? (i := 1298) (by decide +kernel)⟩
theorem lw_p49 : lw_okq (⟨"SandGuardsModel", "cut", "()V"⟩, 61) := ⟨⟨by decide +kernel, by decide +kernel⟩, List.mem_of_getElem? (i := 1097) (by decide +kernel), List.mem_of_getElem? (i := 1309) (by decide +kernel), List.mem_of_getElem? (i := 1310) (by decide +kernel)⟩
theorem lw_p50 : lw_okq (⟨"SandGuardsModel", "byteAt", "(I)I"⟩, 61) := ⟨⟨by decide +kernel, by decide +kernel⟩, List.mem_of_getElem? (i := 1097) (by decide +kernel), List.mem_of_getElem? (i := 1313) (by decide +kernel), List.mem_of_getElem? (i := 1314) (by decide +kernel)⟩
theorem lw_p51 : lw_okq (⟨"SandGuardsModel", "token", "(IIIJ)V"⟩, 61) := ⟨⟨by decide +kernel, by decide +kernel⟩, List.mem_of_getElem? (i := 1097) (by decide +kernel), List.mem_of_getElem? (i := 1317) (by decide +kernel), List.mem_of_getElem? (i := 1318) (by decide +kernel)⟩
theorem lw_p52 : lw_okq (⟨"SandGuardsModel", "sign", "(III)I"⟩, 61) := ⟨⟨by decide +kernel, by decide +kernel⟩, List.mem_of_getElem? (i := 1097) (by decide +kernel), List.mem_of_getElem? (i := 1327) (by decide +kernel), List.mem_of_getElem? (i := 1328) (by decide +kernel)⟩
theorem lw_p53 : lw_okq (⟨"SandGuardsModel", "is", "(I)Z"⟩, 61) := ⟨⟨by decide +kernel, by decide +kernel⟩, List.mem_of_getElem? (i := 1097) (by decide +kernel), List.mem_of_getElem? (i := 1331) (by decide +kernel), List.mem_of_getElem? (i := 1332) (by decide +kernel)⟩
theorem lw_p54 : lw_okq (⟨"SandGuardsModel", "tell", "()V"⟩, 61) := ⟨⟨by decide +kernel, by decide +kernel⟩, List.mem_of_getElem? (i := 1097) (by decide +kernel), List.mem_of_getElem? (i := 1335) (by decide +kernel), List.mem_of_getElem? (i := 1336) (by decide +kernel)⟩
theorem lw_p55 : lw_okq (⟨"SandGuardsModel", "roomFor", "(II)V"⟩, 61) := ⟨⟨by decide +kernel, by decide +kernel⟩, List.mem_of_getElem? (i := 1097) (by decide +kernel), List.mem_of_getElem? (i := 1339) (by decide +kernel), List.mem_of_getElem? (i := 1340) (by decide +kernel)⟩
theorem lw_p56 : lw_okq (⟨"SandGuardsModel", "fail", "(I)V"⟩, 61) := ⟨⟨by decide +kernel, by decide +kernel⟩, List.mem_of_getElem? (i := 1097) (by decide +kernel), List.mem_of_getElem? (i := 1343) (by decide +kernel), List.mem_of_getElem? (i := 1344) (by decide +kernel)⟩
theorem lw_p57 : lw_okq (⟨"SandGuardsModel", "goesOn", "()V"⟩, 61) := ⟨⟨by decide +kernel, by decide +kernel⟩, List.mem_of_getElem? (i := 1097) (by decide +kernel), List.mem_of_getElem? (i := 1347) (by decide +kernel), List.mem_of_getElem? (i := 1348) (by decide +kernel)⟩
theorem lw_p58 : lw_okq (⟨"SandGuardsModel", "tellPost", "()V"⟩, 61) := ⟨⟨by decide +kernel, by decide +kernel⟩, List.mem_of_getElem? (i := 1097) (by decide +kernel), List.mem_of_getElem? (i := 1351) (by decide +kernel), List.mem_of_getElem? (i := 1352) (by decide +kernel)⟩
theorem lw_p59 : lw_okq (⟨"SandGuardsModel", "named", "()I"⟩, 61) := ⟨⟨by decide +kernel, by decide +kernel⟩, List.mem_of_getElem? (i := 1097) (by decide +kernel), List.mem_of_getElem? (i := 1355) (by decide +kernel), List.mem_of_getElem? (i := 1356) (by decide +kernel)⟩
theorem lw_p60 : lw_okq (⟨"SandGuardsModel", "must", "(I)V"⟩, 61) := ⟨⟨by decide +kernel, by decide +kernel⟩, List.mem_of_getElem? (i := 1097) (by decide +kernel), List.mem_of_getElem? (i := 1359) (by decide +kernel), List.mem_of_getElem? (i := 1360) (by decide +kernel)⟩
theorem lw_p61 : lw_okq (⟨"SandGuardsModel", "wrong", "(II)V"⟩, 61) := ⟨⟨by decide +kernel, by decide +kernel⟩, List.mem_of_getElem? (i := 1097) (by decide +kernel), List.mem_of_getElem? (i := 1363) (by decide +kernel), List.mem_of_getElem? (i := 1364) (by decide +kernel)⟩
theorem lw_p62 : lw_okq (⟨"SandGuardsModel", "bounded", "(II)I"⟩, 61) := ⟨⟨by decide +kernel, by decide +kernel⟩, List.mem_of_getElem? (i := 1097) (by decide +kernel), List.mem_of_getElem? (i := 1367) (by decide +kernel), List.mem_of_getElem? (i := 1368) (by decide +kernel)⟩
theorem lw_p63 : lw_okq (⟨"SandGuardsModel", "notes", "(III)V"⟩, 61) := ⟨⟨by decide +kernel, by decide +kernel⟩, List.mem_of_getElem? (i := 1097) (by decide +kernel), List.mem_of_getElem? (i := 1371) (by decide +kernel), List.mem_of_getElem? (i := 1372) (by decide +kernel)⟩
def lw_privs_4 : List (MethodName × Nat) := [(⟨"SandGuardsModel", "put", "(I)V"⟩, 61), (⟨"SandGuardsModel", "cut", "()V"⟩, 61), (⟨"SandGuardsModel", "byteAt", "(I)I"⟩, 61), (⟨"SandGuardsModel", "token", "(IIIJ)V"⟩, 61), (⟨"SandGuardsModel", "sign", "(III)I"⟩, 61), (⟨"SandGuardsModel", "is", "(I)Z"⟩, 61), (⟨"SandGuardsModel", "tell", "()V"⟩, 61), (⟨"SandGuardsModel", "roomFor", "(II)V"⟩, 61), (⟨"SandGuardsModel", "fail", "(I)V"⟩, 61), (⟨"SandGuardsModel", "goesOn", "()V"⟩, 61), (⟨"SandGuardsModel", "tellPost", "()V"⟩, 61), (⟨"SandGuardsModel", "named", "()I"⟩, 61), (⟨"SandGuardsModel", "must", "(I)V"⟩, 61), (⟨"SandGuardsModel", "wrong", "(II)V"⟩, 61), (⟨"SandGuardsModel", "bounded", "(II)I"⟩, 61), (⟨"SandGuardsModel", "notes", "(III)V"⟩, 61)]
theorem lw_r4 : ∀ q ∈ lw_privs_4, lw_okq q := List.forall_mem_cons.mpr ⟨lw_p48, List.forall_mem_cons.mpr ⟨lw_p49, List.forall_mem_cons.mpr ⟨lw_p50, List.forall_mem_cons.mpr ⟨lw_p51, List.forall_mem_cons.mpr ⟨lw_p52, List.forall_mem_cons.mpr ⟨lw_p53, List.forall_mem_cons.mpr ⟨lw_p54, List.forall_mem_cons.mpr ⟨lw_p55, List.forall_mem_cons.mpr ⟨lw_p56, List.forall_mem_cons.mpr ⟨lw_p57, List.forall_mem_cons.mpr ⟨lw_p58, List.forall_mem_cons.mpr ⟨lw_p59, List.forall_mem_cons.mpr ⟨lw_p60, List.forall_mem_cons.mpr ⟨lw_p61, List.forall_mem_cons.mpr ⟨lw_p62, List.forall_mem_cons.mpr ⟨lw_p63, fun _ h => absurd h List.not_mem_nil⟩⟩⟩⟩⟩⟩⟩⟩⟩⟩⟩⟩⟩⟩⟩⟩
theorem lw_p64 : lw_okq (⟨"SandGuardsModel", "tellGuard", "()V"⟩, 61) := ⟨⟨by decide +kernel, by decide +kernel⟩, List.mem_of_getElem? (i := 1097) (by decide +kernel), List.mem_of_getElem? (i := 1375) (by decide +kernel), List.mem_of_getElem? (i := 1376) (by decide +kernel)⟩
theorem lw_p65 : lw_okq (⟨"SandGuardsModel", "atPost", "()I"⟩, 61) := ⟨⟨by decide +kernel, by decide +kernel⟩, List.mem_of_getElem? (i := 1097) (by decide +kernel), List.mem_of_getElem? (i := 1379) (by decide +kernel), List.mem_of_getElem? (i := 1380) (by decide +kernel)⟩
theorem lw_p66 : lw_okq (⟨"SandGuardsModel", "tellLaw", "()V"⟩, 61) := ⟨⟨by decide +kernel, by decide +kernel⟩, List.mem_of_getElem? (i := 1097) (by decide +kernel), List.mem_of_getElem? (i := 1383) (by decide +kernel), List.mem_of_getElem? (i := 1384) (by decide +kernel)⟩
theorem lw_p67 : lw_okq (⟨"SandGuardsModel", "expression", "()V"⟩, 61) := ⟨⟨by decide +kernel, by decide +kernel⟩, List.mem_of_getElem? (i := 1097) (by decide +kernel), List.mem_of_getElem? (i := 1387) (by decide +kernel), List.mem_of_getElem? (i := 1388) (by decide +kernel)⟩
theorem lw_p68 : lw_okq (⟨"SandGuardsModel", "unit", "()V"⟩, 61) := ⟨⟨by decide +kernel, by decide +kernel⟩, List.mem_of_getElem? (i := 1097) (by decide +kernel), List.mem_of_getElem? (i := 1391) (by decide +kernel), List.mem_of_getElem? (i := 1392) (by decide +kernel)⟩
theorem lw_p69 : lw_okq (⟨"SandGuardsModel", "emit", "(II)V"⟩, 61) := ⟨⟨by decide +kernel, by decide +kernel⟩, List.mem_of_getElem? (i := 1097) (by decide +kernel), List.mem_of_getElem? (i := 1395) (by decide +kernel), List.mem_of_getElem? (i := 1396) (by decide +kernel)⟩
theorem lw_p70 : lw_okq (⟨"SandGuardsModel", "comesOut", "(Z)V"⟩, 61) := ⟨⟨by decide +kernel, by decide +kernel⟩, List.mem_of_getElem? (i := 1097) (by decide +kernel), List.mem_of_getElem? (i := 1399) (by decide +kernel), List.mem_of_getElem? (i := 1400) (by decide +kernel)⟩
theorem lw_p71 : lw_okq (⟨"SandGuardsModel", "term", "()V"⟩, 61) := ⟨⟨by decide +kernel, by decide +kernel⟩, List.mem_of_getElem? (i := 1097) (by decide +kernel), List.mem_of_getElem? (i := 1403) (by decide +kernel), List.mem_of_getElem? (i := 1404) (by decide +kernel)⟩
theorem lw_p72 : lw_okq (⟨"SandGuardsModel", "tellDamp", "()V"⟩, 61) := ⟨⟨by decide +kernel, by decide +kernel⟩, List.mem_of_getElem? (i := 1097) (by decide +kernel), List.mem_of_getElem? (i := 1407) (by decide +kernel), List.mem_of_getElem? (i := 1408) (by decide +kernel)⟩
theorem lw_p73 : lw_okq (⟨"SandGuardsModel", "begins", "()V"⟩, 61) := ⟨⟨by decide +kernel, by decide +kernel⟩, List.mem_of_getElem? (i := 1097) (by decide +kernel), List.mem_of_getElem? (i := 1411) (by decide +kernel), List.mem_of_getElem? (i := 1412) (by decide +kernel)⟩
theorem lw_p74 : lw_okq (⟨"SandGuardsModel", "liesDown", "(I)V"⟩, 61) := ⟨⟨by decide +kernel, by decide +kernel⟩, List.mem_of_getElem? (i := 1097) (by decide +kernel), List.mem_of_getElem? (i := 1415) (by decide +kernel), List.mem_of_getElem? (i := 1416) (by decide +kernel)⟩
theorem lw_p75 : lw_okq (⟨"SandGuardsModel", "isPost", "(I)Z"⟩, 61) := ⟨⟨by decide +kernel, by decide +kernel⟩, List.mem_of_getElem? (i := 1097) (by decide +kernel), List.mem_of_getElem? (i := 1427) (by decide +kernel), List.mem_of_getElem? (i := 1428) (by decide +kernel)⟩
theorem lw_p76 : lw_okq (⟨"SandGuardsModel", "copies", "()V"⟩, 61) := ⟨⟨by decide +kernel, by decide +kernel⟩, List.mem_of_getElem? (i := 1097) (by decide +kernel), List.mem_of_getElem? (i := 1434) (by decide +kernel), List.mem_of_getElem? (i := 1435) (by decide +kernel)⟩
theorem lw_p77 : lw_okq (⟨"SandGuardsModel", "flowOf", "(I)I"⟩, 61) := ⟨⟨by decide +kernel, by decide +kernel⟩, List.mem_of_getElem? (i := 1097) (by decide +kernel), List.mem_of_getElem? (i := 1438) (by decide +kernel), List.mem_of_getElem? (i := 1439) (by decide +kernel)⟩
theorem lw_p78 : lw_okq (⟨"SandGuardsModel", "termOf", "(II)I"⟩, 61) := ⟨⟨by decide +kernel, by decide +kernel⟩, List.mem_of_getElem? (i := 1097) (by decide +kernel), List.mem_of_getElem? (i := 1442) (by decide +kernel), List.mem_of_getElem? (i := 1443) (by decide +kernel)⟩
theorem lw_p79 : lw_okq (⟨"SandGuardsModel", "isGuard", "(I)Z"⟩, 61) := ⟨⟨by decide +kernel, by decide +kernel⟩, List.mem_of_getElem? (i := 1097) (by decide +kernel), List.mem_of_getElem? (i := 1450) (by decide +kernel), List.mem_of_getElem? (i := 1451) (by decide +kernel)⟩
def lw_privs_5 : List (MethodName × Nat) := [(⟨"SandGuardsModel", "tellGuard", "()V"⟩, 61), (⟨"SandGuardsModel", "atPost", "()I"⟩, 61), (⟨"SandGuardsModel", "tellLaw", "()V"⟩, 61), (⟨"SandGuardsModel", "expression", "()V"⟩, 61), (⟨"SandGuardsModel", "unit", "()V"⟩, 61), (⟨"SandGuardsModel", "emit", "(II)V"⟩, 61), (⟨"SandGuardsModel", "comesOut", "(Z)V"⟩, 61), (⟨"SandGuardsModel", "term", "()V"⟩, 61), (⟨"SandGuardsModel", "tellDamp", "()V"⟩, 61), (⟨"SandGuardsModel", "begins", "()V"⟩, 61), (⟨"SandGuardsModel", "liesDown", "(I)V"⟩, 61), (⟨"SandGuardsModel", "isPost", "(I)Z"⟩, 61), (⟨"SandGuardsModel", "copies", "()V"⟩, 61), (⟨"SandGuardsModel", "flowOf", "(I)I"⟩, 61), (⟨"SandGuardsModel", "termOf", "(II)I"⟩, 61), (⟨"SandGuardsModel", "isGuard", "(I)Z"⟩, 61)]
theorem lw_r5 : ∀ q ∈ lw_privs_5, lw_okq q := List.forall_mem_cons.mpr ⟨lw_p64, List.forall_mem_cons.mpr ⟨lw_p65, List.forall_mem_cons.mpr ⟨lw_p66, List.forall_mem_cons.mpr ⟨lw_p67, List.forall_mem_cons.mpr ⟨lw_p68, List.forall_mem_cons.mpr ⟨lw_p69, List.forall_mem_cons.mpr ⟨lw_p70, List.forall_mem_cons.mpr ⟨lw_p71, List.forall_mem_cons.mpr ⟨lw_p72, List.forall_mem_cons.mpr ⟨lw_p73, List.forall_mem_cons.mpr ⟨lw_p74, List.forall_mem_cons.mpr ⟨lw_p75, List.forall_mem_cons.mpr ⟨lw_p76, List.forall_mem_cons.mpr ⟨lw_p77, List.forall_mem_cons.mpr ⟨lw_p78, List.forall_mem_cons.mpr ⟨lw_p79, fun _ h => absurd h List.not_mem_nil⟩⟩⟩⟩⟩⟩⟩⟩⟩⟩⟩⟩⟩⟩⟩⟩
theorem lw_p80 : lw_okq (⟨"SandGuardsModel", "postOf", "(I)I"⟩, 61) := ⟨⟨by decide +kernel, by decide +kernel⟩, List.mem_of_getElem? (i := 1097) (by decide +kernel), List.mem_of_getElem? (i := 1454) (by decide +kernel), List.mem_of_getElem? (i := 1455) (by decide +kernel)⟩
theorem lw_p81 : lw_okq (⟨"SandGuardsModel", "placeInBed", "(I)I"⟩, 61) := ⟨⟨by decide +kernel, by decide +kernel⟩, List.mem_of_getElem? (i := 1097) (by decide +kernel), List.mem_of_getElem? (i := 1458) (by decide +kernel), List.mem_of_getElem? (i := 1459) (by decide +kernel)⟩
theorem lw_p82 : lw_okq (⟨"SandGuardsModel", "goes", "(I)V"⟩, 61) := ⟨⟨by decide +kernel, by decide +kernel⟩, List.mem_of_getElem? (i := 1097) (by decide +kernel), List.mem_of_getElem? (i := 1466) (by decide +kernel), List.mem_of_getElem? (i := 1467) (by decide +kernel)⟩
theorem lw_p83 : lw_okq (⟨"SandGuardsModel", "minuteGoes", "()V"⟩, 61) := ⟨⟨by decide +kernel, by decide +kernel⟩, List.mem_of_getElem? (i := 1097) (by decide +kernel), List.mem_of_getElem? (i := 1470) (by decide +kernel), List.mem_of_getElem? (i := 1471) (by decide +kernel)⟩
theorem lw_p84 : lw_okq (⟨"SandGuardsModel", "runs", "()V"⟩, 61) := ⟨⟨by decide +kernel, by decide +kernel⟩, List.mem_of_getElem? (i := 1097) (by decide +kernel), List.mem_of_getElem? (i := 1474) (by decide +kernel), List.mem_of_getElem? (i := 1475) (by decide +kernel)⟩
theorem lw_p85 : lw_okq (⟨"SandGuardsModel", "relieves", "(I)V"⟩, 61) := ⟨⟨by decide +kernel, by decide +kernel⟩, List.mem_of_getElem? (i := 1097) (by decide +kernel), List.mem_of_getElem? (i := 1478) (by decide +kernel), List.mem_of_getElem? (i := 1479) (by decide +kernel)⟩
theorem lw_p86 : lw_okq (⟨"SandGuardsModel", "comes", "(II)V"⟩, 61) := ⟨⟨by decide +kernel, by decide +kernel⟩, List.mem_of_getElem? (i := 1097) (by decide +kernel), List.mem_of_getElem? (i := 1482) (by decide +kernel), List.mem_of_getElem? (i := 1483) (by decide +kernel)⟩
theorem lw_p87 : lw_okq (⟨"SandGuardsModel", "getsUp", "(I)I"⟩, 61) := ⟨⟨by decide +kernel, by decide +kernel⟩, List.mem_of_getElem? (i := 1097) (by decide +kernel), List.mem_of_getElem? (i := 1486) (by decide +kernel), List.mem_of_getElem? (i := 1487) (by decide +kernel)⟩
theorem lw_p88 : lw_okq (⟨"SandGuardsModel", "keeps", "()V"⟩, 61) := ⟨⟨by decide +kernel, by decide +kernel⟩, List.mem_of_getElem? (i := 1097) (by decide +kernel), List.mem_of_getElem? (i := 1490) (by decide +kernel), List.mem_of_getElem? (i := 1491) (by decide +kernel)⟩
theorem lw_p89 : lw_okq (⟨"SandGuardsModel", "turns", "(I)V"⟩, 61) := ⟨⟨by decide +kernel, by decide +kernel⟩, List.mem_of_getElem? (i := 1097) (by decide +kernel), List.mem_of_getElem? (i := 1498) (by decide +kernel), List.mem_of_getElem? (i := 1499) (by decide +kernel)⟩
theorem lw_p90 : lw_okq (⟨"SandGuardsModel", "sleptBy", "()I"⟩, 61) := ⟨⟨by decide +kernel, by decide +kernel⟩, List.mem_of_getElem? (i := 1097) (by decide +kernel), List.mem_of_getElem? (i := 1530) (by decide +kernel), List.mem_of_getElem? (i := 1531) (by decide +kernel)⟩
theorem lw_p91 : lw_okq (⟨"SandGuardsModel", "sleptOnes", "()I"⟩, 61) := ⟨⟨by decide +kernel, by decide +kernel⟩, List.mem_of_getElem? (i := 1097) (by decide +kernel), List.mem_of_getElem? (i := 1534) (by decide +kernel), List.mem_of_getElem? (i := 1535) (by decide +kernel)⟩
theorem lw_p92 : lw_okq (⟨"SandGuardsModel", "emptyOnes", "()I"⟩, 61) := ⟨⟨by decide +kernel, by decide +kernel⟩, List.mem_of_getElem? (i := 1097) (by decide +kernel), List.mem_of_getElem? (i := 1557) (by decide +kernel), List.mem_of_getElem? (i := 1558) (by decide +kernel)⟩
theorem lw_p93 : lw_okq (⟨"SandGuardsModel", "fillsPinches", "(II)V"⟩, 61) := ⟨⟨by decide +kernel, by decide +kernel⟩, List.mem_of_getElem? (i := 1097) (by decide +kernel), List.mem_of_getElem? (i := 1585) (by decide +kernel), List.mem_of_getElem? (i := 1586) (by decide +kernel)⟩
theorem lw_p94 : lw_okq (⟨"SandGuardsModel", "isAllowed", "(I)Z"⟩, 61) := ⟨⟨by decide +kernel, by decide +kernel⟩, List.mem_of_getElem? (i := 1097) (by decide +kernel), List.mem_of_getElem? (i := 1589) (by decide +kernel), List.mem_of_getElem? (i := 1590) (by decide +kernel)⟩
theorem lw_p95 : lw_okq (⟨"SandGuardsModel", "isResting", "(I)Z"⟩, 61) := ⟨⟨by decide +kernel, by decide +kernel⟩, List.mem_of_getElem? (i := 1097) (by decide +kernel), List.mem_of_getElem? (i := 1593) (by decide +kernel), List.mem_of_getElem? (i := 1594) (by decide +kernel)⟩
def lw_privs_6 : List (MethodName × Nat) := [(⟨"SandGuardsModel", "postOf", "(I)I"⟩, 61), (⟨"SandGuardsModel", "placeInBed", "(I)I"⟩, 61), (⟨"SandGuardsModel", "goes", "(I)V"⟩, 61), (⟨"SandGuardsModel", "minuteGoes", "()V"⟩, 61), (⟨"SandGuardsModel", "runs", "()V"⟩, 61), (⟨"SandGuardsModel", "relieves", "(I)V"⟩, 61), (⟨"SandGuardsModel", "comes", "(II)V"⟩, 61), (⟨"SandGuardsModel", "getsUp", "(I)I"⟩, 61), (⟨"SandGuardsModel", "keeps", "()V"⟩, 61), (⟨"SandGuardsModel", "turns", "(I)V"⟩, 61), (⟨"SandGuardsModel", "sleptBy", "()I"⟩, 61), (⟨"SandGuardsModel", "sleptOnes", "()I"⟩, 61), (⟨"SandGuardsModel", "emptyOnes", "()I"⟩, 61), (⟨"SandGuardsModel", "fillsPinches", "(II)V"⟩, 61), (⟨"SandGuardsModel", "isAllowed", "(I)Z"⟩, 61), (⟨"SandGuardsModel", "isResting", "(I)Z"⟩, 61)]
theorem lw_r6 : ∀ q ∈ lw_privs_6, lw_okq q := List.forall_mem_cons.mpr ⟨lw_p80, List.forall_mem_cons.mpr ⟨lw_p81, List.forall_mem_cons.mpr ⟨lw_p82, List.forall_mem_cons.mpr ⟨lw_p83, List.forall_mem_cons.mpr ⟨lw_p84, List.forall_mem_cons.mpr ⟨lw_p85, List.forall_mem_cons.mpr ⟨lw_p86, List.forall_mem_cons.mpr ⟨lw_p87, List.forall_mem_cons.mpr ⟨lw_p88, List.forall_mem_cons.mpr ⟨lw_p89, List.forall_mem_cons.mpr ⟨lw_p90, List.forall_mem_cons.mpr ⟨lw_p91, List.forall_mem_cons.mpr ⟨lw_p92, List.forall_mem_cons.mpr ⟨lw_p93, List.forall_mem_cons.mpr ⟨lw_p94, List.forall_mem_cons.mpr ⟨lw_p95, fun _ h => absurd h List.not_mem_nil⟩⟩⟩⟩⟩⟩⟩⟩⟩⟩⟩⟩⟩⟩⟩⟩
theorem lw_p96 : lw_okq (⟨"SandGuardsModel", "isSo", "(III)Z"⟩, 61) := ⟨⟨by decide +kernel, by decide +kernel⟩, List.mem_of_getElem? (i := 1097) (by decide +kernel), List.mem_of_getElem? (i := 1609) (by decide +kernel), List.mem_of_getElem? (i := 1610) (by decide +kernel)⟩
def lw_privs_7 : List (MethodName × Nat) := [(⟨"SandGuardsModel", "isSo", "(III)Z"⟩, 61)]
theorem lw_r7 : ∀ q ∈ lw_privs_7, lw_okq q := List.forall_mem_cons.mpr ⟨lw_p96, fun _ h => absurd h List.not_mem_nil⟩
def lw_privs : List (MethodName × Nat) := lw_privs_1 ++ (lw_privs_2 ++ (lw_privs_3 ++ (lw_privs_4 ++ (lw_privs_5 ++ (lw_privs_6 ++ (lw_privs_7))))))
def lw_tbl : List Cond := k2_sels lw_privs ++ tables_1
theorem lw_privs_ok : ∀ q ∈ lw_privs, lw_okq q := by
  show ∀ q ∈ lw_privs_1 ++ (lw_privs_2 ++ (lw_privs_3 ++ (lw_privs_4 ++ (lw_privs_5 ++ (lw_privs_6 ++ (lw_privs_7)))))), lw_okq q
  exact List.forall_mem_append.mpr ⟨lw_r1, List.forall_mem_append.mpr ⟨lw_r2, List.forall_mem_append.mpr ⟨lw_r3, List.forall_mem_append.mpr ⟨lw_r4, List.forall_mem_append.mpr ⟨lw_r5, List.forall_mem_append.mpr ⟨lw_r6, lw_r7⟩⟩⟩⟩⟩⟩
end
section
/-! names, field tables, kinds of fields, the objects of the world and their keys (written by wip/gen/gen02.py) -/
def R_Ca : String := "SandGuards$Castle"
def F_Ca : u_T := fun k => match k with
  | 0 => ("SandGuards$Castle", "above", "[I", true)
  | 1 => ("SandGuards$Castle", "below", "[I", true)
  | 2 => ("SandGuards$Castle", "watcher", "[I", true)
  | 3 => ("SandGuards$Castle", "dried", "[Z", true)
  | 4 => ("SandGuards$Castle", "turned", "[I", true)
  | 5 => ("SandGuards$Castle", "byHand", "[I", true)
  | 6 => ("SandGuards$Castle", "station", "[I", true)
  | 7 => ("SandGuards$Castle", "slept", "[I", true)
  | 8 => ("SandGuards$Castle", "watch", "[I", true)
  | 9 => ("SandGuards$Castle", "beddings", "[I", true)
  | 10 => ("SandGuards$Castle", "bed", "[I", true)
  | 11 => ("SandGuards$Castle", "lying", "I", false)
  | 12 => ("SandGuards$Castle", "minute", "I", false)
  | 13 => ("SandGuards$Castle", "comings", "I", false)
  | _ => ("SandGuards$Castle", "flows", "[I", true)
def t_Ca : Nat → FieldType := fun k => match k with
  | 0 => .array .int
  | 1 => .array .int
  | 2 => .array .int
  | 3 => .array .boolean
  | 4 => .array .int
  | 5 => .array .int
  | 6 => .array .int
  | 7 => .array .int
  | 8 => .array .int
  | 9 => .array .int
  | 10 => .array .int
  | 11 => .int
  | 12 => .int
  | 13 => .int
  | _ => .array .int
def R_Dr : String := "SandGuards$Dryings"
def F_Dr : u_T := fun k => match k with
  | 0 => ("SandGuards$Dryings", "firstPost", "I", false)
  | 1 => ("SandGuards$Dryings", "firstMinutes", "I", false)
  | 2 => ("SandGuards$Dryings", "twoPosts", "I", false)
  | 3 => ("SandGuards$Dryings", "twoMinutes", "I", false)
  | 4 => ("SandGuards$Dryings", "future", "LSandGuards$Castle;", true)
  | 5 => ("SandGuards$Dryings", "foundAsItIs", "I", false)
  | 6 => ("SandGuards$Dryings", "isAsItIsFound", "Z", false)
  | 7 => ("SandGuards$Dryings", "isFirstFound", "Z", false)
  | _ => ("SandGuards$Dryings", "isTwoFound", "Z", false)
def t_Dr : Nat → FieldType := fun k => match k with
  | 0 => .int
  | 1 => .int
  | 2 => .int
  | 3 => .int
  | 4 => .object "SandGuards$Castle"
  | 5 => .int
  | 6 => .boolean
  | 7 => .boolean
  | _ => .boolean
def R_Ga : String := "SandGuards$Game"
def F_Ga : u_T := fun k => match k with
  | 0 => ("SandGuards$Game", "sets", "[I", true)
  | 1 => ("SandGuards$Game", "size", "I", false)
  | 2 => ("SandGuards$Game", "isFound", "Z", false)
  | 3 => ("SandGuards$Game", "future", "LSandGuards$Castle;", true)
  | 4 => ("SandGuards$Game", "sleeps", "[I", true)
  | 5 => ("SandGuards$Game", "foundU", "I", false)
  | _ => ("SandGuards$Game", "foundN", "I", false)
def t_Ga : Nat → FieldType := fun k => match k with
  | 0 => .array .int
  | 1 => .int
  | 2 => .boolean
  | 3 => .object "SandGuards$Castle"
  | 4 => .array .int
  | 5 => .int
  | _ => .int
def R_Hi : String := "SandGuards$History"
def F_Hi : u_T := fun k => match k with
  | 0 => ("SandGuards$History", "size", "I", false)
  | 1 => ("SandGuards$History", "kept", "[LSandGuards$Castle;", true)
  | _ => ("SandGuards$History", "next", "I", false)
def t_Hi : Nat → FieldType := fun k => match k with
  | 0 => .int
  | 1 => .array (.object "SandGuards$Castle")
  | _ => .int
def R_La : String := "SandGuards$Law"
def F_La : u_T := fun k => match k with
  | 0 => ("SandGuards$Law", "isSteady", "Z", false)
  | 1 => ("SandGuards$Law", "looksAtWet", "Z", false)
  | 2 => ("SandGuards$Law", "ops", "[I", true)
  | 3 => ("SandGuards$Law", "lefts", "[I", true)
  | 4 => ("SandGuards$Law", "rights", "[I", true)
  | 5 => ("SandGuards$Law", "aims", "[I", true)
  | 6 => ("SandGuards$Law", "numbers", "[I", true)
  | 7 => ("SandGuards$Law", "steps", "I", false)
  | _ => ("SandGuards$Law", "ints", "I", false)
def t_La : Nat → FieldType := fun k => match k with
  | 0 => .boolean
  | 1 => .boolean
  | 2 => .array .int
  | 3 => .array .int
  | 4 => .array .int
  | 5 => .array .int
  | 6 => .array .int
  | 7 => .int
  | _ => .int
def R_Ou : String := "SandGuards$Outlook"
def F_Ou : u_T := fun k => match k with
  | 0 => ("SandGuards$Outlook", "future", "LSandGuards$Castle;", true)
  | 1 => ("SandGuards$Outlook", "worstPost", "I", false)
  | _ => ("SandGuards$Outlook", "worstGuards", "I", false)
def t_Ou : Nat → FieldType := fun k => match k with
  | 0 => .object "SandGuards$Castle"
  | 1 => .int
  | _ => .int
def R_Pl : String := "SandGuards$Plan"
def F_Pl : u_T := fun k => match k with
  | 0 => ("SandGuards$Plan", "neck", "[I", true)
  | 1 => ("SandGuards$Plan", "wet", "[I", true)
  | 2 => ("SandGuards$Plan", "law", "LSandGuards$Law;", true)
  | 3 => ("SandGuards$Plan", "posts", "I", false)
  | 4 => ("SandGuards$Plan", "guards", "I", false)
  | 5 => ("SandGuards$Plan", "hours", "I", false)
  | 6 => ("SandGuards$Plan", "sleep", "I", false)
  | 7 => ("SandGuards$Plan", "isDampFelt", "Z", false)
  | _ => ("SandGuards$Plan", "rates", "[I", true)
def t_Pl : Nat → FieldType := fun k => match k with
  | 0 => .array .int
  | 1 => .array .int
  | 2 => .object "SandGuards$Law"
  | 3 => .int
  | 4 => .int
  | 5 => .int
  | 6 => .int
  | 7 => .boolean
  | _ => .array .int
def R_Re : String := "SandGuards$Reader"
def F_Re : u_T := fun k => match k with
  | 0 => ("SandGuards$Reader", "plan", "LSandGuards$Plan;", true)
  | 1 => ("SandGuards$Reader", "castle", "LSandGuards$Castle;", true)
  | 2 => ("SandGuards$Reader", "place", "I", false)
  | 3 => ("SandGuards$Reader", "tokens", "LSandGuards$Tokens;", true)
  | 4 => ("SandGuards$Reader", "names", "[J", true)
  | 5 => ("SandGuards$Reader", "postNames", "[J", true)
  | 6 => ("SandGuards$Reader", "waiting", "[I", true)
  | 7 => ("SandGuards$Reader", "waits", "I", false)
  | 8 => ("SandGuards$Reader", "unitsMade", "[I", true)
  | 9 => ("SandGuards$Reader", "units", "I", false)
  | 10 => ("SandGuards$Reader", "told", "I", false)
  | 11 => ("SandGuards$Reader", "token", "I", false)
  | 12 => ("SandGuards$Reader", "fault", "I", false)
  | 13 => ("SandGuards$Reader", "number", "I", false)
  | 14 => ("SandGuards$Reader", "name", "J", false)
  | 15 => ("SandGuards$Reader", "slip", "I", false)
  | _ => ("SandGuards$Reader", "slipPlace", "I", false)
def t_Re : Nat → FieldType := fun k => match k with
  | 0 => .object "SandGuards$Plan"
  | 1 => .object "SandGuards$Castle"
  | 2 => .int
  | 3 => .object "SandGuards$Tokens"
  | 4 => .array .long
  | 5 => .array .long
  | 6 => .array .int
  | 7 => .int
  | 8 => .array .int
  | 9 => .int
  | 10 => .int
  | 11 => .int
  | 12 => .int
  | 13 => .int
  | 14 => .long
  | 15 => .int
  | _ => .int
def R_Ru : String := "SandGuards$Rumours"
def F_Ru : u_T := fun k => match k with
  | 0 => ("SandGuards$Rumours", "ways", "[I", true)
  | 1 => ("SandGuards$Rumours", "size", "I", false)
  | 2 => ("SandGuards$Rumours", "told", "I", false)
  | 3 => ("SandGuards$Rumours", "future", "LSandGuards$Castle;", true)
  | 4 => ("SandGuards$Rumours", "toldPosts", "[I", true)
  | 5 => ("SandGuards$Rumours", "toldMinutes", "[I", true)
  | 6 => ("SandGuards$Rumours", "due", "[I", true)
  | 7 => ("SandGuards$Rumours", "isFound", "Z", false)
  | 8 => ("SandGuards$Rumours", "foundMost", "I", false)
  | _ => ("SandGuards$Rumours", "foundK", "I", false)
def t_Ru : Nat → FieldType := fun k => match k with
  | 0 => .array .int
  | 1 => .int
  | 2 => .int
  | 3 => .object "SandGuards$Castle"
  | 4 => .array .int
  | 5 => .array .int
  | 6 => .array .int
  | 7 => .boolean
  | 8 => .int
  | _ => .int
def R_Ta : String := "SandGuards$Tape"
def F_Ta : u_T := fun k => match k with
  | 0 => ("SandGuards$Tape", "bytes", "[B", true)
  | _ => ("SandGuards$Tape", "size", "I", false)
def t_Ta : Nat → FieldType := fun k => match k with
  | 0 => .array .byte
  | _ => .int
def R_To : String := "SandGuards$Tokens"
def F_To : u_T := fun k => match k with
  | 0 => ("SandGuards$Tokens", "kinds", "[I", true)
  | 1 => ("SandGuards$Tokens", "places", "[I", true)
  | 2 => ("SandGuards$Tokens", "numbers", "[I", true)
  | _ => ("SandGuards$Tokens", "names", "[J", true)
def t_To : Nat → FieldType := fun k => match k with
  | 0 => .array .int
  | 1 => .array .int
  | 2 => .array .int
  | _ => .array .long
def R_Sg : String := "SandGuards"
def F_Sg : u_T := fun k => match k with
  | 0 => ("SandGuards", "tape", "LSandGuards$Tape;", true)
  | 1 => ("SandGuards", "reader", "LSandGuards$Reader;", true)
  | 2 => ("SandGuards", "plan", "LSandGuards$Plan;", true)
  | 3 => ("SandGuards", "start", "LSandGuards$Castle;", true)
  | 4 => ("SandGuards", "now", "LSandGuards$Castle;", true)
  | 5 => ("SandGuards", "history", "LSandGuards$History;", true)
  | 6 => ("SandGuards", "slots", "[LSandGuards$Castle;", true)
  | 7 => ("SandGuards", "isHeld", "[Z", true)
  | 8 => ("SandGuards", "outlook", "LSandGuards$Outlook;", true)
  | 9 => ("SandGuards", "dryings", "LSandGuards$Dryings;", true)
  | 10 => ("SandGuards", "game", "LSandGuards$Game;", true)
  | 11 => ("SandGuards", "rumours", "LSandGuards$Rumours;", true)
  | _ => ("SandGuards", "faultPlace", "I", false)
def t_Sg : Nat → FieldType := fun k => match k with
  | 0 => .object "SandGuards$Tape"
  | 1 => .object "SandGuards$Reader"
  | 2 => .object "SandGuards$Plan"
  | 3 => .object "SandGuards$Castle"
  | 4 => .object "SandGuards$Castle"
  | 5 => .object "SandGuards$History"
  | 6 => .array (.object "SandGuards$Castle")
  | 7 => .array .boolean
  | 8 => .object "SandGuards$Outlook"
  | 9 => .object "SandGuards$Dryings"
  | 10 => .object "SandGuards$Game"
  | 11 => .object "SandGuards$Rumours"
  | _ => .int
def R_Mo : String := "SandGuardsModel"
def F_Mo : u_T := fun k => match k with
  | 0 => ("SandGuardsModel", "thrown", "I", false)
  | 1 => ("SandGuardsModel", "tape", "[B", true)
  | 2 => ("SandGuardsModel", "taped", "I", false)
  | 3 => ("SandGuardsModel", "text", "[B", true)
  | 4 => ("SandGuardsModel", "size", "I", false)
  | 5 => ("SandGuardsModel", "tKind", "[I", true)
  | 6 => ("SandGuardsModel", "tPlace", "[I", true)
  | 7 => ("SandGuardsModel", "tValue", "[I", true)
  | 8 => ("SandGuardsModel", "tName", "[J", true)
  | 9 => ("SandGuardsModel", "keys", "[J", true)
  | 10 => ("SandGuardsModel", "tokens", "I", false)
  | 11 => ("SandGuardsModel", "t", "I", false)
  | 12 => ("SandGuardsModel", "open", "I", false)
  | 13 => ("SandGuardsModel", "fault", "I", false)
  | 14 => ("SandGuardsModel", "faultPlace", "I", false)
  | 15 => ("SandGuardsModel", "worst", "I", false)
  | 16 => ("SandGuardsModel", "worstPlace", "I", false)
  | 17 => ("SandGuardsModel", "place", "I", false)
  | 18 => ("SandGuardsModel", "live", "I", false)
  | 19 => ("SandGuardsModel", "side", "I", false)
  | 20 => ("SandGuardsModel", "names", "I", false)
  | 21 => ("SandGuardsModel", "nameOf", "[J", true)
  | 22 => ("SandGuardsModel", "nameSort", "[I", true)
  | 23 => ("SandGuardsModel", "nameAt", "[I", true)
  | 24 => ("SandGuardsModel", "posts", "[I", true)
  | 25 => ("SandGuardsModel", "aboveTold", "[I", true)
  | 26 => ("SandGuardsModel", "belowTold", "[I", true)
  | 27 => ("SandGuardsModel", "neck", "[I", true)
  | 28 => ("SandGuardsModel", "guardTold", "[I", true)
  | 29 => ("SandGuardsModel", "guards", "[I", true)
  | 30 => ("SandGuardsModel", "postTold", "[I", true)
  | 31 => ("SandGuardsModel", "damps", "[I", true)
  | 32 => ("SandGuardsModel", "damp", "[I", true)
  | 33 => ("SandGuardsModel", "sleep", "[I", true)
  | 34 => ("SandGuardsModel", "lawFirst", "[I", true)
  | 35 => ("SandGuardsModel", "lawLast", "[I", true)
  | 36 => ("SandGuardsModel", "branches", "I", false)
  | 37 => ("SandGuardsModel", "hasTest", "[Z", true)
  | 38 => ("SandGuardsModel", "testFrom", "[I", true)
  | 39 => ("SandGuardsModel", "testMid", "[I", true)
  | 40 => ("SandGuardsModel", "testTo", "[I", true)
  | 41 => ("SandGuardsModel", "termTo", "[I", true)
  | 42 => ("SandGuardsModel", "codes", "I", false)
  | 43 => ("SandGuardsModel", "code", "[I", true)
  | 44 => ("SandGuardsModel", "codeInt", "[I", true)
  | 45 => ("SandGuardsModel", "waits", "[I", true)
  | 46 => ("SandGuardsModel", "waiting", "I", false)
  | 47 => ("SandGuardsModel", "variables", "[I", true)
  | 48 => ("SandGuardsModel", "pile", "[I", true)
  | 49 => ("SandGuardsModel", "isBroken", "Z", false)
  | 50 => ("SandGuardsModel", "now", "[I", true)
  | 51 => ("SandGuardsModel", "row", "[I", true)
  | 52 => ("SandGuardsModel", "undos", "I", false)
  | 53 => ("SandGuardsModel", "history", "[I", true)
  | 54 => ("SandGuardsModel", "sleptThen", "[I", true)
  | 55 => ("SandGuardsModel", "told", "I", false)
  | 56 => ("SandGuardsModel", "toldPost", "[I", true)
  | 57 => ("SandGuardsModel", "toldMinute", "[I", true)
  | 58 => ("SandGuardsModel", "turnedBy", "[I", true)
  | 59 => ("SandGuardsModel", "isHeld", "[Z", true)
  | _ => ("SandGuardsModel", "held", "[I", true)
def t_Mo : Nat → FieldType := fun k => match k with
  | 0 => .int
  | 1 => .array .byte
  | 2 => .int
  | 3 => .array .byte
  | 4 => .int
  | 5 => .array .int
  | 6 => .array .int
  | 7 => .array .int
  | 8 => .array .long
  | 9 => .array .long
  | 10 => .int
  | 11 => .int
  | 12 => .int
  | 13 => .int
  | 14 => .int
  | 15 => .int
  | 16 => .int
  | 17 => .int
  | 18 => .int
  | 19 => .int
  | 20 => .int
  | 21 => .array .long
  | 22 => .array .int
  | 23 => .array .int
  | 24 => .array .int
  | 25 => .array .int
  | 26 => .array .int
  | 27 => .array .int
  | 28 => .array .int
  | 29 => .array .int
  | 30 => .array .int
  | 31 => .array .int
  | 32 => .array .int
  | 33 => .array .int
  | 34 => .array .int
  | 35 => .array .int
  | 36 => .int
  | 37 => .array .boolean
  | 38 => .array .int
  | 39 => .array .int
  | 40 => .array .int
  | 41 => .array .int
  | 42 => .int
  | 43 => .array .int
  | 44 => .array .int
  | 45 => .array .int
  | 46 => .int
  | 47 => .array .int
  | 48 => .array .int
  | 49 => .boolean
  | 50 => .array .int
  | 51 => .array .int
  | 52 => .int
  | 53 => .array .int
  | 54 => .array .int
  | 55 => .int
  | 56 => .array .int
  | 57 => .array .int
  | 58 => .array .int
  | 59 => .array .boolean
  | _ => .array .int
abbrev classes : List vw_C := [(R_Ca, F_Ca, 15), (R_Dr, F_Dr, 9), (R_Ga, F_Ga, 7), (R_Hi, F_Hi, 3), (R_La, F_La, 9), (R_Ou, F_Ou, 3), (R_Pl, F_Pl, 9), (R_Re, F_Re, 17), (R_Ru, F_Ru, 10), (R_Ta, F_Ta, 2), (R_To, F_To, 4), (R_Sg, F_Sg, 13), (R_Mo, F_Mo, 61)]
theorem n_Ca : ∀ a, a < 15 → ∀ b, b < 15 → a ≠ b → (F_Ca a).2.1 ≠ (F_Ca b).2.1 := by decide +kernel
theorem t_Ca_ok : ∀ k, k < 15 → parseFieldDescriptor (F_Ca k).2.2.1 = some (t_Ca k) := by decide +kernel
theorem i_Ca : ∀ w ∈ u_ws R_Ca F_Ca 15, w ∈ lw_tbl := by decide +kernel
theorem o_Ca : ∀ k, k < 15 → (F_Ca k).1 = R_Ca := by decide +kernel
theorem n_Dr : ∀ a, a < 9 → ∀ b, b < 9 → a ≠ b → (F_Dr a).2.1 ≠ (F_Dr b).2.1 := by decide +kernel
theorem t_Dr_ok : ∀ k, k < 9 → parseFieldDescriptor (F_Dr k).2.2.1 = some (t_Dr k) := by decide +kernel
theorem i_Dr : ∀ w ∈ u_ws R_Dr F_Dr 9, w ∈ lw_tbl := by decide +kernel
theorem o_Dr : ∀ k, k < 9 → (F_Dr k).1 = R_Dr := by decide +kernel
theorem n_Ga : ∀ a, a < 7 → ∀ b, b < 7 → a ≠ b → (F_Ga a).2.1 ≠ (F_Ga b).2.1 := by decide +kernel
theorem t_Ga_ok : ∀ k, k < 7 → parseFieldDescriptor (F_Ga k).2.2.1 = some (t_Ga k) := by decide +kernel
theorem i_Ga : ∀ w ∈ u_ws R_Ga F_Ga 7, w ∈ lw_tbl := by decide +kernel
theorem o_Ga : ∀ k, k < 7 → (F_Ga k).1 = R_Ga := by decide +kernel
theorem n_Hi : ∀ a, a < 3 → ∀ b, b < 3 → a ≠ b → (F_Hi a).2.1 ≠ (F_Hi b).2.1 := by decide +kernel
theorem t_Hi_ok : ∀ k, k < 3 → parseFieldDescriptor (F_Hi k).2.2.1 = some (t_Hi k) := by decide +kernel
theorem i_Hi : ∀ w ∈ u_ws R_Hi F_Hi 3, w ∈ lw_tbl := by decide +kernel
theorem o_Hi : ∀ k, k < 3 → (F_Hi k).1 = R_Hi := by decide +kernel
theorem n_La : ∀ a, a < 9 → ∀ b, b < 9 → a ≠ b → (F_La a).2.1 ≠ (F_La b).2.1 := by decide +kernel
theorem t_La_ok : ∀ k, k < 9 → parseFieldDescriptor (F_La k).2.2.1 = some (t_La k) := by decide +kernel
theorem i_La : ∀ w ∈ u_ws R_La F_La 9, w ∈ lw_tbl := by decide +kernel
theorem o_La : ∀ k, k < 9 → (F_La k).1 = R_La := by decide +kernel
theorem n_Ou : ∀ a, a < 3 → ∀ b, b < 3 → a ≠ b → (F_Ou a).2.1 ≠ (F_Ou b).2.1 := by decide +kernel
theorem t_Ou_ok : ∀ k, k < 3 → parseFieldDescriptor (F_Ou k).2.2.1 = some (t_Ou k) := by decide +kernel
theorem i_Ou : ∀ w ∈ u_ws R_Ou F_Ou 3, w ∈ lw_tbl := by decide +kernel
theorem o_Ou : ∀ k, k < 3 → (F_Ou k).1 = R_Ou := by decide +kernel
theorem n_Pl : ∀ a, a < 9 → ∀ b, b < 9 → a ≠ b → (F_Pl a).2.1 ≠ (F_Pl b).2.1 := by decide +kernel
theorem t_Pl_ok : ∀ k, k < 9 → parseFieldDescriptor (F_Pl k).2.2.1 = some (t_Pl k) := by decide +kernel
theorem i_Pl : ∀ w ∈ u_ws R_Pl F_Pl 9, w ∈ lw_tbl := by decide +kernel
theorem o_Pl : ∀ k, k < 9 → (F_Pl k).1 = R_Pl := by decide +kernel
theorem n_Re : ∀ a, a < 17 → ∀ b, b < 17 → a ≠ b → (F_Re a).2.1 ≠ (F_Re b).2.1 := by decide +kernel
theorem t_Re_ok : ∀ k, k < 17 → parseFieldDescriptor (F_Re k).2.2.1 = some (t_Re k) := by decide +kernel
theorem i_Re : ∀ w ∈ u_ws R_Re F_Re 17, w ∈ lw_tbl := by decide +kernel
theorem o_Re : ∀ k, k < 17 → (F_Re k).1 = R_Re := by decide +kernel
theorem n_Ru : ∀ a, a < 10 → ∀ b, b < 10 → a ≠ b → (F_Ru a).2.1 ≠ (F_Ru b).2.1 := by decide +kernel
theorem t_Ru_ok : ∀ k, k < 10 → parseFieldDescriptor (F_Ru k).2.2.1 = some (t_Ru k) := by decide +kernel
theorem i_Ru : ∀ w ∈ u_ws R_Ru F_Ru 10, w ∈ lw_tbl := by decide +kernel
theorem o_Ru : ∀ k, k < 10 → (F_Ru k).1 = R_Ru := by decide +kernel
theorem n_Ta : ∀ a, a < 2 → ∀ b, b < 2 → a ≠ b → (F_Ta a).2.1 ≠ (F_Ta b).2.1 := by decide +kernel
theorem t_Ta_ok : ∀ k, k < 2 → parseFieldDescriptor (F_Ta k).2.2.1 = some (t_Ta k) := by decide +kernel
theorem i_Ta : ∀ w ∈ u_ws R_Ta F_Ta 2, w ∈ lw_tbl := by decide +kernel
theorem o_Ta : ∀ k, k < 2 → (F_Ta k).1 = R_Ta := by decide +kernel
theorem n_To : ∀ a, a < 4 → ∀ b, b < 4 → a ≠ b → (F_To a).2.1 ≠ (F_To b).2.1 := by decide +kernel
theorem t_To_ok : ∀ k, k < 4 → parseFieldDescriptor (F_To k).2.2.1 = some (t_To k) := by decide +kernel
theorem i_To : ∀ w ∈ u_ws R_To F_To 4, w ∈ lw_tbl := by decide +kernel
theorem o_To : ∀ k, k < 4 → (F_To k).1 = R_To := by decide +kernel
theorem n_Sg : ∀ a, a < 13 → ∀ b, b < 13 → a ≠ b → (F_Sg a).2.1 ≠ (F_Sg b).2.1 := by decide +kernel
theorem t_Sg_ok : ∀ k, k < 13 → parseFieldDescriptor (F_Sg k).2.2.1 = some (t_Sg k) := by decide +kernel
theorem i_Sg : ∀ w ∈ u_ws R_Sg F_Sg 13, w ∈ lw_tbl := by decide +kernel
theorem o_Sg : ∀ k, k < 13 → (F_Sg k).1 = R_Sg := by decide +kernel
theorem n_Mo : ∀ a, a < 61 → ∀ b, b < 61 → a ≠ b → (F_Mo a).2.1 ≠ (F_Mo b).2.1 := by decide +kernel
theorem t_Mo_ok : ∀ k, k < 61 → parseFieldDescriptor (F_Mo k).2.2.1 = some (t_Mo k) := by decide +kernel
theorem i_Mo : ∀ w ∈ u_ws R_Mo F_Mo 61, w ∈ lw_tbl := by decide +kernel
theorem o_Mo : ∀ k, k < 61 → (F_Mo k).1 = R_Mo := by decide +kernel
/-- kinds: 0 int, 1 boolean, 2 long, 3 int[], 4 boolean[], 5 byte[], 6 long[], 7 an object, 8 Castle[] -/
def kdT : List (List Nat) := [[3, 3, 3, 4, 3, 3, 3, 3, 3, 3, 3, 0, 0, 0, 3], [0, 0, 0, 0, 7, 0, 1, 1, 1], [3, 0, 1, 7, 3, 0, 0], [0, 8, 0], [1, 1, 3, 3, 3, 3, 3, 0, 0], [7, 0, 0], [3, 3, 7, 0, 0, 0, 0, 1, 3], [7, 7, 0, 7, 6, 6, 3, 0, 3, 0, 0, 0, 0, 0, 2, 0, 0], [3, 0, 0, 7, 3, 3, 3, 1, 0, 0], [5, 0], [3, 3, 3, 6], [7, 7, 7, 7, 7, 7, 8, 4, 7, 7, 7, 7, 0], [0, 5, 0, 5, 0, 3, 3, 3, 6, 6, 0, 0, 0, 0, 0, 0, 0, 0, 0, 0, 0, 6, 3, 3, 3, 3, 3, 3, 3, 3, 3, 3, 3, 3, 3, 3, 0, 4, 3, 3, 3, 3, 0, 3, 3, 3, 0, 3, 3, 1, 3, 3, 0, 3, 3, 0, 3, 3, 3, 4, 3]]
def lnT : List (List Nat) := [[8, 8, 8, 8, 8, 8, 12, 12, 12, 12, 12, 0, 0, 0, 8], [0, 0, 0, 0, 0, 0, 0, 0, 0], [256, 0, 0, 0, 2048, 0, 0], [0, 40, 0], [0, 0, 400, 400, 400, 400, 806, 0, 0], [0, 0, 0], [8, 25, 0, 0, 0, 0, 0, 0, 200], [0, 0, 0, 0, 20, 8, 21, 0, 21, 0, 0, 0, 0, 0, 0, 0, 0], [1601, 0, 0, 0, 20, 20, 2001, 0, 0, 0], [2000, 0], [402, 402, 402, 402], [0, 0, 0, 0, 0, 0, 3, 3, 0, 0, 0, 0, 0], [0, 2000, 0, 2000, 0, 403, 403, 403, 403, 14, 0, 0, 0, 0, 0, 0, 0, 0, 0, 0, 0, 20, 20, 20, 2, 16, 16, 16, 16, 2, 24, 2, 48, 2, 2, 2, 0, 260, 260, 260, 260, 260, 0, 840, 840, 64, 0, 6, 400, 0, 100, 100, 0, 4000, 3072, 0, 20, 20, 8, 3, 300]]
def kd (ci f : Nat) : Nat := (kdT.getD ci []).getD f 99
def ln (ci f : Nat) : Nat := (lnT.getD ci []).getD f 0
def nf (ci : Nat) : Nat := (kdT.getD ci []).length
def cls (o : Nat) : Nat := if o < 14 then ([11, 12, 9, 7, 6, 4, 10, 6, 4, 3, 5, 1, 2, 8] : List Nat).getD o 0 else 0
/-- to which object a field points (an array of objects: to the first of them) -/
def fo (o f : Nat) : Nat := match o, f with
  | 0, 0 => 2
  | 0, 1 => 3
  | 0, 2 => 7
  | 0, 3 => 17
  | 0, 4 => 18
  | 0, 5 => 9
  | 0, 6 => 23
  | 0, 8 => 10
  | 0, 9 => 11
  | 0, 10 => 12
  | 0, 11 => 13
  | 3, 0 => 4
  | 3, 1 => 16
  | 3, 3 => 6
  | 4, 2 => 5
  | 7, 2 => 8
  | 9, 1 => 32
  | 10, 0 => 19
  | 11, 4 => 20
  | 12, 3 => 21
  | 13, 3 => 22
  | _, _ => 0
def castles : List Nat := List.range' 16 10 ++ List.range' 32 40
def objs : List Nat := List.range 14 ++ castles
def isArr (k : Nat) : Bool := k == 3 || k == 4 || k == 5 || k == 6 || k == 8
def arrF (ci : Nat) : List Nat := (List.range (nf ci)).filter (fun f => isArr (kd ci f))
def kys : List (Nat × Nat) := objs.flatMap (fun o => (o, 0) :: (arrF (cls o)).map (fun f => (o, f + 1)))
end
