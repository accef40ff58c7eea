section
-- ===== PART A: goes FIRST, ahead of the names: the tables' words, and 'selects' of the private methods out of them =====
/-- a private method of a class that the tables say can be made, by its rows of tables_1 -/
def lw_okq (q : MethodName × Nat) : Prop := (q.1.cls ≠ "java/lang/invoke/MethodHandle" ∧ q.1.cls ≠ "java/lang/invoke/VarHandle") ∧ Cond.instantiable q.1.cls q.2 ∈ tables_1 ∧ Cond.privateMethod q.1 ∈ tables_1 ∧ Cond.instanceMethod q.1 ∈ tables_1
theorem lw_p0 : lw_okq (⟨"SandGuards$Tokens", "addToken", "(LSandGuards$Tape;II)I"⟩, 4) := ⟨⟨by decide +kernel, by decide +kernel⟩, List.mem_of_getElem? (i := 231) (by decide +kernel), List.mem_of_getElem? (i := 545) (by decide +kernel), List.mem_of_getElem? (i := 546) (by decide +kernel)⟩
theorem lw_p1 : lw_okq (⟨"SandGuards$Tokens", "addWord", "(LSandGuards$Tape;II)I"⟩, 4) := ⟨⟨by decide +kernel, by decide +kernel⟩, List.mem_of_getElem? (i := 231) (by decide +kernel), List.mem_of_getElem? (i := 552) (by decide +kernel), List.mem_of_getElem? (i := 553) (by decide +kernel)⟩
theorem lw_p2 : lw_okq (⟨"SandGuards$Tokens", "addNumber", "(LSandGuards$Tape;II)I"⟩, 4) := ⟨⟨by decide +kernel, by decide +kernel⟩, List.mem_of_getElem? (i := 231) (by decide +kernel), List.mem_of_getElem? (i := 564) (by decide +kernel), List.mem_of_getElem? (i := 565) (by decide +kernel)⟩
theorem lw_p3 : lw_okq (⟨"SandGuards$Reader", "kind", "()I"⟩, 17) := ⟨⟨by decide +kernel, by decide +kernel⟩, List.mem_of_getElem? (i := 42) (by decide +kernel), List.mem_of_getElem? (i := 584) (by decide +kernel), List.mem_of_getElem? (i := 585) (by decide +kernel)⟩
theorem lw_p4 : lw_okq (⟨"SandGuards$Reader", "takeTell", "()Z"⟩, 17) := ⟨⟨by decide +kernel, by decide +kernel⟩, List.mem_of_getElem? (i := 42) (by decide +kernel), List.mem_of_getElem? (i := 588) (by decide +kernel), List.mem_of_getElem? (i := 589) (by decide +kernel)⟩
theorem lw_p5 : lw_okq (⟨"SandGuards$Reader", "takePost", "()Z"⟩, 17) := ⟨⟨by decide +kernel, by decide +kernel⟩, List.mem_of_getElem? (i := 42) (by decide +kernel), List.mem_of_getElem? (i := 592) (by decide +kernel), List.mem_of_getElem? (i := 593) (by decide +kernel)⟩
theorem lw_p6 : lw_okq (⟨"SandGuards$Reader", "refuse", "(I)Z"⟩, 17) := ⟨⟨by decide +kernel, by decide +kernel⟩, List.mem_of_getElem? (i := 42) (by decide +kernel), List.mem_of_getElem? (i := 596) (by decide +kernel), List.mem_of_getElem? (i := 597) (by decide +kernel)⟩
theorem lw_p7 : lw_okq (⟨"SandGuards$Reader", "take", "(I)Z"⟩, 17) := ⟨⟨by decide +kernel, by decide +kernel⟩, List.mem_of_getElem? (i := 42) (by decide +kernel), List.mem_of_getElem? (i := 600) (by decide +kernel), List.mem_of_getElem? (i := 601) (by decide +kernel)⟩
theorem lw_p8 : lw_okq (⟨"SandGuards$Reader", "takeNewName", "()Z"⟩, 17) := ⟨⟨by decide +kernel, by decide +kernel⟩, List.mem_of_getElem? (i := 42) (by decide +kernel), List.mem_of_getElem? (i := 604) (by decide +kernel), List.mem_of_getElem? (i := 605) (by decide +kernel)⟩
theorem lw_p9 : lw_okq (⟨"SandGuards$Reader", "note", "(II)V"⟩, 17) := ⟨⟨by decide +kernel, by decide +kernel⟩, List.mem_of_getElem? (i := 42) (by decide +kernel), List.mem_of_getElem? (i := 608) (by decide +kernel), List.mem_of_getElem? (i := 609) (by decide +kernel)⟩
theorem lw_p10 : lw_okq (⟨"SandGuards$Reader", "takeInt", "(I)Z"⟩, 17) := ⟨⟨by decide +kernel, by decide +kernel⟩, List.mem_of_getElem? (i := 42) (by decide +kernel), List.mem_of_getElem? (i := 612) (by decide +kernel), List.mem_of_getElem? (i := 613) (by decide +kernel)⟩
theorem lw_p11 : lw_okq (⟨"SandGuards$Reader", "takeGuard", "()Z"⟩, 17) := ⟨⟨by decide +kernel, by decide +kernel⟩, List.mem_of_getElem? (i := 42) (by decide +kernel), List.mem_of_getElem? (i := 616) (by decide +kernel), List.mem_of_getElem? (i := 617) (by decide +kernel)⟩
theorem lw_p12 : lw_okq (⟨"SandGuards$Reader", "takePostOf", "(I)Z"⟩, 17) := ⟨⟨by decide +kernel, by decide +kernel⟩, List.mem_of_getElem? (i := 42) (by decide +kernel), List.mem_of_getElem? (i := 624) (by decide +kernel), List.mem_of_getElem? (i := 625) (by decide +kernel)⟩
theorem lw_p13 : lw_okq (⟨"SandGuards$Reader", "postNamed", "(J)I"⟩, 17) := ⟨⟨by decide +kernel, by decide +kernel⟩, List.mem_of_getElem? (i := 42) (by decide +kernel), List.mem_of_getElem? (i := 628) (by decide +kernel), List.mem_of_getElem? (i := 629) (by decide +kernel)⟩
theorem lw_p14 : lw_okq (⟨"SandGuards$Reader", "takeFlow", "()Z"⟩, 17) := ⟨⟨by decide +kernel, by decide +kernel⟩, List.mem_of_getElem? (i := 42) (by decide +kernel), List.mem_of_getElem? (i := 636) (by decide +kernel), List.mem_of_getElem? (i := 637) (by decide +kernel)⟩
theorem lw_p15 : lw_okq (⟨"SandGuards$Reader", "takeIf", "()Z"⟩, 17) := ⟨⟨by decide +kernel, by decide +kernel⟩, List.mem_of_getElem? (i := 42) (by decide +kernel), List.mem_of_getElem? (i := 641) (by decide +kernel), List.mem_of_getElem? (i := 642) (by decide +kernel)⟩
def lw_privs_1 : List (MethodName × Nat) := [(⟨"SandGuards$Tokens", "addToken", "(LSandGuards$Tape;II)I"⟩, 4), (⟨"SandGuards$Tokens", "addWord", "(LSandGuards$Tape;II)I"⟩, 4), (⟨"SandGuards$Tokens", "addNumber", "(LSandGuards$Tape;II)I"⟩, 4), (⟨"SandGuards$Reader", "kind", "()I"⟩, 17), (⟨"SandGuards$Reader", "takeTell", "()Z"⟩, 17), (⟨"SandGuards$Reader", "takePost", "()Z"⟩, 17), (⟨"SandGuards$Reader", "refuse", "(I)Z"⟩, 17), (⟨"SandGuards$Reader", "take", "(I)Z"⟩, 17), (⟨"SandGuards$Reader", "takeNewName", "()Z"⟩, 17), (⟨"SandGuards$Reader", "note", "(II)V"⟩, 17), (⟨"SandGuards$Reader", "takeInt", "(I)Z"⟩, 17), (⟨"SandGuards$Reader", "takeGuard", "()Z"⟩, 17), (⟨"SandGuards$Reader", "takePostOf", "(I)Z"⟩, 17), (⟨"SandGuards$Reader", "postNamed", "(J)I"⟩, 17), (⟨"SandGuards$Reader", "takeFlow", "()Z"⟩, 17), (⟨"SandGuards$Reader", "takeIf", "()Z"⟩, 17)]
theorem lw_r1 : ∀ q ∈ lw_privs_1, lw_okq q := List.forall_mem_cons.mpr ⟨lw_p0, List.forall_mem_cons.mpr ⟨lw_p1, List.forall_mem_cons.mpr ⟨lw_p2, List.forall_mem_cons.mpr ⟨lw_p3, List.forall_mem_cons.mpr ⟨lw_p4, List.forall_mem_cons.mpr ⟨lw_p5, List.forall_mem_cons.mpr ⟨lw_p6, List.forall_mem_cons.mpr ⟨lw_p7, List.forall_mem_cons.mpr ⟨lw_p8, List.forall_mem_cons.mpr ⟨lw_p9, List.forall_mem_cons.mpr ⟨lw_p10, List.forall_mem_cons.mpr ⟨lw_p11, List.forall_mem_cons.mpr ⟨lw_p12, List.forall_mem_cons.mpr ⟨lw_p13, List.forall_mem_cons.mpr ⟨lw_p14, List.forall_mem_cons.mpr ⟨lw_p15, fun _ h => absurd h List.not_mem_nil⟩⟩⟩⟩⟩⟩⟩⟩⟩⟩⟩⟩⟩⟩⟩⟩
theorem lw_p16 : lw_okq (⟨"SandGuards$Reader", "takeSum", "()Z"⟩, 17) := ⟨⟨by decide +kernel, by decide +kernel⟩, List.mem_of_getElem? (i := 42) (by decide +kernel), List.mem_of_getElem? (i := 645) (by decide +kernel), List.mem_of_getElem? (i := 646) (by decide +kernel)⟩
theorem lw_p17 : lw_okq (⟨"SandGuards$Reader", "letWait", "(I)V"⟩, 17) := ⟨⟨by decide +kernel, by decide +kernel⟩, List.mem_of_getElem? (i := 42) (by decide +kernel), List.mem_of_getElem? (i := 649) (by decide +kernel), List.mem_of_getElem? (i := 650) (by decide +kernel)⟩
theorem lw_p18 : lw_okq (⟨"SandGuards$Reader", "addUnit", "(I)Z"⟩, 17) := ⟨⟨by decide +kernel, by decide +kernel⟩, List.mem_of_getElem? (i := 42) (by decide +kernel), List.mem_of_getElem? (i := 653) (by decide +kernel), List.mem_of_getElem? (i := 654) (by decide +kernel)⟩
theorem lw_p19 : lw_okq (⟨"SandGuards$Reader", "pushUnit", "(I)V"⟩, 17) := ⟨⟨by decide +kernel, by decide +kernel⟩, List.mem_of_getElem? (i := 42) (by decide +kernel), List.mem_of_getElem? (i := 661) (by decide +kernel), List.mem_of_getElem? (i := 662) (by decide +kernel)⟩
theorem lw_p20 : lw_okq (⟨"SandGuards$Reader", "release", "(I)V"⟩, 17) := ⟨⟨by decide +kernel, by decide +kernel⟩, List.mem_of_getElem? (i := 42) (by decide +kernel), List.mem_of_getElem? (i := 672) (by decide +kernel), List.mem_of_getElem? (i := 673) (by decide +kernel)⟩
theorem lw_p21 : lw_okq (⟨"SandGuards$Reader", "popUnit", "()I"⟩, 17) := ⟨⟨by decide +kernel, by decide +kernel⟩, List.mem_of_getElem? (i := 42) (by decide +kernel), List.mem_of_getElem? (i := 676) (by decide +kernel), List.mem_of_getElem? (i := 677) (by decide +kernel)⟩
theorem lw_p22 : lw_okq (⟨"SandGuards$Reader", "addEnd", "()V"⟩, 17) := ⟨⟨by decide +kernel, by decide +kernel⟩, List.mem_of_getElem? (i := 42) (by decide +kernel), List.mem_of_getElem? (i := 684) (by decide +kernel), List.mem_of_getElem? (i := 685) (by decide +kernel)⟩
theorem lw_p23 : lw_okq (⟨"SandGuards$Reader", "takeDamp", "()Z"⟩, 17) := ⟨⟨by decide +kernel, by decide +kernel⟩, List.mem_of_getElem? (i := 42) (by decide +kernel), List.mem_of_getElem? (i := 692) (by decide +kernel), List.mem_of_getElem? (i := 693) (by decide +kernel)⟩
theorem lw_p24 : lw_okq (⟨"SandGuards$Reader", "takeSleep", "()Z"⟩, 17) := ⟨⟨by decide +kernel, by decide +kernel⟩, List.mem_of_getElem? (i := 42) (by decide +kernel), List.mem_of_getElem? (i := 696) (by decide +kernel), List.mem_of_getElem? (i := 697) (by decide +kernel)⟩
theorem lw_p25 : lw_okq (⟨"SandGuards", "beginAnew", "()V"⟩, 13) := ⟨⟨by decide +kernel, by decide +kernel⟩, List.mem_of_getElem? (i := 17) (by decide +kernel), List.mem_of_getElem? (i := 708) (by decide +kernel), List.mem_of_getElem? (i := 709) (by decide +kernel)⟩
theorem lw_p26 : lw_okq (⟨"SandGuards", "noteChange", "()V"⟩, 13) := ⟨⟨by decide +kernel, by decide +kernel⟩, List.mem_of_getElem? (i := 17) (by decide +kernel), List.mem_of_getElem? (i := 733) (by decide +kernel), List.mem_of_getElem? (i := 734) (by decide +kernel)⟩
theorem lw_p27 : lw_okq (⟨"SandGuards", "isPost", "(I)Z"⟩, 13) := ⟨⟨by decide +kernel, by decide +kernel⟩, List.mem_of_getElem? (i := 17) (by decide +kernel), List.mem_of_getElem? (i := 749) (by decide +kernel), List.mem_of_getElem? (i := 750) (by decide +kernel)⟩
theorem lw_p28 : lw_okq (⟨"SandGuards", "isGuard", "(I)Z"⟩, 13) := ⟨⟨by decide +kernel, by decide +kernel⟩, List.mem_of_getElem? (i := 17) (by decide +kernel), List.mem_of_getElem? (i := 765) (by decide +kernel), List.mem_of_getElem? (i := 766) (by decide +kernel)⟩
theorem lw_p29 : lw_okq (⟨"SandGuards", "beginThing", "()V"⟩, 13) := ⟨⟨by decide +kernel, by decide +kernel⟩, List.mem_of_getElem? (i := 17) (by decide +kernel), List.mem_of_getElem? (i := 777) (by decide +kernel), List.mem_of_getElem? (i := 778) (by decide +kernel)⟩
theorem lw_p30 : lw_okq (⟨"SandGuards$Castle", "lookAhead", "(LSandGuards$Plan;I)I"⟩, 15) := ⟨⟨by decide +kernel, by decide +kernel⟩, List.mem_of_getElem? (i := 144) (by decide +kernel), List.mem_of_getElem? (i := 798) (by decide +kernel), List.mem_of_getElem? (i := 799) (by decide +kernel)⟩
theorem lw_p31 : lw_okq (⟨"SandGuards$Castle", "quietAt", "(IIZ)I"⟩, 15) := ⟨⟨by decide +kernel, by decide +kernel⟩, List.mem_of_getElem? (i := 144) (by decide +kernel), List.mem_of_getElem? (i := 804) (by decide +kernel), List.mem_of_getElem? (i := 805) (by decide +kernel)⟩
def lw_privs_2 : List (MethodName × Nat) := [(⟨"SandGuards$Reader", "takeSum", "()Z"⟩, 17), (⟨"SandGuards$Reader", "letWait", "(I)V"⟩, 17), (⟨"SandGuards$Reader", "addUnit", "(I)Z"⟩, 17), (⟨"SandGuards$Reader", "pushUnit", "(I)V"⟩, 17), (⟨"SandGuards$Reader", "release", "(I)V"⟩, 17), (⟨"SandGuards$Reader", "popUnit", "()I"⟩, 17), (⟨"SandGuards$Reader", "addEnd", "()V"⟩, 17), (⟨"SandGuards$Reader", "takeDamp", "()Z"⟩, 17), (⟨"SandGuards$Reader", "takeSleep", "()Z"⟩, 17), (⟨"SandGuards", "beginAnew", "()V"⟩, 13), (⟨"SandGuards", "noteChange", "()V"⟩, 13), (⟨"SandGuards", "isPost", "(I)Z"⟩, 13), (⟨"SandGuards", "isGuard", "(I)Z"⟩, 13), (⟨"SandGuards", "beginThing", "()V"⟩, 13), (⟨"SandGuards$Castle", "lookAhead", "(LSandGuards$Plan;I)I"⟩, 15), (⟨"SandGuards$Castle", "quietAt", "(IIZ)I"⟩, 15)]
theorem lw_r2 : ∀ q ∈ lw_privs_2, lw_okq q := List.forall_mem_cons.mpr ⟨lw_p16, List.forall_mem_cons.mpr ⟨lw_p17, List.forall_mem_cons.mpr ⟨lw_p18, List.forall_mem_cons.mpr ⟨lw_p19, List.forall_mem_cons.mpr ⟨lw_p20, List.forall_mem_cons.mpr ⟨lw_p21, List.forall_mem_cons.mpr ⟨lw_p22, List.forall_mem_cons.mpr ⟨lw_p23, List.forall_mem_cons.mpr ⟨lw_p24, List.forall_mem_cons.mpr ⟨lw_p25, List.forall_mem_cons.mpr ⟨lw_p26, List.forall_mem_cons.mpr ⟨lw_p27, List.forall_mem_cons.mpr ⟨lw_p28, List.forall_mem_cons.mpr ⟨lw_p29, List.forall_mem_cons.mpr ⟨lw_p30, List.forall_mem_cons.mpr ⟨lw_p31, fun _ h => absurd h List.not_mem_nil⟩⟩⟩⟩⟩⟩⟩⟩⟩⟩⟩⟩⟩⟩⟩⟩
theorem lw_p32 : lw_okq (⟨"SandGuards$Castle", "comer", "(II)I"⟩, 15) := ⟨⟨by decide +kernel, by decide +kernel⟩, List.mem_of_getElem? (i := 144) (by decide +kernel), List.mem_of_getElem? (i := 808) (by decide +kernel), List.mem_of_getElem? (i := 809) (by decide +kernel)⟩
theorem lw_p33 : lw_okq (⟨"SandGuards$Castle", "countMinutes", "(II)V"⟩, 15) := ⟨⟨by decide +kernel, by decide +kernel⟩, List.mem_of_getElem? (i := 144) (by decide +kernel), List.mem_of_getElem? (i := 820) (by decide +kernel), List.mem_of_getElem? (i := 821) (by decide +kernel)⟩
theorem lw_p34 : lw_okq (⟨"SandGuards$Castle", "relieveAll", "(I)V"⟩, 15) := ⟨⟨by decide +kernel, by decide +kernel⟩, List.mem_of_getElem? (i := 144) (by decide +kernel), List.mem_of_getElem? (i := 824) (by decide +kernel), List.mem_of_getElem? (i := 825) (by decide +kernel)⟩
theorem lw_p35 : lw_okq (⟨"SandGuards$Castle", "relieve", "(II)V"⟩, 15) := ⟨⟨by decide +kernel, by decide +kernel⟩, List.mem_of_getElem? (i := 144) (by decide +kernel), List.mem_of_getElem? (i := 828) (by decide +kernel), List.mem_of_getElem? (i := 829) (by decide +kernel)⟩
theorem lw_p36 : lw_okq (⟨"SandGuards$Castle", "fillAll", "(I)V"⟩, 15) := ⟨⟨by decide +kernel, by decide +kernel⟩, List.mem_of_getElem? (i := 144) (by decide +kernel), List.mem_of_getElem? (i := 838) (by decide +kernel), List.mem_of_getElem? (i := 839) (by decide +kernel)⟩
theorem lw_p37 : lw_okq (⟨"SandGuards$Dryings", "soonest", "(LSandGuards$Plan;I)I"⟩, 9) := ⟨⟨by decide +kernel, by decide +kernel⟩, List.mem_of_getElem? (i := 355) (by decide +kernel), List.mem_of_getElem? (i := 901) (by decide +kernel), List.mem_of_getElem? (i := 902) (by decide +kernel)⟩
theorem lw_p38 : lw_okq (⟨"SandGuards$Dryings", "tryOne", "(LSandGuards$Plan;LSandGuards$Castle;I)V"⟩, 9) := ⟨⟨by decide +kernel, by decide +kernel⟩, List.mem_of_getElem? (i := 355) (by decide +kernel), List.mem_of_getElem? (i := 919) (by decide +kernel), List.mem_of_getElem? (i := 920) (by decide +kernel)⟩
theorem lw_p39 : lw_okq (⟨"SandGuards$Dryings", "tryTwo", "(LSandGuards$Plan;LSandGuards$Castle;II)V"⟩, 9) := ⟨⟨by decide +kernel, by decide +kernel⟩, List.mem_of_getElem? (i := 355) (by decide +kernel), List.mem_of_getElem? (i := 934) (by decide +kernel), List.mem_of_getElem? (i := 935) (by decide +kernel)⟩
theorem lw_p40 : lw_okq (⟨"SandGuards$Outlook", "isNotOut", "(LSandGuards$Plan;LSandGuards$Castle;III)Z"⟩, 3) := ⟨⟨by decide +kernel, by decide +kernel⟩, List.mem_of_getElem? (i := 334) (by decide +kernel), List.mem_of_getElem? (i := 946) (by decide +kernel), List.mem_of_getElem? (i := 947) (by decide +kernel)⟩
theorem lw_p41 : lw_okq (⟨"SandGuards$Game", "putPinches", "(III)V"⟩, 7) := ⟨⟨by decide +kernel, by decide +kernel⟩, List.mem_of_getElem? (i := 395) (by decide +kernel), List.mem_of_getElem? (i := 1018) (by decide +kernel), List.mem_of_getElem? (i := 1019) (by decide +kernel)⟩
theorem lw_p42 : lw_okq (⟨"SandGuards$Game", "noteSleeps", "(ILSandGuards$Castle;I)V"⟩, 7) := ⟨⟨by decide +kernel, by decide +kernel⟩, List.mem_of_getElem? (i := 395) (by decide +kernel), List.mem_of_getElem? (i := 1025) (by decide +kernel), List.mem_of_getElem? (i := 1026) (by decide +kernel)⟩
theorem lw_p43 : lw_okq (⟨"SandGuards$Game", "isAtRest", "(III)Z"⟩, 7) := ⟨⟨by decide +kernel, by decide +kernel⟩, List.mem_of_getElem? (i := 395) (by decide +kernel), List.mem_of_getElem? (i := 1029) (by decide +kernel), List.mem_of_getElem? (i := 1030) (by decide +kernel)⟩
theorem lw_p44 : lw_okq (⟨"SandGuards$Rumours", "setDue", "(I)I"⟩, 10) := ⟨⟨by decide +kernel, by decide +kernel⟩, List.mem_of_getElem? (i := 428) (by decide +kernel), List.mem_of_getElem? (i := 1057) (by decide +kernel), List.mem_of_getElem? (i := 1058) (by decide +kernel)⟩
theorem lw_p45 : lw_okq (⟨"SandGuards$Rumours", "comesAsDue", "(LSandGuards$Plan;I)Z"⟩, 10) := ⟨⟨by decide +kernel, by decide +kernel⟩, List.mem_of_getElem? (i := 428) (by decide +kernel), List.mem_of_getElem? (i := 1063) (by decide +kernel), List.mem_of_getElem? (i := 1064) (by decide +kernel)⟩
theorem lw_p46 : lw_okq (⟨"SandGuards$Rumours", "isMissed", "(II)Z"⟩, 10) := ⟨⟨by decide +kernel, by decide +kernel⟩, List.mem_of_getElem? (i := 428) (by decide +kernel), List.mem_of_getElem? (i := 1068) (by decide +kernel), List.mem_of_getElem? (i := 1069) (by decide +kernel)⟩
theorem lw_p47 : lw_okq (⟨"SandGuards", "slotsHeld", "()I"⟩, 13) := ⟨⟨by decide +kernel, by decide +kernel⟩, List.mem_of_getElem? (i := 17) (by decide +kernel), List.mem_of_getElem? (i := 1092) (by decide +kernel), List.mem_of_getElem? (i := 1093) (by decide +kernel)⟩
def lw_privs_3 : List (MethodName × Nat) := [(⟨"SandGuards$Castle", "comer", "(II)I"⟩, 15), (⟨"SandGuards$Castle", "countMinutes", "(II)V"⟩, 15), (⟨"SandGuards$Castle", "relieveAll", "(I)V"⟩, 15), (⟨"SandGuards$Castle", "relieve", "(II)V"⟩, 15), (⟨"SandGuards$Castle", "fillAll", "(I)V"⟩, 15), (⟨"SandGuards$Dryings", "soonest", "(LSandGuards$Plan;I)I"⟩, 9), (⟨"SandGuards$Dryings", "tryOne", "(LSandGuards$Plan;LSandGuards$Castle;I)V"⟩, 9), (⟨"SandGuards$Dryings", "tryTwo", "(LSandGuards$Plan;LSandGuards$Castle;II)V"⟩, 9), (⟨"SandGuards$Outlook", "isNotOut", "(LSandGuards$Plan;LSandGuards$Castle;III)Z"⟩, 3), (⟨"SandGuards$Game", "putPinches", "(III)V"⟩, 7), (⟨"SandGuards$Game", "noteSleeps", "(ILSandGuards$Castle;I)V"⟩, 7), (⟨"SandGuards$Game", "isAtRest", "(III)Z"⟩, 7), (⟨"SandGuards$Rumours", "setDue", "(I)I"⟩, 10), (⟨"SandGuards$Rumours", "comesAsDue", "(LSandGuards$Plan;I)Z"⟩, 10), (⟨"SandGuards$Rumours", "isMissed", "(II)Z"⟩, 10), (⟨"SandGuards", "slotsHeld", "()I"⟩, 13)]
theorem lw_r3 : ∀ q ∈ lw_privs_3, lw_okq q := List.forall_mem_cons.mpr ⟨lw_p32, List.forall_mem_cons.mpr ⟨lw_p33, List.forall_mem_cons.mpr ⟨lw_p34, List.forall_mem_cons.mpr ⟨lw_p35, List.forall_mem_cons.mpr ⟨lw_p36, List.forall_mem_cons.mpr ⟨lw_p37, List.forall_mem_cons.mpr ⟨lw_p38, List.forall_mem_cons.mpr ⟨lw_p39, List.forall_mem_cons.mpr ⟨lw_p40, List.forall_mem_cons.mpr ⟨lw_p41, List.forall_mem_cons.mpr ⟨lw_p42, List.forall_mem_cons.mpr ⟨lw_p43, List.forall_mem_cons.mpr ⟨lw_p44, List.forall_mem_cons.mpr ⟨lw_p45, List.forall_mem_cons.mpr ⟨lw_p46, List.forall_mem_cons.mpr ⟨lw_p47, fun _ h => absurd h List.not_mem_nil⟩⟩⟩⟩⟩⟩⟩⟩⟩⟩⟩⟩⟩⟩⟩⟩
theorem lw_p48 : lw_okq (⟨"SandGuardsModel", "put", "(I)V"⟩, 61) := ⟨⟨by decide +kernel, by decide +kernel⟩, List.mem_of_getElem? (i := 1097) (by decide +kernel), List.mem_of_getElem? (i := 1297) (by decide +kernel), List.mem_of_getElem? (i := 1298) (by decide +kernel)⟩
theorem lw_p49 : lw_okq (⟨"SandGuardsModel", "cut", "()V"⟩, 61) := ⟨⟨by decide +kernel, by decide +kernel⟩, List.mem_of_getElem? (i := 1097) (by decide +kernel), List.mem_of_getElem? (i := 1309) (by decide +kernel), List.mem_of_getElem? (i := 1310) (by decide +kernel)⟩
theorem lw_p50 : lw_okq (⟨"SandGuardsModel", "byteAt", "(I)I"⟩, 61) := ⟨⟨by decide +kernel, by decide +kernel⟩, List.mem_of_getElem? (i := 1097) (by decide +kernel), List.mem_of_getElem? (i := 1313) (by decide +kernel), List.mem_of_getElem? (i := 1314) (by decide +kernel)⟩
theorem lw_p51 : lw_okq (⟨"SandGuardsModel", "token", "(IIIJ)V"⟩, 61) := ⟨⟨by decide +kernel, by decide +kernel⟩, List.mem_of_getElem? (i := 1097) (by decide +kernel), List.mem_of_getElem? (i := 1317) (by decide +kernel), List.mem_of_getElem? (i := 1318) (by decide +kernel)⟩
theorem lw_p52 : lw_okq (⟨"SandGuardsModel", "sign", "(III)I"⟩, 61) := ⟨⟨by decide +kernel, by decide +kernel⟩, List.mem_of_getElem? (i := 1097) (by decide +kernel), List.mem_of_getElem? (i := 1327) (by decide +kernel), List.mem_of_getElem? (i := 1328) (by decide +kernel)⟩
theorem lw_p53 : lw_okq (⟨"SandGuardsModel", "is", "(I)Z"⟩, 61) := ⟨⟨by decide +kernel, by decide +kernel⟩, List.mem_of_getElem? (i := 1097) (by decide +kernel), List.mem_of_getElem? (i := 1331) (by decide +kernel), List.mem_of_getElem? (i := 1332) (by decide +kernel)⟩
theorem lw_p54 : lw_okq (⟨"SandGuardsModel", "tell", "()V"⟩, 61) := ⟨⟨by decide +kernel, by decide +kernel⟩, List.mem_of_getElem? (i := 1097) (by decide +kernel), List.mem_of_getElem? (i := 1335) (by decide +kernel), List.mem_of_getElem? (i := 1336) (by decide +kernel)⟩
theorem lw_p55 : lw_okq (⟨"SandGuardsModel", "roomFor", "(II)V"⟩, 61) := ⟨⟨by decide +kernel, by decide +kernel⟩, List.mem_of_getElem? (i := 1097) (by decide +kernel), List.mem_of_getElem? (i := 1339) (by decide +kernel), List.mem_of_getElem? (i := 1340) (by decide +kernel)⟩
theorem lw_p56 : lw_okq (⟨"SandGuardsModel", "fail", "(I)V"⟩, 61) := ⟨⟨by decide +kernel, by decide +kernel⟩, List.mem_of_getElem? (i := 1097) (by decide +kernel), List.mem_of_getElem? (i := 1343) (by decide +kernel), List.mem_of_getElem? (i := 1344) (by decide +kernel)⟩
theorem lw_p57 : lw_okq (⟨"SandGuardsModel", "goesOn", "()V"⟩, 61) := ⟨⟨by decide +kernel, by decide +kernel⟩, List.mem_of_getElem? (i := 1097) (by decide +kernel), List.mem_of_getElem? (i := 1347) (by decide +kernel), List.mem_of_getElem? (i := 1348) (by decide +kernel)⟩
theorem lw_p58 : lw_okq (⟨"SandGuardsModel", "tellPost", "()V"⟩, 61) := ⟨⟨by decide +kernel, by decide +kernel⟩, List.mem_of_getElem? (i := 1097) (by decide +kernel), List.mem_of_getElem? (i := 1351) (by decide +kernel), List.mem_of_getElem? (i := 1352) (by decide +kernel)⟩
theorem lw_p59 : lw_okq (⟨"SandGuardsModel", "named", "()I"⟩, 61) := ⟨⟨by decide +kernel, by decide +kernel⟩, List.mem_of_getElem? (i := 1097) (by decide +kernel), List.mem_of_getElem? (i := 1355) (by decide +kernel), List.mem_of_getElem? (i := 1356) (by decide +kernel)⟩
theorem lw_p60 : lw_okq (⟨"SandGuardsModel", "must", "(I)V"⟩, 61) := ⟨⟨by decide +kernel, by decide +kernel⟩, List.mem_of_getElem? (i := 1097) (by decide +kernel), List.mem_of_getElem? (i := 1359) (by decide +kernel), List.mem_of_getElem? (i := 1360) (by decide +kernel)⟩
theorem lw_p61 : lw_okq (⟨"SandGuardsModel", "wrong", "(II)V"⟩, 61) := ⟨⟨by decide +kernel, by decide +kernel⟩, List.mem_of_getElem? (i := 1097) (by decide +kernel), List.mem_of_getElem? (i := 1363) (by decide +kernel), List.mem_of_getElem? (i := 1364) (by decide +kernel)⟩
theorem lw_p62 : lw_okq (⟨"SandGuardsModel", "bounded", "(II)I"⟩, 61) := ⟨⟨by decide +kernel, by decide +kernel⟩, List.mem_of_getElem? (i := 1097) (by decide +kernel), List.mem_of_getElem? (i := 1367) (by decide +kernel), List.mem_of_getElem? (i := 1368) (by decide +kernel)⟩
theorem lw_p63 : lw_okq (⟨"SandGuardsModel", "notes", "(III)V"⟩, 61) := ⟨⟨by decide +kernel, by decide +kernel⟩, List.mem_of_getElem? (i := 1097) (by decide +kernel), List.mem_of_getElem? (i := 1371) (by decide +kernel), List.mem_of_getElem? (i := 1372) (by decide +kernel)⟩
def lw_privs_4 : List (MethodName × Nat) := [(⟨"SandGuardsModel", "put", "(I)V"⟩, 61), (⟨"SandGuardsModel", "cut", "()V"⟩, 61), (⟨"SandGuardsModel", "byteAt", "(I)I"⟩, 61), (⟨"SandGuardsModel", "token", "(IIIJ)V"⟩, 61), (⟨"SandGuardsModel", "sign", "(III)I"⟩, 61), (⟨"SandGuardsModel", "is", "(I)Z"⟩, 61), (⟨"SandGuardsModel", "tell", "()V"⟩, 61), (⟨"SandGuardsModel", "roomFor", "(II)V"⟩, 61), (⟨"SandGuardsModel", "fail", "(I)V"⟩, 61), (⟨"SandGuardsModel", "goesOn", "()V"⟩, 61), (⟨"SandGuardsModel", "tellPost", "()V"⟩, 61), (⟨"SandGuardsModel", "named", "()I"⟩, 61), (⟨"SandGuardsModel", "must", "(I)V"⟩, 61), (⟨"SandGuardsModel", "wrong", "(II)V"⟩, 61), (⟨"SandGuardsModel", "bounded", "(II)I"⟩, 61), (⟨"SandGuardsModel", "notes", "(III)V"⟩, 61)]
theorem lw_r4 : ∀ q ∈ lw_privs_4, lw_okq q := List.forall_mem_cons.mpr ⟨lw_p48, List.forall_mem_cons.mpr ⟨lw_p49, List.forall_mem_cons.mpr ⟨lw_p50, List.forall_mem_cons.mpr ⟨lw_p51, List.forall_mem_cons.mpr ⟨lw_p52, List.forall_mem_cons.mpr ⟨lw_p53, List.forall_mem_cons.mpr ⟨lw_p54, List.forall_mem_cons.mpr ⟨lw_p55, List.forall_mem_cons.mpr ⟨lw_p56, List.forall_mem_cons.mpr ⟨lw_p57, List.forall_mem_cons.mpr ⟨lw_p58, List.forall_mem_cons.mpr ⟨lw_p59, List.forall_mem_cons.mpr ⟨lw_p60, List.forall_mem_cons.mpr ⟨lw_p61, List.forall_mem_cons.mpr ⟨lw_p62, List.forall_mem_cons.mpr ⟨lw_p63, fun _ h => absurd h List.not_mem_nil⟩⟩⟩⟩⟩⟩⟩⟩⟩⟩⟩⟩⟩⟩⟩⟩
theorem lw_p64 : lw_okq (⟨"SandGuardsModel", "tellGuard", "()V"⟩, 61) := ⟨⟨by decide +kernel, by decide +kernel⟩, List.mem_of_getElem? (i := 1097) (by decide +kernel), List.mem_of_getElem? (i := 1375) (by decide +kernel), List.mem_of_getElem? (i := 1376) (by decide +kernel)⟩
theorem lw_p65 : lw_okq (⟨"SandGuardsModel", "atPost", "()I"⟩, 61) := ⟨⟨by decide +kernel, by decide +kernel⟩, List.mem_of_getElem? (i := 1097) (by decide +kernel), List.mem_of_getElem? (i := 1379) (by decide +kernel), List.mem_of_getElem? (i := 1380) (by decide +kernel)⟩
theorem lw_p66 : lw_okq (⟨"SandGuardsModel", "tellLaw", "()V"⟩, 61) := ⟨⟨by decide +kernel, by decide +kernel⟩, List.mem_of_getElem? (i := 1097) (by decide +kernel), List.mem_of_getElem? (i := 1383) (by decide +kernel), List.mem_of_getElem? (i := 1384) (by decide +kernel)⟩
theorem lw_p67 : lw_okq (⟨"SandGuardsModel", "expression", "()V"⟩, 61) := ⟨⟨by decide +kernel, by decide +kernel⟩, List.mem_of_getElem? (i := 1097) (by decide +kernel), List.mem_of_getElem? (i := 1387) (by decide +kernel), List.mem_of_getElem? (i := 1388) (by decide +kernel)⟩
theorem lw_p68 : lw_okq (⟨"SandGuardsModel", "unit", "()V"⟩, 61) := ⟨⟨by decide +kernel, by decide +kernel⟩, List.mem_of_getElem? (i := 1097) (by decide +kernel), List.mem_of_getElem? (i := 1391) (by decide +kernel), List.mem_of_getElem? (i := 1392) (by decide +kernel)⟩
theorem lw_p69 : lw_okq (⟨"SandGuardsModel", "emit", "(II)V"⟩, 61) := ⟨⟨by decide +kernel, by decide +kernel⟩, List.mem_of_getElem? (i := 1097) (by decide +kernel), List.mem_of_getElem? (i := 1395) (by decide +kernel), List.mem_of_getElem? (i := 1396) (by decide +kernel)⟩
theorem lw_p70 : lw_okq (⟨"SandGuardsModel", "comesOut", "(Z)V"⟩, 61) := ⟨⟨by decide +kernel, by decide +kernel⟩, List.mem_of_getElem? (i := 1097) (by decide +kernel), List.mem_of_getElem? (i := 1399) (by decide +kernel), List.mem_of_getElem? (i := 1400) (by decide +kernel)⟩
theorem lw_p71 : lw_okq (⟨"SandGuardsModel", "term", "()V"⟩, 61) := ⟨⟨by decide +kernel, by decide +kernel⟩, List.mem_of_getElem? (i := 1097) (by decide +kernel), List.mem_of_getElem? (i := 1403) (by decide +kernel), List.mem_of_getElem? (i := 1404) (by decide +kernel)⟩
theorem lw_p72 : lw_okq (⟨"SandGuardsModel", "tellDamp", "()V"⟩, 61) := ⟨⟨by decide +kernel, by decide +kernel⟩, List.mem_of_getElem? (i := 1097) (by decide +kernel), List.mem_of_getElem? (i := 1407) (by decide +kernel), List.mem_of_getElem? (i := 1408) (by decide +kernel)⟩
theorem lw_p73 : lw_okq (⟨"SandGuardsModel", "begins", "()V"⟩, 61) := ⟨⟨by decide +kernel, by decide +kernel⟩, List.mem_of_getElem? (i := 1097) (by decide +kernel), List.mem_of_getElem? (i := 1411) (by decide +kernel), List.mem_of_getElem? (i := 1412) (by decide +kernel)⟩
theorem lw_p74 : lw_okq (⟨"SandGuardsModel", "liesDown", "(I)V"⟩, 61) := ⟨⟨by decide +kernel, by decide +kernel⟩, List.mem_of_getElem? (i := 1097) (by decide +kernel), List.mem_of_getElem? (i := 1415) (by decide +kernel), List.mem_of_getElem? (i := 1416) (by decide +kernel)⟩
theorem lw_p75 : lw_okq (⟨"SandGuardsModel", "isPost", "(I)Z"⟩, 61) := ⟨⟨by decide +kernel, by decide +kernel⟩, List.mem_of_getElem? (i := 1097) (by decide +kernel), List.mem_of_getElem? (i := 1427) (by decide +kernel), List.mem_of_getElem? (i := 1428) (by decide +kernel)⟩
theorem lw_p76 : lw_okq (⟨"SandGuardsModel", "copies", "()V"⟩, 61) := ⟨⟨by decide +kernel, by decide +kernel⟩, List.mem_of_getElem? (i := 1097) (by decide +kernel), List.mem_of_getElem? (i := 1434) (by decide +kernel), List.mem_of_getElem? (i := 1435) (by decide +kernel)⟩
theorem lw_p77 : lw_okq (⟨"SandGuardsModel", "flowOf", "(I)I"⟩, 61) := ⟨⟨by decide +kernel, by decide +kernel⟩, List.mem_of_getElem? (i := 1097) (by decide +kernel), List.mem_of_getElem? (i := 1438) (by decide +kernel), List.mem_of_getElem? (i := 1439) (by decide +kernel)⟩
theorem lw_p78 : lw_okq (⟨"SandGuardsModel", "termOf", "(II)I"⟩, 61) := ⟨⟨by decide +kernel, by decide +kernel⟩, List.mem_of_getElem? (i := 1097) (by decide +kernel), List.mem_of_getElem? (i := 1442) (by decide +kernel), List.mem_of_getElem? (i := 1443) (by decide +kernel)⟩
theorem lw_p79 : lw_okq (⟨"SandGuardsModel", "isGuard", "(I)Z"⟩, 61) := ⟨⟨by decide +kernel, by decide +kernel⟩, List.mem_of_getElem? (i := 1097) (by decide +kernel), List.mem_of_getElem? (i := 1450) (by decide +kernel), List.mem_of_getElem? (i := 1451) (by decide +kernel)⟩
def lw_privs_5 : List (MethodName × Nat) := [(⟨"SandGuardsModel", "tellGuard", "()V"⟩, 61), (⟨"SandGuardsModel", "atPost", "()I"⟩, 61), (⟨"SandGuardsModel", "tellLaw", "()V"⟩, 61), (⟨"SandGuardsModel", "expression", "()V"⟩, 61), (⟨"SandGuardsModel", "unit", "()V"⟩, 61), (⟨"SandGuardsModel", "emit", "(II)V"⟩, 61), (⟨"SandGuardsModel", "comesOut", "(Z)V"⟩, 61), (⟨"SandGuardsModel", "term", "()V"⟩, 61), (⟨"SandGuardsModel", "tellDamp", "()V"⟩, 61), (⟨"SandGuardsModel", "begins", "()V"⟩, 61), (⟨"SandGuardsModel", "liesDown", "(I)V"⟩, 61), (⟨"SandGuardsModel", "isPost", "(I)Z"⟩, 61), (⟨"SandGuardsModel", "copies", "()V"⟩, 61), (⟨"SandGuardsModel", "flowOf", "(I)I"⟩, 61), (⟨"SandGuardsModel", "termOf", "(II)I"⟩, 61), (⟨"SandGuardsModel", "isGuard", "(I)Z"⟩, 61)]
theorem lw_r5 : ∀ q ∈ lw_privs_5, lw_okq q := List.forall_mem_cons.mpr ⟨lw_p64, List.forall_mem_cons.mpr ⟨lw_p65, List.forall_mem_cons.mpr ⟨lw_p66, List.forall_mem_cons.mpr ⟨lw_p67, List.forall_mem_cons.mpr ⟨lw_p68, List.forall_mem_cons.mpr ⟨lw_p69, List.forall_mem_cons.mpr ⟨lw_p70, List.forall_mem_cons.mpr ⟨lw_p71, List.forall_mem_cons.mpr ⟨lw_p72, List.forall_mem_cons.mpr ⟨lw_p73, List.forall_mem_cons.mpr ⟨lw_p74, List.forall_mem_cons.mpr ⟨lw_p75, List.forall_mem_cons.mpr ⟨lw_p76, List.forall_mem_cons.mpr ⟨lw_p77, List.forall_mem_cons.mpr ⟨lw_p78, List.forall_mem_cons.mpr ⟨lw_p79, fun _ h => absurd h List.not_mem_nil⟩⟩⟩⟩⟩⟩⟩⟩⟩⟩⟩⟩⟩⟩⟩⟩
theorem lw_p80 : lw_okq (⟨"SandGuardsModel", "postOf", "(I)I"⟩, 61) := ⟨⟨by decide +kernel, by decide +kernel⟩, List.mem_of_getElem? (i := 1097) (by decide +kernel), List.mem_of_getElem? (i := 1454) (by decide +kernel), List.mem_of_getElem? (i := 1455) (by decide +kernel)⟩
theorem lw_p81 : lw_okq (⟨"SandGuardsModel", "placeInBed", "(I)I"⟩, 61) := ⟨⟨by decide +kernel, by decide +kernel⟩, List.mem_of_getElem? (i := 1097) (by decide +kernel), List.mem_of_getElem? (i := 1458) (by decide +kernel), List.mem_of_getElem? (i := 1459) (by decide +kernel)⟩
theorem lw_p82 : lw_okq (⟨"SandGuardsModel", "goes", "(I)V"⟩, 61) := ⟨⟨by decide +kernel, by decide +kernel⟩, List.mem_of_getElem? (i := 1097) (by decide +kernel), List.mem_of_getElem? (i := 1466) (by decide +kernel), List.mem_of_getElem? (i := 1467) (by decide +kernel)⟩
theorem lw_p83 : lw_okq (⟨"SandGuardsModel", "minuteGoes", "()V"⟩, 61) := ⟨⟨by decide +kernel, by decide +kernel⟩, List.mem_of_getElem? (i := 1097) (by decide +kernel), List.mem_of_getElem? (i := 1470) (by decide +kernel), List.mem_of_getElem? (i := 1471) (by decide +kernel)⟩
theorem lw_p84 : lw_okq (⟨"SandGuardsModel", "runs", "()V"⟩, 61) := ⟨⟨by decide +kernel, by decide +kernel⟩, List.mem_of_getElem? (i := 1097) (by decide +kernel), List.mem_of_getElem? (i := 1474) (by decide +kernel), List.mem_of_getElem? (i := 1475) (by decide +kernel)⟩
theorem lw_p85 : lw_okq (⟨"SandGuardsModel", "relieves", "(I)V"⟩, 61) := ⟨⟨by decide +kernel, by decide +kernel⟩, List.mem_of_getElem? (i := 1097) (by decide +kernel), List.mem_of_getElem? (i := 1478) (by decide +kernel), List.mem_of_getElem? (i := 1479) (by decide +kernel)⟩
theorem lw_p86 : lw_okq (⟨"SandGuardsModel", "comes", "(II)V"⟩, 61) := ⟨⟨by decide +kernel, by decide +kernel⟩, List.mem_of_getElem? (i := 1097) (by decide +kernel), List.mem_of_getElem? (i := 1482) (by decide +kernel), List.mem_of_getElem? (i := 1483) (by decide +kernel)⟩
theorem lw_p87 : lw_okq (⟨"SandGuardsModel", "getsUp", "(I)I"⟩, 61) := ⟨⟨by decide +kernel, by decide +kernel⟩, List.mem_of_getElem? (i := 1097) (by decide +kernel), List.mem_of_getElem? (i := 1486) (by decide +kernel), List.mem_of_getElem? (i := 1487) (by decide +kernel)⟩
theorem lw_p88 : lw_okq (⟨"SandGuardsModel", "keeps", "()V"⟩, 61) := ⟨⟨by decide +kernel, by decide +kernel⟩, List.mem_of_getElem? (i := 1097) (by decide +kernel), List.mem_of_getElem? (i := 1490) (by decide +kernel), List.mem_of_getElem? (i := 1491) (by decide +kernel)⟩
theorem lw_p89 : lw_okq (⟨"SandGuardsModel", "turns", "(I)V"⟩, 61) := ⟨⟨by decide +kernel, by decide +kernel⟩, List.mem_of_getElem? (i := 1097) (by decide +kernel), List.mem_of_getElem? (i := 1498) (by decide +kernel), List.mem_of_getElem? (i := 1499) (by decide +kernel)⟩
theorem lw_p90 : lw_okq (⟨"SandGuardsModel", "sleptBy", "()I"⟩, 61) := ⟨⟨by decide +kernel, by decide +kernel⟩, List.mem_of_getElem? (i := 1097) (by decide +kernel), List.mem_of_getElem? (i := 1530) (by decide +kernel), List.mem_of_getElem? (i := 1531) (by decide +kernel)⟩
theorem lw_p91 : lw_okq (⟨"SandGuardsModel", "sleptOnes", "()I"⟩, 61) := ⟨⟨by decide +kernel, by decide +kernel⟩, List.mem_of_getElem? (i := 1097) (by decide +kernel), List.mem_of_getElem? (i := 1534) (by decide +kernel), List.mem_of_getElem? (i := 1535) (by decide +kernel)⟩
theorem lw_p92 : lw_okq (⟨"SandGuardsModel", "emptyOnes", "()I"⟩, 61) := ⟨⟨by decide +kernel, by decide +kernel⟩, List.mem_of_getElem? (i := 1097) (by decide +kernel), List.mem_of_getElem? (i := 1557) (by decide +kernel), List.mem_of_getElem? (i := 1558) (by decide +kernel)⟩
theorem lw_p93 : lw_okq (⟨"SandGuardsModel", "fillsPinches", "(II)V"⟩, 61) := ⟨⟨by decide +kernel, by decide +kernel⟩, List.mem_of_getElem? (i := 1097) (by decide +kernel), List.mem_of_getElem? (i := 1585) (by decide +kernel), List.mem_of_getElem? (i := 1586) (by decide +kernel)⟩
theorem lw_p94 : lw_okq (⟨"SandGuardsModel", "isAllowed", "(I)Z"⟩, 61) := ⟨⟨by decide +kernel, by decide +kernel⟩, List.mem_of_getElem? (i := 1097) (by decide +kernel), List.mem_of_getElem? (i := 1589) (by decide +kernel), List.mem_of_getElem? (i := 1590) (by decide +kernel)⟩
theorem lw_p95 : lw_okq (⟨"SandGuardsModel", "isResting", "(I)Z"⟩, 61) := ⟨⟨by decide +kernel, by decide +kernel⟩, List.mem_of_getElem? (i := 1097) (by decide +kernel), List.mem_of_getElem? (i := 1593) (by decide +kernel), List.mem_of_getElem? (i := 1594) (by decide +kernel)⟩
def lw_privs_6 : List (MethodName × Nat) := [(⟨"SandGuardsModel", "postOf", "(I)I"⟩, 61), (⟨"SandGuardsModel", "placeInBed", "(I)I"⟩, 61), (⟨"SandGuardsModel", "goes", "(I)V"⟩, 61), (⟨"SandGuardsModel", "minuteGoes", "()V"⟩, 61), (⟨"SandGuardsModel", "runs", "()V"⟩, 61), (⟨"SandGuardsModel", "relieves", "(I)V"⟩, 61), (⟨"SandGuardsModel", "comes", "(II)V"⟩, 61), (⟨"SandGuardsModel", "getsUp", "(I)I"⟩, 61), (⟨"SandGuardsModel", "keeps", "()V"⟩, 61), (⟨"SandGuardsModel", "turns", "(I)V"⟩, 61), (⟨"SandGuardsModel", "sleptBy", "()I"⟩, 61), (⟨"SandGuardsModel", "sleptOnes", "()I"⟩, 61), (⟨"SandGuardsModel", "emptyOnes", "()I"⟩, 61), (⟨"SandGuardsModel", "fillsPinches", "(II)V"⟩, 61), (⟨"SandGuardsModel", "isAllowed", "(I)Z"⟩, 61), (⟨"SandGuardsModel", "isResting", "(I)Z"⟩, 61)]
theorem lw_r6 : ∀ q ∈ lw_privs_6, lw_okq q := List.forall_mem_cons.mpr ⟨lw_p80, List.forall_mem_cons.mpr ⟨lw_p81, List.forall_mem_cons.mpr ⟨lw_p82, List.forall_mem_cons.mpr ⟨lw_p83, List.forall_mem_cons.mpr ⟨lw_p84, List.forall_mem_cons.mpr ⟨lw_p85, List.forall_mem_cons.mpr ⟨lw_p86, List.forall_mem_cons.mpr ⟨lw_p87, List.forall_mem_cons.mpr ⟨lw_p88, List.forall_mem_cons.mpr ⟨lw_p89, List.forall_mem_cons.mpr ⟨lw_p90, List.forall_mem_cons.mpr ⟨lw_p91, List.forall_mem_cons.mpr ⟨lw_p92, List.forall_mem_cons.mpr ⟨lw_p93, List.forall_mem_cons.mpr ⟨lw_p94, List.forall_mem_cons.mpr ⟨lw_p95, fun _ h => absurd h List.not_mem_nil⟩⟩⟩⟩⟩⟩⟩⟩⟩⟩⟩⟩⟩⟩⟩⟩
theorem lw_p96 : lw_okq (⟨"SandGuardsModel", "isSo", "(III)Z"⟩, 61) := ⟨⟨by decide +kernel, by decide +kernel⟩, List.mem_of_getElem? (i := 1097) (by decide +kernel), List.mem_of_getElem? (i := 1609) (by decide +kernel), List.mem_of_getElem? (i := 1610) (by decide +kernel)⟩
def lw_privs_7 : List (MethodName × Nat) := [(⟨"SandGuardsModel", "isSo", "(III)Z"⟩, 61)]
theorem lw_r7 : ∀ q ∈ lw_privs_7, lw_okq q := List.forall_mem_cons.mpr ⟨lw_p96, fun _ h => absurd h List.not_mem_nil⟩
def lw_privs : List (MethodName × Nat) := lw_privs_1 ++ (lw_privs_2 ++ (lw_privs_3 ++ (lw_privs_4 ++ (lw_privs_5 ++ (lw_privs_6 ++ (lw_privs_7))))))
def lw_tbl : List Cond := k2_sels lw_privs ++ tables_1
theorem lw_privs_ok : ∀ q ∈ lw_privs, lw_okq q := by
  show ∀ q ∈ lw_privs_1 ++ (lw_privs_2 ++ (lw_privs_3 ++ (lw_privs_4 ++ (lw_privs_5 ++ (lw_privs_6 ++ (lw_privs_7)))))), lw_okq q
  exact List.forall_mem_append.mpr ⟨lw_r1, List.forall_mem_append.mpr ⟨lw_r2, List.forall_mem_append.mpr ⟨lw_r3, List.forall_mem_append.mpr ⟨lw_r4, List.forall_mem_append.mpr ⟨lw_r5, List.forall_mem_append.mpr ⟨lw_r6, lw_r7⟩⟩⟩⟩⟩⟩
end
section
/-! names, field tables, kinds of fields, the objects of the world and their keys (written by wip/gen/gen02.py) -/
def R_Ca : String := "SandGuards$Castle"
def F_Ca : u_T := fun k => match k with
  | 0 => ("SandGuards$Castle", "above", "[I", true)
  | 1 => ("SandGuards$Castle", "below", "[I", true)
  | 2 => ("SandGuards$Castle", "watcher", "[I", true)
  | 3 => ("SandGuards$Castle", "dried", "[Z", true)
  | 4 => ("SandGuards$Castle", "turned", "[I", true)
  | 5 => ("SandGuards$Castle", "byHand", "[I", true)
  | 6 => ("SandGuards$Castle", "station", "[I", true)
  | 7 => ("SandGuards$Castle", "slept", "[I", true)
  | 8 => ("SandGuards$Castle", "watch", "[I", true)
  | 9 => ("SandGuards$Castle", "beddings", "[I", true)
  | 10 => ("SandGuards$Castle", "bed", "[I", true)
  | 11 => ("SandGuards$Castle", "lying", "I", false)
  | 12 => ("SandGuards$Castle", "minute", "I", false)
  | 13 => ("SandGuards$Castle", "comings", "I", false)
  | _ => ("SandGuards$Castle", "flows", "[I", true)
def t_Ca : Nat → FieldType := fun k => match k with
  | 0 => .array .int
  | 1 => .array .int
  | 2 => .array .int
  | 3 => .array .boolean
  | 4 => .array .int
  | 5 => .array .int
  | 6 => .array .int
  | 7 => .array .int
  | 8 => .array .int
  | 9 => .array .int
  | 10 => .array .int
  | 11 => .int
  | 12 => .int
  | 13 => .int
  | _ => .array .int
def R_Dr : String := "SandGuards$Dryings"
def F_Dr : u_T := fun k => match k with
  | 0 => ("SandGuards$Dryings", "firstPost", "I", false)
  | 1 => ("SandGuards$Dryings", "firstMinutes", "I", false)
  | 2 => ("SandGuards$Dryings", "twoPosts", "I", false)
  | 3 => ("SandGuards$Dryings", "twoMinutes", "I", false)
  | 4 => ("SandGuards$Dryings", "future", "LSandGuards$Castle;", true)
  | 5 => ("SandGuards$Dryings", "foundAsItIs", "I", false)
  | 6 => ("SandGuards$Dryings", "isAsItIsFound", "Z", false)
  | 7 => ("SandGuards$Dryings", "isFirstFound", "Z", false)
  | _ => ("SandGuards$Dryings", "isTwoFound", "Z", false)
def t_Dr : Nat → FieldType := fun k => match k with
  | 0 => .int
  | 1 => .int
  | 2 => .int
  | 3 => .int
  | 4 => .object "SandGuards$Castle"
  | 5 => .int
  | 6 => .boolean
  | 7 => .boolean
  | _ => .boolean
def R_Ga : String := "SandGuards$Game"
def F_Ga : u_T := fun k => match k with
  | 0 => ("SandGuards$Game", "sets", "[I", true)
  | 1 => ("SandGuards$Game", "size", "I", false)
  | 2 => ("SandGuards$Game", "isFound", "Z", false)
  | 3 => ("SandGuards$Game", "future", "LSandGuards$Castle;", true)
  | 4 => ("SandGuards$Game", "sleeps", "[I", true)
  | 5 => ("SandGuards$Game", "foundU", "I", false)
  | _ => ("SandGuards$Game", "foundN", "I", false)
def t_Ga : Nat → FieldType := fun k => match k with
  | 0 => .array .int
  | 1 => .int
  | 2 => .boolean
  | 3 => .object "SandGuards$Castle"
  | 4 => .array .int
  | 5 => .int
  | _ => .int
def R_Hi : String := "SandGuards$History"
def F_Hi : u_T := fun k => match k with
  | 0 => ("SandGuards$History", "size", "I", false)
  | 1 => ("SandGuards$History", "kept", "[LSandGuards$Castle;", true)
  | _ => ("SandGuards$History", "next", "I", false)
def t_Hi : Nat → FieldType := fun k => match k with
  | 0 => .int
  | 1 => .array (.object "SandGuards$Castle")
  | _ => .int
def R_La : String := "SandGuards$Law"
def F_La : u_T := fun k => match k with
  | 0 => ("SandGuards$Law", "isSteady", "Z", false)
  | 1 => ("SandGuards$Law", "looksAtWet", "Z", false)
  | 2 => ("SandGuards$Law", "ops", "[I", true)
  | 3 => ("SandGuards$Law", "lefts", "[I", true)
  | 4 => ("SandGuards$Law", "rights", "[I", true)
  | 5 => ("SandGuards$Law", "aims", "[I", true)
  | 6 => ("SandGuards$Law", "numbers", "[I", true)
  | 7 => ("SandGuards$Law", "steps", "I", false)
  | _ => ("SandGuards$Law", "ints", "I", false)
def t_La : Nat → FieldType := fun k => match k with
  | 0 => .boolean
  | 1 => .boolean
  | 2 => .array .int
  | 3 => .array .int
  | 4 => .array .int
  | 5 => .array .int
  | 6 => .array .int
  | 7 => .int
  | _ => .int
def R_Ou : String := "SandGuards$Outlook"
def F_Ou : u_T := fun k => match k with
  | 0 => ("SandGuards$Outlook", "future", "LSandGuards$Castle;", true)
  | 1 => ("SandGuards$Outlook", "worstPost", "I", false)
  | _ => ("SandGuards$Outlook", "worstGuards", "I", false)
def t_Ou : Nat → FieldType := fun k => match k with
  | 0 => .object "SandGuards$Castle"
  | 1 => .int
  | _ => .int
def R_Pl : String := "SandGuards$Plan"
def F_Pl : u_T := fun k => match k with
  | 0 => ("SandGuards$Plan", "neck", "[I", true)
  | 1 => ("SandGuards$Plan", "wet", "[I", true)
  | 2 => ("SandGuards$Plan", "law", "LSandGuards$Law;", true)
  | 3 => ("SandGuards$Plan", "posts", "I", false)
  | 4 => ("SandGuards$Plan", "guards", "I", false)
  | 5 => ("SandGuards$Plan", "hours", "I", false)
  | 6 => ("SandGuards$Plan", "sleep", "I", false)
  | 7 => ("SandGuards$Plan", "isDampFelt", "Z", false)
  | _ => ("SandGuards$Plan", "rates", "[I", true)
def t_Pl : Nat → FieldType := fun k => match k with
  | 0 => .array .int
  | 1 => .array .int
  | 2 => .object "SandGuards$Law"
  | 3 => .int
  | 4 => .int
  | 5 => .int
  | 6 => .int
  | 7 => .boolean
  | _ => .array .int
def R_Re : String := "SandGuards$Reader"
def F_Re : u_T := fun k => match k with
  | 0 => ("SandGuards$Reader", "plan", "LSandGuards$Plan;", true)
  | 1 => ("SandGuards$Reader", "castle", "LSandGuards$Castle;", true)
  | 2 => ("SandGuards$Reader", "place", "I", false)
  | 3 => ("SandGuards$Reader", "tokens", "LSandGuards$Tokens;", true)
  | 4 => ("SandGuards$Reader", "names", "[J", true)
  | 5 => ("SandGuards$Reader", "postNames", "[J", true)
  | 6 => ("SandGuards$Reader", "waiting", "[I", true)
  | 7 => ("SandGuards$Reader", "waits", "I", false)
  | 8 => ("SandGuards$Reader", "unitsMade", "[I", true)
  | 9 => ("SandGuards$Reader", "units", "I", false)
  | 10 => ("SandGuards$Reader", "told", "I", false)
  | 11 => ("SandGuards$Reader", "token", "I", false)
  | 12 => ("SandGuards$Reader", "fault", "I", false)
  | 13 => ("SandGuards$Reader", "number", "I", false)
  | 14 => ("SandGuards$Reader", "name", "J", false)
  | 15 => ("SandGuards$Reader", "slip", "I", false)
  | _ => ("SandGuards$Reader", "slipPlace", "I", false)
def t_Re : Nat → FieldType := fun k => match k with
  | 0 => .object "SandGuards$Plan"
  | 1 => .object "SandGuards$Castle"
  | 2 => .int
  | 3 => .object "SandGuards$Tokens"
  | 4 => .array .long
  | 5 => .array .long
  | 6 => .array .int
  | 7 => .int
  | 8 => .array .int
  | 9 => .int
  | 10 => .int
  | 11 => .int
  | 12 => .int
  | 13 => .int
  | 14 => .long
  | 15 => .int
  | _ => .int
def R_Ru : String := "SandGuards$Rumours"
def F_Ru : u_T := fun k => match k with
  | 0 => ("SandGuards$Rumours", "ways", "[I", true)
  | 1 => ("SandGuards$Rumours", "size", "I", false)
  | 2 => ("SandGuards$Rumours", "told", "I", false)
  | 3 => ("SandGuards$Rumours", "future", "LSandGuards$Castle;", true)
  | 4 => ("SandGuards$Rumours", "toldPosts", "[I", true)
  | 5 => ("SandGuards$Rumours", "toldMinutes", "[I", true)
  | 6 => ("SandGuards$Rumours", "due", "[I", true)
  | 7 => ("SandGuards$Rumours", "isFound", "Z", false)
  | 8 => ("SandGuards$Rumours", "foundMost", "I", false)
  | _ => ("SandGuards$Rumours", "foundK", "I", false)
def t_Ru : Nat → FieldType := fun k => match k with
  | 0 => .array .int
  | 1 => .int
  | 2 => .int
  | 3 => .object "SandGuards$Castle"
  | 4 => .array .int
  | 5 => .array .int
  | 6 => .array .int
  | 7 => .boolean
  | 8 => .int
  | _ => .int
def R_Ta : String := "SandGuards$Tape"
def F_Ta : u_T := fun k => match k with
  | 0 => ("SandGuards$Tape", "bytes", "[B", true)
  | _ => ("SandGuards$Tape", "size", "I", false)
def t_Ta : Nat → FieldType := fun k => match k with
  | 0 => .array .byte
  | _ => .int
def R_To : String := "SandGuards$Tokens"
def F_To : u_T := fun k => match k with
  | 0 => ("SandGuards$Tokens", "kinds", "[I", true)
  | 1 => ("SandGuards$Tokens", "places", "[I", true)
  | 2 => ("SandGuards$Tokens", "numbers", "[I", true)
  | _ => ("SandGuards$Tokens", "names", "[J", true)
def t_To : Nat → FieldType := fun k => match k with
  | 0 => .array .int
  | 1 => .array .int
  | 2 => .array .int
  | _ => .array .long
def R_Sg : String := "SandGuards"
def F_Sg : u_T := fun k => match k with
  | 0 => ("SandGuards", "tape", "LSandGuards$Tape;", true)
  | 1 => ("SandGuards", "reader", "LSandGuards$Reader;", true)
  | 2 => ("SandGuards", "plan", "LSandGuards$Plan;", true)
  | 3 => ("SandGuards", "start", "LSandGuards$Castle;", true)
  | 4 => ("SandGuards", "now", "LSandGuards$Castle;", true)
  | 5 => ("SandGuards", "history", "LSandGuards$History;", true)
  | 6 => ("SandGuards", "slots", "[LSandGuards$Castle;", true)
  | 7 => ("SandGuards", "isHeld", "[Z", true)
  | 8 => ("SandGuards", "outlook", "LSandGuards$Outlook;", true)
  | 9 => ("SandGuards", "dryings", "LSandGuards$Dryings;", true)
  | 10 => ("SandGuards", "game", "LSandGuards$Game;", true)
  | 11 => ("SandGuards", "rumours", "LSandGuards$Rumours;", true)
  | _ => ("SandGuards", "faultPlace", "I", false)
def t_Sg : Nat → FieldType := fun k => match k with
  | 0 => .object "SandGuards$Tape"
  | 1 => .object "SandGuards$Reader"
  | 2 => .object "SandGuards$Plan"
  | 3 => .object "SandGuards$Castle"
  | 4 => .object "SandGuards$Castle"
  | 5 => .object "SandGuards$History"
  | 6 => .array (.object "SandGuards$Castle")
  | 7 => .array .boolean
  | 8 => .object "SandGuards$Outlook"
  | 9 => .object "SandGuards$Dryings"
  | 10 => .object "SandGuards$Game"
  | 11 => .object "SandGuards$Rumours"
  | _ => .int
def R_Mo : String := "SandGuardsModel"
def F_Mo : u_T := fun k => match k with
  | 0 => ("SandGuardsModel", "thrown", "I", false)
  | 1 => ("SandGuardsModel", "tape", "[B", true)
  | 2 => ("SandGuardsModel", "taped", "I", false)
  | 3 => ("SandGuardsModel", "text", "[B", true)
  | 4 => ("SandGuardsModel", "size", "I", false)
  | 5 => ("SandGuardsModel", "tKind", "[I", true)
  | 6 => ("SandGuardsModel", "tPlace", "[I", true)
  | 7 => ("SandGuardsModel", "tValue", "[I", true)
  | 8 => ("SandGuardsModel", "tName", "[J", true)
  | 9 => ("SandGuardsModel", "keys", "[J", true)
  | 10 => ("SandGuardsModel", "tokens", "I", false)
  | 11 => ("SandGuardsModel", "t", "I", false)
  | 12 => ("SandGuardsModel", "open", "I", false)
  | 13 => ("SandGuardsModel", "fault", "I", false)
  | 14 => ("SandGuardsModel", "faultPlace", "I", false)
  | 15 => ("SandGuardsModel", "worst", "I", false)
  | 16 => ("SandGuardsModel", "worstPlace", "I", false)
  | 17 => ("SandGuardsModel", "place", "I", false)
  | 18 => ("SandGuardsModel", "live", "I", false)
  | 19 => ("SandGuardsModel", "side", "I", false)
  | 20 => ("SandGuardsModel", "names", "I", false)
  | 21 => ("SandGuardsModel", "nameOf", "[J", true)
  | 22 => ("SandGuardsModel", "nameSort", "[I", true)
  | 23 => ("SandGuardsModel", "nameAt", "[I", true)
  | 24 => ("SandGuardsModel", "posts", "[I", true)
  | 25 => ("SandGuardsModel", "aboveTold", "[I", true)
  | 26 => ("SandGuardsModel", "belowTold", "[I", true)
  | 27 => ("SandGuardsModel", "neck", "[I", true)
  | 28 => ("SandGuardsModel", "guardTold", "[I", true)
  | 29 => ("SandGuardsModel", "guards", "[I", true)
  | 30 => ("SandGuardsModel", "postTold", "[I", true)
  | 31 => ("SandGuardsModel", "damps", "[I", true)
  | 32 => ("SandGuardsModel", "damp", "[I", true)
  | 33 => ("SandGuardsModel", "sleep", "[I", true)
  | 34 => ("SandGuardsModel", "lawFirst", "[I", true)
  | 35 => ("SandGuardsModel", "lawLast", "[I", true)
  | 36 => ("SandGuardsModel", "branches", "I", false)
  | 37 => ("SandGuardsModel", "hasTest", "[Z", true)
  | 38 => ("SandGuardsModel", "testFrom", "[I", true)
  | 39 => ("SandGuardsModel", "testMid", "[I", true)
  | 40 => ("SandGuardsModel", "testTo", "[I", true)
  | 41 => ("SandGuardsModel", "termTo", "[I", true)
  | 42 => ("SandGuardsModel", "codes", "I", false)
  | 43 => ("SandGuardsModel", "code", "[I", true)
  | 44 => ("SandGuardsModel", "codeInt", "[I", true)
  | 45 => ("SandGuardsModel", "waits", "[I", true)
  | 46 => ("SandGuardsModel", "waiting", "I", false)
  | 47 => ("SandGuardsModel", "variables", "[I", true)
  | 48 => ("SandGuardsModel", "pile", "[I", true)
  | 49 => ("SandGuardsModel", "isBroken", "Z", false)
  | 50 => ("SandGuardsModel", "now", "[I", true)
  | 51 => ("SandGuardsModel", "row", "[I", true)
  | 52 => ("SandGuardsModel", "undos", "I", false)
  | 53 => ("SandGuardsModel", "history", "[I", true)
  | 54 => ("SandGuardsModel", "sleptThen", "[I", true)
  | 55 => ("SandGuardsModel", "told", "I", false)
  | 56 => ("SandGuardsModel", "toldPost", "[I", true)
  | 57 => ("SandGuardsModel", "toldMinute", "[I", true)
  | 58 => ("SandGuardsModel", "turnedBy", "[I", true)
  | 59 => ("SandGuardsModel", "isHeld", "[Z", true)
  | _ => ("SandGuardsModel", "held", "[I", true)
def t_Mo : Nat → FieldType := fun k => match k with
  | 0 => .int
  | 1 => .array .byte
  | 2 => .int
  | 3 => .array .byte
  | 4 => .int
  | 5 => .array .int
  | 6 => .array .int
  | 7 => .array .int
  | 8 => .array .long
  | 9 => .array .long
  | 10 => .int
  | 11 => .int
  | 12 => .int
  | 13 => .int
  | 14 => .int
  | 15 => .int
  | 16 => .int
  | 17 => .int
  | 18 => .int
  | 19 => .int
  | 20 => .int
  | 21 => .array .long
  | 22 => .array .int
  | 23 => .array .int
  | 24 => .array .int
  | 25 => .array .int
  | 26 => .array .int
  | 27 => .array .int
  | 28 => .array .int
  | 29 => .array .int
  | 30 => .array .int
  | 31 => .array .int
  | 32 => .array .int
  | 33 => .array .int
  | 34 => .array .int
  | 35 => .array .int
  | 36 => .int
  | 37 => .array .boolean
  | 38 => .array .int
  | 39 => .array .int
  | 40 => .array .int
  | 41 => .array .int
  | 42 => .int
  | 43 => .array .int
  | 44 => .array .int
  | 45 => .array .int
  | 46 => .int
  | 47 => .array .int
  | 48 => .array .int
  | 49 => .boolean
  | 50 => .array .int
  | 51 => .array .int
  | 52 => .int
  | 53 => .array .int
  | 54 => .array .int
  | 55 => .int
  | 56 => .array .int
  | 57 => .array .int
  | 58 => .array .int
  | 59 => .array .boolean
  | _ => .array .int
abbrev classes : List vw_C := [(R_Ca, F_Ca, 15), (R_Dr, F_Dr, 9), (R_Ga, F_Ga, 7), (R_Hi, F_Hi, 3), (R_La, F_La, 9), (R_Ou, F_Ou, 3), (R_Pl, F_Pl, 9), (R_Re, F_Re, 17), (R_Ru, F_Ru, 10), (R_Ta, F_Ta, 2), (R_To, F_To, 4), (R_Sg, F_Sg, 13), (R_Mo, F_Mo, 61)]
theorem n_Ca : ∀ a, a < 15 → ∀ b, b < 15 → a ≠ b → (F_Ca a).2.1 ≠ (F_Ca b).2.1 := by decide +kernel
theorem t_Ca_ok : ∀ k, k < 15 → parseFieldDescriptor (F_Ca k).2.2.1 = some (t_Ca k) := by decide +kernel
theorem i_Ca : ∀ w ∈ u_ws R_Ca F_Ca 15, w ∈ lw_tbl := by decide +kernel
theorem o_Ca : ∀ k, k < 15 → (F_Ca k).1 = R_Ca := by decide +kernel
theorem n_Dr : ∀ a, a < 9 → ∀ b, b < 9 → a ≠ b → (F_Dr a).2.1 ≠ (F_Dr b).2.1 := by decide +kernel
theorem t_Dr_ok : ∀ k, k < 9 → parseFieldDescriptor (F_Dr k).2.2.1 = some (t_Dr k) := by decide +kernel
theorem i_Dr : ∀ w ∈ u_ws R_Dr F_Dr 9, w ∈ lw_tbl := by decide +kernel
theorem o_Dr : ∀ k, k < 9 → (F_Dr k).1 = R_Dr := by decide +kernel
theorem n_Ga : ∀ a, a < 7 → ∀ b, b < 7 → a ≠ b → (F_Ga a).2.1 ≠ (F_Ga b).2.1 := by decide +kernel
theorem t_Ga_ok : ∀ k, k < 7 → parseFieldDescriptor (F_Ga k).2.2.1 = some (t_Ga k) := by decide +kernel
theorem i_Ga : ∀ w ∈ u_ws R_Ga F_Ga 7, w ∈ lw_tbl := by decide +kernel
theorem o_Ga : ∀ k, k < 7 → (F_Ga k).1 = R_Ga := by decide +kernel
theorem n_Hi : ∀ a, a < 3 → ∀ b, b < 3 → a ≠ b → (F_Hi a).2.1 ≠ (F_Hi b).2.1 := by decide +kernel
theorem t_Hi_ok : ∀ k, k < 3 → parseFieldDescriptor (F_Hi k).2.2.1 = some (t_Hi k) := by decide +kernel
theorem i_Hi : ∀ w ∈ u_ws R_Hi F_Hi 3, w ∈ lw_tbl := by decide +kernel
theorem o_Hi : ∀ k, k < 3 → (F_Hi k).1 = R_Hi := by decide +kernel
theorem n_La : ∀ a, a < 9 → ∀ b, b < 9 → a ≠ b → (F_La a).2.1 ≠ (F_La b).2.1 := by decide +kernel
theorem t_La_ok : ∀ k, k < 9 → parseFieldDescriptor (F_La k).2.2.1 = some (t_La k) := by decide +kernel
theorem i_La : ∀ w ∈ u_ws R_La F_La 9, w ∈ lw_tbl := by decide +kernel
theorem o_La : ∀ k, k < 9 → (F_La k).1 = R_La := by decide +kernel
theorem n_Ou : ∀ a, a < 3 → ∀ b, b < 3 → a ≠ b → (F_Ou a).2.1 ≠ (F_Ou b).2.1 := by decide +kernel
theorem t_Ou_ok : ∀ k, k < 3 → parseFieldDescriptor (F_Ou k).2.2.1 = some (t_Ou k) := by decide +kernel
theorem i_Ou : ∀ w ∈ u_ws R_Ou F_Ou 3, w ∈ lw_tbl := by decide +kernel
theorem o_Ou : ∀ k, k < 3 → (F_Ou k).1 = R_Ou := by decide +kernel
theorem n_Pl : ∀ a, a < 9 → ∀ b, b < 9 → a ≠ b → (F_Pl a).2.1 ≠ (F_Pl b).2.1 := by decide +kernel
theorem t_Pl_ok : ∀ k, k < 9 → parseFieldDescriptor (F_Pl k).2.2.1 = some (t_Pl k) := by decide +kernel
theorem i_Pl : ∀ w ∈ u_ws R_Pl F_Pl 9, w ∈ lw_tbl := by decide +kernel
theorem o_Pl : ∀ k, k < 9 → (F_Pl k).1 = R_Pl := by decide +kernel
theorem n_Re : ∀ a, a < 17 → ∀ b, b < 17 → a ≠ b → (F_Re a).2.1 ≠ (F_Re b).2.1 := by decide +kernel
theorem t_Re_ok : ∀ k, k < 17 → parseFieldDescriptor (F_Re k).2.2.1 = some (t_Re k) := by decide +kernel
theorem i_Re : ∀ w ∈ u_ws R_Re F_Re 17, w ∈ lw_tbl := by decide +kernel
theorem o_Re : ∀ k, k < 17 → (F_Re k).1 = R_Re := by decide +kernel
theorem n_Ru : ∀ a, a < 10 → ∀ b, b < 10 → a ≠ b → (F_Ru a).2.1 ≠ (F_Ru b).2.1 := by decide +kernel
theorem t_Ru_ok : ∀ k, k < 10 → parseFieldDescriptor (F_Ru k).2.2.1 = some (t_Ru k) := by decide +kernel
theorem i_Ru : ∀ w ∈ u_ws R_Ru F_Ru 10, w ∈ lw_tbl := by decide +kernel
theorem o_Ru : ∀ k, k < 10 → (F_Ru k).1 = R_Ru := by decide +kernel
theorem n_Ta : ∀ a, a < 2 → ∀ b, b < 2 → a ≠ b → (F_Ta a).2.1 ≠ (F_Ta b).2.1 := by decide +kernel
theorem t_Ta_ok : ∀ k, k < 2 → parseFieldDescriptor (F_Ta k).2.2.1 = some (t_Ta k) := by decide +kernel
theorem i_Ta : ∀ w ∈ u_ws R_Ta F_Ta 2, w ∈ lw_tbl := by decide +kernel
theorem o_Ta : ∀ k, k < 2 → (F_Ta k).1 = R_Ta := by decide +kernel
theorem n_To : ∀ a, a < 4 → ∀ b, b < 4 → a ≠ b → (F_To a).2.1 ≠ (F_To b).2.1 := by decide +kernel
theorem t_To_ok : ∀ k, k < 4 → parseFieldDescriptor (F_To k).2.2.1 = some (t_To k) := by decide +kernel
theorem i_To : ∀ w ∈ u_ws R_To F_To 4, w ∈ lw_tbl := by decide +kernel
theorem o_To : ∀ k, k < 4 → (F_To k).1 = R_To := by decide +kernel
theorem n_Sg : ∀ a, a < 13 → ∀ b, b < 13 → a ≠ b → (F_Sg a).2.1 ≠ (F_Sg b).2.1 := by decide +kernel
theorem t_Sg_ok : ∀ k, k < 13 → parseFieldDescriptor (F_Sg k).2.2.1 = some (t_Sg k) := by decide +kernel
theorem i_Sg : ∀ w ∈ u_ws R_Sg F_Sg 13, w ∈ lw_tbl := by decide +kernel
theorem o_Sg : ∀ k, k < 13 → (F_Sg k).1 = R_Sg := by decide +kernel
theorem n_Mo : ∀ a, a < 61 → ∀ b, b < 61 → a ≠ b → (F_Mo a).2.1 ≠ (F_Mo b).2.1 := by decide +kernel
theorem t_Mo_ok : ∀ k, k < 61 → parseFieldDescriptor (F_Mo k).2.2.1 = some (t_Mo k) := by decide +kernel
theorem i_Mo : ∀ w ∈ u_ws R_Mo F_Mo 61, w ∈ lw_tbl := by decide +kernel
theorem o_Mo : ∀ k, k < 61 → (F_Mo k).1 = R_Mo := by decide +kernel
/-- kinds: 0 int, 1 boolean, 2 long, 3 int[], 4 boolean[], 5 byte[], 6 long[], 7 an object, 8 Castle[] -/
def kdT : List (List Nat) := [[3, 3, 3, 4, 3, 3, 3, 3, 3, 3, 3, 0, 0, 0, 3], [0, 0, 0, 0, 7, 0, 1, 1, 1], [3, 0, 1, 7, 3, 0, 0], [0, 8, 0], [1, 1, 3, 3, 3, 3, 3, 0, 0], [7, 0, 0], [3, 3, 7, 0, 0, 0, 0, 1, 3], [7, 7, 0, 7, 6, 6, 3, 0, 3, 0, 0, 0, 0, 0, 2, 0, 0], [3, 0, 0, 7, 3, 3, 3, 1, 0, 0], [5, 0], [3, 3, 3, 6], [7, 7, 7, 7, 7, 7, 8, 4, 7, 7, 7, 7, 0], [0, 5, 0, 5, 0, 3, 3, 3, 6, 6, 0, 0, 0, 0, 0, 0, 0, 0, 0, 0, 0, 6, 3, 3, 3, 3, 3, 3, 3, 3, 3, 3, 3, 3, 3, 3, 0, 4, 3, 3, 3, 3, 0, 3, 3, 3, 0, 3, 3, 1, 3, 3, 0, 3, 3, 0, 3, 3, 3, 4, 3]]
def lnT : List (List Nat) := [[8, 8, 8, 8, 8, 8, 12, 12, 12, 12, 12, 0, 0, 0, 8], [0, 0, 0, 0, 0, 0, 0, 0, 0], [256, 0, 0, 0, 2048, 0, 0], [0, 40, 0], [0, 0, 400, 400, 400, 400, 806, 0, 0], [0, 0, 0], [8, 25, 0, 0, 0, 0, 0, 0, 200], [0, 0, 0, 0, 20, 8, 21, 0, 21, 0, 0, 0, 0, 0, 0, 0, 0], [1601, 0, 0, 0, 20, 20, 2001, 0, 0, 0], [2000, 0], [402, 402, 402, 402], [0, 0, 0, 0, 0, 0, 3, 3, 0, 0, 0, 0, 0], [0, 2000, 0, 2000, 0, 403, 403, 403, 403, 14, 0, 0, 0, 0, 0, 0, 0, 0, 0, 0, 0, 20, 20, 20, 2, 16, 16, 16, 16, 2, 24, 2, 48, 2, 2, 2, 0, 260, 260, 260, 260, 260, 0, 840, 840, 64, 0, 6, 400, 0, 100, 100, 0, 4000, 3072, 0, 20, 20, 8, 3, 300]]
def kd (ci f : Nat) : Nat := (kdT.getD ci []).getD f 99
def ln (ci f : Nat) : Nat := (lnT.getD ci []).getD f 0
def nf (ci : Nat) : Nat := (kdT.getD ci []).length
def cls (o : Nat) : Nat := if o < 14 then ([11, 12, 9, 7, 6, 4, 10, 6, 4, 3, 5, 1, 2, 8] : List Nat).getD o 0 else 0
/-- to which object a field points (an array of objects: to the first of them) -/
def fo (o f : Nat) : Nat := match o, f with
  | 0, 0 => 2
  | 0, 1 => 3
  | 0, 2 => 7
  | 0, 3 => 17
  | 0, 4 => 18
  | 0, 5 => 9
  | 0, 6 => 23
  | 0, 8 => 10
  | 0, 9 => 11
  | 0, 10 => 12
  | 0, 11 => 13
  | 3, 0 => 4
  | 3, 1 => 16
  | 3, 3 => 6
  | 4, 2 => 5
  | 7, 2 => 8
  | 9, 1 => 32
  | 10, 0 => 19
  | 11, 4 => 20
  | 12, 3 => 21
  | 13, 3 => 22
  | _, _ => 0
def castles : List Nat := List.range' 16 10 ++ List.range' 32 40
def objs : List Nat := List.range 14 ++ castles
def isArr (k : Nat) : Bool := k == 3 || k == 4 || k == 5 || k == 6 || k == 8
def arrF (ci : Nat) : List Nat := (List.range (nf ci)).filter (fun f => isArr (kd ci f))
def kys : List (Nat × Nat) := objs.flatMap (fun o => (o, 0) :: (arrF (cls o)).map (fun f => (o, f + 1)))
end
section
/-! the store, the values, the world that a store stands for -/
abbrev St : Type := Nat → Nat → Int → Int
abbrev V : Type := Int ⊕ Int ⊕ (Nat × Nat)
def wr (σ : St) (o f : Nat) (k v : Int) : St := fun o' f' k' => if o' = o ∧ f' = f ∧ k' = k then v else σ o' f' k'
def R32 (x : Int) : Prop := -2147483648 ≤ x ∧ x < 2147483648
def R64 (x : Int) : Prop := -9223372036854775808 ≤ x ∧ x < 9223372036854775808
def rk (k : Nat) (x : Int) : Prop := match k with
  | 1 => x = 0 ∨ x = 1
  | 4 => x = 0 ∨ x = 1
  | 5 => -128 ≤ x ∧ x ≤ 127
  | 2 => R64 x
  | 6 => R64 x
  | _ => R32 x
def Rng (σ : St) : Prop := ∀ (o f : Nat) (k : Int), rk (kd (cls o) f) (σ o f k)
theorem rng_wr {σ : St} {o f : Nat} {k v : Int} (h : Rng σ) (hv : rk (kd (cls o) f) v) : Rng (wr σ o f k v) := by
  intro o' f' k'
  unfold wr
  by_cases c : o' = o ∧ f' = f ∧ k' = k
  · rw [if_pos c, c.1, c.2.1]; exact hv
  · rw [if_neg c]; exact h o' f' k'
theorem wr_at (σ : St) (o f : Nat) (k v : Int) : wr σ o f k v o f k = v := by unfold wr; rw [if_pos ⟨rfl, rfl, rfl⟩]
theorem wr_ne {σ : St} {o f o' f' : Nat} {k v k' : Int} (h : ¬ (o' = o ∧ f' = f ∧ k' = k)) : wr σ o f k v o' f' k' = σ o' f' k' := by unfold wr; rw [if_neg h]
def toV (ρ : Nat → Nat → Nat) (v : V) : Value := match v with
  | .inl x => .int (Int32.ofInt x)
  | .inr (.inl x) => .long (Int64.ofInt x)
  | .inr (.inr r) => .ref (ρ r.1 r.2)
abbrev Wd : Type := va_G × (Nat → ClassId) × (Nat → Nat → Nat)
def tysOf (ca : Nat → ClassId) : List (ClassId × FieldType) := [(ca 3, .int), (ca 4, .boolean), (ca 5, .byte), (ca 6, .long), (ca 8, .object "SandGuards$Castle")]
/-- what a field holds -/
def fvl (σ : St) (o f kn : Nat) : V := match kn with
  | 0 => .inl (σ o f 0)
  | 1 => .inl (σ o f 0)
  | 2 => .inr (.inl (σ o f 0))
  | 7 => .inr (.inr (fo o f, 0))
  | _ => .inr (.inr (o, f + 1))
/-- what an array holds -/
def con (ρ : Nat → Nat → Nat) (σ : St) (o f kn : Nat) : (Nat → Int32) ⊕ (Nat → Int64) ⊕ (Nat → UInt32) ⊕ (Nat → UInt64) ⊕ (Nat → Option Nat) := match kn with
  | 6 => .inr (.inl fun j => Int64.ofInt (σ o f j))
  | 8 => .inr (.inr (.inr (.inr fun j => some (ρ (fo o f + j) 0))))
  | _ => .inl fun j => Int32.ofInt (σ o f j)
def cellE (w : Wd) (σ : St) (k : Nat × Nat) : va_E := match k.2 with
  | 0 => .inr (cls k.1, (List.range (nf (cls k.1))).map fun f => toV w.2.2 (fvl σ k.1 f (kd (cls k.1) f)))
  | f + 1 => .inl (w.2.1 (kd (cls k.1) f), ln (cls k.1) f, con w.2.2 σ k.1 f (kd (cls k.1) f))
def wsl (w : Wd) (σ : St) : va_W := kys.map fun k => (w.2.2 k.1 k.2, cellE w σ k)
def AA (w : Wd) : Nat → Prop := fun q => ∃ k ∈ kys, w.2.2 k.1 k.2 = q
def Rp (w : Wd) (σ : St) (H0 H : Heap) (locs : List Loc) : Prop := va_P w.1 classes (wsl w σ) H ∧ va_D (AA w) (wsl w σ) ∧ va_S (AA w) H0 H locs ∧ Rng σ
theorem ky_obj {o : Nat} (h : o ∈ objs) : (o, 0) ∈ kys := List.mem_flatMap.mpr ⟨o, h, List.mem_cons_self⟩
theorem ky_arr {o f : Nat} (h : o ∈ objs) (hf : f < nf (cls o)) (hk : isArr (kd (cls o) f) = true) : (o, f + 1) ∈ kys :=
  List.mem_flatMap.mpr ⟨o, h, List.mem_cons_of_mem _ (List.mem_map.mpr ⟨f, List.mem_filter.mpr ⟨List.mem_range.mpr hf, hk⟩, rfl⟩)⟩
theorem ky_in {k : Nat × Nat} (h : k ∈ kys) : k.2 = 0 ∨ ∃ f, k.2 = f + 1 ∧ isArr (kd (cls k.1) f) = true := by
  obtain ⟨o, -, ho⟩ := List.mem_flatMap.mp h
  rcases List.mem_cons.mp ho with e | e
  · rw [e]; exact Or.inl rfl
  · obtain ⟨f, hf, e2⟩ := List.mem_map.mp e
    rw [← e2]
    exact Or.inr ⟨f, rfl, (List.mem_filter.mp hf).2⟩
theorem wsl_get (w : Wd) (σ : St) {k : Nat × Nat} (h : k ∈ kys) : ∃ q : Nat, kys[q]? = some k ∧ (wsl w σ)[q]? = some (w.2.2 k.1 k.2, cellE w σ k) := by
  obtain ⟨q, hq⟩ := List.getElem?_of_mem h
  refine ⟨q, hq, ?_⟩
  unfold wsl
  rw [List.getElem?_map, hq]
  rfl
theorem wsl_set {w : Wd} {σ σ' : St} {k : Nat × Nat} {q : Nat} {A : Nat → Prop} (hD : va_D A (wsl w σ)) (hq : kys[q]? = some k) (hne : ∀ k' ∈ kys, k' ≠ k → cellE w σ' k' = cellE w σ k') :
    (wsl w σ).set q (w.2.2 k.1 k.2, cellE w σ' k) = wsl w σ' := by
  have hl := (List.getElem?_eq_some_iff.mp hq).1
  apply List.ext_getElem?
  intro i
  by_cases hi : i = q
  · subst hi
    rw [List.getElem?_set_self (by unfold wsl; rw [List.length_map]; exact hl)]
    unfold wsl
    rw [List.getElem?_map, hq]
    rfl
  · rw [List.getElem?_set_ne (fun e => hi e.symm)]
    unfold wsl
    rw [List.getElem?_map, List.getElem?_map]
    cases hk' : kys[i]? with
    | none => rfl
    | some k' =>
      have hm : k' ∈ kys := List.mem_of_getElem? hk'
      have hnk : k' ≠ k := by
        intro e
        subst e
        refine hi (hD.1 i q (w.2.2 k'.1 k'.2, cellE w σ k') (w.2.2 k'.1 k'.2, cellE w σ k') ?_ ?_ rfl)
        · unfold wsl; rw [List.getElem?_map, hk']; rfl
        · unfold wsl; rw [List.getElem?_map, hq]; rfl
      show some (_, _) = some (_, _)
      rw [hne k' hm hnk]
/-- a store changes one cell: the array's, or the object's -/
theorem cell_wr_arr {w : Wd} {σ : St} {o f : Nat} {i v : Int} (hk : isArr (kd (cls o) f) = true) : ∀ k' ∈ kys, k' ≠ (o, f + 1) → cellE w (wr σ o f i v) k' = cellE w σ k' := by
  intro k' hk' hne
  obtain ⟨o', j⟩ := k'
  cases j with
  | zero =>
    show Sum.inr _ = Sum.inr _
    congr 2
    apply List.map_congr_left
    intro f' _
    congr 1
    by_cases e : o' = o ∧ f' = f
    · obtain ⟨rfl, rfl⟩ := e
      show fvl _ _ _ (kd (cls o') f') = fvl _ _ _ (kd (cls o') f')
      generalize kd (cls o') f' = n at hk
      simp only [isArr, Bool.or_eq_true, beq_iff_eq] at hk
      rcases hk with (((h | h) | h) | h) | h <;> subst h <;> rfl
    · have e2 : wr σ o f i v o' f' 0 = σ o' f' 0 := wr_ne (fun h => e ⟨h.1, h.2.1⟩)
      show fvl _ _ _ (kd (cls o') f') = fvl _ _ _ (kd (cls o') f')
      generalize kd (cls o') f' = n
      unfold fvl
      rw [e2]
  | succ f' =>
    have e : ¬ (o' = o ∧ f' = f) := fun h => hne (by rw [h.1, h.2])
    show Sum.inl _ = Sum.inl _
    have e2 : ∀ z : Int, wr σ o f i v o' f' z = σ o' f' z := fun z => wr_ne (fun h => e ⟨h.1, h.2.1⟩)
    have e3 : con w.2.2 (wr σ o f i v) o' f' (kd (cls o') f') = con w.2.2 σ o' f' (kd (cls o') f') := by
      unfold con
      simp only [e2]
    show Sum.inl (_, _, con w.2.2 (wr σ o f i v) o' f' (kd (cls o') f')) = Sum.inl (_, _, con w.2.2 σ o' f' (kd (cls o') f'))
    rw [e3]
theorem cell_wr_fld {w : Wd} {σ : St} {o f : Nat} {i v : Int} (hk : isArr (kd (cls o) f) = false) : ∀ k' ∈ kys, k' ≠ (o, 0) → cellE w (wr σ o f i v) k' = cellE w σ k' := by
  intro k' hk' hne
  obtain ⟨o', j⟩ := k'
  cases j with
  | zero =>
    have e : ¬ o' = o := fun h => hne (by rw [h])
    show Sum.inr _ = Sum.inr _
    congr 2
    apply List.map_congr_left
    intro f' _
    congr 1
    have e2 : wr σ o f i v o' f' 0 = σ o' f' 0 := wr_ne (fun h => e h.1)
    show fvl _ _ _ (kd (cls o') f') = fvl _ _ _ (kd (cls o') f')
    generalize kd (cls o') f' = n
    unfold fvl
    rw [e2]
  | succ f' =>
    have e : ¬ (o' = o ∧ f' = f) := by
      rintro ⟨rfl, rfl⟩
      rcases ky_in hk' with h | ⟨f2, h, h2⟩
      · cases h
      · cases h
        rw [hk] at h2
        cases h2
    have e2 : ∀ z : Int, wr σ o f i v o' f' z = σ o' f' z := fun z => wr_ne (fun h => e ⟨h.1, h.2.1⟩)
    have e3 : con w.2.2 (wr σ o f i v) o' f' (kd (cls o') f') = con w.2.2 σ o' f' (kd (cls o') f') := by
      unfold con
      simp only [e2]
    show Sum.inl (_, _, con w.2.2 (wr σ o f i v) o' f' (kd (cls o') f')) = Sum.inl (_, _, con w.2.2 σ o' f' (kd (cls o') f'))
    rw [e3]
/-! whole numbers and the machine's -/
theorem r_lt {a b : Int} (ha : R32 a) (hb : R32 b) : Int32.ofInt a < Int32.ofInt b ↔ a < b := by
  rw [Int32.lt_iff_toInt_lt, Int32.toInt_ofInt_of_le (by have := ha.1; omega) (by have := ha.2; omega), Int32.toInt_ofInt_of_le (by have := hb.1; omega) (by have := hb.2; omega)]
theorem r_le {a b : Int} (ha : R32 a) (hb : R32 b) : Int32.ofInt a ≤ Int32.ofInt b ↔ a ≤ b := by
  rw [Int32.le_iff_toInt_le, Int32.toInt_ofInt_of_le (by have := ha.1; omega) (by have := ha.2; omega), Int32.toInt_ofInt_of_le (by have := hb.1; omega) (by have := hb.2; omega)]
theorem r_eq {a b : Int} (ha : R32 a) (hb : R32 b) : Int32.ofInt a = Int32.ofInt b ↔ a = b := by
  rw [← Int32.toInt_inj, Int32.toInt_ofInt_of_le (by have := ha.1; omega) (by have := ha.2; omega), Int32.toInt_ofInt_of_le (by have := hb.1; omega) (by have := hb.2; omega)]
theorem r_0 : R32 0 := ⟨by decide, by decide⟩
theorem r_int {a : Int} (ha : R32 a) : (Int32.ofInt a).toInt = a := Int32.toInt_ofInt_of_le (by have := ha.1; omega) (by have := ha.2; omega)
theorem r_clamp {i : Int} (h0 : 0 ≤ i) (h : i < 2147483648) : (Int32.ofInt i).toNatClampNeg = i.toNat := by
  rw [Int32.toNatClampNeg_ofInt_of_le (by omega) (by omega)]
theorem r_in {i : Int} {n : Nat} (h0 : 0 ≤ i) (h1 : i < n) (hn : n < 2147483648) : vp_in (Int32.ofInt i) n := by
  intro h
  rw [r_clamp h0 (by omega)] at h
  rcases h with h | h
  · have e : (0 : Int32) = Int32.ofInt 0 := rfl
    rw [e, r_lt ⟨by omega, by omega⟩ r_0] at h
    omega
  · omega
theorem r_of (x : Int32) : R32 x.toInt := ⟨by have := x.le_toInt; omega, by have := x.toInt_lt; omega⟩
end
section
/-! the judgement Ev: from this place of a method, with these locals, this stack and this store, the machine comes to what is asked for -/
/-- the tables' words that stay as they are while the machine runs -/
def lw_gd : List Cond := lw_tbl.filter goodWord
theorem gd {i : Nat} {t : Cond} (h : lw_tbl[i]? = some t) (hg : goodWord t = true) : t ∈ lw_gd := List.mem_filter.mpr ⟨List.mem_of_getElem? h, hg⟩
abbrev Md : Type := MethodName × ByteArray × Nat × Option FieldType × Nat × Nat
abbrev Mach : Type := (Program × Launch × Env × Room) × (State × MethodId × Array Value × List Frame) × (Method × Code × Nat × Nat) × Wd × (State → Prop)
def LH (ρ : Nat → Nat → Nat) (ls : Array Slot) (nL : Nat) (L : List (Option V)) : Prop := ls.size = nL ∧ lv_wf ls ∧ ∀ (k : Nat) (v : V), L[k]? = some (some v) → ls[k]? = some (.val (toV ρ v))
def Ev (g : Mach) (pc : Nat) (L : List (Option V)) (st : List V) (σ : St) : Prop := match g with
  | ((p, l, e, R), (s, m, args, below), (meth, c, cells, slots), w, Q) =>
    ∀ (H : Heap) (locs : List Loc) (ls : Array Slot), LH w.2.2 ls c.maxLocals L → Rp w σ s.heap H locs → W p l e R s m args below meth c H locs cells slots Q (F0 m pc ls (st.map (toV w.2.2)))
def wrdT : List Int := [0x6e65636b, 0x776574, 0x61626f7665, 0x62656c6f77, 0x6d696e757465, 0x706f7374, 0x6775617264, 0x6174, 0x666c6f77, 0x6966, 0x7468656e, 0x656c7365, 0x64616d70, 0x736c656570]
def Sta (w : Wd) (s : State) : Prop := va_Z "SandGuards$Tokens" "WORDS" "[J" (.ref (w.2.2 99 1)) (AA w) s s.heap ∧ va_T .long (w.2.2 99 1) 14 (fun j => .long (Int64.ofInt (wrdT.getD j 0))) (AA w) s s.heap
def Cx (M : Md) (g : Mach) : Prop := match g with
  | ((p, l, e, R), (s, m, args, below), (meth, c, cells, slots), w, Q) =>
    p.tables.exec = Jvm.exec ∧ c.code = M.2.1 ∧ c.maxLocals = M.2.2.1 ∧ s.vm.findClass M.1.cls = some m.cls ∧ (∀ t ∈ lw_gd, t.before args s = true) ∧ va_K w.1 classes (tysOf w.2.1) s ∧ meth.locks = false ∧ M.2.2.2.2.1 ≤ R.frames ∧ M.2.2.2.2.2 ≤ R.locals ∧ cells ≤ R.cells ∧ slots ≤ R.slots ∧ Sta w s
def lvl (ρ : Nat → Nat → Nat) (L : List (Option V)) : List (Nat × Value) := (List.range L.length).filterMap fun k => match L[k]? with
  | some (some v) => some (k, toV ρ v)
  | _ => none
theorem lvl_mem {ρ : Nat → Nat → Nat} {L : List (Option V)} {q : Nat × Value} : q ∈ lvl ρ L ↔ ∃ v, L[q.1]? = some (some v) ∧ q.2 = toV ρ v := by
  unfold lvl
  rw [List.mem_filterMap]
  constructor
  · rintro ⟨k, hk, e⟩
    cases h : L[k]? with
    | none => rw [h] at e; cases e
    | some ov =>
      cases ov with
      | none => rw [h] at e; cases e
      | some v => rw [h] at e; cases e; exact ⟨v, h, rfl⟩
  · rintro ⟨v, h1, h2⟩
    refine ⟨q.1, List.mem_range.mpr (List.getElem?_eq_some_iff.mp h1).1, ?_⟩
    rw [h1]
    show some (q.1, toV ρ v) = some q
    rw [← h2]
theorem LH.lv {ρ : Nat → Nat → Nat} {ls : Array Slot} {nL : Nat} {L : List (Option V)} (h : LH ρ ls nL L) : lv_has ls nL (lvl ρ L) := by
  refine ⟨h.1, h.2.1, fun q hq => ?_⟩
  obtain ⟨v, h1, h2⟩ := lvl_mem.mp hq
  rw [h2]
  exact h.2.2 q.1 v h1
def isL (v : Option (Option V)) : Bool := match v with
  | some (some (.inr (.inl _))) => true
  | _ => false
/-- no long begins in the slot just ahead -/
def nlg (L : List (Option V)) (k : Nat) : Bool := match k with
  | 0 => true
  | j + 1 => !isL L[j]?
theorem cat_isL {ρ : Nat → Nat → Nat} {v : V} : (toV ρ v).category = 2 ↔ isL (some (some v)) = true := by
  rcases v with x | x | x
  · exact ⟨fun h => (by cases h), fun h => (by cases h)⟩
  · exact ⟨fun _ => rfl, fun _ => rfl⟩
  · exact ⟨fun h => (by cases h), fun h => (by cases h)⟩
theorem LH.set1 {ρ : Nat → Nat → Nat} {ls : Array Slot} {nL i : Nat} {L : List (Option V)} {v : V} (hn : nlg L i = true) (h : lv_has ls nL ((i, toV ρ v) :: (lvl ρ L).filter (fun q => !(q.1 == i) && !(q.1 + 1 == i && q.2.category == 2)))) : LH ρ ls nL (L.set i (some v)) := by
  refine ⟨h.1, h.2.1, fun k w hk => ?_⟩
  by_cases e : k = i
  · subst e
    have hl : k < L.length := by
      have := (List.getElem?_eq_some_iff.mp hk).1
      rwa [List.length_set] at this
    rw [List.getElem?_set_self hl] at hk
    cases hk
    exact h.2.2 (k, toV ρ v) List.mem_cons_self
  · rw [List.getElem?_set_ne (fun z => e z.symm)] at hk
    refine h.2.2 (k, toV ρ w) (List.mem_cons_of_mem _ (List.mem_filter.mpr ⟨lvl_mem.mpr ⟨w, hk, rfl⟩, ?_⟩))
    simp only [Bool.and_eq_true, Bool.not_eq_true', beq_eq_false_iff_ne, ne_eq, Bool.and_eq_false_iff]
    refine ⟨e, ?_⟩
    by_cases e2 : k + 1 = i
    · right
      intro hc
      have := cat_isL.mp hc
      subst e2
      have hn : (!isL L[k]?) = true := hn
      rw [hk] at hn
      rw [this] at hn
      cases hn
    · exact Or.inl e2
theorem LH.set2 {ρ : Nat → Nat → Nat} {ls : Array Slot} {nL i : Nat} {L : List (Option V)} {v : V} (hn : nlg L i = true) (h : lv_has ls nL ((i, toV ρ v) :: (lvl ρ L).filter (fun q => !(q.1 == i) && (!(q.1 == i + 1) && !(q.1 + 1 == i && q.2.category == 2))))) : LH ρ ls nL ((L.set i (some v)).set (i + 1) none) := by
  refine ⟨h.1, h.2.1, fun k w hk => ?_⟩
  by_cases e1 : k = i + 1
  · subst e1
    by_cases hl : i + 1 < (L.set i (some v)).length
    · rw [List.getElem?_set_self hl] at hk
      cases hk
    · rw [List.getElem?_eq_none (by rw [List.length_set]; omega)] at hk
      cases hk
  rw [List.getElem?_set_ne (fun z => e1 z.symm)] at hk
  by_cases e : k = i
  · subst e
    have hl : k < L.length := by
      have := (List.getElem?_eq_some_iff.mp hk).1
      rwa [List.length_set] at this
    rw [List.getElem?_set_self hl] at hk
    cases hk
    exact h.2.2 (k, toV ρ v) List.mem_cons_self
  · rw [List.getElem?_set_ne (fun z => e z.symm)] at hk
    refine h.2.2 (k, toV ρ w) (List.mem_cons_of_mem _ (List.mem_filter.mpr ⟨lvl_mem.mpr ⟨w, hk, rfl⟩, ?_⟩))
    simp only [Bool.and_eq_true, Bool.not_eq_true', beq_eq_false_iff_ne, ne_eq, Bool.and_eq_false_iff]
    refine ⟨e, e1, ?_⟩
    by_cases e2 : k + 1 = i
    · right
      intro hc
      have := cat_isL.mp hc
      subst e2
      have hn : (!isL L[k]?) = true := hn
      rw [hk] at hn
      rw [this] at hn
      cases hn
    · exact Or.inl e2
section Rows
variable {M : Md} {g : Mach} {pc : Nat} {L : List (Option V)} {st : List V} {σ : St}
theorem e_rng (k : Rng σ → Ev g pc L st σ) : Ev g pc L st σ := by
  obtain ⟨⟨p, l, e, R⟩, ⟨s, m, args, below⟩, ⟨meth, c, cells, slots⟩, ⟨D, ca, ρ⟩, Q⟩ := g
  intro H locs ls hl hR
  exact k hR.2.2.2 H locs ls hl hR
theorem e_iconst (C : Cx M g) {n : Int} (hd : decode M.2.1 pc = .ok (.iconst n, 1)) (k : Ev g (pc + 1) L (.inl n :: st) σ) : Ev g pc L st σ := by
  obtain ⟨⟨p, l, e, R⟩, ⟨s, m, args, below⟩, ⟨meth, c, cells, slots⟩, ⟨D, ca, ρ⟩, Q⟩ := g
  obtain ⟨hx, hb, -⟩ := C
  intro H locs ls hl hR
  exact lv_iconst hx hb hd rfl (k H locs ls hl hR)
theorem e_bipush (C : Cx M g) {n : Int} (hd : decode M.2.1 pc = .ok (.bipush n, 2)) (hv : (Int8.ofInt n).toInt32 = Int32.ofInt n) (k : Ev g (pc + 2) L (.inl n :: st) σ) : Ev g pc L st σ := by
  obtain ⟨⟨p, l, e, R⟩, ⟨s, m, args, below⟩, ⟨meth, c, cells, slots⟩, ⟨D, ca, ρ⟩, Q⟩ := g
  obtain ⟨hx, hb, -⟩ := C
  intro H locs ls hl hR
  exact lv_bipush hx hb hd hv (k H locs ls hl hR)
theorem e_sipush (C : Cx M g) {n : Int} (hd : decode M.2.1 pc = .ok (.sipush n, 3)) (hv : (Int16.ofInt n).toInt32 = Int32.ofInt n) (k : Ev g (pc + 3) L (.inl n :: st) σ) : Ev g pc L st σ := by
  obtain ⟨⟨p, l, e, R⟩, ⟨s, m, args, below⟩, ⟨meth, c, cells, slots⟩, ⟨D, ca, ρ⟩, Q⟩ := g
  obtain ⟨hx, hb, -⟩ := C
  intro H locs ls hl hR
  exact lv_sipush hx hb hd hv (k H locs ls hl hR)
theorem e_lconst (C : Cx M g) {n : Fin 2} {z : Int} (hd : decode M.2.1 pc = .ok (.lconst n, 1)) (hv : Int64.ofNat (n : Nat) = Int64.ofInt z) (k : Ev g (pc + 1) L (.inr (.inl z) :: st) σ) : Ev g pc L st σ := by
  obtain ⟨⟨p, l, e, R⟩, ⟨s, m, args, below⟩, ⟨meth, c, cells, slots⟩, ⟨D, ca, ρ⟩, Q⟩ := g
  obtain ⟨hx, hb, -⟩ := C
  intro H locs ls hl hR
  exact lv_lconst hx hb hd hv (k H locs ls hl hR)
theorem e_iload_n (C : Cx M g) {j : Fin 4} {x : Int} (hd : decode M.2.1 pc = .ok (.iload_n j, 1)) (hL : L[(j : Nat)]? = some (some (.inl x))) (k : Ev g (pc + 1) L (.inl x :: st) σ) : Ev g pc L st σ := by
  obtain ⟨⟨p, l, e, R⟩, ⟨s, m, args, below⟩, ⟨meth, c, cells, slots⟩, ⟨D, ca, ρ⟩, Q⟩ := g
  obtain ⟨hx, hb, -⟩ := C
  intro H locs ls hl hR
  exact lv_iload_n hx hb hd rfl (hl.2.2 _ _ hL) (k H locs ls hl hR)
theorem e_iload (C : Cx M g) {j : Nat} {x : Int} (hd : decode M.2.1 pc = .ok (.iload j, 2)) (hL : L[j]? = some (some (.inl x))) (k : Ev g (pc + 2) L (.inl x :: st) σ) : Ev g pc L st σ := by
  obtain ⟨⟨p, l, e, R⟩, ⟨s, m, args, below⟩, ⟨meth, c, cells, slots⟩, ⟨D, ca, ρ⟩, Q⟩ := g
  obtain ⟨hx, hb, -⟩ := C
  intro H locs ls hl hR
  exact lv_iload hx hb hd (hl.2.2 _ _ hL) (k H locs ls hl hR)
theorem e_lload_n (C : Cx M g) {j : Fin 4} {x : Int} (hd : decode M.2.1 pc = .ok (.lload_n j, 1)) (hL : L[(j : Nat)]? = some (some (.inr (.inl x)))) (k : Ev g (pc + 1) L (.inr (.inl x) :: st) σ) : Ev g pc L st σ := by
  obtain ⟨⟨p, l, e, R⟩, ⟨s, m, args, below⟩, ⟨meth, c, cells, slots⟩, ⟨D, ca, ρ⟩, Q⟩ := g
  obtain ⟨hx, hb, -⟩ := C
  intro H locs ls hl hR
  exact lv_lload_n hx hb hd rfl (hl.2.2 _ _ hL) (k H locs ls hl hR)
theorem e_lload (C : Cx M g) {j : Nat} {x : Int} (hd : decode M.2.1 pc = .ok (.lload j, 2)) (hL : L[j]? = some (some (.inr (.inl x)))) (k : Ev g (pc + 2) L (.inr (.inl x) :: st) σ) : Ev g pc L st σ := by
  obtain ⟨⟨p, l, e, R⟩, ⟨s, m, args, below⟩, ⟨meth, c, cells, slots⟩, ⟨D, ca, ρ⟩, Q⟩ := g
  obtain ⟨hx, hb, -⟩ := C
  intro H locs ls hl hR
  exact lv_lload hx hb hd (hl.2.2 _ _ hL) (k H locs ls hl hR)
theorem e_aload_n (C : Cx M g) {j : Fin 4} {r : Nat × Nat} (hd : decode M.2.1 pc = .ok (.aload_n j, 1)) (hL : L[(j : Nat)]? = some (some (.inr (.inr r)))) (k : Ev g (pc + 1) L (.inr (.inr r) :: st) σ) : Ev g pc L st σ := by
  obtain ⟨⟨p, l, e, R⟩, ⟨s, m, args, below⟩, ⟨meth, c, cells, slots⟩, ⟨D, ca, ρ⟩, Q⟩ := g
  obtain ⟨hx, hb, -⟩ := C
  intro H locs ls hl hR
  exact lv_aload_n hx hb hd rfl (hl.2.2 _ _ hL) (k H locs ls hl hR)
theorem e_aload (C : Cx M g) {j : Nat} {r : Nat × Nat} (hd : decode M.2.1 pc = .ok (.aload j, 2)) (hL : L[j]? = some (some (.inr (.inr r)))) (k : Ev g (pc + 2) L (.inr (.inr r) :: st) σ) : Ev g pc L st σ := by
  obtain ⟨⟨p, l, e, R⟩, ⟨s, m, args, below⟩, ⟨meth, c, cells, slots⟩, ⟨D, ca, ρ⟩, Q⟩ := g
  obtain ⟨hx, hb, -⟩ := C
  intro H locs ls hl hR
  exact lv_aload hx hb hd (hl.2.2 _ _ hL) (k H locs ls hl hR)
theorem e_istore_n (C : Cx M g) {j : Fin 4} {x : Int} (hd : decode M.2.1 pc = .ok (.istore_n j, 1)) (hj : (j : Nat) < M.2.2.1) (hn : nlg L (j : Nat) = true) (k : Ev g (pc + 1) (L.set (j : Nat) (some (.inl x))) st σ) : Ev g pc L (.inl x :: st) σ := by
  obtain ⟨⟨p, l, e, R⟩, ⟨s, m, args, below⟩, ⟨meth, c, cells, slots⟩, ⟨D, ca, ρ⟩, Q⟩ := g
  obtain ⟨hx, hb, hml, -⟩ := C
  intro H locs ls hl hR
  exact lv_istore_n hx hb hd rfl hl.lv (by rw [hml]; exact hj) rfl (fun ls' hl' => k H locs ls' (LH.set1 (v := .inl x) hn hl') hR)
theorem e_istore (C : Cx M g) {j : Nat} {x : Int} (hd : decode M.2.1 pc = .ok (.istore j, 2)) (hj : j < M.2.2.1) (hn : nlg L j = true) (k : Ev g (pc + 2) (L.set j (some (.inl x))) st σ) : Ev g pc L (.inl x :: st) σ := by
  obtain ⟨⟨p, l, e, R⟩, ⟨s, m, args, below⟩, ⟨meth, c, cells, slots⟩, ⟨D, ca, ρ⟩, Q⟩ := g
  obtain ⟨hx, hb, hml, -⟩ := C
  intro H locs ls hl hR
  exact lv_istore hx hb hd hl.lv (by rw [hml]; exact hj) rfl (fun ls' hl' => k H locs ls' (LH.set1 (v := .inl x) hn hl') hR)
theorem e_astore_n (C : Cx M g) {j : Fin 4} {r : Nat × Nat} (hd : decode M.2.1 pc = .ok (.astore_n j, 1)) (hj : (j : Nat) < M.2.2.1) (hn : nlg L (j : Nat) = true) (k : Ev g (pc + 1) (L.set (j : Nat) (some (.inr (.inr r)))) st σ) : Ev g pc L (.inr (.inr r) :: st) σ := by
  obtain ⟨⟨p, l, e, R⟩, ⟨s, m, args, below⟩, ⟨meth, c, cells, slots⟩, ⟨D, ca, ρ⟩, Q⟩ := g
  obtain ⟨hx, hb, hml, -⟩ := C
  intro H locs ls hl hR
  exact lv_astore_n hx hb hd rfl hl.lv (by rw [hml]; exact hj) rfl (fun ls' hl' => k H locs ls' (LH.set1 (v := .inr (.inr r)) hn hl') hR)
theorem e_astore (C : Cx M g) {j : Nat} {r : Nat × Nat} (hd : decode M.2.1 pc = .ok (.astore j, 2)) (hj : j < M.2.2.1) (hn : nlg L j = true) (k : Ev g (pc + 2) (L.set j (some (.inr (.inr r)))) st σ) : Ev g pc L (.inr (.inr r) :: st) σ := by
  obtain ⟨⟨p, l, e, R⟩, ⟨s, m, args, below⟩, ⟨meth, c, cells, slots⟩, ⟨D, ca, ρ⟩, Q⟩ := g
  obtain ⟨hx, hb, hml, -⟩ := C
  intro H locs ls hl hR
  exact lv_astore hx hb hd hl.lv (by rw [hml]; exact hj) rfl (fun ls' hl' => k H locs ls' (LH.set1 (v := .inr (.inr r)) hn hl') hR)
theorem e_lstore_n (C : Cx M g) {j : Fin 4} {x : Int} (hd : decode M.2.1 pc = .ok (.lstore_n j, 1)) (hj : (j : Nat) + 1 < M.2.2.1) (hn : nlg L (j : Nat) = true) (k : Ev g (pc + 1) ((L.set (j : Nat) (some (.inr (.inl x)))).set ((j : Nat) + 1) none) st σ) : Ev g pc L (.inr (.inl x) :: st) σ := by
  obtain ⟨⟨p, l, e, R⟩, ⟨s, m, args, below⟩, ⟨meth, c, cells, slots⟩, ⟨D, ca, ρ⟩, Q⟩ := g
  obtain ⟨hx, hb, hml, -⟩ := C
  intro H locs ls hl hR
  exact lv_lstore_n hx hb hd rfl hl.lv (by rw [hml]; exact hj) rfl (fun ls' hl' => k H locs ls' (LH.set2 (v := .inr (.inl x)) hn hl') hR)
theorem e_lstore (C : Cx M g) {j : Nat} {x : Int} (hd : decode M.2.1 pc = .ok (.lstore j, 2)) (hj : j + 1 < M.2.2.1) (hn : nlg L j = true) (k : Ev g (pc + 2) ((L.set j (some (.inr (.inl x)))).set (j + 1) none) st σ) : Ev g pc L (.inr (.inl x) :: st) σ := by
  obtain ⟨⟨p, l, e, R⟩, ⟨s, m, args, below⟩, ⟨meth, c, cells, slots⟩, ⟨D, ca, ρ⟩, Q⟩ := g
  obtain ⟨hx, hb, hml, -⟩ := C
  intro H locs ls hl hR
  exact lv_lstore hx hb hd hl.lv (by rw [hml]; exact hj) rfl (fun ls' hl' => k H locs ls' (LH.set2 (v := .inr (.inl x)) hn hl') hR)
theorem e_iinc (C : Cx M g) {j : Nat} {n x : Int} (hd : decode M.2.1 pc = .ok (.iinc j n, 3)) (hL : L[j]? = some (some (.inl x))) (hj : j < M.2.2.1) (hn : nlg L j = true) (k : Ev g (pc + 3) (L.set j (some (.inl (x + n)))) st σ) : Ev g pc L st σ := by
  obtain ⟨⟨p, l, e, R⟩, ⟨s, m, args, below⟩, ⟨meth, c, cells, slots⟩, ⟨D, ca, ρ⟩, Q⟩ := g
  obtain ⟨hx, hb, hml, -⟩ := C
  intro H locs ls hl hR
  obtain ⟨q, hq⟩ := List.getElem?_of_mem ((lvl_mem (ρ := ρ) (L := L) (q := (j, toV ρ (.inl x)))).mpr ⟨_, hL, rfl⟩)
  exact lv_iinc hx hb hd hl.lv hq (Int32.ofInt_add x n).symm (by rw [hml]; exact hj) rfl (fun ls' hl' => k H locs ls' (LH.set1 (v := .inl (x + n)) hn hl') hR)
theorem e_iadd (C : Cx M g) {x y : Int} (hd : decode M.2.1 pc = .ok (.iadd, 1)) (k : Ev g (pc + 1) L (.inl (x + y) :: st) σ) : Ev g pc L (.inl y :: .inl x :: st) σ := by
  obtain ⟨⟨p, l, e, R⟩, ⟨s, m, args, below⟩, ⟨meth, c, cells, slots⟩, ⟨D, ca, ρ⟩, Q⟩ := g
  obtain ⟨hx, hb, -⟩ := C
  intro H locs ls hl hR
  refine lv_iadd hx hb hd ?_
  rw [← Int32.ofInt_add]
  exact k H locs ls hl hR
theorem e_isub (C : Cx M g) {x y : Int} (hd : decode M.2.1 pc = .ok (.isub, 1)) (k : Ev g (pc + 1) L (.inl (x - y) :: st) σ) : Ev g pc L (.inl y :: .inl x :: st) σ := by
  obtain ⟨⟨p, l, e, R⟩, ⟨s, m, args, below⟩, ⟨meth, c, cells, slots⟩, ⟨D, ca, ρ⟩, Q⟩ := g
  obtain ⟨hx, hb, -⟩ := C
  intro H locs ls hl hR
  refine lv_isub hx hb hd ?_
  rw [← Int32.ofInt_sub]
  exact k H locs ls hl hR
theorem e_imul (C : Cx M g) {x y : Int} (hd : decode M.2.1 pc = .ok (.imul, 1)) (k : Ev g (pc + 1) L (.inl (x * y) :: st) σ) : Ev g pc L (.inl y :: .inl x :: st) σ := by
  obtain ⟨⟨p, l, e, R⟩, ⟨s, m, args, below⟩, ⟨meth, c, cells, slots⟩, ⟨D, ca, ρ⟩, Q⟩ := g
  obtain ⟨hx, hb, -⟩ := C
  intro H locs ls hl hR
  refine lv_imul hx hb hd ?_
  rw [← Int32.ofInt_mul]
  exact k H locs ls hl hR
theorem e_ineg (C : Cx M g) {x : Int} (hd : decode M.2.1 pc = .ok (.ineg, 1)) (k : Ev g (pc + 1) L (.inl (-x) :: st) σ) : Ev g pc L (.inl x :: st) σ := by
  obtain ⟨⟨p, l, e, R⟩, ⟨s, m, args, below⟩, ⟨meth, c, cells, slots⟩, ⟨D, ca, ρ⟩, Q⟩ := g
  obtain ⟨hx, hb, -⟩ := C
  intro H locs ls hl hR
  refine lv_ineg hx hb hd ?_
  rw [← Int32.ofInt_neg]
  exact k H locs ls hl hR
/-- the top of the stack by another number of the same 32 bits -/
theorem e_topi {x y : Int} (h : Int32.ofInt x = Int32.ofInt y) (k : Ev g pc L (.inl y :: st) σ) : Ev g pc L (.inl x :: st) σ := by
  obtain ⟨⟨p, l, e, R⟩, ⟨s, m, args, below⟩, ⟨meth, c, cells, slots⟩, ⟨D, ca, ρ⟩, Q⟩ := g
  intro H locs ls hl hR
  have := k H locs ls hl hR
  show W _ _ _ _ _ _ _ _ _ _ _ _ _ _ _ (F0 m pc ls (.int (Int32.ofInt x) :: st.map (toV ρ)))
  rw [h]
  exact this
theorem e_topl {x y : Int} (h : Int64.ofInt x = Int64.ofInt y) (k : Ev g pc L (.inr (.inl y) :: st) σ) : Ev g pc L (.inr (.inl x) :: st) σ := by
  obtain ⟨⟨p, l, e, R⟩, ⟨s, m, args, below⟩, ⟨meth, c, cells, slots⟩, ⟨D, ca, ρ⟩, Q⟩ := g
  intro H locs ls hl hR
  have := k H locs ls hl hR
  show W _ _ _ _ _ _ _ _ _ _ _ _ _ _ _ (F0 m pc ls (.long (Int64.ofInt x) :: st.map (toV ρ)))
  rw [h]
  exact this
end Rows
end
section
/-! rows: branches, arithmetic, stack, fields, arrays (written by wip/gen/gen05.py) -/
section RowsB
variable {M : Md} {g : Mach} {pc : Nat} {L : List (Option V)} {st : List V} {σ : St}
theorem e_icmp_eq (C : Cx M g) {x y : Int} {off : Int} (tgt : Nat) (hd : decode M.2.1 pc = .ok (.if_icmp .eq off, 3)) (ht : (pc : Int) + off = (tgt : Int)) (ha : R32 x) (hb2 : R32 y) (k1 : x = y → Ev g tgt L st σ) (k2 : ¬ x = y → Ev g (pc + 3) L st σ) : Ev g pc L (.inl y :: .inl x :: st) σ := by
  obtain ⟨⟨p, l, e, R⟩, ⟨s, m, args, below⟩, ⟨meth, c, cells, slots⟩, ⟨D, ca, ρ⟩, Q⟩ := g
  obtain ⟨hx, hb, hml, hown, hts, hK, hlk, hfr, hlo, hc, hs, hSt⟩ := C
  intro H locs ls hl hR
  exact lv_icmp_eq hx hb hd ht (fun h => k1 ((r_eq ha hb2).mp h) H locs ls hl hR) (fun h => k2 (fun z => h ((r_eq ha hb2).mpr z)) H locs ls hl hR)
theorem e_if_eq (C : Cx M g) {x : Int} {off : Int} (tgt : Nat) (hd : decode M.2.1 pc = .ok (.ifCond .eq off, 3)) (ht : (pc : Int) + off = (tgt : Int)) (ha : R32 x) (k1 : x = 0 → Ev g tgt L st σ) (k2 : ¬ x = 0 → Ev g (pc + 3) L st σ) : Ev g pc L (.inl x :: st) σ := by
  obtain ⟨⟨p, l, e, R⟩, ⟨s, m, args, below⟩, ⟨meth, c, cells, slots⟩, ⟨D, ca, ρ⟩, Q⟩ := g
  obtain ⟨hx, hb, hml, hown, hts, hK, hlk, hfr, hlo, hc, hs, hSt⟩ := C
  intro H locs ls hl hR
  exact lv_if_eq hx hb hd ht (fun h => k1 ((r_eq ha r_0).mp h) H locs ls hl hR) (fun h => k2 (fun z => h ((r_eq ha r_0).mpr z)) H locs ls hl hR)
theorem e_icmp_ne (C : Cx M g) {x y : Int} {off : Int} (tgt : Nat) (hd : decode M.2.1 pc = .ok (.if_icmp .ne off, 3)) (ht : (pc : Int) + off = (tgt : Int)) (ha : R32 x) (hb2 : R32 y) (k1 : ¬ x = y → Ev g tgt L st σ) (k2 : x = y → Ev g (pc + 3) L st σ) : Ev g pc L (.inl y :: .inl x :: st) σ := by
  obtain ⟨⟨p, l, e, R⟩, ⟨s, m, args, below⟩, ⟨meth, c, cells, slots⟩, ⟨D, ca, ρ⟩, Q⟩ := g
  obtain ⟨hx, hb, hml, hown, hts, hK, hlk, hfr, hlo, hc, hs, hSt⟩ := C
  intro H locs ls hl hR
  exact lv_icmp_ne hx hb hd ht (fun h => k1 ((not_congr (r_eq ha hb2)).mp h) H locs ls hl hR) (fun h => k2 ((r_eq ha hb2).mp h) H locs ls hl hR)
theorem e_if_ne (C : Cx M g) {x : Int} {off : Int} (tgt : Nat) (hd : decode M.2.1 pc = .ok (.ifCond .ne off, 3)) (ht : (pc : Int) + off = (tgt : Int)) (ha : R32 x) (k1 : ¬ x = 0 → Ev g tgt L st σ) (k2 : x = 0 → Ev g (pc + 3) L st σ) : Ev g pc L (.inl x :: st) σ := by
  obtain ⟨⟨p, l, e, R⟩, ⟨s, m, args, below⟩, ⟨meth, c, cells, slots⟩, ⟨D, ca, ρ⟩, Q⟩ := g
  obtain ⟨hx, hb, hml, hown, hts, hK, hlk, hfr, hlo, hc, hs, hSt⟩ := C
  intro H locs ls hl hR
  exact lv_if_ne hx hb hd ht (fun h => k1 ((not_congr (r_eq ha r_0)).mp h) H locs ls hl hR) (fun h => k2 ((r_eq ha r_0).mp h) H locs ls hl hR)
theorem e_icmp_lt (C : Cx M g) {x y : Int} {off : Int} (tgt : Nat) (hd : decode M.2.1 pc = .ok (.if_icmp .lt off, 3)) (ht : (pc : Int) + off = (tgt : Int)) (ha : R32 x) (hb2 : R32 y) (k1 : x < y → Ev g tgt L st σ) (k2 : ¬ x < y → Ev g (pc + 3) L st σ) : Ev g pc L (.inl y :: .inl x :: st) σ := by
  obtain ⟨⟨p, l, e, R⟩, ⟨s, m, args, below⟩, ⟨meth, c, cells, slots⟩, ⟨D, ca, ρ⟩, Q⟩ := g
  obtain ⟨hx, hb, hml, hown, hts, hK, hlk, hfr, hlo, hc, hs, hSt⟩ := C
  intro H locs ls hl hR
  exact lv_icmp_lt hx hb hd ht (fun h => k1 ((r_lt ha hb2).mp h) H locs ls hl hR) (fun h => k2 (fun z => h ((r_lt ha hb2).mpr z)) H locs ls hl hR)
theorem e_if_lt (C : Cx M g) {x : Int} {off : Int} (tgt : Nat) (hd : decode M.2.1 pc = .ok (.ifCond .lt off, 3)) (ht : (pc : Int) + off = (tgt : Int)) (ha : R32 x) (k1 : x < 0 → Ev g tgt L st σ) (k2 : ¬ x < 0 → Ev g (pc + 3) L st σ) : Ev g pc L (.inl x :: st) σ := by
  obtain ⟨⟨p, l, e, R⟩, ⟨s, m, args, below⟩, ⟨meth, c, cells, slots⟩, ⟨D, ca, ρ⟩, Q⟩ := g
  obtain ⟨hx, hb, hml, hown, hts, hK, hlk, hfr, hlo, hc, hs, hSt⟩ := C
  intro H locs ls hl hR
  exact lv_if_lt hx hb hd ht (fun h => k1 ((r_lt ha r_0).mp h) H locs ls hl hR) (fun h => k2 (fun z => h ((r_lt ha r_0).mpr z)) H locs ls hl hR)
theorem e_icmp_ge (C : Cx M g) {x y : Int} {off : Int} (tgt : Nat) (hd : decode M.2.1 pc = .ok (.if_icmp .ge off, 3)) (ht : (pc : Int) + off = (tgt : Int)) (ha : R32 x) (hb2 : R32 y) (k1 : y ≤ x → Ev g tgt L st σ) (k2 : ¬ y ≤ x → Ev g (pc + 3) L st σ) : Ev g pc L (.inl y :: .inl x :: st) σ := by
  obtain ⟨⟨p, l, e, R⟩, ⟨s, m, args, below⟩, ⟨meth, c, cells, slots⟩, ⟨D, ca, ρ⟩, Q⟩ := g
  obtain ⟨hx, hb, hml, hown, hts, hK, hlk, hfr, hlo, hc, hs, hSt⟩ := C
  intro H locs ls hl hR
  exact lv_icmp_ge hx hb hd ht (fun h => k1 ((r_le hb2 ha).mp h) H locs ls hl hR) (fun h => k2 (fun z => h ((r_le hb2 ha).mpr z)) H locs ls hl hR)
theorem e_if_ge (C : Cx M g) {x : Int} {off : Int} (tgt : Nat) (hd : decode M.2.1 pc = .ok (.ifCond .ge off, 3)) (ht : (pc : Int) + off = (tgt : Int)) (ha : R32 x) (k1 : 0 ≤ x → Ev g tgt L st σ) (k2 : ¬ 0 ≤ x → Ev g (pc + 3) L st σ) : Ev g pc L (.inl x :: st) σ := by
  obtain ⟨⟨p, l, e, R⟩, ⟨s, m, args, below⟩, ⟨meth, c, cells, slots⟩, ⟨D, ca, ρ⟩, Q⟩ := g
  obtain ⟨hx, hb, hml, hown, hts, hK, hlk, hfr, hlo, hc, hs, hSt⟩ := C
  intro H locs ls hl hR
  exact lv_if_ge hx hb hd ht (fun h => k1 ((r_le r_0 ha).mp h) H locs ls hl hR) (fun h => k2 (fun z => h ((r_le r_0 ha).mpr z)) H locs ls hl hR)
theorem e_icmp_gt (C : Cx M g) {x y : Int} {off : Int} (tgt : Nat) (hd : decode M.2.1 pc = .ok (.if_icmp .gt off, 3)) (ht : (pc : Int) + off = (tgt : Int)) (ha : R32 x) (hb2 : R32 y) (k1 : y < x → Ev g tgt L st σ) (k2 : ¬ y < x → Ev g (pc + 3) L st σ) : Ev g pc L (.inl y :: .inl x :: st) σ := by
  obtain ⟨⟨p, l, e, R⟩, ⟨s, m, args, below⟩, ⟨meth, c, cells, slots⟩, ⟨D, ca, ρ⟩, Q⟩ := g
  obtain ⟨hx, hb, hml, hown, hts, hK, hlk, hfr, hlo, hc, hs, hSt⟩ := C
  intro H locs ls hl hR
  exact lv_icmp_gt hx hb hd ht (fun h => k1 ((r_lt hb2 ha).mp h) H locs ls hl hR) (fun h => k2 (fun z => h ((r_lt hb2 ha).mpr z)) H locs ls hl hR)
theorem e_if_gt (C : Cx M g) {x : Int} {off : Int} (tgt : Nat) (hd : decode M.2.1 pc = .ok (.ifCond .gt off, 3)) (ht : (pc : Int) + off = (tgt : Int)) (ha : R32 x) (k1 : 0 < x → Ev g tgt L st σ) (k2 : ¬ 0 < x → Ev g (pc + 3) L st σ) : Ev g pc L (.inl x :: st) σ := by
  obtain ⟨⟨p, l, e, R⟩, ⟨s, m, args, below⟩, ⟨meth, c, cells, slots⟩, ⟨D, ca, ρ⟩, Q⟩ := g
  obtain ⟨hx, hb, hml, hown, hts, hK, hlk, hfr, hlo, hc, hs, hSt⟩ := C
  intro H locs ls hl hR
  exact lv_if_gt hx hb hd ht (fun h => k1 ((r_lt r_0 ha).mp h) H locs ls hl hR) (fun h => k2 (fun z => h ((r_lt r_0 ha).mpr z)) H locs ls hl hR)
theorem e_icmp_le (C : Cx M g) {x y : Int} {off : Int} (tgt : Nat) (hd : decode M.2.1 pc = .ok (.if_icmp .le off, 3)) (ht : (pc : Int) + off = (tgt : Int)) (ha : R32 x) (hb2 : R32 y) (k1 : x ≤ y → Ev g tgt L st σ) (k2 : ¬ x ≤ y → Ev g (pc + 3) L st σ) : Ev g pc L (.inl y :: .inl x :: st) σ := by
  obtain ⟨⟨p, l, e, R⟩, ⟨s, m, args, below⟩, ⟨meth, c, cells, slots⟩, ⟨D, ca, ρ⟩, Q⟩ := g
  obtain ⟨hx, hb, hml, hown, hts, hK, hlk, hfr, hlo, hc, hs, hSt⟩ := C
  intro H locs ls hl hR
  exact lv_icmp_le hx hb hd ht (fun h => k1 ((r_le ha hb2).mp h) H locs ls hl hR) (fun h => k2 (fun z => h ((r_le ha hb2).mpr z)) H locs ls hl hR)
theorem e_if_le (C : Cx M g) {x : Int} {off : Int} (tgt : Nat) (hd : decode M.2.1 pc = .ok (.ifCond .le off, 3)) (ht : (pc : Int) + off = (tgt : Int)) (ha : R32 x) (k1 : x ≤ 0 → Ev g tgt L st σ) (k2 : ¬ x ≤ 0 → Ev g (pc + 3) L st σ) : Ev g pc L (.inl x :: st) σ := by
  obtain ⟨⟨p, l, e, R⟩, ⟨s, m, args, below⟩, ⟨meth, c, cells, slots⟩, ⟨D, ca, ρ⟩, Q⟩ := g
  obtain ⟨hx, hb, hml, hown, hts, hK, hlk, hfr, hlo, hc, hs, hSt⟩ := C
  intro H locs ls hl hR
  exact lv_if_le hx hb hd ht (fun h => k1 ((r_le ha r_0).mp h) H locs ls hl hR) (fun h => k2 (fun z => h ((r_le ha r_0).mpr z)) H locs ls hl hR)
theorem e_goto (C : Cx M g) {off : Int} (tgt : Nat) (hd : decode M.2.1 pc = .ok (.goto off, 3)) (ht : (pc : Int) + off = (tgt : Int)) (k : Ev g tgt L st σ) : Ev g pc L st σ := by
  obtain ⟨⟨p, l, e, R⟩, ⟨s, m, args, below⟩, ⟨meth, c, cells, slots⟩, ⟨D, ca, ρ⟩, Q⟩ := g
  obtain ⟨hx, hb, hml, hown, hts, hK, hlk, hfr, hlo, hc, hs, hSt⟩ := C
  intro H locs ls hl hR
  exact lv_goto hx hb hd ht (k H locs ls hl hR)
theorem e_tableOut (C : Cx M g) {dflt lo hi : Int} {offs : Array Int} {len : Nat} {x : Int} (tgt : Nat) (hd : decode M.2.1 pc = .ok (.tableswitch dflt lo hi offs, len)) (ha : R32 x) (h : x < lo ∨ hi < x) (ht : (pc : Int) + dflt = (tgt : Int)) (k : Ev g tgt L st σ) : Ev g pc L (.inl x :: st) σ := by
  obtain ⟨⟨p, l, e, R⟩, ⟨s, m, args, below⟩, ⟨meth, c, cells, slots⟩, ⟨D, ca, ρ⟩, Q⟩ := g
  obtain ⟨hx, hb, hml, hown, hts, hK, hlk, hfr, hlo, hc, hs, hSt⟩ := C
  intro H locs ls hl hR
  exact lv_tableOut hx hb hd (by rw [r_int ha]; exact h) ht (k H locs ls hl hR)
theorem e_tableIn (C : Cx M g) {dflt lo hi : Int} {offs : Array Int} {len : Nat} {x off : Int} (tgt : Nat) (hd : decode M.2.1 pc = .ok (.tableswitch dflt lo hi offs, len)) (ha : R32 x) (h1 : ¬ x < lo) (h2 : ¬ hi < x) (ho : offs[(x - lo).toNat]? = some off) (ht : (pc : Int) + off = (tgt : Int)) (k : Ev g tgt L st σ) : Ev g pc L (.inl x :: st) σ := by
  obtain ⟨⟨p, l, e, R⟩, ⟨s, m, args, below⟩, ⟨meth, c, cells, slots⟩, ⟨D, ca, ρ⟩, Q⟩ := g
  obtain ⟨hx, hb, hml, hown, hts, hK, hlk, hfr, hlo, hc, hs, hSt⟩ := C
  intro H locs ls hl hR
  exact lv_tableIn hx hb hd (by rw [r_int ha]; exact h1) (by rw [r_int ha]; exact h2) (by rw [r_int ha]; exact ho) ht (k H locs ls hl hR)
def z_iand (x y : Int) : Int := (Int32.ofInt x &&& Int32.ofInt y).toInt
theorem e_iand (C : Cx M g) {x y : Int} (hd : decode M.2.1 pc = .ok (.iand, 1)) (k : Ev g (pc + 1) L (.inl (z_iand x y) :: st) σ) : Ev g pc L (.inl y :: .inl x :: st) σ := by
  obtain ⟨⟨p, l, e, R⟩, ⟨s, m, args, below⟩, ⟨meth, c, cells, slots⟩, ⟨D, ca, ρ⟩, Q⟩ := g
  obtain ⟨hx, hb, hml, hown, hts, hK, hlk, hfr, hlo, hc, hs, hSt⟩ := C
  intro H locs ls hl hR
  refine lv_iand hx hb hd ?_
  have := k H locs ls hl hR
  unfold z_iand at this
  simp only [List.map, toV, Int32.ofInt_toInt] at this
  exact this
def z_ior (x y : Int) : Int := (Int32.ofInt x ||| Int32.ofInt y).toInt
theorem e_ior (C : Cx M g) {x y : Int} (hd : decode M.2.1 pc = .ok (.ior, 1)) (k : Ev g (pc + 1) L (.inl (z_ior x y) :: st) σ) : Ev g pc L (.inl y :: .inl x :: st) σ := by
  obtain ⟨⟨p, l, e, R⟩, ⟨s, m, args, below⟩, ⟨meth, c, cells, slots⟩, ⟨D, ca, ρ⟩, Q⟩ := g
  obtain ⟨hx, hb, hml, hown, hts, hK, hlk, hfr, hlo, hc, hs, hSt⟩ := C
  intro H locs ls hl hR
  refine lv_ior hx hb hd ?_
  have := k H locs ls hl hR
  unfold z_ior at this
  simp only [List.map, toV, Int32.ofInt_toInt] at this
  exact this
def z_ixor (x y : Int) : Int := (Int32.ofInt x ^^^ Int32.ofInt y).toInt
theorem e_ixor (C : Cx M g) {x y : Int} (hd : decode M.2.1 pc = .ok (.ixor, 1)) (k : Ev g (pc + 1) L (.inl (z_ixor x y) :: st) σ) : Ev g pc L (.inl y :: .inl x :: st) σ := by
  obtain ⟨⟨p, l, e, R⟩, ⟨s, m, args, below⟩, ⟨meth, c, cells, slots⟩, ⟨D, ca, ρ⟩, Q⟩ := g
  obtain ⟨hx, hb, hml, hown, hts, hK, hlk, hfr, hlo, hc, hs, hSt⟩ := C
  intro H locs ls hl hR
  refine lv_ixor hx hb hd ?_
  have := k H locs ls hl hR
  unfold z_ixor at this
  simp only [List.map, toV, Int32.ofInt_toInt] at this
  exact this
def z_ishl (x y : Int) : Int := (Int32.ofInt x <<< (Int32.ofInt y &&& 31)).toInt
theorem e_ishl (C : Cx M g) {x y : Int} (hd : decode M.2.1 pc = .ok (.ishl, 1)) (k : Ev g (pc + 1) L (.inl (z_ishl x y) :: st) σ) : Ev g pc L (.inl y :: .inl x :: st) σ := by
  obtain ⟨⟨p, l, e, R⟩, ⟨s, m, args, below⟩, ⟨meth, c, cells, slots⟩, ⟨D, ca, ρ⟩, Q⟩ := g
  obtain ⟨hx, hb, hml, hown, hts, hK, hlk, hfr, hlo, hc, hs, hSt⟩ := C
  intro H locs ls hl hR
  refine lv_ishl hx hb hd ?_
  have := k H locs ls hl hR
  unfold z_ishl at this
  simp only [List.map, toV, Int32.ofInt_toInt] at this
  exact this
def z_ishr (x y : Int) : Int := (Int32.ofInt x >>> (Int32.ofInt y &&& 31)).toInt
theorem e_ishr (C : Cx M g) {x y : Int} (hd : decode M.2.1 pc = .ok (.ishr, 1)) (k : Ev g (pc + 1) L (.inl (z_ishr x y) :: st) σ) : Ev g pc L (.inl y :: .inl x :: st) σ := by
  obtain ⟨⟨p, l, e, R⟩, ⟨s, m, args, below⟩, ⟨meth, c, cells, slots⟩, ⟨D, ca, ρ⟩, Q⟩ := g
  obtain ⟨hx, hb, hml, hown, hts, hK, hlk, hfr, hlo, hc, hs, hSt⟩ := C
  intro H locs ls hl hR
  refine lv_ishr hx hb hd ?_
  have := k H locs ls hl hR
  unfold z_ishr at this
  simp only [List.map, toV, Int32.ofInt_toInt] at this
  exact this
theorem r_tdiv {x y : Int} (ha : R32 x) (hb : R32 y) : Int32.ofInt (x.tdiv y) = Int32.ofInt x / Int32.ofInt y := Int32.ofInt_tdiv ha.1 (by have := ha.2; show x ≤ 2147483647; omega) hb.1 (by have := hb.2; show y ≤ 2147483647; omega)
theorem e_idiv (C : Cx M g) {x y : Int} (hd : decode M.2.1 pc = .ok (.idiv, 1)) (ha : R32 x) (hy : R32 y) (hn : y ≠ 0) (k : Ev g (pc + 1) L (.inl (x.tdiv y) :: st) σ) : Ev g pc L (.inl y :: .inl x :: st) σ := by
  obtain ⟨⟨p, l, e, R⟩, ⟨s, m, args, below⟩, ⟨meth, c, cells, slots⟩, ⟨D, ca, ρ⟩, Q⟩ := g
  obtain ⟨hx, hb, hml, hown, hts, hK, hlk, hfr, hlo, hc, hs, hSt⟩ := C
  intro H locs ls hl hR
  refine lv_idiv hx hb hd (fun z => hn ((r_eq hy r_0).mp z)) ?_
  rw [← r_tdiv ha hy]
  exact k H locs ls hl hR
theorem e_irem (C : Cx M g) {x y : Int} (hd : decode M.2.1 pc = .ok (.irem, 1)) (ha : R32 x) (hy : R32 y) (hn : y ≠ 0) (k : Ev g (pc + 1) L (.inl (x.tmod y) :: st) σ) : Ev g pc L (.inl y :: .inl x :: st) σ := by
  obtain ⟨⟨p, l, e, R⟩, ⟨s, m, args, below⟩, ⟨meth, c, cells, slots⟩, ⟨D, ca, ρ⟩, Q⟩ := g
  obtain ⟨hx, hb, hml, hown, hts, hK, hlk, hfr, hlo, hc, hs, hSt⟩ := C
  intro H locs ls hl hR
  refine lv_irem hx hb hd (fun z => hn ((r_eq hy r_0).mp z)) ?_
  rw [← r_tdiv ha hy, ← Int32.ofInt_mul, ← Int32.ofInt_sub, show x - x.tdiv y * y = x.tmod y by rw [Int.tmod_def, Int.mul_comm]]
  exact k H locs ls hl hR
theorem e_ladd (C : Cx M g) {x y : Int} (hd : decode M.2.1 pc = .ok (.ladd, 1)) (k : Ev g (pc + 1) L (.inr (.inl (x + y)) :: st) σ) : Ev g pc L (.inr (.inl y) :: .inr (.inl x) :: st) σ := by
  obtain ⟨⟨p, l, e, R⟩, ⟨s, m, args, below⟩, ⟨meth, c, cells, slots⟩, ⟨D, ca, ρ⟩, Q⟩ := g
  obtain ⟨hx, hb, hml, hown, hts, hK, hlk, hfr, hlo, hc, hs, hSt⟩ := C
  intro H locs ls hl hR
  refine lv_ladd hx hb hd ?_
  rw [← Int64.ofInt_add]
  exact k H locs ls hl hR
theorem e_lmul (C : Cx M g) {x y : Int} (hd : decode M.2.1 pc = .ok (.lmul, 1)) (k : Ev g (pc + 1) L (.inr (.inl (x * y)) :: st) σ) : Ev g pc L (.inr (.inl y) :: .inr (.inl x) :: st) σ := by
  obtain ⟨⟨p, l, e, R⟩, ⟨s, m, args, below⟩, ⟨meth, c, cells, slots⟩, ⟨D, ca, ρ⟩, Q⟩ := g
  obtain ⟨hx, hb, hml, hown, hts, hK, hlk, hfr, hlo, hc, hs, hSt⟩ := C
  intro H locs ls hl hR
  refine lv_lmul hx hb hd ?_
  rw [← Int64.ofInt_mul]
  exact k H locs ls hl hR
def z_lor (x y : Int) : Int := (Int64.ofInt x ||| Int64.ofInt y).toInt
theorem e_lor (C : Cx M g) {x y : Int} (hd : decode M.2.1 pc = .ok (.lor, 1)) (k : Ev g (pc + 1) L (.inr (.inl (z_lor x y)) :: st) σ) : Ev g pc L (.inr (.inl y) :: .inr (.inl x) :: st) σ := by
  obtain ⟨⟨p, l, e, R⟩, ⟨s, m, args, below⟩, ⟨meth, c, cells, slots⟩, ⟨D, ca, ρ⟩, Q⟩ := g
  obtain ⟨hx, hb, hml, hown, hts, hK, hlk, hfr, hlo, hc, hs, hSt⟩ := C
  intro H locs ls hl hR
  refine lv_lor hx hb hd ?_
  have := k H locs ls hl hR
  unfold z_lor at this
  simp only [List.map, toV, Int64.ofInt_toInt] at this
  exact this
def z_lshl (x y : Int) : Int := (Int64.ofInt x <<< ((Int32.ofInt y).toInt64 &&& 63)).toInt
theorem e_lshl (C : Cx M g) {x y : Int} (hd : decode M.2.1 pc = .ok (.lshl, 1)) (k : Ev g (pc + 1) L (.inr (.inl (z_lshl x y)) :: st) σ) : Ev g pc L (.inl y :: .inr (.inl x) :: st) σ := by
  obtain ⟨⟨p, l, e, R⟩, ⟨s, m, args, below⟩, ⟨meth, c, cells, slots⟩, ⟨D, ca, ρ⟩, Q⟩ := g
  obtain ⟨hx, hb, hml, hown, hts, hK, hlk, hfr, hlo, hc, hs, hSt⟩ := C
  intro H locs ls hl hR
  refine lv_lshl hx hb hd rfl ?_
  have := k H locs ls hl hR
  unfold z_lshl at this
  simp only [List.map, toV, Int64.ofInt_toInt] at this
  exact this
theorem e_i2l (C : Cx M g) {x : Int} (hd : decode M.2.1 pc = .ok (.i2l, 1)) (ha : R32 x) (k : Ev g (pc + 1) L (.inr (.inl x) :: st) σ) : Ev g pc L (.inl x :: st) σ := by
  obtain ⟨⟨p, l, e, R⟩, ⟨s, m, args, below⟩, ⟨meth, c, cells, slots⟩, ⟨D, ca, ρ⟩, Q⟩ := g
  obtain ⟨hx, hb, hml, hown, hts, hK, hlk, hfr, hlo, hc, hs, hSt⟩ := C
  intro H locs ls hl hR
  exact lv_i2l hx hb hd (Int32.toInt64_ofInt ha.1 (by have := ha.2; show x ≤ 2147483647; omega)) (k H locs ls hl hR)
theorem e_l2i (C : Cx M g) {x : Int} (hd : decode M.2.1 pc = .ok (.l2i, 1)) (k : Ev g (pc + 1) L (.inl x :: st) σ) : Ev g pc L (.inr (.inl x) :: st) σ := by
  obtain ⟨⟨p, l, e, R⟩, ⟨s, m, args, below⟩, ⟨meth, c, cells, slots⟩, ⟨D, ca, ρ⟩, Q⟩ := g
  obtain ⟨hx, hb, hml, hown, hts, hK, hlk, hfr, hlo, hc, hs, hSt⟩ := C
  intro H locs ls hl hR
  exact lv_l2i hx hb hd Int64.toInt32_ofInt (k H locs ls hl hR)
def z_i2b (x : Int) : Int := (Int32.ofInt x).toInt8.toInt32.toInt
theorem e_i2b (C : Cx M g) {x : Int} (hd : decode M.2.1 pc = .ok (.i2b, 1)) (k : Ev g (pc + 1) L (.inl (z_i2b x) :: st) σ) : Ev g pc L (.inl x :: st) σ := by
  obtain ⟨⟨p, l, e, R⟩, ⟨s, m, args, below⟩, ⟨meth, c, cells, slots⟩, ⟨D, ca, ρ⟩, Q⟩ := g
  obtain ⟨hx, hb, hml, hown, hts, hK, hlk, hfr, hlo, hc, hs, hSt⟩ := C
  intro H locs ls hl hR
  refine lv_i2b hx hb hd rfl ?_
  have := k H locs ls hl hR
  unfold z_i2b at this
  simp only [List.map, toV, Int32.ofInt_toInt] at this
  exact this
def z_cmp (x y : Int) : Int := if y < x then 1 else if x = y then 0 else -1
theorem r64_int {a : Int} (ha : R64 a) : (Int64.ofInt a).toInt = a := Int64.toInt_ofInt_of_le (by have := ha.1; omega) (by have := ha.2; omega)
theorem r_cmp {x y : Int} (ha : R64 x) (hb : R64 y) : lg_cmp (Int64.ofInt x) (Int64.ofInt y) = Int32.ofInt (z_cmp x y) := by
  unfold lg_cmp z_cmp
  have e1 : (Int64.ofInt x > Int64.ofInt y) ↔ y < x := by
    show Int64.ofInt y < Int64.ofInt x ↔ _
    rw [Int64.lt_iff_toInt_lt, r64_int ha, r64_int hb]
  have e2 : (Int64.ofInt x = Int64.ofInt y) ↔ x = y := by
    rw [← Int64.toInt_inj, r64_int ha, r64_int hb]
  by_cases h1 : y < x
  · rw [if_pos (e1.mpr h1), if_pos h1]; rfl
  · rw [if_neg (fun z => h1 (e1.mp z)), if_neg h1]
    by_cases h2 : x = y
    · rw [if_pos (e2.mpr h2), if_pos h2]; rfl
    · rw [if_neg (fun z => h2 (e2.mp z)), if_neg h2]; rfl
theorem e_lcmp (C : Cx M g) {x y : Int} (hd : decode M.2.1 pc = .ok (.lcmp, 1)) (ha : R64 x) (hy : R64 y) (k : Ev g (pc + 1) L (.inl (z_cmp x y) :: st) σ) : Ev g pc L (.inr (.inl y) :: .inr (.inl x) :: st) σ := by
  obtain ⟨⟨p, l, e, R⟩, ⟨s, m, args, below⟩, ⟨meth, c, cells, slots⟩, ⟨D, ca, ρ⟩, Q⟩ := g
  obtain ⟨hx, hb, hml, hown, hts, hK, hlk, hfr, hlo, hc, hs, hSt⟩ := C
  intro H locs ls hl hR
  refine W.lcmp hx hb hd ?_
  rw [r_cmp ha hy]
  exact k H locs ls hl hR
def catv (v : V) : Nat := match v with
  | .inr (.inl _) => 2
  | _ => 1
theorem catv_eq {ρ : Nat → Nat → Nat} (v : V) : (toV ρ v).category = catv v := by
  rcases v with x | x | x <;> rfl
theorem catv_sum {ρ : Nat → Nat → Nat} (st : List V) : ((st.map (toV ρ)).map fun v => v.category).sum = (st.map catv).sum := by
  rw [List.map_map]
  congr 1
  apply List.map_congr_left
  intro v _
  exact catv_eq v
theorem e_dup (C : Cx M g) {v : V} (hd : decode M.2.1 pc = .ok (.dup, 1)) (hv : catv v = 1) (k : Ev g (pc + 1) L (v :: v :: st) σ) : Ev g pc L (v :: st) σ := by
  obtain ⟨⟨p, l, e, R⟩, ⟨s, m, args, below⟩, ⟨meth, c, cells, slots⟩, ⟨D, ca, ρ⟩, Q⟩ := g
  obtain ⟨hx, hb, hml, hown, hts, hK, hlk, hfr, hlo, hc, hs, hSt⟩ := C
  intro H locs ls hl hR
  exact lv_dup hx hb hd (by rw [catv_eq]; exact hv) (k H locs ls hl hR)
theorem e_pop (C : Cx M g) {v : V} (hd : decode M.2.1 pc = .ok (.pop, 1)) (hv : catv v = 1) (k : Ev g (pc + 1) L st σ) : Ev g pc L (v :: st) σ := by
  obtain ⟨⟨p, l, e, R⟩, ⟨s, m, args, below⟩, ⟨meth, c, cells, slots⟩, ⟨D, ca, ρ⟩, Q⟩ := g
  obtain ⟨hx, hb, hml, hown, hts, hK, hlk, hfr, hlo, hc, hs, hSt⟩ := C
  intro H locs ls hl hR
  exact lv_pop hx hb hd (by rw [catv_eq]; exact hv) (k H locs ls hl hR)
theorem e_dup_x1 (C : Cx M g) {v u : V} (hd : decode M.2.1 pc = .ok (.dup_x1, 1)) (hv : catv v = 1) (hu : catv u = 1) (k : Ev g (pc + 1) L (v :: u :: v :: st) σ) : Ev g pc L (v :: u :: st) σ := by
  obtain ⟨⟨p, l, e, R⟩, ⟨s, m, args, below⟩, ⟨meth, c, cells, slots⟩, ⟨D, ca, ρ⟩, Q⟩ := g
  obtain ⟨hx, hb, hml, hown, hts, hK, hlk, hfr, hlo, hc, hs, hSt⟩ := C
  intro H locs ls hl hR
  exact lv_dup_x1 hx hb hd (by rw [catv_eq]; exact hv) (by rw [catv_eq]; exact hu) (k H locs ls hl hR)
theorem e_dup2 (C : Cx M g) {v u : V} (hd : decode M.2.1 pc = .ok (.dup2, 1)) (hv : catv v = 1) (hu : catv u = 1) (k : Ev g (pc + 1) L (v :: u :: v :: u :: st) σ) : Ev g pc L (v :: u :: st) σ := by
  obtain ⟨⟨p, l, e, R⟩, ⟨s, m, args, below⟩, ⟨meth, c, cells, slots⟩, ⟨D, ca, ρ⟩, Q⟩ := g
  obtain ⟨hx, hb, hml, hown, hts, hK, hlk, hfr, hlo, hc, hs, hSt⟩ := C
  intro H locs ls hl hR
  exact lv_dup2_11 hx hb hd (by rw [catv_eq]; exact hv) (by rw [catv_eq]; exact hu) (k H locs ls hl hR)
theorem e_ldc (C : Cx M g) {idx : Nat} {z : Int} (hw : Cond.constant M.1.cls idx (Int32.ofInt z) ∈ lw_gd) (hd : decode M.2.1 pc = .ok (.ldc idx, 2)) (k : Ev g (pc + 2) L (.inl z :: st) σ) : Ev g pc L st σ := by
  obtain ⟨⟨p, l, e, R⟩, ⟨s, m, args, below⟩, ⟨meth, c, cells, slots⟩, ⟨D, ca, ρ⟩, Q⟩ := g
  obtain ⟨hx, hb, hml, hown, hts, hK, hlk, hfr, hlo, hc, hs, hSt⟩ := C
  intro H locs ls hl hR
  exact lv_ldc hx hb hown (hts _ hw) hd (k H locs ls hl hR)
theorem e_ldc2 (C : Cx M g) {idx : Nat} {z : Int} (hw : Cond.constantLong M.1.cls idx (Int64.ofInt z) ∈ lw_gd) (hd : decode M.2.1 pc = .ok (.ldc2_w idx, 3)) (k : Ev g (pc + 3) L (.inr (.inl z) :: st) σ) : Ev g pc L st σ := by
  obtain ⟨⟨p, l, e, R⟩, ⟨s, m, args, below⟩, ⟨meth, c, cells, slots⟩, ⟨D, ca, ρ⟩, Q⟩ := g
  obtain ⟨hx, hb, hml, hown, hts, hK, hlk, hfr, hlo, hc, hs, hSt⟩ := C
  intro H locs ls hl hR
  exact lv_ldc2 hx hb hown (hts _ hw) hd (k H locs ls hl hR)
theorem e_mmax (C : Cx M g) {idx : Nat} {x y : Int} (hw : Cond.methodLink M.1.cls idx Lib.Math.max.name ∈ lw_gd ∧ Cond.static Lib.Math.max.name ∈ lw_gd ∧ Cond.initialized "java/lang/Math" ∈ lw_gd ∧ Cond.code Lib.Math.max.name Lib.Math.max.code 2 (some .int) ∈ lw_gd) (hd : decode M.2.1 pc = .ok (.invokestatic idx, 3)) (h1 : 1 ≤ M.2.2.2.2.1) (h2 : (st.map catv).sum + 13 ≤ M.2.2.2.2.2) (ha : R32 x) (hy : R32 y) (k : Ev g (pc + 3) L (.inl (max x y) :: st) σ) : Ev g pc L (.inl y :: .inl x :: st) σ := by
  obtain ⟨⟨p, l, e, R⟩, ⟨s, m, args, below⟩, ⟨meth, c, cells, slots⟩, ⟨D, ca, ρ⟩, Q⟩ := g
  obtain ⟨hx, hb, hml, hown, hts, hK, hlk, hfr, hlo, hc, hs, hSt⟩ := C
  intro H locs ls hl hR
  refine va_mmax hx hb hl.1.symm hown (hts _ hw.1) (hts _ hw.2.1) (hts _ hw.2.2.1) (hts _ hw.2.2.2) (by omega) (by rw [catv_sum]; omega) hc hs hd ?_
  have e1 : (if Int32.ofInt x < Int32.ofInt y then Int32.ofInt y else Int32.ofInt x) = Int32.ofInt (max x y) := by
    by_cases h : x < y
    · rw [if_pos ((r_lt ha hy).mpr h), show max x y = y by omega]
    · rw [if_neg (fun z => h ((r_lt ha hy).mp z)), show max x y = x by omega]
  rw [e1]
  exact k H locs ls hl hR
theorem e_mmin (C : Cx M g) {idx : Nat} {x y : Int} (hw : Cond.methodLink M.1.cls idx Lib.Math.min.name ∈ lw_gd ∧ Cond.static Lib.Math.min.name ∈ lw_gd ∧ Cond.initialized "java/lang/Math" ∈ lw_gd ∧ Cond.code Lib.Math.min.name Lib.Math.min.code 2 (some .int) ∈ lw_gd) (hd : decode M.2.1 pc = .ok (.invokestatic idx, 3)) (h1 : 1 ≤ M.2.2.2.2.1) (h2 : (st.map catv).sum + 13 ≤ M.2.2.2.2.2) (ha : R32 x) (hy : R32 y) (k : Ev g (pc + 3) L (.inl (min x y) :: st) σ) : Ev g pc L (.inl y :: .inl x :: st) σ := by
  obtain ⟨⟨p, l, e, R⟩, ⟨s, m, args, below⟩, ⟨meth, c, cells, slots⟩, ⟨D, ca, ρ⟩, Q⟩ := g
  obtain ⟨hx, hb, hml, hown, hts, hK, hlk, hfr, hlo, hc, hs, hSt⟩ := C
  intro H locs ls hl hR
  refine va_mmin hx hb hl.1.symm hown (hts _ hw.1) (hts _ hw.2.1) (hts _ hw.2.2.1) (hts _ hw.2.2.2) (by omega) (by rw [catv_sum]; omega) hc hs hd ?_
  have e1 : (if Int32.ofInt y < Int32.ofInt x then Int32.ofInt y else Int32.ofInt x) = Int32.ofInt (min x y) := by
    by_cases h : y < x
    · rw [if_pos ((r_lt hy ha).mpr h), show min x y = y by omega]
    · rw [if_neg (fun z => h ((r_lt hy ha).mp z)), show min x y = x by omega]
  first | rw [e1] | rw [show (if Int32.ofInt x < Int32.ofInt y then Int32.ofInt x else Int32.ofInt y) = Int32.ofInt (min x y) by
    by_cases h : x < y
    · rw [if_pos ((r_lt ha hy).mpr h), show min x y = x by omega]
    · rw [if_neg (fun z => h ((r_lt ha hy).mp z)), show min x y = y by omega]]
  exact k H locs ls hl hR
theorem e_lmin (C : Cx M g) {idx : Nat} {x y : Int} (hw : Cond.methodLink M.1.cls idx Lib.MathLoose.min_long.x ∈ lw_gd ∧ Cond.static Lib.MathLoose.min_long.x ∈ lw_gd ∧ Cond.initialized "java/lang/Math" ∈ lw_gd ∧ Cond.code Lib.MathLoose.min_long.x Lib.MathLoose.min_long.code 4 (some .long) ∈ lw_gd) (hd : decode M.2.1 pc = .ok (.invokestatic idx, 3)) (h1 : 1 ≤ M.2.2.2.2.1) (h2 : (st.map catv).sum + 15 ≤ M.2.2.2.2.2) (ha : R64 x) (hy : R64 y) (k : Ev g (pc + 3) L (.inr (.inl (min x y)) :: st) σ) : Ev g pc L (.inr (.inl y) :: .inr (.inl x) :: st) σ := by
  obtain ⟨⟨p, l, e, R⟩, ⟨s, m, args, below⟩, ⟨meth, c, cells, slots⟩, ⟨D, ca, ρ⟩, Q⟩ := g
  obtain ⟨hx, hb, hml, hown, hts, hK, hlk, hfr, hlo, hc, hs, hSt⟩ := C
  intro H locs ls hl hR
  have e0 : ∀ a b : Int, R64 a → R64 b → (Int64.ofInt a < Int64.ofInt b ↔ a < b) := fun a b h1 h2 => by rw [Int64.lt_iff_toInt_lt, r64_int h1, r64_int h2]
  refine va_mmin_long hx hb hl.1.symm hown (hts _ hw.1) (hts _ hw.2.1) (hts _ hw.2.2.1) (hts _ hw.2.2.2) (by omega) (by rw [catv_sum]; omega) hc hs hd ?_
  first
    | rw [show (if Int64.ofInt y < Int64.ofInt x then Int64.ofInt y else Int64.ofInt x) = Int64.ofInt (min x y) by
        by_cases h : y < x
        · rw [if_pos ((e0 y x hy ha).mpr h), show min x y = y by omega]
        · rw [if_neg (fun z => h ((e0 y x hy ha).mp z)), show min x y = x by omega]]
    | rw [show (if Int64.ofInt x < Int64.ofInt y then Int64.ofInt x else Int64.ofInt y) = Int64.ofInt (min x y) by
        by_cases h : x < y
        · rw [if_pos ((e0 x y ha hy).mpr h), show min x y = x by omega]
        · rw [if_neg (fun z => h ((e0 x y ha hy).mp z)), show min x y = y by omega]]
  exact k H locs ls hl hR
end RowsB
end
section
/-! rows: fields and arrays (written by wip/gen/gen06.py) -/
def KOk (ci : Nat) (Cn : String) (T : u_T) (N : Nat) : Prop := classes[ci]? = some (Cn, T, N) ∧ nf ci = N ∧ (∀ t ∈ u_ws Cn T N, t ∈ lw_gd) ∧ (∃ ty0 : Nat → FieldType, ∀ k, k < N → parseFieldDescriptor (T k).2.2.1 = some (ty0 k)) ∧ (∀ a, a < N → ∀ b, b < N → a ≠ b → (T a).2.1 ≠ (T b).2.1) ∧ ∀ k, k < N → (T k).1 = Cn
theorem k_Ca : KOk 0 R_Ca F_Ca 15 := ⟨rfl, rfl, fun t h => List.mem_filter.mpr ⟨i_Ca t h, List.all_eq_true.mp (by decide +kernel : (u_ws R_Ca F_Ca 15).all goodWord = true) t h⟩, ⟨t_Ca, t_Ca_ok⟩, n_Ca, o_Ca⟩
theorem k_Dr : KOk 1 R_Dr F_Dr 9 := ⟨rfl, rfl, fun t h => List.mem_filter.mpr ⟨i_Dr t h, List.all_eq_true.mp (by decide +kernel : (u_ws R_Dr F_Dr 9).all goodWord = true) t h⟩, ⟨t_Dr, t_Dr_ok⟩, n_Dr, o_Dr⟩
theorem k_Ga : KOk 2 R_Ga F_Ga 7 := ⟨rfl, rfl, fun t h => List.mem_filter.mpr ⟨i_Ga t h, List.all_eq_true.mp (by decide +kernel : (u_ws R_Ga F_Ga 7).all goodWord = true) t h⟩, ⟨t_Ga, t_Ga_ok⟩, n_Ga, o_Ga⟩
theorem k_Hi : KOk 3 R_Hi F_Hi 3 := ⟨rfl, rfl, fun t h => List.mem_filter.mpr ⟨i_Hi t h, List.all_eq_true.mp (by decide +kernel : (u_ws R_Hi F_Hi 3).all goodWord = true) t h⟩, ⟨t_Hi, t_Hi_ok⟩, n_Hi, o_Hi⟩
theorem k_La : KOk 4 R_La F_La 9 := ⟨rfl, rfl, fun t h => List.mem_filter.mpr ⟨i_La t h, List.all_eq_true.mp (by decide +kernel : (u_ws R_La F_La 9).all goodWord = true) t h⟩, ⟨t_La, t_La_ok⟩, n_La, o_La⟩
theorem k_Ou : KOk 5 R_Ou F_Ou 3 := ⟨rfl, rfl, fun t h => List.mem_filter.mpr ⟨i_Ou t h, List.all_eq_true.mp (by decide +kernel : (u_ws R_Ou F_Ou 3).all goodWord = true) t h⟩, ⟨t_Ou, t_Ou_ok⟩, n_Ou, o_Ou⟩
theorem k_Pl : KOk 6 R_Pl F_Pl 9 := ⟨rfl, rfl, fun t h => List.mem_filter.mpr ⟨i_Pl t h, List.all_eq_true.mp (by decide +kernel : (u_ws R_Pl F_Pl 9).all goodWord = true) t h⟩, ⟨t_Pl, t_Pl_ok⟩, n_Pl, o_Pl⟩
theorem k_Re : KOk 7 R_Re F_Re 17 := ⟨rfl, rfl, fun t h => List.mem_filter.mpr ⟨i_Re t h, List.all_eq_true.mp (by decide +kernel : (u_ws R_Re F_Re 17).all goodWord = true) t h⟩, ⟨t_Re, t_Re_ok⟩, n_Re, o_Re⟩
theorem k_Ru : KOk 8 R_Ru F_Ru 10 := ⟨rfl, rfl, fun t h => List.mem_filter.mpr ⟨i_Ru t h, List.all_eq_true.mp (by decide +kernel : (u_ws R_Ru F_Ru 10).all goodWord = true) t h⟩, ⟨t_Ru, t_Ru_ok⟩, n_Ru, o_Ru⟩
theorem k_Ta : KOk 9 R_Ta F_Ta 2 := ⟨rfl, rfl, fun t h => List.mem_filter.mpr ⟨i_Ta t h, List.all_eq_true.mp (by decide +kernel : (u_ws R_Ta F_Ta 2).all goodWord = true) t h⟩, ⟨t_Ta, t_Ta_ok⟩, n_Ta, o_Ta⟩
theorem k_To : KOk 10 R_To F_To 4 := ⟨rfl, rfl, fun t h => List.mem_filter.mpr ⟨i_To t h, List.all_eq_true.mp (by decide +kernel : (u_ws R_To F_To 4).all goodWord = true) t h⟩, ⟨t_To, t_To_ok⟩, n_To, o_To⟩
theorem k_Sg : KOk 11 R_Sg F_Sg 13 := ⟨rfl, rfl, fun t h => List.mem_filter.mpr ⟨i_Sg t h, List.all_eq_true.mp (by decide +kernel : (u_ws R_Sg F_Sg 13).all goodWord = true) t h⟩, ⟨t_Sg, t_Sg_ok⟩, n_Sg, o_Sg⟩
theorem k_Mo : KOk 12 R_Mo F_Mo 61 := ⟨rfl, rfl, fun t h => List.mem_filter.mpr ⟨i_Mo t h, List.all_eq_true.mp (by decide +kernel : (u_ws R_Mo F_Mo 61).all goodWord = true) t h⟩, ⟨t_Mo, t_Mo_ok⟩, n_Mo, o_Mo⟩
/-- a field as a method's instruction names it: the class of the method, the place in its pool, the object's class, the field -/
def FL (own : String) (idx ci f : Nat) : Prop := ∃ (Cn : String) (T : u_T) (N : Nat), KOk ci Cn T N ∧ f < N ∧ Cond.fieldLink own idx Cn (T f).2.1 (T f).2.2.1 ∈ lw_gd
def FP (own : String) (idx ci f : Nat) (ty : FieldType) : Prop := ∃ (Cn : String) (T : u_T) (N : Nat), KOk ci Cn T N ∧ f < N ∧ Cond.fieldLink own idx Cn (T f).2.1 (T f).2.2.1 ∈ lw_gd ∧ (T f).2.2.2 = false ∧ parseFieldDescriptor (T f).2.2.1 = some ty
theorem range_set {α : Type} {N f : Nat} {F F' : Nat → α} (hf : f < N) (h : ∀ j, j ≠ f → F' j = F j) : ((List.range N).map F).set f (F' f) = (List.range N).map F' := by
  apply List.ext_getElem?
  intro i
  by_cases hi : i = f
  · subst hi
    rw [List.getElem?_set_self (by rw [List.length_map, List.length_range]; exact hf), List.getElem?_map, List.getElem?_range hf]
    rfl
  · rw [List.getElem?_set_ne (fun z => hi z.symm), List.getElem?_map, List.getElem?_map]
    by_cases hl : i < N
    · rw [List.getElem?_range hl]
      show some _ = some _
      rw [h i hi]
    · rw [List.getElem?_eq_none (by rw [List.length_range]; omega)]
      rfl
section RowsF
variable {M : Md} {g : Mach} {pc : Nat} {L : List (Option V)} {st : List V} {σ : St}
theorem e_get (C : Cx M g) {o f idx ci : Nat} {v : V} (h : FL M.1.cls idx ci f) (ho : o ∈ objs) (hcl : cls o = ci) (hv : fvl σ o f (kd ci f) = v) (hd : decode M.2.1 pc = .ok (.getfield idx, 3)) (k : Ev g (pc + 3) L (v :: st) σ) : Ev g pc L (.inr (.inr (o, 0)) :: st) σ := by
  obtain ⟨⟨p, l, e, R⟩, ⟨s, m, args, below⟩, ⟨meth, c, cells, slots⟩, ⟨D, ca, ρ⟩, Q⟩ := g
  obtain ⟨hx, hb, hml, hown, hts, hK, hlk, hfr, hlo, hc, hs, hSt⟩ := C
  intro H locs ls hl hR
  obtain ⟨Cn, T, N, ⟨k1, k2, k3, -, -, k6⟩, hf, hl2⟩ := h
  subst hcl
  obtain ⟨q, hq1, hq2⟩ := wsl_get (D, ca, ρ) σ (ky_obj ho)
  refine va_get (D := D) (cl := classes) (ref := Cn) hx hb hts k3 hown hK hR.1 q hq2 k1 f hf (hts _ hl2) (fun x h9 => by rw [k6 f hf] at h9; exact h9) (v := toV ρ v) ?_ hd (k H locs ls hl hR)
  rw [List.getElem?_map, List.getElem?_range (by rw [k2]; exact hf), ← hv]
  rfl
theorem e_geti (C : Cx M g) {o f idx ci : Nat} (h : FL M.1.cls idx ci f) (ho : o ∈ objs) (hcl : cls o = ci) (hk : kd ci f = 0) (hd : decode M.2.1 pc = .ok (.getfield idx, 3)) (k : R32 (σ o f 0) → Ev g (pc + 3) L (.inl (σ o f 0) :: st) σ) : Ev g pc L (.inr (.inr (o, 0)) :: st) σ :=
  e_rng fun hr => e_get C h ho hcl (by rw [hk]; rfl) hd (k (by have := hr o f 0; rw [hcl, hk] at this; exact this))
theorem e_getz (C : Cx M g) {o f idx ci : Nat} (h : FL M.1.cls idx ci f) (ho : o ∈ objs) (hcl : cls o = ci) (hk : kd ci f = 1) (hd : decode M.2.1 pc = .ok (.getfield idx, 3)) (k : (σ o f 0 = 0 ∨ σ o f 0 = 1) → Ev g (pc + 3) L (.inl (σ o f 0) :: st) σ) : Ev g pc L (.inr (.inr (o, 0)) :: st) σ :=
  e_rng fun hr => e_get C h ho hcl (by rw [hk]; rfl) hd (k (by have := hr o f 0; rw [hcl, hk] at this; exact this))
theorem e_getl (C : Cx M g) {o f idx ci : Nat} (h : FL M.1.cls idx ci f) (ho : o ∈ objs) (hcl : cls o = ci) (hk : kd ci f = 2) (hd : decode M.2.1 pc = .ok (.getfield idx, 3)) (k : R64 (σ o f 0) → Ev g (pc + 3) L (.inr (.inl (σ o f 0)) :: st) σ) : Ev g pc L (.inr (.inr (o, 0)) :: st) σ :=
  e_rng fun hr => e_get C h ho hcl (by rw [hk]; rfl) hd (k (by have := hr o f 0; rw [hcl, hk] at this; exact this))
theorem e_geto (C : Cx M g) {o f idx ci : Nat} (h : FL M.1.cls idx ci f) (ho : o ∈ objs) (hcl : cls o = ci) (hk : kd ci f = 7) {o2 : Nat} (h2 : fo o f = o2) (hd : decode M.2.1 pc = .ok (.getfield idx, 3)) (k : Ev g (pc + 3) L (.inr (.inr (o2, 0)) :: st) σ) : Ev g pc L (.inr (.inr (o, 0)) :: st) σ :=
  e_get C h ho hcl (by rw [hk, ← h2]; rfl) hd k
theorem e_geta (C : Cx M g) {o f idx ci : Nat} (h : FL M.1.cls idx ci f) (ho : o ∈ objs) (hcl : cls o = ci) (hk : isArr (kd ci f) = true) (hd : decode M.2.1 pc = .ok (.getfield idx, 3)) (k : Ev g (pc + 3) L (.inr (.inr (o, f + 1)) :: st) σ) : Ev g pc L (.inr (.inr (o, 0)) :: st) σ := by
  refine e_get C h ho hcl ?_ hd k
  generalize kd ci f = n at hk
  simp only [isArr, Bool.or_eq_true, beq_iff_eq] at hk
  rcases hk with (((h | h) | h) | h) | h <;> subst h <;> rfl
theorem e_put (C : Cx M g) {o f idx ci : Nat} {v : V} {z : Int} {ty : FieldType} (h : FP M.1.cls idx ci f ty) (ho : o ∈ objs) (hcl : cls o = ci) (hk : isArr (kd ci f) = false) (hn : ∀ ρ : Nat → Nat → Nat, narrow ty (toV ρ v) = toV ρ v ∧ fits ty (toV ρ v) = true) (hv : ∀ ρ : Nat → Nat → Nat, toV ρ (fvl (wr σ o f 0 z) o f (kd ci f)) = toV ρ v) (hz : rk (kd ci f) z) (hd : decode M.2.1 pc = .ok (.putfield idx, 3)) (k : Ev g (pc + 3) L st (wr σ o f 0 z)) : Ev g pc L (v :: .inr (.inr (o, 0)) :: st) σ := by
  obtain ⟨⟨p, l, e, R⟩, ⟨s, m, args, below⟩, ⟨meth, c, cells, slots⟩, ⟨D, ca, ρ⟩, Q⟩ := g
  obtain ⟨hx, hb, hml, hown, hts, hK, hlk, hfr, hlo, hc, hs, hSt⟩ := C
  intro H locs ls hl hR
  obtain ⟨Cn, T, N, ⟨k1, k2, k3, ⟨ty0, k4⟩, k5, k6⟩, hf, hl2, hfin, hpt⟩ := h
  subst hcl
  obtain ⟨q, hq1, hq2⟩ := wsl_get (D, ca, ρ) σ (ky_obj ho)
  obtain ⟨hP, hD, hS, hG⟩ := hR
  refine va_put (D := D) (cl := classes) (ref := Cn) hx hb hts k3 ty0 k4 k5 hown hK hP hD hS q hq2 k1 f hf (hts _ hl2) (fun x h9 => by rw [k6 f hf] at h9; exact h9) hfin hpt (hn ρ).1 (hn ρ).2 (by rw [List.length_map, List.length_range, k2]; exact hf) hd (fun H1 locs1 hP1 hD1 hS1 => ?_)
  have e1 : (wsl (D, ca, ρ) σ).set q (ρ o 0, .inr (cls o, ((List.range (nf (cls o))).map fun f => toV ρ (fvl σ o f (kd (cls o) f))).set f (toV ρ v))) = wsl (D, ca, ρ) (wr σ o f 0 z) := by
    rw [← hv ρ, range_set (F' := fun f2 => toV ρ (fvl (wr σ o f 0 z) o f2 (kd (cls o) f2))) (by rw [k2]; exact hf) (fun j hj => ?_)]
    · exact wsl_set hD hq1 (cell_wr_fld hk)
    · show toV ρ _ = toV ρ _
      congr 1
      have e2 : wr σ o f 0 z o j 0 = σ o j 0 := wr_ne (fun h => hj h.2.1)
      unfold fvl
      rw [e2]
  have hP1 : va_P D classes ((wsl (D, ca, ρ) σ).set q (ρ o 0, .inr (cls o, ((List.range (nf (cls o))).map fun f => toV ρ (fvl σ o f (kd (cls o) f))).set f (toV ρ v)))) H1 := hP1
  have hD1 : va_D (AA (D, ca, ρ)) ((wsl (D, ca, ρ) σ).set q (ρ o 0, .inr (cls o, ((List.range (nf (cls o))).map fun f => toV ρ (fvl σ o f (kd (cls o) f))).set f (toV ρ v)))) := hD1
  rw [e1] at hP1 hD1
  exact k H1 locs1 ls hl ⟨hP1, hD1, hS1, rng_wr hG hz⟩
theorem e_puti (C : Cx M g) {o f idx ci : Nat} {z : Int} (h : FP M.1.cls idx ci f .int) (ho : o ∈ objs) (hcl : cls o = ci) (hk : kd ci f = 0) (hz : R32 z) (hd : decode M.2.1 pc = .ok (.putfield idx, 3)) (k : Ev g (pc + 3) L st (wr σ o f 0 z)) : Ev g pc L (.inl z :: .inr (.inr (o, 0)) :: st) σ :=
  e_put C h ho hcl (by rw [hk]; rfl) (fun ρ => ⟨vp_nar_int _, rfl⟩) (fun ρ => by rw [hk]; show toV ρ (.inl (wr σ o f 0 z o f 0)) = _; rw [wr_at]) (by rw [hk]; exact hz) hd k
theorem nf_z0 : narrow .boolean (.int (Int32.ofInt 0)) = .int (Int32.ofInt 0) ∧ fits .boolean (.int (Int32.ofInt 0)) = true := by decide
theorem nf_z1 : narrow .boolean (.int (Int32.ofInt 1)) = .int (Int32.ofInt 1) ∧ fits .boolean (.int (Int32.ofInt 1)) = true := by decide
theorem e_putz (C : Cx M g) {o f idx ci : Nat} {z : Int} (h : FP M.1.cls idx ci f .boolean) (ho : o ∈ objs) (hcl : cls o = ci) (hk : kd ci f = 1) (hz : z = 0 ∨ z = 1) (hd : decode M.2.1 pc = .ok (.putfield idx, 3)) (k : Ev g (pc + 3) L st (wr σ o f 0 z)) : Ev g pc L (.inl z :: .inr (.inr (o, 0)) :: st) σ :=
  e_put C h ho hcl (by rw [hk]; rfl) (fun ρ => by rcases hz with h | h <;> subst h <;> first | exact nf_z0 | exact nf_z1) (fun ρ => by rw [hk]; show toV ρ (.inl (wr σ o f 0 z o f 0)) = _; rw [wr_at]) (by rw [hk]; exact hz) hd k
theorem e_putl (C : Cx M g) {o f idx ci : Nat} {z : Int} (h : FP M.1.cls idx ci f .long) (ho : o ∈ objs) (hcl : cls o = ci) (hk : kd ci f = 2) (hz : R64 z) (hd : decode M.2.1 pc = .ok (.putfield idx, 3)) (k : Ev g (pc + 3) L st (wr σ o f 0 z)) : Ev g pc L (.inr (.inl z) :: .inr (.inr (o, 0)) :: st) σ :=
  e_put C h ho hcl (by rw [hk]; rfl) (fun ρ => ⟨rfl, rfl⟩) (fun ρ => by rw [hk]; show toV ρ (.inr (.inl (wr σ o f 0 z o f 0))) = _; rw [wr_at]) (by rw [hk]; exact hz) hd k
theorem cell_i {w : Wd} {σ : St} {o f ci kn : Nat} (hcl : cls o = ci) (hk : kd ci f = kn) (h : kn = 3 ∨ kn = 4 ∨ kn = 5) : cellE w σ (o, f + 1) = .inl (w.2.1 kn, ln ci f, .inl fun j => Int32.ofInt (σ o f j)) := by
  subst hcl
  show Sum.inl (w.2.1 (kd (cls o) f), _, con w.2.2 σ o f (kd (cls o) f)) = _
  rw [hk]
  rcases h with h | h | h <;> subst h <;> rfl
theorem cell_l {w : Wd} {σ : St} {o f ci : Nat} (hcl : cls o = ci) (hk : kd ci f = 6) : cellE w σ (o, f + 1) = .inl (w.2.1 6, ln ci f, .inr (.inl fun j => Int64.ofInt (σ o f j))) := by
  subst hcl
  show Sum.inl (w.2.1 (kd (cls o) f), _, con w.2.2 σ o f (kd (cls o) f)) = _
  rw [hk]
  rfl
theorem cell_q {w : Wd} {σ : St} {o f ci : Nat} (hcl : cls o = ci) (hk : kd ci f = 8) : cellE w σ (o, f + 1) = .inl (w.2.1 8, ln ci f, .inr (.inr (.inr (.inr fun j => some (w.2.2 (fo o f + j) 0))))) := by
  subst hcl
  show Sum.inl (w.2.1 (kd (cls o) f), _, con w.2.2 σ o f (kd (cls o) f)) = _
  rw [hk]
  rfl
theorem upd_wr {σ : St} {o f : Nat} {i v : Int} (h0 : 0 ≤ i) : upd (fun j => Int32.ofInt (σ o f (j : Nat))) i.toNat (Int32.ofInt v) = fun j : Nat => Int32.ofInt (wr σ o f i v o f (j : Nat)) := by
  funext j
  unfold upd
  by_cases h : j = i.toNat
  · rw [if_pos h]
    have : (j : Int) = i := by omega
    rw [this, wr_at]
  · rw [if_neg h, wr_ne (fun z => h (by have := z.2.2; omega))]
theorem updL_wr {σ : St} {o f : Nat} {i v : Int} (h0 : 0 ≤ i) : vp_updL (fun j => Int64.ofInt (σ o f (j : Nat))) i.toNat (Int64.ofInt v) = fun j : Nat => Int64.ofInt (wr σ o f i v o f (j : Nat)) := by
  funext j
  unfold vp_updL
  by_cases h : j = i.toNat
  · rw [if_pos h]
    have : (j : Int) = i := by omega
    rw [this, wr_at]
  · rw [if_neg h, wr_ne (fun z => h (by have := z.2.2; omega))]
theorem e_iald (C : Cx M g) {o f ci n : Nat} {i : Int} (ho : o ∈ objs) (hcl : cls o = ci) (hf : f < nf ci) (hk : kd ci f = 3) (hn : ln ci f = n) (hnb : n < 2147483648) (h0 : 0 ≤ i) (h1 : i < n) (hd : decode M.2.1 pc = .ok (.iaload, 1)) (k : R32 (σ o f i) → Ev g (pc + 1) L (.inl (σ o f i) :: st) σ) : Ev g pc L (.inl i :: .inr (.inr (o, f + 1)) :: st) σ := by
  obtain ⟨⟨p, l, e, R⟩, ⟨s, m, args, below⟩, ⟨meth, c, cells, slots⟩, ⟨D, ca, ρ⟩, Q⟩ := g
  obtain ⟨hx, hb, hml, hown, hts, hK, hlk, hfr, hlo, hc, hs, hSt⟩ := C
  intro H locs ls hl hR
  obtain ⟨q, hq1, hq2⟩ := wsl_get (D, ca, ρ) σ (ky_arr ho (by rw [hcl]; exact hf) (by rw [hcl, hk]; rfl))
  rw [cell_i hcl hk (by decide)] at hq2
  obtain ⟨hP, hD, hS, hG⟩ := hR
  refine va_iald hx hb hK hP q 0 hq2 rfl (r_in h0 (by rw [hn]; exact h1) (by rw [hn]; exact hnb)) hd ?_
  have e1 : ((Int32.ofInt i).toNatClampNeg : Int) = i := by rw [r_clamp h0 (by omega)]; omega
  rw [e1]
  exact k (by have := hG o f i; rw [hcl, hk] at this; exact this) H locs ls hl ⟨hP, hD, hS, hG⟩
theorem e_zald (C : Cx M g) {o f ci n : Nat} {i : Int} (ho : o ∈ objs) (hcl : cls o = ci) (hf : f < nf ci) (hk : kd ci f = 4) (hn : ln ci f = n) (hnb : n < 2147483648) (h0 : 0 ≤ i) (h1 : i < n) (hd : decode M.2.1 pc = .ok (.baload, 1)) (k : (σ o f i = 0 ∨ σ o f i = 1) → Ev g (pc + 1) L (.inl (σ o f i) :: st) σ) : Ev g pc L (.inl i :: .inr (.inr (o, f + 1)) :: st) σ := by
  obtain ⟨⟨p, l, e, R⟩, ⟨s, m, args, below⟩, ⟨meth, c, cells, slots⟩, ⟨D, ca, ρ⟩, Q⟩ := g
  obtain ⟨hx, hb, hml, hown, hts, hK, hlk, hfr, hlo, hc, hs, hSt⟩ := C
  intro H locs ls hl hR
  obtain ⟨q, hq1, hq2⟩ := wsl_get (D, ca, ρ) σ (ky_arr ho (by rw [hcl]; exact hf) (by rw [hcl, hk]; rfl))
  rw [cell_i hcl hk (by decide)] at hq2
  obtain ⟨hP, hD, hS, hG⟩ := hR
  refine va_zald hx hb hK hP q 1 hq2 rfl (r_in h0 (by rw [hn]; exact h1) (by rw [hn]; exact hnb)) hd ?_
  have e1 : ((Int32.ofInt i).toNatClampNeg : Int) = i := by rw [r_clamp h0 (by omega)]; omega
  rw [e1]
  exact k (by have := hG o f i; rw [hcl, hk] at this; exact this) H locs ls hl ⟨hP, hD, hS, hG⟩
theorem e_bald (C : Cx M g) {o f ci n : Nat} {i : Int} (ho : o ∈ objs) (hcl : cls o = ci) (hf : f < nf ci) (hk : kd ci f = 5) (hn : ln ci f = n) (hnb : n < 2147483648) (h0 : 0 ≤ i) (h1 : i < n) (hd : decode M.2.1 pc = .ok (.baload, 1)) (k : (-128 ≤ σ o f i ∧ σ o f i ≤ 127) → Ev g (pc + 1) L (.inl (σ o f i) :: st) σ) : Ev g pc L (.inl i :: .inr (.inr (o, f + 1)) :: st) σ := by
  obtain ⟨⟨p, l, e, R⟩, ⟨s, m, args, below⟩, ⟨meth, c, cells, slots⟩, ⟨D, ca, ρ⟩, Q⟩ := g
  obtain ⟨hx, hb, hml, hown, hts, hK, hlk, hfr, hlo, hc, hs, hSt⟩ := C
  intro H locs ls hl hR
  obtain ⟨q, hq1, hq2⟩ := wsl_get (D, ca, ρ) σ (ky_arr ho (by rw [hcl]; exact hf) (by rw [hcl, hk]; rfl))
  rw [cell_i hcl hk (by decide)] at hq2
  obtain ⟨hP, hD, hS, hG⟩ := hR
  refine va_bald hx hb hK hP q 2 hq2 rfl (r_in h0 (by rw [hn]; exact h1) (by rw [hn]; exact hnb)) hd ?_
  have e1 : ((Int32.ofInt i).toNatClampNeg : Int) = i := by rw [r_clamp h0 (by omega)]; omega
  rw [e1]
  exact k (by have := hG o f i; rw [hcl, hk] at this; exact this) H locs ls hl ⟨hP, hD, hS, hG⟩
theorem e_lald (C : Cx M g) {o f ci n : Nat} {i : Int} (ho : o ∈ objs) (hcl : cls o = ci) (hf : f < nf ci) (hk : kd ci f = 6) (hn : ln ci f = n) (hnb : n < 2147483648) (h0 : 0 ≤ i) (h1 : i < n) (hd : decode M.2.1 pc = .ok (.laload, 1)) (k : R64 (σ o f i) → Ev g (pc + 1) L (.inr (.inl (σ o f i)) :: st) σ) : Ev g pc L (.inl i :: .inr (.inr (o, f + 1)) :: st) σ := by
  obtain ⟨⟨p, l, e, R⟩, ⟨s, m, args, below⟩, ⟨meth, c, cells, slots⟩, ⟨D, ca, ρ⟩, Q⟩ := g
  obtain ⟨hx, hb, hml, hown, hts, hK, hlk, hfr, hlo, hc, hs, hSt⟩ := C
  intro H locs ls hl hR
  obtain ⟨q, hq1, hq2⟩ := wsl_get (D, ca, ρ) σ (ky_arr ho (by rw [hcl]; exact hf) (by rw [hcl, hk]; rfl))
  rw [cell_l hcl hk] at hq2
  obtain ⟨hP, hD, hS, hG⟩ := hR
  refine va_lald hx hb hK hP q 3 hq2 rfl (r_in h0 (by rw [hn]; exact h1) (by rw [hn]; exact hnb)) hd ?_
  have e1 : ((Int32.ofInt i).toNatClampNeg : Int) = i := by rw [r_clamp h0 (by omega)]; omega
  rw [e1]
  exact k (by have := hG o f i; rw [hcl, hk] at this; exact this) H locs ls hl ⟨hP, hD, hS, hG⟩
theorem e_aald (C : Cx M g) {o f ci n : Nat} {i : Int} {o2 : Nat} (ho : o ∈ objs) (hcl : cls o = ci) (hf : f < nf ci) (hk : kd ci f = 8) (hn : ln ci f = n) (hnb : n < 2147483648) (h0 : 0 ≤ i) (h1 : i < n) (h2 : fo o f + i.toNat = o2) (hd : decode M.2.1 pc = .ok (.aaload, 1)) (k : Ev g (pc + 1) L (.inr (.inr (o2, 0)) :: st) σ) : Ev g pc L (.inl i :: .inr (.inr (o, f + 1)) :: st) σ := by
  obtain ⟨⟨p, l, e, R⟩, ⟨s, m, args, below⟩, ⟨meth, c, cells, slots⟩, ⟨D, ca, ρ⟩, Q⟩ := g
  obtain ⟨hx, hb, hml, hown, hts, hK, hlk, hfr, hlo, hc, hs, hSt⟩ := C
  intro H locs ls hl hR
  obtain ⟨q, hq1, hq2⟩ := wsl_get (D, ca, ρ) σ (ky_arr ho (by rw [hcl]; exact hf) (by rw [hcl, hk]; rfl))
  rw [cell_q hcl hk] at hq2
  obtain ⟨hP, hD, hS, hG⟩ := hR
  refine va_aldq hx hb hK hP q 4 hq2 rfl (r_in h0 (by rw [hn]; exact h1) (by rw [hn]; exact hnb)) hd ?_
  rw [r_clamp h0 (by omega), h2]
  exact k H locs ls hl ⟨hP, hD, hS, hG⟩
theorem e_iast (C : Cx M g) {o f ci n : Nat} {i v : Int} (ho : o ∈ objs) (hcl : cls o = ci) (hf : f < nf ci) (hk : kd ci f = 3) (hn : ln ci f = n) (hnb : n < 2147483648) (h0 : 0 ≤ i) (h1 : i < n) (hv : R32 v) (hd : decode M.2.1 pc = .ok (.iastore, 1)) (k : Ev g (pc + 1) L st (wr σ o f i v)) : Ev g pc L (.inl v :: .inl i :: .inr (.inr (o, f + 1)) :: st) σ := by
  obtain ⟨⟨p, l, e, R⟩, ⟨s, m, args, below⟩, ⟨meth, c, cells, slots⟩, ⟨D, ca, ρ⟩, Q⟩ := g
  obtain ⟨hx, hb, hml, hown, hts, hK, hlk, hfr, hlo, hc, hs, hSt⟩ := C
  intro H locs ls hl hR
  obtain ⟨q, hq1, hq2⟩ := wsl_get (D, ca, ρ) σ (ky_arr ho (by rw [hcl]; exact hf) (by rw [hcl, hk]; rfl))
  rw [cell_i hcl hk (by decide)] at hq2
  obtain ⟨hP, hD, hS, hG⟩ := hR
  refine va_iast hx hb hK hP hD hS q 0 hq2 rfl (r_in h0 (by rw [hn]; exact h1) (by rw [hn]; exact hnb)) hd (fun H1 locs1 hP1 hD1 hS1 => ?_)
  have e1 : (wsl (D, ca, ρ) σ).set q (ρ o (f + 1), .inl (ca 3, ln ci f, .inl (upd (fun j => Int32.ofInt (σ o f (j : Nat))) (Int32.ofInt i).toNatClampNeg (Int32.ofInt v)))) = wsl (D, ca, ρ) (wr σ o f i v) := by
    rw [r_clamp h0 (by omega), upd_wr h0]
    have := wsl_set (w := (D, ca, ρ)) (σ' := wr σ o f i v) hD hq1 (cell_wr_arr (by rw [hcl, hk]; rfl))
    rw [cell_i hcl hk (by decide)] at this
    exact this
  have hP1 : va_P D classes ((wsl (D, ca, ρ) σ).set q (ρ o (f + 1), .inl (ca 3, ln ci f, .inl (upd (fun j => Int32.ofInt (σ o f (j : Nat))) (Int32.ofInt i).toNatClampNeg (Int32.ofInt v))))) H1 := hP1
  have hD1 : va_D (AA (D, ca, ρ)) ((wsl (D, ca, ρ) σ).set q (ρ o (f + 1), .inl (ca 3, ln ci f, .inl (upd (fun j => Int32.ofInt (σ o f (j : Nat))) (Int32.ofInt i).toNatClampNeg (Int32.ofInt v))))) := hD1
  rw [e1] at hP1 hD1
  exact k H1 locs1 ls hl ⟨hP1, hD1, hS1, rng_wr hG (by rw [hcl, hk]; exact hv)⟩
theorem nar_z {v : Int} (hv : v = 0 ∨ v = 1) : vp_nar .boolean (Int32.ofInt v) = Int32.ofInt v := by rcases hv with h | h <;> subst h <;> decide
theorem nar_b {v : Int} (hv : -128 ≤ v ∧ v ≤ 127) : vp_nar .byte (Int32.ofInt v) = Int32.ofInt v := by
  rw [vp_nar_byte, Int32.toInt8_ofInt]
  apply Int32.toInt_inj.mp
  rw [Int8.toInt_toInt32, Int8.toInt_ofInt_of_le (by omega) (by omega), r_int ⟨by omega, by omega⟩]
theorem e_zast (C : Cx M g) {o f ci n : Nat} {i v : Int} (ho : o ∈ objs) (hcl : cls o = ci) (hf : f < nf ci) (hk : kd ci f = 4) (hn : ln ci f = n) (hnb : n < 2147483648) (h0 : 0 ≤ i) (h1 : i < n) (hv : v = 0 ∨ v = 1) (hd : decode M.2.1 pc = .ok (.bastore, 1)) (k : Ev g (pc + 1) L st (wr σ o f i v)) : Ev g pc L (.inl v :: .inl i :: .inr (.inr (o, f + 1)) :: st) σ := by
  obtain ⟨⟨p, l, e, R⟩, ⟨s, m, args, below⟩, ⟨meth, c, cells, slots⟩, ⟨D, ca, ρ⟩, Q⟩ := g
  obtain ⟨hx, hb, hml, hown, hts, hK, hlk, hfr, hlo, hc, hs, hSt⟩ := C
  intro H locs ls hl hR
  obtain ⟨q, hq1, hq2⟩ := wsl_get (D, ca, ρ) σ (ky_arr ho (by rw [hcl]; exact hf) (by rw [hcl, hk]; rfl))
  rw [cell_i hcl hk (by decide)] at hq2
  obtain ⟨hP, hD, hS, hG⟩ := hR
  refine va_zast hx hb hK hP hD hS q 1 hq2 rfl (r_in h0 (by rw [hn]; exact h1) (by rw [hn]; exact hnb)) hd (fun H1 locs1 hP1 hD1 hS1 => ?_)
  have e1 : (wsl (D, ca, ρ) σ).set q (ρ o (f + 1), .inl (ca 4, ln ci f, .inl (upd (fun j => Int32.ofInt (σ o f (j : Nat))) (Int32.ofInt i).toNatClampNeg (vp_nar .boolean (Int32.ofInt v))))) = wsl (D, ca, ρ) (wr σ o f i v) := by
    rw [r_clamp h0 (by omega), nar_z hv, upd_wr h0]
    have := wsl_set (w := (D, ca, ρ)) (σ' := wr σ o f i v) hD hq1 (cell_wr_arr (by rw [hcl, hk]; rfl))
    rw [cell_i hcl hk (by decide)] at this
    exact this
  have hP1 : va_P D classes ((wsl (D, ca, ρ) σ).set q (ρ o (f + 1), .inl (ca 4, ln ci f, .inl (upd (fun j => Int32.ofInt (σ o f (j : Nat))) (Int32.ofInt i).toNatClampNeg (vp_nar .boolean (Int32.ofInt v)))))) H1 := hP1
  have hD1 : va_D (AA (D, ca, ρ)) ((wsl (D, ca, ρ) σ).set q (ρ o (f + 1), .inl (ca 4, ln ci f, .inl (upd (fun j => Int32.ofInt (σ o f (j : Nat))) (Int32.ofInt i).toNatClampNeg (vp_nar .boolean (Int32.ofInt v)))))) := hD1
  rw [e1] at hP1 hD1
  exact k H1 locs1 ls hl ⟨hP1, hD1, hS1, rng_wr hG (by rw [hcl, hk]; exact hv)⟩
theorem e_bast (C : Cx M g) {o f ci n : Nat} {i v : Int} (ho : o ∈ objs) (hcl : cls o = ci) (hf : f < nf ci) (hk : kd ci f = 5) (hn : ln ci f = n) (hnb : n < 2147483648) (h0 : 0 ≤ i) (h1 : i < n) (hv : -128 ≤ v ∧ v ≤ 127) (hd : decode M.2.1 pc = .ok (.bastore, 1)) (k : Ev g (pc + 1) L st (wr σ o f i v)) : Ev g pc L (.inl v :: .inl i :: .inr (.inr (o, f + 1)) :: st) σ := by
  obtain ⟨⟨p, l, e, R⟩, ⟨s, m, args, below⟩, ⟨meth, c, cells, slots⟩, ⟨D, ca, ρ⟩, Q⟩ := g
  obtain ⟨hx, hb, hml, hown, hts, hK, hlk, hfr, hlo, hc, hs, hSt⟩ := C
  intro H locs ls hl hR
  obtain ⟨q, hq1, hq2⟩ := wsl_get (D, ca, ρ) σ (ky_arr ho (by rw [hcl]; exact hf) (by rw [hcl, hk]; rfl))
  rw [cell_i hcl hk (by decide)] at hq2
  obtain ⟨hP, hD, hS, hG⟩ := hR
  refine va_bast hx hb hK hP hD hS q 2 hq2 rfl (r_in h0 (by rw [hn]; exact h1) (by rw [hn]; exact hnb)) hd (fun H1 locs1 hP1 hD1 hS1 => ?_)
  have e1 : (wsl (D, ca, ρ) σ).set q (ρ o (f + 1), .inl (ca 5, ln ci f, .inl (upd (fun j => Int32.ofInt (σ o f (j : Nat))) (Int32.ofInt i).toNatClampNeg (vp_nar .byte (Int32.ofInt v))))) = wsl (D, ca, ρ) (wr σ o f i v) := by
    rw [r_clamp h0 (by omega), nar_b hv, upd_wr h0]
    have := wsl_set (w := (D, ca, ρ)) (σ' := wr σ o f i v) hD hq1 (cell_wr_arr (by rw [hcl, hk]; rfl))
    rw [cell_i hcl hk (by decide)] at this
    exact this
  have hP1 : va_P D classes ((wsl (D, ca, ρ) σ).set q (ρ o (f + 1), .inl (ca 5, ln ci f, .inl (upd (fun j => Int32.ofInt (σ o f (j : Nat))) (Int32.ofInt i).toNatClampNeg (vp_nar .byte (Int32.ofInt v)))))) H1 := hP1
  have hD1 : va_D (AA (D, ca, ρ)) ((wsl (D, ca, ρ) σ).set q (ρ o (f + 1), .inl (ca 5, ln ci f, .inl (upd (fun j => Int32.ofInt (σ o f (j : Nat))) (Int32.ofInt i).toNatClampNeg (vp_nar .byte (Int32.ofInt v)))))) := hD1
  rw [e1] at hP1 hD1
  exact k H1 locs1 ls hl ⟨hP1, hD1, hS1, rng_wr hG (by rw [hcl, hk]; exact hv)⟩
theorem e_last (C : Cx M g) {o f ci n : Nat} {i v : Int} (ho : o ∈ objs) (hcl : cls o = ci) (hf : f < nf ci) (hk : kd ci f = 6) (hn : ln ci f = n) (hnb : n < 2147483648) (h0 : 0 ≤ i) (h1 : i < n) (hv : R64 v) (hd : decode M.2.1 pc = .ok (.lastore, 1)) (k : Ev g (pc + 1) L st (wr σ o f i v)) : Ev g pc L (.inr (.inl v) :: .inl i :: .inr (.inr (o, f + 1)) :: st) σ := by
  obtain ⟨⟨p, l, e, R⟩, ⟨s, m, args, below⟩, ⟨meth, c, cells, slots⟩, ⟨D, ca, ρ⟩, Q⟩ := g
  obtain ⟨hx, hb, hml, hown, hts, hK, hlk, hfr, hlo, hc, hs, hSt⟩ := C
  intro H locs ls hl hR
  obtain ⟨q, hq1, hq2⟩ := wsl_get (D, ca, ρ) σ (ky_arr ho (by rw [hcl]; exact hf) (by rw [hcl, hk]; rfl))
  rw [cell_l hcl hk] at hq2
  obtain ⟨hP, hD, hS, hG⟩ := hR
  refine va_last hx hb hK hP hD hS q 3 hq2 rfl (r_in h0 (by rw [hn]; exact h1) (by rw [hn]; exact hnb)) hd (fun H1 locs1 hP1 hD1 hS1 => ?_)
  have e1 : (wsl (D, ca, ρ) σ).set q (ρ o (f + 1), .inl (ca 6, ln ci f, .inr (.inl (vp_updL (fun j => Int64.ofInt (σ o f (j : Nat))) (Int32.ofInt i).toNatClampNeg (Int64.ofInt v))))) = wsl (D, ca, ρ) (wr σ o f i v) := by
    rw [r_clamp h0 (by omega), updL_wr h0]
    have := wsl_set (w := (D, ca, ρ)) (σ' := wr σ o f i v) hD hq1 (cell_wr_arr (by rw [hcl, hk]; rfl))
    rw [cell_l hcl hk] at this
    exact this
  have hP1 : va_P D classes ((wsl (D, ca, ρ) σ).set q (ρ o (f + 1), .inl (ca 6, ln ci f, .inr (.inl (vp_updL (fun j => Int64.ofInt (σ o f (j : Nat))) (Int32.ofInt i).toNatClampNeg (Int64.ofInt v)))))) H1 := hP1
  have hD1 : va_D (AA (D, ca, ρ)) ((wsl (D, ca, ρ) σ).set q (ρ o (f + 1), .inl (ca 6, ln ci f, .inr (.inl (vp_updL (fun j => Int64.ofInt (σ o f (j : Nat))) (Int32.ofInt i).toNatClampNeg (Int64.ofInt v)))))) := hD1
  rw [e1] at hP1 hD1
  exact k H1 locs1 ls hl ⟨hP1, hD1, hS1, rng_wr hG (by rw [hcl, hk]; exact hv)⟩
theorem e_alen (C : Cx M g) {o f ci n : Nat} (ho : o ∈ objs) (hcl : cls o = ci) (hf : f < nf ci) (hk : kd ci f = 6) (hn : ln ci f = n) (hd : decode M.2.1 pc = .ok (.arraylength, 1)) (k : Ev g (pc + 1) L (.inl n :: st) σ) : Ev g pc L (.inr (.inr (o, f + 1)) :: st) σ := by
  obtain ⟨⟨p, l, e, R⟩, ⟨s, m, args, below⟩, ⟨meth, c, cells, slots⟩, ⟨D, ca, ρ⟩, Q⟩ := g
  obtain ⟨hx, hb, hml, hown, hts, hK, hlk, hfr, hlo, hc, hs, hSt⟩ := C
  intro H locs ls hl hR
  obtain ⟨q, hq1, hq2⟩ := wsl_get (D, ca, ρ) σ (ky_arr ho (by rw [hcl]; exact hf) (by rw [hcl, hk]; rfl))
  rw [cell_l hcl hk, hn] at hq2
  exact va_alen hx hb hK hR.1 q 3 hq2 rfl (Int32.ofInt_eq_ofNat.symm) hd (k H locs ls hl hR)
theorem e_alen3 (C : Cx M g) {o f ci n : Nat} (ho : o ∈ objs) (hcl : cls o = ci) (hf : f < nf ci) (hk : kd ci f = 3) (hn : ln ci f = n) (hd : decode M.2.1 pc = .ok (.arraylength, 1)) (k : Ev g (pc + 1) L (.inl n :: st) σ) : Ev g pc L (.inr (.inr (o, f + 1)) :: st) σ := by
  obtain ⟨⟨p, l, e, R⟩, ⟨s, m, args, below⟩, ⟨meth, c, cells, slots⟩, ⟨D, ca, ρ⟩, Q⟩ := g
  obtain ⟨hx, hb, hml, hown, hts, hK, hlk, hfr, hlo, hc, hs, hSt⟩ := C
  intro H locs ls hl hR
  obtain ⟨q, hq1, hq2⟩ := wsl_get (D, ca, ρ) σ (ky_arr ho (by rw [hcl]; exact hf) (by rw [hcl, hk]; rfl))
  rw [cell_i hcl hk (by decide), hn] at hq2
  exact va_alen hx hb hK hR.1 q 0 hq2 rfl (Int32.ofInt_eq_ofNat.symm) hd (k H locs ls hl hR)
/-- the words in quotes, a static row -/
theorem e_words (C : Cx M g) {idx : Nat} (hw : Cond.fieldLink M.1.cls idx "SandGuards$Tokens" "WORDS" "[J" ∈ lw_gd) (hd : decode M.2.1 pc = .ok (.getstatic idx, 3)) (k : Ev g (pc + 3) L (.inr (.inr (99, 1)) :: st) σ) : Ev g pc L st σ := by
  obtain ⟨⟨p, l, e, R⟩, ⟨s, m, args, below⟩, ⟨meth, c, cells, slots⟩, ⟨D, ca, ρ⟩, Q⟩ := g
  obtain ⟨hx, hb, hml, hown, hts, hK, hlk, hfr, hlo, hc, hs, hSt⟩ := C
  intro H locs ls hl hR
  exact va_gets hx hb hSt.1 hR.2.2.1 hown (hts _ hw) (fun _ h => h) hd (k H locs ls hl hR)
theorem e_wlen (C : Cx M g) (hd : decode M.2.1 pc = .ok (.arraylength, 1)) (k : Ev g (pc + 1) L (.inl 14 :: st) σ) : Ev g pc L (.inr (.inr (99, 1)) :: st) σ := by
  obtain ⟨⟨p, l, e, R⟩, ⟨s, m, args, below⟩, ⟨meth, c, cells, slots⟩, ⟨D, ca, ρ⟩, Q⟩ := g
  obtain ⟨hx, hb, hml, hown, hts, hK, hlk, hfr, hlo, hc, hs, hSt⟩ := C
  intro H locs ls hl hR
  exact va_tlen hx hb hSt.2 hR.2.2.1 rfl hd (k H locs ls hl hR)
theorem e_wld (C : Cx M g) {i : Int} (h0 : 0 ≤ i) (h1 : i < 14) (hd : decode M.2.1 pc = .ok (.laload, 1)) (k : Ev g (pc + 1) L (.inr (.inl (wrdT.getD i.toNat 0)) :: st) σ) : Ev g pc L (.inl i :: .inr (.inr (99, 1)) :: st) σ := by
  obtain ⟨⟨p, l, e, R⟩, ⟨s, m, args, below⟩, ⟨meth, c, cells, slots⟩, ⟨D, ca, ρ⟩, Q⟩ := g
  obtain ⟨hx, hb, hml, hown, hts, hK, hlk, hfr, hlo, hc, hs, hSt⟩ := C
  intro H locs ls hl hR
  refine va_tl hx hb hSt.2 hR.2.2.1 (r_in h0 h1 (by decide)) rfl hd ?_
  rw [r_clamp h0 (by omega)]
  exact k H locs ls hl hR
end RowsF
end
section
/-! rows: contracts, returns, calls, arraycopy (written by wip/gen/gen07.py) -/
def BB (w : Wd) (u : St) (t : State) : Prop := va_P w.1 classes (wsl w u) t.heap ∧ va_D (AA w) (wsl w u) ∧ Rng u
def pI (P : Int → St → Prop) : Int32 → St → Prop := fun r u => ∃ x : Int, r = Int32.ofInt x ∧ R32 x ∧ P x u
def pL (P : Int → St → Prop) : Int64 → St → Prop := fun r u => ∃ x : Int, r = Int64.ofInt x ∧ R64 x ∧ P x u
def FinI (M : Md) (g : Mach) (P : Int → St → Prop) : Prop := match g with
  | ((p, l, e, R), (s, m, args, below), (meth, c, cells, slots), w, Q) => meth.sig.returnType = M.2.2.2.1 ∧ cells = 0 ∧ slots = 0 ∧ Q = MQ below (va_Qi (pI P) (BB w) (AA w)) args s 0 0 (AA w)
def FinL (M : Md) (g : Mach) (P : Int → St → Prop) : Prop := match g with
  | ((p, l, e, R), (s, m, args, below), (meth, c, cells, slots), w, Q) => meth.sig.returnType = M.2.2.2.1 ∧ cells = 0 ∧ slots = 0 ∧ Q = MQ below (va_Ql (pL P) (BB w) (AA w)) args s 0 0 (AA w)
def FinV (M : Md) (g : Mach) (P : St → Prop) : Prop := match g with
  | ((p, l, e, R), (s, m, args, below), (meth, c, cells, slots), w, Q) => meth.sig.returnType = M.2.2.2.1 ∧ cells = 0 ∧ slots = 0 ∧ Q = MQ below (va_Qv P (BB w) (AA w)) args s 0 0 (AA w)
/-- a method's first locals -/
def slo : List V → List (Option V)
  | [] => []
  | .inr (.inl x) :: vs => some (.inr (.inl x)) :: none :: slo vs
  | v :: vs => some v :: slo vs
def lent (vs : List V) (n : Nat) : List (Option V) := slo vs ++ List.replicate (n - (slo vs).length) none
def CtI (M : Md) (as : List V) (σ : St) (P : Int → St → Prop) : Prop := ∀ g, Cx M g → FinI M g P → Ev g 0 (lent as M.2.2.1) [] σ
def CtL (M : Md) (as : List V) (σ : St) (P : Int → St → Prop) : Prop := ∀ g, Cx M g → FinL M g P → Ev g 0 (lent as M.2.2.1) [] σ
def CtV (M : Md) (as : List V) (σ : St) (P : St → Prop) : Prop := ∀ g, Cx M g → FinV M g P → Ev g 0 (lent as M.2.2.1) [] σ
theorem slo_args (ρ : Nat → Nat → Nat) : ∀ (vs : List V) (i k : Nat) (v : V), (slo vs)[k]? = some (some v) → (i + k, toV ρ v) ∈ lv_args i (vs.map (toV ρ))
  | [], i, k, v, h => by simp [slo] at h
  | .inl x :: vs, i, k, v, h => by
    cases k with
    | zero => cases h; exact List.mem_cons_self
    | succ k =>
      have := slo_args ρ vs (i + 1) k v h
      refine List.mem_cons_of_mem _ ?_
      rw [show i + (k + 1) = i + 1 + k by omega]
      exact this
  | .inr (.inl x) :: vs, i, k, v, h => by
    cases k with
    | zero => cases h; exact List.mem_cons_self
    | succ k =>
      cases k with
      | zero => cases h
      | succ k =>
        have := slo_args ρ vs (i + 2) k v h
        refine List.mem_cons_of_mem _ ?_
        rw [show i + (k + 1 + 1) = i + 2 + k by omega]
        exact this
  | .inr (.inr x) :: vs, i, k, v, h => by
    cases k with
    | zero => cases h; exact List.mem_cons_self
    | succ k =>
      have := slo_args ρ vs (i + 1) k v h
      refine List.mem_cons_of_mem _ ?_
      rw [show i + (k + 1) = i + 1 + k by omega]
      exact this
theorem slo_len (ρ : Nat → Nat → Nat) : ∀ vs : List V, (lg_sl (vs.map (toV ρ))).length = (slo vs).length
  | [] => rfl
  | .inl x :: vs => by
    have := slo_len ρ vs
    simp [lg_sl, slo, toV, Value.category] at this ⊢
    omega
  | .inr (.inl x) :: vs => by
    have := slo_len ρ vs
    simp [lg_sl, slo, toV, Value.category] at this ⊢
    omega
  | .inr (.inr x) :: vs => by
    have := slo_len ρ vs
    simp [lg_sl, slo, toV, Value.category] at this ⊢
    omega
theorem lent_LH (ρ : Nat → Nat → Nat) (vs : List V) {n : Nat} (h : (slo vs).length ≤ n) : LH ρ ((lg_sl (vs.map (toV ρ)) ++ List.replicate (n - (lg_sl (vs.map (toV ρ))).length) Slot.unset).toArray) n (lent vs n) := by
  obtain ⟨h1, h2, h3⟩ := lv_entry (vs.map (toV ρ)) (n := n) (by rw [slo_len]; exact h)
  refine ⟨h1, h2, fun k v hk => ?_⟩
  unfold lent at hk
  by_cases hlt : k < (slo vs).length
  · rw [List.getElem?_append_left hlt] at hk
    have := slo_args ρ vs 0 k v hk
    rw [Nat.zero_add] at this
    exact h3 (k, toV ρ v) this
  · rw [List.getElem?_append_right (by omega)] at hk
    have := List.mem_of_getElem? hk
    rw [List.mem_replicate] at this
    cases this.2
/-- what the tables say of a method -/
def OkM (M : Md) (n : Nat) : Prop := plainName M.1.cls = true ∧ Cond.code M.1 M.2.1 M.2.2.1 M.2.2.2.1 ∈ lw_gd ∧ Cond.initialized M.1.cls ∈ lw_gd ∧ M.1.cls ≠ "java/lang/invoke/MethodHandle" ∧ M.1.cls ≠ "java/lang/invoke/VarHandle" ∧ (parseMethodDescriptor M.1.desc).map (fun d => d.parameters.length) = some n
def OkV (M : Md) (n : Nat) : Prop := OkM M n ∧ Cond.instanceMethod M.1 ∈ lw_gd ∧ Cond.selects M.1.cls M.1 M.1 ∈ lw_gd
def OkS (M : Md) (n : Nat) : Prop := OkM M n ∧ Cond.static M.1 ∈ lw_gd
def wsM (M : Md) : List Cond := Cond.code M.1 M.2.1 M.2.2.1 M.2.2.2.1 :: lw_gd
def rmM (M : Md) : Room := { frames := M.2.2.2.2.1, cells := 0, slots := 0, locals := M.2.2.2.2.2 }
def preM (w : Wd) (σ : St) (U : State) : Prop := va_P w.1 classes (wsl w σ) U.heap ∧ va_D (AA w) (wsl w σ) ∧ Rng σ ∧ va_K w.1 classes (tysOf w.2.1) U ∧ Sta w U
theorem lw_good : ∀ t ∈ lw_gd, goodWord t = true := fun t h => (List.mem_filter.mp h).2
theorem good_M {M : Md} {n : Nat} (h : OkM M n) : GoodIn lw_gd (wsM M) := by
  intro t ht
  rcases List.mem_cons.mp ht with e | e
  · subst e
    exact ⟨h.2.1, good_of_word (lw_good _ h.2.1)⟩
  · exact ⟨e, good_of_word (lw_good _ e)⟩
theorem met_I {M : Md} {n : Nat} {as : List V} {σ : St} {P : Int → St → Prop} (l : Launch) (w : Wd) (hM : OkM M n) (hlen : (slo as).length ≤ M.2.2.1) (h : CtI M as σ P) :
    Met l M.1 (wsM M) (rmM M) (va_Pc (as.map (toV w.2.2)) (preM w σ)) (va_Qi (pI P) (BB w) (AA w)) 0 0 (AA w) := by
  refine Met.ofW (cc := M.2.1) (maxL := M.2.2.1) (ret := M.2.2.2.1) hM.1 rfl ?_
  intro p e s m args below meth c s₁ B hml hv
  obtain ⟨rfl, hP, hD, hG, hK, hSt⟩ := hv
  have hts : ∀ t ∈ lw_gd, t.before (as.map (toV w.2.2)).toArray s = true := fun t ht => atoms_spec (ws := wsM M) B.pre t (List.mem_cons_of_mem _ ht)
  have hown : s.vm.findClass M.1.cls = some m.cls := findClass_of_methodNamed B.named
  rw [lg_entry_eq]
  exact h ((p, l, e, (headSpec (wsM M) (rmM M)).room), (s, m, (as.map (toV w.2.2)).toArray, below), (meth, c, 0, 0), w, MQ below (va_Qi (pI P) (BB w) (AA w)) (as.map (toV w.2.2)).toArray s 0 0 (AA w))
    ⟨B.exec, B.bytes, hml, hown, hts, hK, B.notSynchronized, Nat.le_refl _, Nat.le_refl _, Nat.zero_le _, Nat.zero_le _, hSt⟩ ⟨B.returns, rfl, rfl, rfl⟩
    s.heap [] _ (by rw [hml]; exact lent_LH w.2.2 as hlen) ⟨hP, hD, va_S.rf, hG⟩
theorem met_L {M : Md} {n : Nat} {as : List V} {σ : St} {P : Int → St → Prop} (l : Launch) (w : Wd) (hM : OkM M n) (hlen : (slo as).length ≤ M.2.2.1) (h : CtL M as σ P) :
    Met l M.1 (wsM M) (rmM M) (va_Pc (as.map (toV w.2.2)) (preM w σ)) (va_Ql (pL P) (BB w) (AA w)) 0 0 (AA w) := by
  refine Met.ofW (cc := M.2.1) (maxL := M.2.2.1) (ret := M.2.2.2.1) hM.1 rfl ?_
  intro p e s m args below meth c s₁ B hml hv
  obtain ⟨rfl, hP, hD, hG, hK, hSt⟩ := hv
  have hts : ∀ t ∈ lw_gd, t.before (as.map (toV w.2.2)).toArray s = true := fun t ht => atoms_spec (ws := wsM M) B.pre t (List.mem_cons_of_mem _ ht)
  have hown : s.vm.findClass M.1.cls = some m.cls := findClass_of_methodNamed B.named
  rw [lg_entry_eq]
  exact h ((p, l, e, (headSpec (wsM M) (rmM M)).room), (s, m, (as.map (toV w.2.2)).toArray, below), (meth, c, 0, 0), w, MQ below (va_Ql (pL P) (BB w) (AA w)) (as.map (toV w.2.2)).toArray s 0 0 (AA w))
    ⟨B.exec, B.bytes, hml, hown, hts, hK, B.notSynchronized, Nat.le_refl _, Nat.le_refl _, Nat.zero_le _, Nat.zero_le _, hSt⟩ ⟨B.returns, rfl, rfl, rfl⟩
    s.heap [] _ (by rw [hml]; exact lent_LH w.2.2 as hlen) ⟨hP, hD, va_S.rf, hG⟩
theorem met_V {M : Md} {n : Nat} {as : List V} {σ : St} {P : St → Prop} (l : Launch) (w : Wd) (hM : OkM M n) (hlen : (slo as).length ≤ M.2.2.1) (h : CtV M as σ P) :
    Met l M.1 (wsM M) (rmM M) (va_Pc (as.map (toV w.2.2)) (preM w σ)) (va_Qv P (BB w) (AA w)) 0 0 (AA w) := by
  refine Met.ofW (cc := M.2.1) (maxL := M.2.2.1) (ret := M.2.2.2.1) hM.1 rfl ?_
  intro p e s m args below meth c s₁ B hml hv
  obtain ⟨rfl, hP, hD, hG, hK, hSt⟩ := hv
  have hts : ∀ t ∈ lw_gd, t.before (as.map (toV w.2.2)).toArray s = true := fun t ht => atoms_spec (ws := wsM M) B.pre t (List.mem_cons_of_mem _ ht)
  have hown : s.vm.findClass M.1.cls = some m.cls := findClass_of_methodNamed B.named
  rw [lg_entry_eq]
  exact h ((p, l, e, (headSpec (wsM M) (rmM M)).room), (s, m, (as.map (toV w.2.2)).toArray, below), (meth, c, 0, 0), w, MQ below (va_Qv P (BB w) (AA w)) (as.map (toV w.2.2)).toArray s 0 0 (AA w))
    ⟨B.exec, B.bytes, hml, hown, hts, hK, B.notSynchronized, Nat.le_refl _, Nat.le_refl _, Nat.zero_le _, Nat.zero_le _, hSt⟩ ⟨B.returns, rfl, rfl, rfl⟩
    s.heap [] _ (by rw [hml]; exact lent_LH w.2.2 as hlen) ⟨hP, hD, va_S.rf, hG⟩
section RowsC
variable {M : Md} {g : Mach} {pc : Nat} {L : List (Option V)} {st : List V} {σ : St}
theorem e_iret (C : Cx M g) {P : Int → St → Prop} (F : FinI M g P) {v : Int} (hr : M.2.2.2.1 = some .int) (hd : decode M.2.1 pc = .ok (.ireturn, 1)) (hv : R32 v) (hP : P v σ) : Ev g pc L [.inl v] σ := by
  obtain ⟨⟨p, l, e, R⟩, ⟨s, m, args, below⟩, ⟨meth, c, cells, slots⟩, ⟨D, ca, ρ⟩, Q⟩ := g
  obtain ⟨hx, hb, hml, hown, hts, hK, hlk, hfr, hlo, hc, hs, hSt⟩ := C
  intro H locs ls hl hR
  obtain ⟨f1, rfl, rfl, rfl⟩ := F
  obtain ⟨hP1, hD, hS, hG⟩ := hR
  exact W.iret (v := Int32.ofInt v) hx hb (f1.trans hr) (fun t ht hW => ⟨⟨Int32.ofInt v, σ, rfl, ⟨v, rfl, hv, hP⟩, by rw [ht]; exact hP1, hD, hG⟩, hS.F ht⟩) hS.2.2 hd hlk
theorem e_zret (C : Cx M g) {P : Int → St → Prop} (F : FinI M g P) {v : Int} (hr : M.2.2.2.1 = some .boolean) (hd : decode M.2.1 pc = .ok (.ireturn, 1)) (hv : v = 0 ∨ v = 1) (hP : P v σ) : Ev g pc L [.inl v] σ := by
  obtain ⟨⟨p, l, e, R⟩, ⟨s, m, args, below⟩, ⟨meth, c, cells, slots⟩, ⟨D, ca, ρ⟩, Q⟩ := g
  obtain ⟨hx, hb, hml, hown, hts, hK, hlk, hfr, hlo, hc, hs, hSt⟩ := C
  intro H locs ls hl hR
  obtain ⟨f1, rfl, rfl, rfl⟩ := F
  obtain ⟨hP1, hD, hS, hG⟩ := hR
  have hv2 : R32 v := by rcases hv with h | h <;> subst h <;> exact ⟨by decide, by decide⟩
  have hn : narrow .boolean (.int (Int32.ofInt v)) = .int (Int32.ofInt v) := by rcases hv with h | h <;> subst h <;> first | exact nf_z0.1 | exact nf_z1.1
  exact W.zret (v := Int32.ofInt v) hx hb (f1.trans hr) hn (fun t ht hW => ⟨⟨Int32.ofInt v, σ, rfl, ⟨v, rfl, hv2, hP⟩, by rw [ht]; exact hP1, hD, hG⟩, hS.F ht⟩) hS.2.2 hd hlk
theorem e_lret (C : Cx M g) {P : Int → St → Prop} (F : FinL M g P) {v : Int} (hr : M.2.2.2.1 = some .long) (hd : decode M.2.1 pc = .ok (.lreturn, 1)) (hv : R64 v) (hP : P v σ) : Ev g pc L [.inr (.inl v)] σ := by
  obtain ⟨⟨p, l, e, R⟩, ⟨s, m, args, below⟩, ⟨meth, c, cells, slots⟩, ⟨D, ca, ρ⟩, Q⟩ := g
  obtain ⟨hx, hb, hml, hown, hts, hK, hlk, hfr, hlo, hc, hs, hSt⟩ := C
  intro H locs ls hl hR
  obtain ⟨f1, rfl, rfl, rfl⟩ := F
  obtain ⟨hP1, hD, hS, hG⟩ := hR
  exact W.lret (v := Int64.ofInt v) hx hb (f1.trans hr) (fun t ht hW => ⟨⟨Int64.ofInt v, σ, rfl, ⟨v, rfl, hv, hP⟩, by rw [ht]; exact hP1, hD, hG⟩, hS.F ht⟩) hS.2.2 hd hlk
theorem e_vret (C : Cx M g) {P : St → Prop} (F : FinV M g P) (hr : M.2.2.2.1 = none) (hd : decode M.2.1 pc = .ok (.return_, 1)) (hP : P σ) : Ev g pc L [] σ := by
  obtain ⟨⟨p, l, e, R⟩, ⟨s, m, args, below⟩, ⟨meth, c, cells, slots⟩, ⟨D, ca, ρ⟩, Q⟩ := g
  obtain ⟨hx, hb, hml, hown, hts, hK, hlk, hfr, hlo, hc, hs, hSt⟩ := C
  intro H locs ls hl hR
  obtain ⟨f1, rfl, rfl, rfl⟩ := F
  obtain ⟨hP1, hD, hS, hG⟩ := hR
  exact W.vret hx hb (f1.trans hr) (fun t ht hW => ⟨⟨σ, rfl, hP, by rw [ht]; exact hP1, hD, hG⟩, hS.F ht⟩) hS.2.2 hd hlk
theorem e_callIV (C : Cx M g) {M2 : Md} {n idx : Nat} {S : List V} {P : Int → St → Prop} (h2 : OkV M2 n) (hl2 : Cond.methodLink M.1.cls idx M2.1 ∈ lw_gd) {o : Nat} (ho : o ∈ objs) (hrc : (classes[cls o]?).map (fun q => q.1) = some M2.1.cls) (as : List V) (hS0 : S = as.reverse ++ .inr (.inr (o, 0)) :: st) (hn : as.length = n) (hlen : (slo (.inr (.inr (o, 0)) :: as)).length ≤ M2.2.2.1) (hroom : M2.2.2.2.2.1 + 1 ≤ M.2.2.2.2.1 ∧ 8 + (M2.2.2.1 + 11) + M2.2.2.2.2.2 ≤ M.2.2.2.2.2) (hst : (st.map catv).sum ≤ 8) (hd : decode M.2.1 pc = .ok (.invokevirtual idx, 3)) (hc2 : CtI M2 (.inr (.inr (o, 0)) :: as) σ P) (k : ∀ (r : Int) (u : St), R32 r → P r u → Ev g (pc + 3) L (.inl r :: st) u) : Ev g pc L S σ := by
  obtain ⟨⟨p, l, e, R⟩, ⟨s, m, args, below⟩, ⟨meth, c, cells, slots⟩, ⟨D, ca, ρ⟩, Q⟩ := g
  obtain ⟨hx, hb, hml, hown, hts, hK, hlk, hfr, hlo, hc, hs, hSt⟩ := C
  intro H locs ls hl hR
  obtain ⟨hP, hD, hS, hG⟩ := hR
  subst hS0
  obtain ⟨q, hq1, hq2⟩ := wsl_get (D, ca, ρ) σ (ky_obj ho)
  have hrecv : ∃ cell : Cell, H[ρ o 0]? = some cell ∧ cell.vm.isStatics = false ∧ s.vm.findClass M2.1.cls = some cell.cls := by
    cases hcl : classes[cls o]? with
    | none => rw [hcl] at hrc; cases hrc
    | some cq =>
      rw [hcl] at hrc
      have e1 : cq.1 = M2.1.cls := Option.some.inj hrc
      rw [← e1]
      exact va_recv hK hP hcl hq2
  have hM := met_I l (D, ca, ρ) h2.1 hlen hc2
  have hCB : CallB R s args M.1.cls idx M2.1 M2.2.1 M2.2.2.1 M2.2.2.2.1 (wsM M2) (rmM M2) 0 0 n := callB_of n hts (good_M h2.1) rfl rfl rfl (hts _ h2.1.2.2.1) (hts _ hl2) h2.1.2.2.2 ⟨Nat.le_trans hroom.1 hfr, Nat.le_trans hroom.2 hlo⟩
  have hrun := va_runV (l := l) (e := e) (below := below) (meth := meth) (locs := locs) (cells := cells) (slots := slots) (g := F0 m pc ls ((as.reverse ++ .inr (.inr (o, 0)) :: st).map (toV ρ))) (b := ρ o 0) (As := as.map (toV ρ)) (rest := st.map (toV ρ)) ⟨hx, hb, hml, hown, hts⟩ hM ⟨hCB, hts _ h2.2.1, hts _ h2.2.2⟩
    ⟨fun a U g mk q => by obtain ⟨q0, q1, q2, q3, q4, q5⟩ := q; exact ⟨q0, q1, q2, q3, va_K.moved (u := U) (U := U.calling g mk a) (Vm.Alike.refl U.vm) q4, va_Z.moved (u := U) (U := U.calling g mk a) (Vm.Alike.refl U.vm) q5.1, va_T.moved (u := U) (U := U.calling g mk a) (Vm.Alike.refl U.vm) q5.2⟩, hrecv, fun U hU hW => ⟨rfl, by rw [hU]; exact hP, hD, hG, va_K.moved hW.alike hK, by rw [hU]; exact va_Z.moved hW.alike (hSt.1.kept hS.2.1), by rw [hU]; exact va_T.moved hW.alike (hSt.2.kept hS.2.1)⟩⟩ rfl (by rw [List.length_map]; exact hn) (hl.1.trans hml) (by show List.map _ _ = _; rw [List.map_append, List.map_reverse]; rfl) (by rw [catv_sum]; show 2 * 0 + _ ≤ 8; omega) hd ⟨hc, hs⟩
  refine va_calli hrun hS (fun _ _ h => h) (fun _ h => h) (fun r u t H1 locs1 ht hvm hw hB hz1 hk1 hS1 => ?_)
  obtain ⟨x, hx1, hx2, hx3⟩ := hw
  obtain ⟨b1, b2, b3⟩ := hB
  rw [ht] at b1
  rw [hx1]
  exact k x u hx2 hx3 H1 locs1 ls hl ⟨b1, b2, hS1, b3⟩
theorem e_callIS (C : Cx M g) {M2 : Md} {n idx : Nat} {S : List V} {P : Int → St → Prop} (h2 : OkS M2 n) (hl2 : Cond.methodLink M.1.cls idx M2.1 ∈ lw_gd) (as : List V) (hS0 : S = as.reverse ++ st) (hn : as.length = n) (hlen : (slo as).length ≤ M2.2.2.1) (hroom : M2.2.2.2.2.1 + 1 ≤ M.2.2.2.2.1 ∧ 8 + (M2.2.2.1 + 11) + M2.2.2.2.2.2 ≤ M.2.2.2.2.2) (hst : (st.map catv).sum ≤ 8) (hd : decode M.2.1 pc = .ok (.invokestatic idx, 3)) (hc2 : CtI M2 as σ P) (k : ∀ (r : Int) (u : St), R32 r → P r u → Ev g (pc + 3) L (.inl r :: st) u) : Ev g pc L S σ := by
  obtain ⟨⟨p, l, e, R⟩, ⟨s, m, args, below⟩, ⟨meth, c, cells, slots⟩, ⟨D, ca, ρ⟩, Q⟩ := g
  obtain ⟨hx, hb, hml, hown, hts, hK, hlk, hfr, hlo, hc, hs, hSt⟩ := C
  intro H locs ls hl hR
  obtain ⟨hP, hD, hS, hG⟩ := hR
  subst hS0
  have hM := met_I l (D, ca, ρ) h2.1 hlen hc2
  have hCB : CallB R s args M.1.cls idx M2.1 M2.2.1 M2.2.2.1 M2.2.2.2.1 (wsM M2) (rmM M2) 0 0 n := callB_of n hts (good_M h2.1) rfl rfl rfl (hts _ h2.1.2.2.1) (hts _ hl2) h2.1.2.2.2 ⟨Nat.le_trans hroom.1 hfr, Nat.le_trans hroom.2 hlo⟩
  have hrun := va_runS (l := l) (e := e) (below := below) (meth := meth) (locs := locs) (cells := cells) (slots := slots) (g := F0 m pc ls ((as.reverse ++ st).map (toV ρ))) (As := as.map (toV ρ)) (rest := st.map (toV ρ)) ⟨hx, hb, hml, hown, hts⟩ hM ⟨hCB, hts _ h2.2⟩
    ⟨fun a U g mk q => by obtain ⟨q0, q1, q2, q3, q4, q5⟩ := q; exact ⟨q0, q1, q2, q3, va_K.moved (u := U) (U := U.calling g mk a) (Vm.Alike.refl U.vm) q4, va_Z.moved (u := U) (U := U.calling g mk a) (Vm.Alike.refl U.vm) q5.1, va_T.moved (u := U) (U := U.calling g mk a) (Vm.Alike.refl U.vm) q5.2⟩, fun U hU hW => ⟨rfl, by rw [hU]; exact hP, hD, hG, va_K.moved hW.alike hK, by rw [hU]; exact va_Z.moved hW.alike (hSt.1.kept hS.2.1), by rw [hU]; exact va_T.moved hW.alike (hSt.2.kept hS.2.1)⟩⟩ rfl (by rw [List.length_map]; exact hn) (hl.1.trans hml) (by show List.map _ _ = _; rw [List.map_append, List.map_reverse]) (by rw [catv_sum]; show 2 * 0 + _ ≤ 8; omega) hd ⟨hc, hs⟩
  refine va_calli hrun hS (fun _ _ h => h) (fun _ h => h) (fun r u t H1 locs1 ht hvm hw hB hz1 hk1 hS1 => ?_)
  obtain ⟨x, hx1, hx2, hx3⟩ := hw
  obtain ⟨b1, b2, b3⟩ := hB
  rw [ht] at b1
  rw [hx1]
  exact k x u hx2 hx3 H1 locs1 ls hl ⟨b1, b2, hS1, b3⟩
theorem e_callVV (C : Cx M g) {M2 : Md} {n idx : Nat} {S : List V} {P : St → Prop} (h2 : OkV M2 n) (hl2 : Cond.methodLink M.1.cls idx M2.1 ∈ lw_gd) {o : Nat} (ho : o ∈ objs) (hrc : (classes[cls o]?).map (fun q => q.1) = some M2.1.cls) (as : List V) (hS0 : S = as.reverse ++ .inr (.inr (o, 0)) :: st) (hn : as.length = n) (hlen : (slo (.inr (.inr (o, 0)) :: as)).length ≤ M2.2.2.1) (hroom : M2.2.2.2.2.1 + 1 ≤ M.2.2.2.2.1 ∧ 8 + (M2.2.2.1 + 11) + M2.2.2.2.2.2 ≤ M.2.2.2.2.2) (hst : (st.map catv).sum ≤ 8) (hd : decode M.2.1 pc = .ok (.invokevirtual idx, 3)) (hc2 : CtV M2 (.inr (.inr (o, 0)) :: as) σ P) (k : ∀ u : St, P u → Ev g (pc + 3) L st u) : Ev g pc L S σ := by
  obtain ⟨⟨p, l, e, R⟩, ⟨s, m, args, below⟩, ⟨meth, c, cells, slots⟩, ⟨D, ca, ρ⟩, Q⟩ := g
  obtain ⟨hx, hb, hml, hown, hts, hK, hlk, hfr, hlo, hc, hs, hSt⟩ := C
  intro H locs ls hl hR
  obtain ⟨hP, hD, hS, hG⟩ := hR
  subst hS0
  obtain ⟨q, hq1, hq2⟩ := wsl_get (D, ca, ρ) σ (ky_obj ho)
  have hrecv : ∃ cell : Cell, H[ρ o 0]? = some cell ∧ cell.vm.isStatics = false ∧ s.vm.findClass M2.1.cls = some cell.cls := by
    cases hcl : classes[cls o]? with
    | none => rw [hcl] at hrc; cases hrc
    | some cq =>
      rw [hcl] at hrc
      have e1 : cq.1 = M2.1.cls := Option.some.inj hrc
      rw [← e1]
      exact va_recv hK hP hcl hq2
  have hM := met_V l (D, ca, ρ) h2.1 hlen hc2
  have hCB : CallB R s args M.1.cls idx M2.1 M2.2.1 M2.2.2.1 M2.2.2.2.1 (wsM M2) (rmM M2) 0 0 n := callB_of n hts (good_M h2.1) rfl rfl rfl (hts _ h2.1.2.2.1) (hts _ hl2) h2.1.2.2.2 ⟨Nat.le_trans hroom.1 hfr, Nat.le_trans hroom.2 hlo⟩
  have hrun := va_runV (l := l) (e := e) (below := below) (meth := meth) (locs := locs) (cells := cells) (slots := slots) (g := F0 m pc ls ((as.reverse ++ .inr (.inr (o, 0)) :: st).map (toV ρ))) (b := ρ o 0) (As := as.map (toV ρ)) (rest := st.map (toV ρ)) ⟨hx, hb, hml, hown, hts⟩ hM ⟨hCB, hts _ h2.2.1, hts _ h2.2.2⟩
    ⟨fun a U g mk q => by obtain ⟨q0, q1, q2, q3, q4, q5⟩ := q; exact ⟨q0, q1, q2, q3, va_K.moved (u := U) (U := U.calling g mk a) (Vm.Alike.refl U.vm) q4, va_Z.moved (u := U) (U := U.calling g mk a) (Vm.Alike.refl U.vm) q5.1, va_T.moved (u := U) (U := U.calling g mk a) (Vm.Alike.refl U.vm) q5.2⟩, hrecv, fun U hU hW => ⟨rfl, by rw [hU]; exact hP, hD, hG, va_K.moved hW.alike hK, by rw [hU]; exact va_Z.moved hW.alike (hSt.1.kept hS.2.1), by rw [hU]; exact va_T.moved hW.alike (hSt.2.kept hS.2.1)⟩⟩ rfl (by rw [List.length_map]; exact hn) (hl.1.trans hml) (by show List.map _ _ = _; rw [List.map_append, List.map_reverse]; rfl) (by rw [catv_sum]; show 2 * 0 + _ ≤ 8; omega) hd ⟨hc, hs⟩
  refine va_callv hrun hS (fun _ _ h => h) (fun _ h => h) (fun u t H1 locs1 ht hvm hw hB hz1 hk1 hS1 => ?_)
  obtain ⟨b1, b2, b3⟩ := hB
  rw [ht] at b1
  exact k u hw H1 locs1 ls hl ⟨b1, b2, hS1, b3⟩
theorem e_callLS (C : Cx M g) {M2 : Md} {n idx : Nat} {S : List V} {P : Int → St → Prop} (h2 : OkS M2 n) (hl2 : Cond.methodLink M.1.cls idx M2.1 ∈ lw_gd) (as : List V) (hS0 : S = as.reverse ++ st) (hn : as.length = n) (hlen : (slo as).length ≤ M2.2.2.1) (hroom : M2.2.2.2.2.1 + 1 ≤ M.2.2.2.2.1 ∧ 8 + (M2.2.2.1 + 11) + M2.2.2.2.2.2 ≤ M.2.2.2.2.2) (hst : (st.map catv).sum ≤ 8) (hd : decode M.2.1 pc = .ok (.invokestatic idx, 3)) (hc2 : CtL M2 as σ P) (k : ∀ (r : Int) (u : St), R64 r → P r u → Ev g (pc + 3) L (.inr (.inl r) :: st) u) : Ev g pc L S σ := by
  obtain ⟨⟨p, l, e, R⟩, ⟨s, m, args, below⟩, ⟨meth, c, cells, slots⟩, ⟨D, ca, ρ⟩, Q⟩ := g
  obtain ⟨hx, hb, hml, hown, hts, hK, hlk, hfr, hlo, hc, hs, hSt⟩ := C
  intro H locs ls hl hR
  obtain ⟨hP, hD, hS, hG⟩ := hR
  subst hS0
  have hM := met_L l (D, ca, ρ) h2.1 hlen hc2
  have hCB : CallB R s args M.1.cls idx M2.1 M2.2.1 M2.2.2.1 M2.2.2.2.1 (wsM M2) (rmM M2) 0 0 n := callB_of n hts (good_M h2.1) rfl rfl rfl (hts _ h2.1.2.2.1) (hts _ hl2) h2.1.2.2.2 ⟨Nat.le_trans hroom.1 hfr, Nat.le_trans hroom.2 hlo⟩
  have hrun := va_runS (l := l) (e := e) (below := below) (meth := meth) (locs := locs) (cells := cells) (slots := slots) (g := F0 m pc ls ((as.reverse ++ st).map (toV ρ))) (As := as.map (toV ρ)) (rest := st.map (toV ρ)) ⟨hx, hb, hml, hown, hts⟩ hM ⟨hCB, hts _ h2.2⟩
    ⟨fun a U g mk q => by obtain ⟨q0, q1, q2, q3, q4, q5⟩ := q; exact ⟨q0, q1, q2, q3, va_K.moved (u := U) (U := U.calling g mk a) (Vm.Alike.refl U.vm) q4, va_Z.moved (u := U) (U := U.calling g mk a) (Vm.Alike.refl U.vm) q5.1, va_T.moved (u := U) (U := U.calling g mk a) (Vm.Alike.refl U.vm) q5.2⟩, fun U hU hW => ⟨rfl, by rw [hU]; exact hP, hD, hG, va_K.moved hW.alike hK, by rw [hU]; exact va_Z.moved hW.alike (hSt.1.kept hS.2.1), by rw [hU]; exact va_T.moved hW.alike (hSt.2.kept hS.2.1)⟩⟩ rfl (by rw [List.length_map]; exact hn) (hl.1.trans hml) (by show List.map _ _ = _; rw [List.map_append, List.map_reverse]) (by rw [catv_sum]; show 2 * 0 + _ ≤ 8; omega) hd ⟨hc, hs⟩
  refine va_calll hrun hS (fun _ _ h => h) (fun _ h => h) (fun r u t H1 locs1 ht hvm hw hB hz1 hk1 hS1 => ?_)
  obtain ⟨x, hx1, hx2, hx3⟩ := hw
  obtain ⟨b1, b2, b3⟩ := hB
  rw [ht] at b1
  rw [hx1]
  exact k x u hx2 hx3 H1 locs1 ls hl ⟨b1, b2, hS1, b3⟩
def cpy (σ : St) (o f o1 f1 : Nat) (n : Int) : St := fun o' f' k' => if o' = o ∧ f' = f ∧ 0 ≤ k' ∧ k' < n then σ o1 f1 k' else σ o' f' k'
theorem cell_cpy {w : Wd} {σ : St} {o f o1 f1 : Nat} {n : Int} (hk : isArr (kd (cls o) f) = true) : ∀ k' ∈ kys, k' ≠ (o, f + 1) → cellE w (cpy σ o f o1 f1 n) k' = cellE w σ k' := by
  intro k' hk' hne
  obtain ⟨o', j⟩ := k'
  cases j with
  | zero =>
    show Sum.inr _ = Sum.inr _
    congr 2
    apply List.map_congr_left
    intro f' _
    congr 1
    by_cases e : o' = o ∧ f' = f
    · obtain ⟨rfl, rfl⟩ := e
      show fvl _ _ _ (kd (cls o') f') = fvl _ _ _ (kd (cls o') f')
      generalize kd (cls o') f' = n at hk
      simp only [isArr, Bool.or_eq_true, beq_iff_eq] at hk
      rcases hk with (((h | h) | h) | h) | h <;> subst h <;> rfl
    · have e2 : cpy σ o f o1 f1 n o' f' 0 = σ o' f' 0 := by unfold cpy; rw [if_neg (fun h => e ⟨h.1, h.2.1⟩)]
      show fvl _ _ _ (kd (cls o') f') = fvl _ _ _ (kd (cls o') f')
      generalize kd (cls o') f' = n
      unfold fvl
      rw [e2]
  | succ f' =>
    have e : ¬ (o' = o ∧ f' = f) := fun h => hne (by rw [h.1, h.2])
    have e2 : ∀ z : Int, cpy σ o f o1 f1 n o' f' z = σ o' f' z := fun z => by unfold cpy; rw [if_neg (fun h => e ⟨h.1, h.2.1⟩)]
    have e3 : con w.2.2 (cpy σ o f o1 f1 n) o' f' (kd (cls o') f') = con w.2.2 σ o' f' (kd (cls o') f') := by
      unfold con
      simp only [e2]
    show Sum.inl (_, _, con w.2.2 (cpy σ o f o1 f1 n) o' f' (kd (cls o') f')) = Sum.inl (_, _, con w.2.2 σ o' f' (kd (cls o') f'))
    rw [e3]
/-- System.arraycopy(a, 0, b, 0, n) of two rows of ints, or of booleans -/
theorem e_copy (C : Cx M g) {idx o f o1 f1 ci ci1 kn : Nat} {n : Int} {ty : FieldType} (t0 : Nat) (hty : ∀ ca : Nat → ClassId, (tysOf ca)[t0]? = some (ca kn, ty)) (hkt : kn = 3 ∧ ty = .int ∨ kn = 4 ∧ ty = .boolean) (hw : Cond.methodLink M.1.cls idx arraycopyName ∈ lw_gd ∧ Cond.native arraycopyName ∈ lw_gd ∧ Cond.static arraycopyName ∈ lw_gd ∧ Cond.initialized "java/lang/System" ∈ lw_gd)
    (ho : o ∈ objs) (hcl : cls o = ci) (hf : f < nf ci) (hk : kd ci f = kn) (ho1 : o1 ∈ objs) (hcl1 : cls o1 = ci1) (hf1 : f1 < nf ci1) (hk1 : kd ci1 f1 = kn) (h0 : 0 ≤ n) (hn : n ≤ ln ci f) (hn1 : n ≤ ln ci1 f1) (hb31 : n < 2147483648) (hroom : 1 ≤ M.2.2.2.2.1 ∧ nativeFrameWords "java/lang/System" "arraycopy" 5 + 11 ≤ M.2.2.2.2.2) (hd : decode M.2.1 pc = .ok (.invokestatic idx, 3)) (k : Ev g (pc + 3) L [] (cpy σ o f o1 f1 n)) :
    Ev g pc L [.inl n, .inl 0, .inr (.inr (o, f + 1)), .inl 0, .inr (.inr (o1, f1 + 1))] σ := by
  obtain ⟨⟨p, l, e, R⟩, ⟨s, m, args, below⟩, ⟨meth, c, cells, slots⟩, ⟨D, ca, ρ⟩, Q⟩ := g
  obtain ⟨hx, hb, hml, hown, hts, hK, hlk, hfr, hlo, hc, hs, hSt⟩ := C
  intro H locs ls hl hR
  have hka : isArr kn = true := by rcases hkt with h | h <;> rw [h.1] <;> rfl
  have hk35 : kn = 3 ∨ kn = 4 ∨ kn = 5 := by rcases hkt with h | h <;> rw [h.1] <;> decide
  obtain ⟨q, hq1, hq2⟩ := wsl_get (D, ca, ρ) σ (ky_arr ho (by rw [hcl]; exact hf) (by rw [hcl, hk]; exact hka))
  obtain ⟨q1, hr1, hr2⟩ := wsl_get (D, ca, ρ) σ (ky_arr ho1 (by rw [hcl1]; exact hf1) (by rw [hcl1, hk1]; exact hka))
  rw [cell_i hcl hk hk35] at hq2
  rw [cell_i hcl1 hk1 hk35] at hr2
  obtain ⟨hP, hD, hS, hG⟩ := hR
  have z0 : (Int32.ofInt 0).toNatClampNeg = 0 := by decide
  have zn : (Int32.ofInt n).toNatClampNeg = n.toNat := r_clamp h0 hb31
  have nz : ¬ Int32.ofInt n < 0 := by
    rw [show (0 : Int32) = Int32.ofInt 0 from rfl, r_lt ⟨by omega, by omega⟩ r_0]
    omega
  have e0 : va_cpy (fun j => Int32.ofInt (σ o1 f1 (j : Nat))) (fun j => Int32.ofInt (σ o f (j : Nat))) 0 0 n.toNat = fun j : Nat => Int32.ofInt (cpy σ o f o1 f1 n o f (j : Nat)) := by
    funext j
    unfold va_cpy cpy
    by_cases h : j < n.toNat
    · rw [if_pos ⟨Nat.zero_le _, by omega⟩, if_pos ⟨rfl, rfl, by omega, by omega⟩]
      rw [show 0 + (j - 0) = j by omega]
    · rw [if_neg (fun z => h (by have := z.2; omega)), if_neg (fun z => h (by have := z.2.2; omega))]
  refine va_copyi hx hb (hml.trans (hl.1.trans hml).symm) hown (hts _ hw.1) (hts _ hw.2.1) (hts _ hw.2.2.1) (hts _ hw.2.2.2) hK hP hD hS q1 q t0 t0 hr2 hq2 (hty ca) (hty ca) (by rcases hkt with h | h <;> rw [h.2] <;> rfl) (sp := Int32.ofInt 0) (dp := Int32.ofInt 0) (n := Int32.ofInt n) (by decide) (by decide) nz (by rw [z0, zn]; omega) (by rw [z0, zn]; omega) ?_ (Nat.le_trans hroom.1 hfr) (by show 0 + _ ≤ _; rw [Nat.zero_add]; exact Nat.le_trans hroom.2 hlo) hd (fun H1 locs1 hP1 hD1 hS1 => ?_)
  · intro i hi
    have := hG o1 f1 (((Int32.ofInt 0).toNatClampNeg + i : Nat) : Int)
    rw [hcl1, hk1] at this
    rcases hkt with h | h
    · rw [h.2]; rfl
    · rw [h.1] at this
      rw [h.2]
      rcases (show _ = (0 : Int) ∨ _ = (1 : Int) from this) with z | z <;> rw [z] <;> first | exact nf_z0.2 | exact nf_z1.2
  · have e1 : (wsl (D, ca, ρ) σ).set q (ρ o (f + 1), .inl (ca kn, ln ci f, .inl (va_cpy (fun j => Int32.ofInt (σ o1 f1 (j : Nat))) (fun j => Int32.ofInt (σ o f (j : Nat))) (Int32.ofInt 0).toNatClampNeg (Int32.ofInt 0).toNatClampNeg (Int32.ofInt n).toNatClampNeg))) = wsl (D, ca, ρ) (cpy σ o f o1 f1 n) := by
      rw [z0, zn, e0]
      have := wsl_set (w := (D, ca, ρ)) (σ' := cpy σ o f o1 f1 n) hD hq1 (cell_cpy (by rw [hcl, hk]; exact hka))
      rw [cell_i hcl hk hk35] at this
      exact this
    have hP1 : va_P D classes ((wsl (D, ca, ρ) σ).set q (ρ o (f + 1), .inl (ca kn, ln ci f, .inl (va_cpy (fun j => Int32.ofInt (σ o1 f1 (j : Nat))) (fun j => Int32.ofInt (σ o f (j : Nat))) (Int32.ofInt 0).toNatClampNeg (Int32.ofInt 0).toNatClampNeg (Int32.ofInt n).toNatClampNeg)))) H1 := hP1
    have hD1 : va_D (AA (D, ca, ρ)) ((wsl (D, ca, ρ) σ).set q (ρ o (f + 1), .inl (ca kn, ln ci f, .inl (va_cpy (fun j => Int32.ofInt (σ o1 f1 (j : Nat))) (fun j => Int32.ofInt (σ o f (j : Nat))) (Int32.ofInt 0).toNatClampNeg (Int32.ofInt 0).toNatClampNeg (Int32.ofInt n).toNatClampNeg)))) := hD1
    rw [e1] at hP1 hD1
    refine k H1 locs1 ls hl ⟨hP1, hD1, hS1, fun o' f' k' => ?_⟩
    unfold cpy
    by_cases h : o' = o ∧ f' = f ∧ 0 ≤ k' ∧ k' < n
    · rw [if_pos h, h.1, h.2.1, hcl, hk]
      have := hG o1 f1 k'
      rw [hcl1, hk1] at this
      exact this
    · rw [if_neg h]
      exact hG o' f' k'
end RowsC
end
section
/-! the methods, what the tables say of them, of their fields and of their calls (written by wip/gen/gen08.py) -/
def M_Ca_init : Md := (⟨"SandGuards$Castle", "<init>", "()V"⟩, prog_2_method_1_code, 1, none, 1, 21)
def M_Ca_leaveAll : Md := (⟨"SandGuards$Castle", "leaveAll", "()V"⟩, prog_2_method_2_code, 2, none, 0, 0)
def M_Ca_copyFrom : Md := (⟨"SandGuards$Castle", "copyFrom", "(LSandGuards$Castle;)V"⟩, prog_2_method_3_code, 2, none, 1, 54)
def M_Ca_passMany : Md := (⟨"SandGuards$Castle", "passMany", "(LSandGuards$Plan;I)V"⟩, prog_2_method_4_code, 4, none, 4, 110)
def M_Ca_passSome : Md := (⟨"SandGuards$Castle", "passSome", "(LSandGuards$Plan;I)I"⟩, prog_2_method_5_code, 9, (some .int), 3, 82)
def M_Ca_lookAhead : Md := (⟨"SandGuards$Castle", "lookAhead", "(LSandGuards$Plan;I)I"⟩, prog_2_method_6_code, 7, (some .int), 2, 56)
def M_Ca_quietAt : Md := (⟨"SandGuards$Castle", "quietAt", "(IIZ)I"⟩, prog_2_method_7_code, 4, (some .int), 1, 23)
def M_Ca_relieveAll : Md := (⟨"SandGuards$Castle", "relieveAll", "(I)V"⟩, prog_2_method_8_code, 4, none, 2, 47)
def M_Ca_fillAll : Md := (⟨"SandGuards$Castle", "fillAll", "(I)V"⟩, prog_2_method_9_code, 3, none, 1, 23)
def M_Ca_runDown : Md := (⟨"SandGuards$Castle", "runDown", "(II)V"⟩, prog_2_method_10_code, 3, none, 0, 0)
def M_Ca_countMinutes : Md := (⟨"SandGuards$Castle", "countMinutes", "(II)V"⟩, prog_2_method_11_code, 4, none, 0, 0)
def M_Ca_comer : Md := (⟨"SandGuards$Castle", "comer", "(II)I"⟩, prog_2_method_12_code, 4, (some .int), 0, 0)
def M_Ca_relieve : Md := (⟨"SandGuards$Castle", "relieve", "(II)V"⟩, prog_2_method_13_code, 5, none, 1, 23)
def M_Ca_stand : Md := (⟨"SandGuards$Castle", "stand", "(II)V"⟩, prog_2_method_14_code, 3, none, 0, 0)
def M_Ca_lieBehindAll : Md := (⟨"SandGuards$Castle", "lieBehindAll", "(I)V"⟩, prog_2_method_15_code, 2, none, 0, 0)
def M_Ca_leaveBed : Md := (⟨"SandGuards$Castle", "leaveBed", "(I)I"⟩, prog_2_method_16_code, 4, (some .int), 0, 0)
def M_Ca_placeInBed : Md := (⟨"SandGuards$Castle", "placeInBed", "(I)I"⟩, prog_2_method_17_code, 3, (some .int), 0, 0)
def M_Ca_exchange : Md := (⟨"SandGuards$Castle", "exchange", "(I)V"⟩, prog_2_method_18_code, 3, none, 0, 0)
def M_Ca_emptyPosts : Md := (⟨"SandGuards$Castle", "emptyPosts", "(I)I"⟩, prog_2_method_19_code, 4, (some .int), 0, 0)
def M_Ca_grains : Md := (⟨"SandGuards$Castle", "grains", "(I)I"⟩, prog_2_method_20_code, 4, (some .int), 0, 0)
def M_Ca_guardsWhoSlept : Md := (⟨"SandGuards$Castle", "guardsWhoSlept", "(LSandGuards$Plan;)I"⟩, prog_2_method_21_code, 4, (some .int), 0, 0)
def M_Ca_sleepWanted : Md := (⟨"SandGuards$Castle", "sleepWanted", "(LSandGuards$Plan;)I"⟩, prog_2_method_22_code, 4, (some .int), 1, 21)
def M_Ca_longestOnWatch : Md := (⟨"SandGuards$Castle", "longestOnWatch", "(I)I"⟩, prog_2_method_23_code, 4, (some .int), 0, 0)
def M_Dr_init : Md := (⟨"SandGuards$Dryings", "<init>", "()V"⟩, prog_3_method_1_code, 1, none, 2, 41)
def M_Dr_forgetFound : Md := (⟨"SandGuards$Dryings", "forgetFound", "()V"⟩, prog_3_method_2_code, 1, none, 0, 0)
def M_Dr_asItIs : Md := (⟨"SandGuards$Dryings", "asItIs", "(LSandGuards$Plan;LSandGuards$Castle;)I"⟩, prog_3_method_3_code, 3, (some .int), 5, 134)
def M_Dr_findFirst : Md := (⟨"SandGuards$Dryings", "findFirst", "(LSandGuards$Plan;LSandGuards$Castle;I)V"⟩, prog_3_method_4_code, 5, none, 6, 158)
def M_Dr_tryOne : Md := (⟨"SandGuards$Dryings", "tryOne", "(LSandGuards$Plan;LSandGuards$Castle;I)V"⟩, prog_3_method_5_code, 5, none, 5, 134)
def M_Dr_findTwo : Md := (⟨"SandGuards$Dryings", "findTwo", "(LSandGuards$Plan;LSandGuards$Castle;)V"⟩, prog_3_method_6_code, 6, none, 6, 159)
def M_Dr_tryTwo : Md := (⟨"SandGuards$Dryings", "tryTwo", "(LSandGuards$Plan;LSandGuards$Castle;II)V"⟩, prog_3_method_7_code, 6, none, 5, 134)
def M_Dr_mostThatIsSooner : Md := (⟨"SandGuards$Dryings", "mostThatIsSooner", "(I)I"⟩, prog_3_method_8_code, 1, (some .int), 0, 0)
def M_Dr_soonest : Md := (⟨"SandGuards$Dryings", "soonest", "(LSandGuards$Plan;I)I"⟩, prog_3_method_9_code, 5, (some .int), 4, 110)
def M_Ga_init : Md := (⟨"SandGuards$Game", "<init>", "()V"⟩, prog_4_method_1_code, 1, none, 2, 41)
def M_Ga_findRests : Md := (⟨"SandGuards$Game", "findRests", "(LSandGuards$Plan;LSandGuards$Castle;II)V"⟩, prog_4_method_2_code, 7, none, 5, 133)
def M_Ga_players : Md := (⟨"SandGuards$Game", "players", "(LSandGuards$Plan;LSandGuards$Castle;)I"⟩, prog_4_method_3_code, 4, (some .int), 0, 0)
def M_Ga_putPinches : Md := (⟨"SandGuards$Game", "putPinches", "(III)V"⟩, prog_4_method_4_code, 7, none, 1, 21)
def M_Ga_noteSleeps : Md := (⟨"SandGuards$Game", "noteSleeps", "(ILSandGuards$Castle;I)V"⟩, prog_4_method_5_code, 6, none, 0, 0)
def M_Ga_isAtRest : Md := (⟨"SandGuards$Game", "isAtRest", "(III)Z"⟩, prog_4_method_6_code, 6, (some .boolean), 0, 0)
def M_Hi_init : Md := (⟨"SandGuards$History", "<init>", "()V"⟩, prog_5_method_1_code, 2, none, 2, 41)
def M_Hi_keep : Md := (⟨"SandGuards$History", "keep", "(LSandGuards$Castle;)V"⟩, prog_5_method_2_code, 2, none, 2, 75)
def M_Hi_giveBack : Md := (⟨"SandGuards$History", "giveBack", "(LSandGuards$Castle;)Z"⟩, prog_5_method_3_code, 2, (some .boolean), 2, 75)
def M_La_init : Md := (⟨"SandGuards$Law", "<init>", "()V"⟩, prog_6_method_1_code, 1, none, 1, 20)
def M_La_clear : Md := (⟨"SandGuards$Law", "clear", "()V"⟩, prog_6_method_2_code, 1, none, 0, 0)
def M_La_useVariable : Md := (⟨"SandGuards$Law", "useVariable", "(I)I"⟩, prog_6_method_3_code, 2, (some .int), 0, 0)
def M_La_useInt : Md := (⟨"SandGuards$Law", "useInt", "(I)I"⟩, prog_6_method_4_code, 2, (some .int), 0, 0)
def M_La_addStep : Md := (⟨"SandGuards$Law", "addStep", "(III)I"⟩, prog_6_method_5_code, 4, (some .int), 0, 0)
def M_La_aimHere : Md := (⟨"SandGuards$Law", "aimHere", "(I)V"⟩, prog_6_method_6_code, 2, none, 0, 0)
def M_La_copyFrom : Md := (⟨"SandGuards$Law", "copyFrom", "(LSandGuards$Law;)V"⟩, prog_6_method_7_code, 2, none, 1, 54)
def M_La_value : Md := (⟨"SandGuards$Law", "value", "(IIIIII)I"⟩, prog_6_method_8_code, 11, (some .int), 0, 0)
def M_Ou_init : Md := (⟨"SandGuards$Outlook", "<init>", "()V"⟩, prog_7_method_1_code, 1, none, 2, 41)
def M_Ou_goThrough : Md := (⟨"SandGuards$Outlook", "goThrough", "(LSandGuards$Plan;LSandGuards$Castle;I)V"⟩, prog_7_method_2_code, 4, none, 5, 133)
def M_Ou_minutesToOut : Md := (⟨"SandGuards$Outlook", "minutesToOut", "(LSandGuards$Plan;II)I"⟩, prog_7_method_3_code, 5, (some .int), 2, 56)
def M_Ou_minutesToBed : Md := (⟨"SandGuards$Outlook", "minutesToBed", "(LSandGuards$Plan;II)I"⟩, prog_7_method_4_code, 6, (some .int), 4, 110)
def M_Ou_fewestGrains : Md := (⟨"SandGuards$Outlook", "fewestGrains", "(LSandGuards$Plan;LSandGuards$Castle;II)I"⟩, prog_7_method_5_code, 9, (some .int), 5, 135)
def M_Ou_isNotOut : Md := (⟨"SandGuards$Outlook", "isNotOut", "(LSandGuards$Plan;LSandGuards$Castle;III)Z"⟩, prog_7_method_6_code, 6, (some .boolean), 3, 80)
def M_Ou_sleepless : Md := (⟨"SandGuards$Outlook", "sleepless", "(LSandGuards$Plan;LSandGuards$Castle;)I"⟩, prog_7_method_7_code, 5, (some .int), 0, 0)
def M_Ou_spreadOfSleep : Md := (⟨"SandGuards$Outlook", "spreadOfSleep", "(LSandGuards$Plan;)I"⟩, prog_7_method_8_code, 5, (some .int), 1, 21)
def M_Ou_findWorst : Md := (⟨"SandGuards$Outlook", "findWorst", "(LSandGuards$Plan;LSandGuards$Castle;I)V"⟩, prog_7_method_9_code, 6, none, 5, 133)
def M_Pl_init : Md := (⟨"SandGuards$Plan", "<init>", "()V"⟩, prog_8_method_1_code, 1, none, 2, 40)
def M_Pl_clear : Md := (⟨"SandGuards$Plan", "clear", "()V"⟩, prog_8_method_2_code, 1, none, 1, 23)
def M_Pl_settle : Md := (⟨"SandGuards$Plan", "settle", "()V"⟩, prog_8_method_3_code, 3, none, 1, 30)
def M_Pl_copyFrom : Md := (⟨"SandGuards$Plan", "copyFrom", "(LSandGuards$Plan;)V"⟩, prog_8_method_4_code, 2, none, 2, 75)
def M_Pl_hourOf : Md := (⟨"SandGuards$Plan", "hourOf", "(I)I"⟩, prog_8_method_5_code, 2, (some .int), 0, 0)
def M_Pl_flow : Md := (⟨"SandGuards$Plan", "flow", "(LSandGuards$Castle;II)I"⟩, prog_8_method_6_code, 7, (some .int), 1, 30)
def M_Re_init : Md := (⟨"SandGuards$Reader", "<init>", "()V"⟩, prog_9_method_1_code, 1, none, 3, 60)
def M_Re_readText : Md := (⟨"SandGuards$Reader", "readText", "(LSandGuards$Tape;)I"⟩, prog_9_method_2_code, 3, (some .int), 6, 133)
def M_Re_takeTell : Md := (⟨"SandGuards$Reader", "takeTell", "()Z"⟩, prog_9_method_3_code, 1, (some .boolean), 5, 113)
def M_Re_takePost : Md := (⟨"SandGuards$Reader", "takePost", "()Z"⟩, prog_9_method_4_code, 2, (some .boolean), 3, 64)
def M_Re_takeGuard : Md := (⟨"SandGuards$Reader", "takeGuard", "()Z"⟩, prog_9_method_5_code, 2, (some .boolean), 3, 67)
def M_Re_takePostOf : Md := (⟨"SandGuards$Reader", "takePostOf", "(I)Z"⟩, prog_9_method_6_code, 6, (some .boolean), 2, 42)
def M_Re_takeDamp : Md := (⟨"SandGuards$Reader", "takeDamp", "()Z"⟩, prog_9_method_7_code, 2, (some .boolean), 3, 64)
def M_Re_takeSleep : Md := (⟨"SandGuards$Reader", "takeSleep", "()Z"⟩, prog_9_method_8_code, 1, (some .boolean), 3, 64)
def M_Re_takeFlow : Md := (⟨"SandGuards$Reader", "takeFlow", "()Z"⟩, prog_9_method_9_code, 2, (some .boolean), 4, 92)
def M_Re_takeIf : Md := (⟨"SandGuards$Reader", "takeIf", "()Z"⟩, prog_9_method_10_code, 3, (some .boolean), 3, 70)
def M_Re_addEnd : Md := (⟨"SandGuards$Reader", "addEnd", "()V"⟩, prog_9_method_11_code, 2, none, 1, 23)
def M_Re_takeSum : Md := (⟨"SandGuards$Reader", "takeSum", "()Z"⟩, prog_9_method_12_code, 5, (some .boolean), 2, 46)
def M_Re_addUnit : Md := (⟨"SandGuards$Reader", "addUnit", "(I)Z"⟩, prog_9_method_13_code, 2, (some .boolean), 1, 21)
def M_Re_pushUnit : Md := (⟨"SandGuards$Reader", "pushUnit", "(I)V"⟩, prog_9_method_14_code, 2, none, 0, 0)
def M_Re_popUnit : Md := (⟨"SandGuards$Reader", "popUnit", "()I"⟩, prog_9_method_15_code, 1, (some .int), 0, 0)
def M_Re_letWait : Md := (⟨"SandGuards$Reader", "letWait", "(I)V"⟩, prog_9_method_16_code, 2, none, 0, 0)
def M_Re_release : Md := (⟨"SandGuards$Reader", "release", "(I)V"⟩, prog_9_method_17_code, 4, none, 1, 23)
def M_Re_rank : Md := (⟨"SandGuards$Reader", "rank", "(I)I"⟩, prog_9_method_18_code, 1, (some .int), 0, 0)
def M_Re_opOf : Md := (⟨"SandGuards$Reader", "opOf", "(I)I"⟩, prog_9_method_19_code, 1, (some .int), 0, 0)
def M_Re_takeNewName : Md := (⟨"SandGuards$Reader", "takeNewName", "()Z"⟩, prog_9_method_20_code, 3, (some .boolean), 2, 42)
def M_Re_takeInt : Md := (⟨"SandGuards$Reader", "takeInt", "(I)Z"⟩, prog_9_method_21_code, 3, (some .boolean), 2, 42)
def M_Re_postNamed : Md := (⟨"SandGuards$Reader", "postNamed", "(J)I"⟩, prog_9_method_22_code, 4, (some .int), 0, 0)
def M_Re_kind : Md := (⟨"SandGuards$Reader", "kind", "()I"⟩, prog_9_method_23_code, 1, (some .int), 0, 0)
def M_Re_take : Md := (⟨"SandGuards$Reader", "take", "(I)Z"⟩, prog_9_method_24_code, 2, (some .boolean), 1, 21)
def M_Re_refuse : Md := (⟨"SandGuards$Reader", "refuse", "(I)Z"⟩, prog_9_method_25_code, 2, (some .boolean), 0, 0)
def M_Re_note : Md := (⟨"SandGuards$Reader", "note", "(II)V"⟩, prog_9_method_26_code, 3, none, 0, 0)
def M_Ru_init : Md := (⟨"SandGuards$Rumours", "<init>", "()V"⟩, prog_10_method_1_code, 1, none, 2, 41)
def M_Ru_add : Md := (⟨"SandGuards$Rumours", "add", "(II)I"⟩, prog_10_method_2_code, 3, (some .int), 0, 0)
def M_Ru_clear : Md := (⟨"SandGuards$Rumours", "clear", "()V"⟩, prog_10_method_3_code, 1, none, 0, 0)
def M_Ru_findWays : Md := (⟨"SandGuards$Rumours", "findWays", "(LSandGuards$Plan;LSandGuards$Castle;II)V"⟩, prog_10_method_4_code, 8, none, 5, 134)
def M_Ru_setDue : Md := (⟨"SandGuards$Rumours", "setDue", "(I)I"⟩, prog_10_method_5_code, 4, (some .int), 1, 21)
def M_Ru_isMissed : Md := (⟨"SandGuards$Rumours", "isMissed", "(II)Z"⟩, prog_10_method_6_code, 4, (some .boolean), 0, 0)
def M_Ru_comesAsDue : Md := (⟨"SandGuards$Rumours", "comesAsDue", "(LSandGuards$Plan;I)Z"⟩, prog_10_method_7_code, 5, (some .boolean), 4, 110)
def M_Ta_init : Md := (⟨"SandGuards$Tape", "<init>", "()V"⟩, prog_11_method_1_code, 1, none, 1, 20)
def M_Ta_hasRoomFor : Md := (⟨"SandGuards$Tape", "hasRoomFor", "(I)Z"⟩, prog_11_method_2_code, 2, (some .boolean), 0, 0)
def M_Ta_append : Md := (⟨"SandGuards$Tape", "append", "(I)V"⟩, prog_11_method_3_code, 3, none, 1, 21)
def M_To_init : Md := (⟨"SandGuards$Tokens", "<init>", "()V"⟩, prog_12_method_1_code, 1, none, 1, 20)
def M_To_cut : Md := (⟨"SandGuards$Tokens", "cut", "(LSandGuards$Tape;)V"⟩, prog_12_method_2_code, 5, none, 3, 72)
def M_To_skipBlanks : Md := (⟨"SandGuards$Tokens", "skipBlanks", "(LSandGuards$Tape;I)I"⟩, prog_12_method_3_code, 3, (some .int), 1, 20)
def M_To_addToken : Md := (⟨"SandGuards$Tokens", "addToken", "(LSandGuards$Tape;II)I"⟩, prog_12_method_4_code, 5, (some .int), 2, 48)
def M_To_addWord : Md := (⟨"SandGuards$Tokens", "addWord", "(LSandGuards$Tape;II)I"⟩, prog_12_method_5_code, 7, (some .int), 1, 22)
def M_To_addNumber : Md := (⟨"SandGuards$Tokens", "addNumber", "(LSandGuards$Tape;II)I"⟩, prog_12_method_6_code, 6, (some .int), 1, 20)
def M_To_kindOfWord : Md := (⟨"SandGuards$Tokens", "kindOfWord", "(J)I"⟩, prog_12_method_7_code, 3, (some .int), 0, 0)
def M_To_isBlank : Md := (⟨"SandGuards$Tokens", "isBlank", "(I)Z"⟩, prog_12_method_8_code, 1, (some .boolean), 0, 0)
def M_To_isLetter : Md := (⟨"SandGuards$Tokens", "isLetter", "(I)Z"⟩, prog_12_method_9_code, 1, (some .boolean), 0, 0)
def M_To_isDigit : Md := (⟨"SandGuards$Tokens", "isDigit", "(I)Z"⟩, prog_12_method_10_code, 1, (some .boolean), 0, 0)
def M_To_isSign : Md := (⟨"SandGuards$Tokens", "isSign", "(I)Z"⟩, prog_12_method_11_code, 1, (some .boolean), 0, 0)
def M_Sg_init : Md := (⟨"SandGuards", "<init>", "()V"⟩, prog_1_method_1_code, 2, none, 4, 80)
def M_Sg_feed : Md := (⟨"SandGuards", "feed", "(IIIII)I"⟩, prog_1_method_2_code, 6, (some .int), 2, 43)
def M_Sg_back : Md := (⟨"SandGuards", "back", "(I)I"⟩, prog_1_method_3_code, 2, (some .int), 0, 0)
def M_Sg_read : Md := (⟨"SandGuards", "read", "()I"⟩, prog_1_method_4_code, 2, (some .int), 7, 155)
def M_Sg_beginAnew : Md := (⟨"SandGuards", "beginAnew", "()V"⟩, prog_1_method_5_code, 2, none, 3, 96)
def M_Sg_place : Md := (⟨"SandGuards", "place", "()I"⟩, prog_1_method_6_code, 1, (some .int), 0, 0)
def M_Sg_post : Md := (⟨"SandGuards", "post", "(II)I"⟩, prog_1_method_7_code, 3, (some .int), 2, 56)
def M_Sg_guard : Md := (⟨"SandGuards", "guard", "(II)I"⟩, prog_1_method_8_code, 3, (some .int), 1, 22)
def M_Sg_run : Md := (⟨"SandGuards", "run", "(I)I"⟩, prog_1_method_9_code, 2, (some .int), 5, 133)
def M_Sg_turn : Md := (⟨"SandGuards", "turn", "(I)Z"⟩, prog_1_method_10_code, 2, (some .boolean), 4, 116)
def M_Sg_shake : Md := (⟨"SandGuards", "shake", "(II)I"⟩, prog_1_method_11_code, 4, (some .int), 4, 116)
def M_Sg_dry : Md := (⟨"SandGuards", "dry", "(IZ)Z"⟩, prog_1_method_12_code, 3, (some .boolean), 4, 116)
def M_Sg_pinch : Md := (⟨"SandGuards", "pinch", "(II)I"⟩, prog_1_method_13_code, 5, (some .int), 4, 116)
def M_Sg_send : Md := (⟨"SandGuards", "send", "(II)Z"⟩, prog_1_method_14_code, 3, (some .boolean), 4, 116)
def M_Sg_undo : Md := (⟨"SandGuards", "undo", "()Z"⟩, prog_1_method_15_code, 1, (some .boolean), 3, 96)
def M_Sg_out : Md := (⟨"SandGuards", "out", "(I)I"⟩, prog_1_method_16_code, 2, (some .int), 3, 80)
def M_Sg_slept : Md := (⟨"SandGuards", "slept", "()I"⟩, prog_1_method_17_code, 1, (some .int), 6, 156)
def M_Sg_dryFirst : Md := (⟨"SandGuards", "dryFirst", "(I)I"⟩, prog_1_method_18_code, 2, (some .int), 7, 182)
def M_Sg_dryTwo : Md := (⟨"SandGuards", "dryTwo", "(I)I"⟩, prog_1_method_19_code, 2, (some .int), 7, 184)
def M_Sg_bribe : Md := (⟨"SandGuards", "bribe", "(II)I"⟩, prog_1_method_20_code, 3, (some .int), 6, 163)
def M_Sg_weak : Md := (⟨"SandGuards", "weak", "(II)I"⟩, prog_1_method_21_code, 4, (some .int), 0, 0)
def M_Sg_never : Md := (⟨"SandGuards", "never", "(I)I"⟩, prog_1_method_22_code, 2, (some .int), 6, 156)
def M_Sg_spread : Md := (⟨"SandGuards", "spread", "(I)I"⟩, prog_1_method_23_code, 2, (some .int), 6, 156)
def M_Sg_shakeWorst : Md := (⟨"SandGuards", "shakeWorst", "(II)I"⟩, prog_1_method_24_code, 3, (some .int), 6, 158)
def M_Sg_longest : Md := (⟨"SandGuards", "longest", "(I)I"⟩, prog_1_method_25_code, 3, (some .int), 5, 135)
def M_Sg_rests : Md := (⟨"SandGuards", "rests", "(III)I"⟩, prog_1_method_26_code, 4, (some .int), 6, 159)
def M_Sg_where : Md := (⟨"SandGuards", "where", "(II)I"⟩, prog_1_method_27_code, 3, (some .int), 6, 156)
def M_Sg_tell : Md := (⟨"SandGuards", "tell", "(II)I"⟩, prog_1_method_28_code, 3, (some .int), 1, 22)
def M_Sg_forget : Md := (⟨"SandGuards", "forget", "()I"⟩, prog_1_method_29_code, 2, (some .int), 1, 20)
def M_Sg_tampered : Md := (⟨"SandGuards", "tampered", "(III)I"⟩, prog_1_method_30_code, 4, (some .int), 6, 161)
def M_Sg_hold : Md := (⟨"SandGuards", "hold", "(I)Z"⟩, prog_1_method_31_code, 2, (some .boolean), 2, 75)
def M_Sg_restore : Md := (⟨"SandGuards", "restore", "(I)Z"⟩, prog_1_method_32_code, 2, (some .boolean), 2, 75)
def M_Sg_count : Md := (⟨"SandGuards", "count", "(I)I"⟩, prog_1_method_33_code, 2, (some .int), 1, 23)
def M_Sg_slotsHeld : Md := (⟨"SandGuards", "slotsHeld", "()I"⟩, prog_1_method_34_code, 3, (some .int), 0, 0)
def M_Sg_isPost : Md := (⟨"SandGuards", "isPost", "(I)Z"⟩, prog_1_method_35_code, 2, (some .boolean), 0, 0)
def M_Sg_isGuard : Md := (⟨"SandGuards", "isGuard", "(I)Z"⟩, prog_1_method_36_code, 2, (some .boolean), 0, 0)
def M_Sg_beginThing : Md := (⟨"SandGuards", "beginThing", "()V"⟩, prog_1_method_37_code, 1, none, 3, 96)
def M_Sg_noteChange : Md := (⟨"SandGuards", "noteChange", "()V"⟩, prog_1_method_38_code, 1, none, 1, 20)
def M_Mo_init : Md := (⟨"SandGuardsModel", "<init>", "()V"⟩, prog_14_method_2_code, 1, none, 2, 48)
def M_Mo_feed : Md := (⟨"SandGuardsModel", "feed", "(IIIII)I"⟩, prog_14_method_3_code, 6, (some .int), 1, 22)
def M_Mo_put : Md := (⟨"SandGuardsModel", "put", "(I)V"⟩, prog_14_method_4_code, 3, none, 0, 0)
def M_Mo_back : Md := (⟨"SandGuardsModel", "back", "(I)I"⟩, prog_14_method_5_code, 2, (some .int), 0, 0)
def M_Mo_byteAt : Md := (⟨"SandGuardsModel", "byteAt", "(I)I"⟩, prog_14_method_6_code, 2, (some .int), 0, 0)
def M_Mo_isDigit : Md := (⟨"SandGuardsModel", "isDigit", "(I)Z"⟩, prog_14_method_7_code, 1, (some .boolean), 0, 0)
def M_Mo_isLetter : Md := (⟨"SandGuardsModel", "isLetter", "(I)Z"⟩, prog_14_method_8_code, 1, (some .boolean), 0, 0)
def M_Mo_appends : Md := (⟨"SandGuardsModel", "appends", "(JI)J"⟩, prog_14_method_9_code, 3, (some .long), 0, 0)
def M_Mo_word : Md := (⟨"SandGuardsModel", "word", "(IIIIIII)J"⟩, prog_14_method_10_code, 7, (some .long), 1, 22)
def M_Mo_token : Md := (⟨"SandGuardsModel", "token", "(IIIJ)V"⟩, prog_14_method_11_code, 6, none, 0, 0)
def M_Mo_cut : Md := (⟨"SandGuardsModel", "cut", "()V"⟩, prog_14_method_12_code, 8, none, 2, 49)
def M_Mo_sign : Md := (⟨"SandGuardsModel", "sign", "(III)I"⟩, prog_14_method_13_code, 5, (some .int), 1, 25)
def M_Mo_is : Md := (⟨"SandGuardsModel", "is", "(I)Z"⟩, prog_14_method_14_code, 2, (some .boolean), 0, 0)
def M_Mo_fail : Md := (⟨"SandGuardsModel", "fail", "(I)V"⟩, prog_14_method_15_code, 2, none, 0, 0)
def M_Mo_wrong : Md := (⟨"SandGuardsModel", "wrong", "(II)V"⟩, prog_14_method_16_code, 4, none, 0, 0)
def M_Mo_goesOn : Md := (⟨"SandGuardsModel", "goesOn", "()V"⟩, prog_14_method_17_code, 1, none, 1, 21)
def M_Mo_must : Md := (⟨"SandGuardsModel", "must", "(I)V"⟩, prog_14_method_18_code, 2, none, 2, 41)
def M_Mo_read : Md := (⟨"SandGuardsModel", "read", "()I"⟩, prog_14_method_19_code, 2, (some .int), 7, 145)
def M_Mo_place : Md := (⟨"SandGuardsModel", "place", "()I"⟩, prog_14_method_20_code, 1, (some .int), 0, 0)
def M_Mo_roomFor : Md := (⟨"SandGuardsModel", "roomFor", "(II)V"⟩, prog_14_method_21_code, 3, none, 2, 41)
def M_Mo_tell : Md := (⟨"SandGuardsModel", "tell", "()V"⟩, prog_14_method_22_code, 1, none, 6, 125)
def M_Mo_named : Md := (⟨"SandGuardsModel", "named", "()I"⟩, prog_14_method_23_code, 3, (some .int), 3, 62)
def M_Mo_notes : Md := (⟨"SandGuardsModel", "notes", "(III)V"⟩, prog_14_method_24_code, 4, none, 0, 0)
def M_Mo_bounded : Md := (⟨"SandGuardsModel", "bounded", "(II)I"⟩, prog_14_method_25_code, 4, (some .int), 2, 41)
def M_Mo_tellPost : Md := (⟨"SandGuardsModel", "tellPost", "()V"⟩, prog_14_method_26_code, 3, none, 4, 84)
def M_Mo_tellGuard : Md := (⟨"SandGuardsModel", "tellGuard", "()V"⟩, prog_14_method_27_code, 3, none, 4, 84)
def M_Mo_atPost : Md := (⟨"SandGuardsModel", "atPost", "()I"⟩, prog_14_method_28_code, 3, (some .int), 3, 62)
def M_Mo_tellDamp : Md := (⟨"SandGuardsModel", "tellDamp", "()V"⟩, prog_14_method_29_code, 2, none, 3, 64)
def M_Mo_tellLaw : Md := (⟨"SandGuardsModel", "tellLaw", "()V"⟩, prog_14_method_30_code, 3, none, 5, 103)
def M_Mo_term : Md := (⟨"SandGuardsModel", "term", "()V"⟩, prog_14_method_31_code, 1, none, 4, 83)
def M_Mo_emit : Md := (⟨"SandGuardsModel", "emit", "(II)V"⟩, prog_14_method_32_code, 3, none, 0, 0)
def M_Mo_comesOut : Md := (⟨"SandGuardsModel", "comesOut", "(Z)V"⟩, prog_14_method_33_code, 3, none, 1, 22)
def M_Mo_expression : Md := (⟨"SandGuardsModel", "expression", "()V"⟩, prog_14_method_34_code, 3, none, 3, 61)
def M_Mo_unit : Md := (⟨"SandGuardsModel", "unit", "()V"⟩, prog_14_method_35_code, 1, none, 2, 41)
def M_Mo_termOf : Md := (⟨"SandGuardsModel", "termOf", "(II)I"⟩, prog_14_method_36_code, 8, (some .int), 0, 0)
def M_Mo_in : Md := (⟨"SandGuardsModel", "in", "(III)Z"⟩, prog_14_method_37_code, 3, (some .boolean), 0, 0)
def M_Mo_isPost : Md := (⟨"SandGuardsModel", "isPost", "(I)Z"⟩, prog_14_method_38_code, 2, (some .boolean), 1, 22)
def M_Mo_isGuard : Md := (⟨"SandGuardsModel", "isGuard", "(I)Z"⟩, prog_14_method_39_code, 2, (some .boolean), 1, 22)
def M_Mo_begins : Md := (⟨"SandGuardsModel", "begins", "()V"⟩, prog_14_method_40_code, 2, none, 1, 21)
def M_Mo_copies : Md := (⟨"SandGuardsModel", "copies", "()V"⟩, prog_14_method_41_code, 2, none, 0, 0)
def M_Mo_liesDown : Md := (⟨"SandGuardsModel", "liesDown", "(I)V"⟩, prog_14_method_42_code, 2, none, 0, 0)
def M_Mo_getsUp : Md := (⟨"SandGuardsModel", "getsUp", "(I)I"⟩, prog_14_method_43_code, 4, (some .int), 0, 0)
def M_Mo_comes : Md := (⟨"SandGuardsModel", "comes", "(II)V"⟩, prog_14_method_44_code, 3, none, 0, 0)
def M_Mo_flowOf : Md := (⟨"SandGuardsModel", "flowOf", "(I)I"⟩, prog_14_method_45_code, 8, (some .int), 1, 27)
def M_Mo_runs : Md := (⟨"SandGuardsModel", "runs", "()V"⟩, prog_14_method_46_code, 3, none, 2, 54)
def M_Mo_relieves : Md := (⟨"SandGuardsModel", "relieves", "(I)V"⟩, prog_14_method_47_code, 5, none, 1, 23)
def M_Mo_minuteGoes : Md := (⟨"SandGuardsModel", "minuteGoes", "()V"⟩, prog_14_method_48_code, 2, none, 3, 76)
def M_Mo_postOf : Md := (⟨"SandGuardsModel", "postOf", "(I)I"⟩, prog_14_method_49_code, 3, (some .int), 0, 0)
def M_Mo_placeInBed : Md := (⟨"SandGuardsModel", "placeInBed", "(I)I"⟩, prog_14_method_50_code, 3, (some .int), 0, 0)
def M_Mo_emptyOnes : Md := (⟨"SandGuardsModel", "emptyOnes", "()I"⟩, prog_14_method_51_code, 3, (some .int), 0, 0)
def M_Mo_sleptOnes : Md := (⟨"SandGuardsModel", "sleptOnes", "()I"⟩, prog_14_method_52_code, 3, (some .int), 0, 0)
def M_Mo_post : Md := (⟨"SandGuardsModel", "post", "(II)I"⟩, prog_14_method_53_code, 3, (some .int), 2, 54)
def M_Mo_guard : Md := (⟨"SandGuardsModel", "guard", "(II)I"⟩, prog_14_method_54_code, 3, (some .int), 2, 43)
def M_Mo_keeps : Md := (⟨"SandGuardsModel", "keeps", "()V"⟩, prog_14_method_55_code, 2, none, 0, 0)
def M_Mo_goes : Md := (⟨"SandGuardsModel", "goes", "(I)V"⟩, prog_14_method_56_code, 3, none, 4, 97)
def M_Mo_run : Md := (⟨"SandGuardsModel", "run", "(I)I"⟩, prog_14_method_57_code, 2, (some .int), 5, 119)
def M_Mo_turns : Md := (⟨"SandGuardsModel", "turns", "(I)V"⟩, prog_14_method_58_code, 3, none, 0, 0)
def M_Mo_turn : Md := (⟨"SandGuardsModel", "turn", "(I)Z"⟩, prog_14_method_59_code, 2, (some .boolean), 2, 43)
def M_Mo_shake : Md := (⟨"SandGuardsModel", "shake", "(II)I"⟩, prog_14_method_60_code, 4, (some .int), 2, 43)
def M_Mo_dry : Md := (⟨"SandGuardsModel", "dry", "(IZ)Z"⟩, prog_14_method_61_code, 3, (some .boolean), 2, 43)
def M_Mo_pinch : Md := (⟨"SandGuardsModel", "pinch", "(II)I"⟩, prog_14_method_62_code, 3, (some .int), 2, 43)
def M_Mo_send : Md := (⟨"SandGuardsModel", "send", "(II)Z"⟩, prog_14_method_63_code, 4, (some .boolean), 2, 43)
def M_Mo_undo : Md := (⟨"SandGuardsModel", "undo", "()Z"⟩, prog_14_method_64_code, 2, (some .boolean), 0, 0)
def M_Mo_out : Md := (⟨"SandGuardsModel", "out", "(I)I"⟩, prog_14_method_65_code, 3, (some .int), 4, 97)
def M_Mo_sleptBy : Md := (⟨"SandGuardsModel", "sleptBy", "()I"⟩, prog_14_method_66_code, 2, (some .int), 4, 97)
def M_Mo_orNot : Md := (⟨"SandGuardsModel", "orNot", "(I)I"⟩, prog_14_method_67_code, 1, (some .int), 0, 0)
def M_Mo_slept : Md := (⟨"SandGuardsModel", "slept", "()I"⟩, prog_14_method_68_code, 1, (some .int), 5, 118)
def M_Mo_dryFirst : Md := (⟨"SandGuardsModel", "dryFirst", "(I)I"⟩, prog_14_method_69_code, 6, (some .int), 5, 118)
def M_Mo_dryTwo : Md := (⟨"SandGuardsModel", "dryTwo", "(I)I"⟩, prog_14_method_70_code, 7, (some .int), 5, 118)
def M_Mo_bribe : Md := (⟨"SandGuardsModel", "bribe", "(II)I"⟩, prog_14_method_71_code, 8, (some .int), 4, 97)
def M_Mo_weak : Md := (⟨"SandGuardsModel", "weak", "(II)I"⟩, prog_14_method_72_code, 6, (some .int), 4, 97)
def M_Mo_never : Md := (⟨"SandGuardsModel", "never", "(I)I"⟩, prog_14_method_73_code, 4, (some .int), 5, 119)
def M_Mo_spread : Md := (⟨"SandGuardsModel", "spread", "(I)I"⟩, prog_14_method_74_code, 5, (some .int), 5, 119)
def M_Mo_shakeWorst : Md := (⟨"SandGuardsModel", "shakeWorst", "(II)I"⟩, prog_14_method_75_code, 7, (some .int), 5, 119)
def M_Mo_longest : Md := (⟨"SandGuardsModel", "longest", "(I)I"⟩, prog_14_method_76_code, 5, (some .int), 4, 97)
def M_Mo_where : Md := (⟨"SandGuardsModel", "where", "(II)I"⟩, prog_14_method_77_code, 3, (some .int), 5, 119)
def M_Mo_fillsPinches : Md := (⟨"SandGuardsModel", "fillsPinches", "(II)V"⟩, prog_14_method_78_code, 7, none, 5, 119)
def M_Mo_isAllowed : Md := (⟨"SandGuardsModel", "isAllowed", "(I)Z"⟩, prog_14_method_79_code, 3, (some .boolean), 0, 0)
def M_Mo_isResting : Md := (⟨"SandGuardsModel", "isResting", "(I)Z"⟩, prog_14_method_80_code, 4, (some .boolean), 0, 0)
def M_Mo_rests : Md := (⟨"SandGuardsModel", "rests", "(III)I"⟩, prog_14_method_81_code, 6, (some .int), 6, 145)
def M_Mo_tell_ : Md := (⟨"SandGuardsModel", "tell", "(II)I"⟩, prog_14_method_82_code, 3, (some .int), 2, 43)
def M_Mo_forget : Md := (⟨"SandGuardsModel", "forget", "()I"⟩, prog_14_method_83_code, 2, (some .int), 0, 0)
def M_Mo_isSo : Md := (⟨"SandGuardsModel", "isSo", "(III)Z"⟩, prog_14_method_84_code, 7, (some .boolean), 4, 97)
def M_Mo_tampered : Md := (⟨"SandGuardsModel", "tampered", "(III)I"⟩, prog_14_method_85_code, 7, (some .int), 5, 123)
def M_Mo_hold : Md := (⟨"SandGuardsModel", "hold", "(I)Z"⟩, prog_14_method_86_code, 3, (some .boolean), 1, 22)
def M_Mo_restore : Md := (⟨"SandGuardsModel", "restore", "(I)Z"⟩, prog_14_method_87_code, 3, (some .boolean), 1, 22)
def M_Mo_count : Md := (⟨"SandGuardsModel", "count", "(I)I"⟩, prog_14_method_88_code, 4, (some .int), 1, 22)
def M_law : Md := (⟨"SandGuardsLaw", "law", "([I)Z"⟩, code, 4, some .boolean, 10, 412)
set_option maxRecDepth 40000 in
theorem ok_Ca_leaveAll : OkV M_Ca_leaveAll 0 := ⟨⟨by decide +kernel, gd (i := 249) rfl (by decide +kernel), gd (i := 103) (by decide +kernel) (by decide +kernel), by decide +kernel, by decide +kernel, by decide +kernel⟩, gd (i := 247) (by decide +kernel) (by decide +kernel), gd (i := 248) (by decide +kernel) (by decide +kernel)⟩
set_option maxRecDepth 40000 in
theorem ok_Ca_copyFrom : OkV M_Ca_copyFrom 1 := ⟨⟨by decide +kernel, gd (i := 823) rfl (by decide +kernel), gd (i := 103) (by decide +kernel) (by decide +kernel), by decide +kernel, by decide +kernel, by decide +kernel⟩, gd (i := 821) (by decide +kernel) (by decide +kernel), gd (i := 822) (by decide +kernel) (by decide +kernel)⟩
set_option maxRecDepth 40000 in
theorem ok_Ca_passMany : OkV M_Ca_passMany 2 := ⟨⟨by decide +kernel, gd (i := 888) rfl (by decide +kernel), gd (i := 103) (by decide +kernel) (by decide +kernel), by decide +kernel, by decide +kernel, by decide +kernel⟩, gd (i := 886) (by decide +kernel) (by decide +kernel), gd (i := 887) (by decide +kernel) (by decide +kernel)⟩
set_option maxRecDepth 40000 in
theorem ok_Ca_passSome : OkV M_Ca_passSome 2 := ⟨⟨by decide +kernel, gd (i := 892) rfl (by decide +kernel), gd (i := 103) (by decide +kernel) (by decide +kernel), by decide +kernel, by decide +kernel, by decide +kernel⟩, gd (i := 890) (by decide +kernel) (by decide +kernel), gd (i := 891) (by decide +kernel) (by decide +kernel)⟩
set_option maxRecDepth 40000 in
theorem ok_Ca_lookAhead : OkV M_Ca_lookAhead 2 := ⟨⟨by decide +kernel, gd (i := 897) rfl (by decide +kernel), gd (i := 103) (by decide +kernel) (by decide +kernel), by decide +kernel, by decide +kernel, by decide +kernel⟩, gd (i := 896) (by decide +kernel) (by decide +kernel), gd (i := 30) (by decide +kernel) (by decide +kernel)⟩
set_option maxRecDepth 40000 in
theorem ok_Ca_quietAt : OkV M_Ca_quietAt 3 := ⟨⟨by decide +kernel, gd (i := 903) rfl (by decide +kernel), gd (i := 103) (by decide +kernel) (by decide +kernel), by decide +kernel, by decide +kernel, by decide +kernel⟩, gd (i := 902) (by decide +kernel) (by decide +kernel), gd (i := 31) (by decide +kernel) (by decide +kernel)⟩
set_option maxRecDepth 40000 in
theorem ok_Ca_relieveAll : OkV M_Ca_relieveAll 1 := ⟨⟨by decide +kernel, gd (i := 923) rfl (by decide +kernel), gd (i := 103) (by decide +kernel) (by decide +kernel), by decide +kernel, by decide +kernel, by decide +kernel⟩, gd (i := 922) (by decide +kernel) (by decide +kernel), gd (i := 34) (by decide +kernel) (by decide +kernel)⟩
set_option maxRecDepth 40000 in
theorem ok_Ca_fillAll : OkV M_Ca_fillAll 1 := ⟨⟨by decide +kernel, gd (i := 937) rfl (by decide +kernel), gd (i := 103) (by decide +kernel) (by decide +kernel), by decide +kernel, by decide +kernel, by decide +kernel⟩, gd (i := 936) (by decide +kernel) (by decide +kernel), gd (i := 36) (by decide +kernel) (by decide +kernel)⟩
set_option maxRecDepth 40000 in
theorem ok_Ca_runDown : OkV M_Ca_runDown 2 := ⟨⟨by decide +kernel, gd (i := 915) rfl (by decide +kernel), gd (i := 103) (by decide +kernel) (by decide +kernel), by decide +kernel, by decide +kernel, by decide +kernel⟩, gd (i := 913) (by decide +kernel) (by decide +kernel), gd (i := 914) (by decide +kernel) (by decide +kernel)⟩
set_option maxRecDepth 40000 in
theorem ok_Ca_countMinutes : OkV M_Ca_countMinutes 2 := ⟨⟨by decide +kernel, gd (i := 919) rfl (by decide +kernel), gd (i := 103) (by decide +kernel) (by decide +kernel), by decide +kernel, by decide +kernel, by decide +kernel⟩, gd (i := 918) (by decide +kernel) (by decide +kernel), gd (i := 33) (by decide +kernel) (by decide +kernel)⟩
set_option maxRecDepth 40000 in
theorem ok_Ca_comer : OkV M_Ca_comer 2 := ⟨⟨by decide +kernel, gd (i := 907) rfl (by decide +kernel), gd (i := 103) (by decide +kernel) (by decide +kernel), by decide +kernel, by decide +kernel, by decide +kernel⟩, gd (i := 906) (by decide +kernel) (by decide +kernel), gd (i := 32) (by decide +kernel) (by decide +kernel)⟩
set_option maxRecDepth 40000 in
theorem ok_Ca_relieve : OkV M_Ca_relieve 2 := ⟨⟨by decide +kernel, gd (i := 927) rfl (by decide +kernel), gd (i := 103) (by decide +kernel) (by decide +kernel), by decide +kernel, by decide +kernel, by decide +kernel⟩, gd (i := 926) (by decide +kernel) (by decide +kernel), gd (i := 35) (by decide +kernel) (by decide +kernel)⟩
set_option maxRecDepth 40000 in
theorem ok_Ca_stand : OkV M_Ca_stand 2 := ⟨⟨by decide +kernel, gd (i := 731) rfl (by decide +kernel), gd (i := 103) (by decide +kernel) (by decide +kernel), by decide +kernel, by decide +kernel, by decide +kernel⟩, gd (i := 729) (by decide +kernel) (by decide +kernel), gd (i := 730) (by decide +kernel) (by decide +kernel)⟩
set_option maxRecDepth 40000 in
theorem ok_Ca_lieBehindAll : OkV M_Ca_lieBehindAll 1 := ⟨⟨by decide +kernel, gd (i := 719) rfl (by decide +kernel), gd (i := 103) (by decide +kernel) (by decide +kernel), by decide +kernel, by decide +kernel, by decide +kernel⟩, gd (i := 717) (by decide +kernel) (by decide +kernel), gd (i := 718) (by decide +kernel) (by decide +kernel)⟩
set_option maxRecDepth 40000 in
theorem ok_Ca_leaveBed : OkV M_Ca_leaveBed 1 := ⟨⟨by decide +kernel, gd (i := 932) rfl (by decide +kernel), gd (i := 103) (by decide +kernel) (by decide +kernel), by decide +kernel, by decide +kernel, by decide +kernel⟩, gd (i := 930) (by decide +kernel) (by decide +kernel), gd (i := 931) (by decide +kernel) (by decide +kernel)⟩
set_option maxRecDepth 40000 in
theorem ok_Ca_placeInBed : OkV M_Ca_placeInBed 1 := ⟨⟨by decide +kernel, gd (i := 868) rfl (by decide +kernel), gd (i := 103) (by decide +kernel) (by decide +kernel), by decide +kernel, by decide +kernel, by decide +kernel⟩, gd (i := 866) (by decide +kernel) (by decide +kernel), gd (i := 867) (by decide +kernel) (by decide +kernel)⟩
set_option maxRecDepth 40000 in
theorem ok_Ca_exchange : OkV M_Ca_exchange 1 := ⟨⟨by decide +kernel, gd (i := 948) rfl (by decide +kernel), gd (i := 103) (by decide +kernel) (by decide +kernel), by decide +kernel, by decide +kernel, by decide +kernel⟩, gd (i := 946) (by decide +kernel) (by decide +kernel), gd (i := 947) (by decide +kernel) (by decide +kernel)⟩
set_option maxRecDepth 40000 in
theorem ok_Ca_emptyPosts : OkV M_Ca_emptyPosts 1 := ⟨⟨by decide +kernel, gd (i := 1183) rfl (by decide +kernel), gd (i := 103) (by decide +kernel) (by decide +kernel), by decide +kernel, by decide +kernel, by decide +kernel⟩, gd (i := 1181) (by decide +kernel) (by decide +kernel), gd (i := 1182) (by decide +kernel) (by decide +kernel)⟩
set_option maxRecDepth 40000 in
theorem ok_Ca_grains : OkV M_Ca_grains 1 := ⟨⟨by decide +kernel, gd (i := 1187) rfl (by decide +kernel), gd (i := 103) (by decide +kernel) (by decide +kernel), by decide +kernel, by decide +kernel, by decide +kernel⟩, gd (i := 1185) (by decide +kernel) (by decide +kernel), gd (i := 1186) (by decide +kernel) (by decide +kernel)⟩
set_option maxRecDepth 40000 in
theorem ok_Ca_guardsWhoSlept : OkV M_Ca_guardsWhoSlept 1 := ⟨⟨by decide +kernel, gd (i := 1092) rfl (by decide +kernel), gd (i := 103) (by decide +kernel) (by decide +kernel), by decide +kernel, by decide +kernel, by decide +kernel⟩, gd (i := 1090) (by decide +kernel) (by decide +kernel), gd (i := 1091) (by decide +kernel) (by decide +kernel)⟩
set_option maxRecDepth 40000 in
theorem ok_Ca_sleepWanted : OkV M_Ca_sleepWanted 1 := ⟨⟨by decide +kernel, gd (i := 1004) rfl (by decide +kernel), gd (i := 103) (by decide +kernel) (by decide +kernel), by decide +kernel, by decide +kernel, by decide +kernel⟩, gd (i := 1002) (by decide +kernel) (by decide +kernel), gd (i := 1003) (by decide +kernel) (by decide +kernel)⟩
set_option maxRecDepth 40000 in
theorem ok_Ca_longestOnWatch : OkV M_Ca_longestOnWatch 1 := ⟨⟨by decide +kernel, gd (i := 1100) rfl (by decide +kernel), gd (i := 103) (by decide +kernel) (by decide +kernel), by decide +kernel, by decide +kernel, by decide +kernel⟩, gd (i := 1098) (by decide +kernel) (by decide +kernel), gd (i := 1099) (by decide +kernel) (by decide +kernel)⟩
set_option maxRecDepth 40000 in
theorem ok_Dr_forgetFound : OkV M_Dr_forgetFound 0 := ⟨⟨by decide +kernel, gd (i := 836) rfl (by decide +kernel), gd (i := 107) (by decide +kernel) (by decide +kernel), by decide +kernel, by decide +kernel, by decide +kernel⟩, gd (i := 834) (by decide +kernel) (by decide +kernel), gd (i := 835) (by decide +kernel) (by decide +kernel)⟩
set_option maxRecDepth 40000 in
theorem ok_Dr_asItIs : OkV M_Dr_asItIs 2 := ⟨⟨by decide +kernel, gd (i := 995) rfl (by decide +kernel), gd (i := 107) (by decide +kernel) (by decide +kernel), by decide +kernel, by decide +kernel, by decide +kernel⟩, gd (i := 993) (by decide +kernel) (by decide +kernel), gd (i := 994) (by decide +kernel) (by decide +kernel)⟩
set_option maxRecDepth 40000 in
theorem ok_Dr_findFirst : OkV M_Dr_findFirst 3 := ⟨⟨by decide +kernel, gd (i := 1014) rfl (by decide +kernel), gd (i := 107) (by decide +kernel) (by decide +kernel), by decide +kernel, by decide +kernel, by decide +kernel⟩, gd (i := 1012) (by decide +kernel) (by decide +kernel), gd (i := 1013) (by decide +kernel) (by decide +kernel)⟩
set_option maxRecDepth 40000 in
theorem ok_Dr_tryOne : OkV M_Dr_tryOne 3 := ⟨⟨by decide +kernel, gd (i := 1018) rfl (by decide +kernel), gd (i := 107) (by decide +kernel) (by decide +kernel), by decide +kernel, by decide +kernel, by decide +kernel⟩, gd (i := 1017) (by decide +kernel) (by decide +kernel), gd (i := 38) (by decide +kernel) (by decide +kernel)⟩
set_option maxRecDepth 40000 in
theorem ok_Dr_findTwo : OkV M_Dr_findTwo 2 := ⟨⟨by decide +kernel, gd (i := 1029) rfl (by decide +kernel), gd (i := 107) (by decide +kernel) (by decide +kernel), by decide +kernel, by decide +kernel, by decide +kernel⟩, gd (i := 1027) (by decide +kernel) (by decide +kernel), gd (i := 1028) (by decide +kernel) (by decide +kernel)⟩
set_option maxRecDepth 40000 in
theorem ok_Dr_tryTwo : OkV M_Dr_tryTwo 4 := ⟨⟨by decide +kernel, gd (i := 1033) rfl (by decide +kernel), gd (i := 107) (by decide +kernel) (by decide +kernel), by decide +kernel, by decide +kernel, by decide +kernel⟩, gd (i := 1032) (by decide +kernel) (by decide +kernel), gd (i := 39) (by decide +kernel) (by decide +kernel)⟩
set_option maxRecDepth 40000 in
theorem ok_Dr_mostThatIsSooner : OkS M_Dr_mostThatIsSooner 1 := ⟨⟨by decide +kernel, gd (i := 1021) rfl (by decide +kernel), gd (i := 107) (by decide +kernel) (by decide +kernel), by decide +kernel, by decide +kernel, by decide +kernel⟩, gd (i := 1020) (by decide +kernel) (by decide +kernel)⟩
set_option maxRecDepth 40000 in
theorem ok_Dr_soonest : OkV M_Dr_soonest 2 := ⟨⟨by decide +kernel, gd (i := 1000) rfl (by decide +kernel), gd (i := 107) (by decide +kernel) (by decide +kernel), by decide +kernel, by decide +kernel, by decide +kernel⟩, gd (i := 999) (by decide +kernel) (by decide +kernel), gd (i := 37) (by decide +kernel) (by decide +kernel)⟩
set_option maxRecDepth 40000 in
theorem ok_Ga_findRests : OkV M_Ga_findRests 4 := ⟨⟨by decide +kernel, gd (i := 1109) rfl (by decide +kernel), gd (i := 108) (by decide +kernel) (by decide +kernel), by decide +kernel, by decide +kernel, by decide +kernel⟩, gd (i := 1107) (by decide +kernel) (by decide +kernel), gd (i := 1108) (by decide +kernel) (by decide +kernel)⟩
set_option maxRecDepth 40000 in
theorem ok_Ga_players : OkS M_Ga_players 2 := ⟨⟨by decide +kernel, gd (i := 1112) rfl (by decide +kernel), gd (i := 108) (by decide +kernel) (by decide +kernel), by decide +kernel, by decide +kernel, by decide +kernel⟩, gd (i := 1111) (by decide +kernel) (by decide +kernel)⟩
set_option maxRecDepth 40000 in
theorem ok_Ga_putPinches : OkV M_Ga_putPinches 3 := ⟨⟨by decide +kernel, gd (i := 1117) rfl (by decide +kernel), gd (i := 108) (by decide +kernel) (by decide +kernel), by decide +kernel, by decide +kernel, by decide +kernel⟩, gd (i := 1116) (by decide +kernel) (by decide +kernel), gd (i := 41) (by decide +kernel) (by decide +kernel)⟩
set_option maxRecDepth 40000 in
theorem ok_Ga_noteSleeps : OkV M_Ga_noteSleeps 3 := ⟨⟨by decide +kernel, gd (i := 1124) rfl (by decide +kernel), gd (i := 108) (by decide +kernel) (by decide +kernel), by decide +kernel, by decide +kernel, by decide +kernel⟩, gd (i := 1123) (by decide +kernel) (by decide +kernel), gd (i := 42) (by decide +kernel) (by decide +kernel)⟩
set_option maxRecDepth 40000 in
theorem ok_Ga_isAtRest : OkV M_Ga_isAtRest 3 := ⟨⟨by decide +kernel, gd (i := 1128) rfl (by decide +kernel), gd (i := 108) (by decide +kernel) (by decide +kernel), by decide +kernel, by decide +kernel, by decide +kernel⟩, gd (i := 1127) (by decide +kernel) (by decide +kernel), gd (i := 43) (by decide +kernel) (by decide +kernel)⟩
set_option maxRecDepth 40000 in
theorem ok_Hi_keep : OkV M_Hi_keep 1 := ⟨⟨by decide +kernel, gd (i := 880) rfl (by decide +kernel), gd (i := 105) (by decide +kernel) (by decide +kernel), by decide +kernel, by decide +kernel, by decide +kernel⟩, gd (i := 878) (by decide +kernel) (by decide +kernel), gd (i := 879) (by decide +kernel) (by decide +kernel)⟩
set_option maxRecDepth 40000 in
theorem ok_Hi_giveBack : OkV M_Hi_giveBack 1 := ⟨⟨by decide +kernel, gd (i := 976) rfl (by decide +kernel), gd (i := 105) (by decide +kernel) (by decide +kernel), by decide +kernel, by decide +kernel, by decide +kernel⟩, gd (i := 974) (by decide +kernel) (by decide +kernel), gd (i := 975) (by decide +kernel) (by decide +kernel)⟩
set_option maxRecDepth 40000 in
theorem ok_La_clear : OkV M_La_clear 0 := ⟨⟨by decide +kernel, gd (i := 674) rfl (by decide +kernel), gd (i := 102) (by decide +kernel) (by decide +kernel), by decide +kernel, by decide +kernel, by decide +kernel⟩, gd (i := 672) (by decide +kernel) (by decide +kernel), gd (i := 673) (by decide +kernel) (by decide +kernel)⟩
set_option maxRecDepth 40000 in
theorem ok_La_useVariable : OkV M_La_useVariable 1 := ⟨⟨by decide +kernel, gd (i := 764) rfl (by decide +kernel), gd (i := 102) (by decide +kernel) (by decide +kernel), by decide +kernel, by decide +kernel, by decide +kernel⟩, gd (i := 762) (by decide +kernel) (by decide +kernel), gd (i := 763) (by decide +kernel) (by decide +kernel)⟩
set_option maxRecDepth 40000 in
theorem ok_La_useInt : OkV M_La_useInt 1 := ⟨⟨by decide +kernel, gd (i := 756) rfl (by decide +kernel), gd (i := 102) (by decide +kernel) (by decide +kernel), by decide +kernel, by decide +kernel, by decide +kernel⟩, gd (i := 754) (by decide +kernel) (by decide +kernel), gd (i := 755) (by decide +kernel) (by decide +kernel)⟩
set_option maxRecDepth 40000 in
theorem ok_La_addStep : OkV M_La_addStep 3 := ⟨⟨by decide +kernel, gd (i := 678) rfl (by decide +kernel), gd (i := 102) (by decide +kernel) (by decide +kernel), by decide +kernel, by decide +kernel, by decide +kernel⟩, gd (i := 676) (by decide +kernel) (by decide +kernel), gd (i := 677) (by decide +kernel) (by decide +kernel)⟩
set_option maxRecDepth 40000 in
theorem ok_La_aimHere : OkV M_La_aimHere 1 := ⟨⟨by decide +kernel, gd (i := 787) rfl (by decide +kernel), gd (i := 102) (by decide +kernel) (by decide +kernel), by decide +kernel, by decide +kernel, by decide +kernel⟩, gd (i := 785) (by decide +kernel) (by decide +kernel), gd (i := 786) (by decide +kernel) (by decide +kernel)⟩
set_option maxRecDepth 40000 in
theorem ok_La_copyFrom : OkV M_La_copyFrom 1 := ⟨⟨by decide +kernel, gd (i := 818) rfl (by decide +kernel), gd (i := 102) (by decide +kernel) (by decide +kernel), by decide +kernel, by decide +kernel, by decide +kernel⟩, gd (i := 816) (by decide +kernel) (by decide +kernel), gd (i := 817) (by decide +kernel) (by decide +kernel)⟩
set_option maxRecDepth 40000 in
theorem ok_La_value : OkV M_La_value 6 := ⟨⟨by decide +kernel, gd (i := 803) rfl (by decide +kernel), gd (i := 102) (by decide +kernel) (by decide +kernel), by decide +kernel, by decide +kernel, by decide +kernel⟩, gd (i := 801) (by decide +kernel) (by decide +kernel), gd (i := 802) (by decide +kernel) (by decide +kernel)⟩
set_option maxRecDepth 40000 in
theorem ok_Ou_goThrough : OkV M_Ou_goThrough 3 := ⟨⟨by decide +kernel, gd (i := 1065) rfl (by decide +kernel), gd (i := 106) (by decide +kernel) (by decide +kernel), by decide +kernel, by decide +kernel, by decide +kernel⟩, gd (i := 1063) (by decide +kernel) (by decide +kernel), gd (i := 1064) (by decide +kernel) (by decide +kernel)⟩
set_option maxRecDepth 40000 in
theorem ok_Ou_minutesToOut : OkV M_Ou_minutesToOut 3 := ⟨⟨by decide +kernel, gd (i := 984) rfl (by decide +kernel), gd (i := 106) (by decide +kernel) (by decide +kernel), by decide +kernel, by decide +kernel, by decide +kernel⟩, gd (i := 982) (by decide +kernel) (by decide +kernel), gd (i := 983) (by decide +kernel) (by decide +kernel)⟩
set_option maxRecDepth 40000 in
theorem ok_Ou_minutesToBed : OkV M_Ou_minutesToBed 3 := ⟨⟨by decide +kernel, gd (i := 1051) rfl (by decide +kernel), gd (i := 106) (by decide +kernel) (by decide +kernel), by decide +kernel, by decide +kernel, by decide +kernel⟩, gd (i := 1049) (by decide +kernel) (by decide +kernel), gd (i := 1050) (by decide +kernel) (by decide +kernel)⟩
set_option maxRecDepth 40000 in
theorem ok_Ou_fewestGrains : OkV M_Ou_fewestGrains 4 := ⟨⟨by decide +kernel, gd (i := 1041) rfl (by decide +kernel), gd (i := 106) (by decide +kernel) (by decide +kernel), by decide +kernel, by decide +kernel, by decide +kernel⟩, gd (i := 1039) (by decide +kernel) (by decide +kernel), gd (i := 1040) (by decide +kernel) (by decide +kernel)⟩
set_option maxRecDepth 40000 in
theorem ok_Ou_isNotOut : OkV M_Ou_isNotOut 5 := ⟨⟨by decide +kernel, gd (i := 1045) rfl (by decide +kernel), gd (i := 106) (by decide +kernel) (by decide +kernel), by decide +kernel, by decide +kernel, by decide +kernel⟩, gd (i := 1044) (by decide +kernel) (by decide +kernel), gd (i := 40) (by decide +kernel) (by decide +kernel)⟩
set_option maxRecDepth 40000 in
theorem ok_Ou_sleepless : OkV M_Ou_sleepless 2 := ⟨⟨by decide +kernel, gd (i := 1070) rfl (by decide +kernel), gd (i := 106) (by decide +kernel) (by decide +kernel), by decide +kernel, by decide +kernel, by decide +kernel⟩, gd (i := 1068) (by decide +kernel) (by decide +kernel), gd (i := 1069) (by decide +kernel) (by decide +kernel)⟩
set_option maxRecDepth 40000 in
theorem ok_Ou_spreadOfSleep : OkV M_Ou_spreadOfSleep 1 := ⟨⟨by decide +kernel, gd (i := 1078) rfl (by decide +kernel), gd (i := 106) (by decide +kernel) (by decide +kernel), by decide +kernel, by decide +kernel, by decide +kernel⟩, gd (i := 1076) (by decide +kernel) (by decide +kernel), gd (i := 1077) (by decide +kernel) (by decide +kernel)⟩
set_option maxRecDepth 40000 in
theorem ok_Ou_findWorst : OkV M_Ou_findWorst 3 := ⟨⟨by decide +kernel, gd (i := 1087) rfl (by decide +kernel), gd (i := 106) (by decide +kernel) (by decide +kernel), by decide +kernel, by decide +kernel, by decide +kernel⟩, gd (i := 1085) (by decide +kernel) (by decide +kernel), gd (i := 1086) (by decide +kernel) (by decide +kernel)⟩
set_option maxRecDepth 40000 in
theorem ok_Pl_clear : OkV M_Pl_clear 0 := ⟨⟨by decide +kernel, gd (i := 670) rfl (by decide +kernel), gd (i := 101) (by decide +kernel) (by decide +kernel), by decide +kernel, by decide +kernel, by decide +kernel⟩, gd (i := 668) (by decide +kernel) (by decide +kernel), gd (i := 669) (by decide +kernel) (by decide +kernel)⟩
set_option maxRecDepth 40000 in
theorem ok_Pl_settle : OkV M_Pl_settle 0 := ⟨⟨by decide +kernel, gd (i := 799) rfl (by decide +kernel), gd (i := 101) (by decide +kernel) (by decide +kernel), by decide +kernel, by decide +kernel, by decide +kernel⟩, gd (i := 797) (by decide +kernel) (by decide +kernel), gd (i := 798) (by decide +kernel) (by decide +kernel)⟩
set_option maxRecDepth 40000 in
theorem ok_Pl_copyFrom : OkV M_Pl_copyFrom 1 := ⟨⟨by decide +kernel, gd (i := 811) rfl (by decide +kernel), gd (i := 101) (by decide +kernel) (by decide +kernel), by decide +kernel, by decide +kernel, by decide +kernel⟩, gd (i := 809) (by decide +kernel) (by decide +kernel), gd (i := 810) (by decide +kernel) (by decide +kernel)⟩
set_option maxRecDepth 40000 in
theorem ok_Pl_hourOf : OkV M_Pl_hourOf 1 := ⟨⟨by decide +kernel, gd (i := 852) rfl (by decide +kernel), gd (i := 101) (by decide +kernel) (by decide +kernel), by decide +kernel, by decide +kernel, by decide +kernel⟩, gd (i := 850) (by decide +kernel) (by decide +kernel), gd (i := 851) (by decide +kernel) (by decide +kernel)⟩
set_option maxRecDepth 40000 in
theorem ok_Pl_flow : OkV M_Pl_flow 3 := ⟨⟨by decide +kernel, gd (i := 856) rfl (by decide +kernel), gd (i := 101) (by decide +kernel) (by decide +kernel), by decide +kernel, by decide +kernel, by decide +kernel⟩, gd (i := 854) (by decide +kernel) (by decide +kernel), gd (i := 855) (by decide +kernel) (by decide +kernel)⟩
set_option maxRecDepth 40000 in
theorem ok_Re_readText : OkV M_Re_readText 1 := ⟨⟨by decide +kernel, gd (i := 630) rfl (by decide +kernel), gd (i := 100) (by decide +kernel) (by decide +kernel), by decide +kernel, by decide +kernel, by decide +kernel⟩, gd (i := 628) (by decide +kernel) (by decide +kernel), gd (i := 629) (by decide +kernel) (by decide +kernel)⟩
set_option maxRecDepth 40000 in
theorem ok_Re_takeTell : OkV M_Re_takeTell 0 := ⟨⟨by decide +kernel, gd (i := 687) rfl (by decide +kernel), gd (i := 100) (by decide +kernel) (by decide +kernel), by decide +kernel, by decide +kernel, by decide +kernel⟩, gd (i := 686) (by decide +kernel) (by decide +kernel), gd (i := 4) (by decide +kernel) (by decide +kernel)⟩
set_option maxRecDepth 40000 in
theorem ok_Re_takePost : OkV M_Re_takePost 0 := ⟨⟨by decide +kernel, gd (i := 691) rfl (by decide +kernel), gd (i := 100) (by decide +kernel) (by decide +kernel), by decide +kernel, by decide +kernel, by decide +kernel⟩, gd (i := 690) (by decide +kernel) (by decide +kernel), gd (i := 5) (by decide +kernel) (by decide +kernel)⟩
set_option maxRecDepth 40000 in
theorem ok_Re_takeGuard : OkV M_Re_takeGuard 0 := ⟨⟨by decide +kernel, gd (i := 715) rfl (by decide +kernel), gd (i := 100) (by decide +kernel) (by decide +kernel), by decide +kernel, by decide +kernel, by decide +kernel⟩, gd (i := 714) (by decide +kernel) (by decide +kernel), gd (i := 11) (by decide +kernel) (by decide +kernel)⟩
set_option maxRecDepth 40000 in
theorem ok_Re_takePostOf : OkV M_Re_takePostOf 1 := ⟨⟨by decide +kernel, gd (i := 723) rfl (by decide +kernel), gd (i := 100) (by decide +kernel) (by decide +kernel), by decide +kernel, by decide +kernel, by decide +kernel⟩, gd (i := 722) (by decide +kernel) (by decide +kernel), gd (i := 12) (by decide +kernel) (by decide +kernel)⟩
set_option maxRecDepth 40000 in
theorem ok_Re_takeDamp : OkV M_Re_takeDamp 0 := ⟨⟨by decide +kernel, gd (i := 791) rfl (by decide +kernel), gd (i := 100) (by decide +kernel) (by decide +kernel), by decide +kernel, by decide +kernel, by decide +kernel⟩, gd (i := 790) (by decide +kernel) (by decide +kernel), gd (i := 23) (by decide +kernel) (by decide +kernel)⟩
set_option maxRecDepth 40000 in
theorem ok_Re_takeSleep : OkV M_Re_takeSleep 0 := ⟨⟨by decide +kernel, gd (i := 795) rfl (by decide +kernel), gd (i := 100) (by decide +kernel) (by decide +kernel), by decide +kernel, by decide +kernel, by decide +kernel⟩, gd (i := 794) (by decide +kernel) (by decide +kernel), gd (i := 24) (by decide +kernel) (by decide +kernel)⟩
set_option maxRecDepth 40000 in
theorem ok_Re_takeFlow : OkV M_Re_takeFlow 0 := ⟨⟨by decide +kernel, gd (i := 735) rfl (by decide +kernel), gd (i := 100) (by decide +kernel) (by decide +kernel), by decide +kernel, by decide +kernel, by decide +kernel⟩, gd (i := 734) (by decide +kernel) (by decide +kernel), gd (i := 14) (by decide +kernel) (by decide +kernel)⟩
set_option maxRecDepth 40000 in
theorem ok_Re_takeIf : OkV M_Re_takeIf 0 := ⟨⟨by decide +kernel, gd (i := 740) rfl (by decide +kernel), gd (i := 100) (by decide +kernel) (by decide +kernel), by decide +kernel, by decide +kernel, by decide +kernel⟩, gd (i := 739) (by decide +kernel) (by decide +kernel), gd (i := 15) (by decide +kernel) (by decide +kernel)⟩
set_option maxRecDepth 40000 in
theorem ok_Re_addEnd : OkV M_Re_addEnd 0 := ⟨⟨by decide +kernel, gd (i := 783) rfl (by decide +kernel), gd (i := 100) (by decide +kernel) (by decide +kernel), by decide +kernel, by decide +kernel, by decide +kernel⟩, gd (i := 782) (by decide +kernel) (by decide +kernel), gd (i := 22) (by decide +kernel) (by decide +kernel)⟩
set_option maxRecDepth 40000 in
theorem ok_Re_takeSum : OkV M_Re_takeSum 0 := ⟨⟨by decide +kernel, gd (i := 744) rfl (by decide +kernel), gd (i := 100) (by decide +kernel) (by decide +kernel), by decide +kernel, by decide +kernel, by decide +kernel⟩, gd (i := 743) (by decide +kernel) (by decide +kernel), gd (i := 16) (by decide +kernel) (by decide +kernel)⟩
set_option maxRecDepth 40000 in
theorem ok_Re_addUnit : OkV M_Re_addUnit 1 := ⟨⟨by decide +kernel, gd (i := 752) rfl (by decide +kernel), gd (i := 100) (by decide +kernel) (by decide +kernel), by decide +kernel, by decide +kernel, by decide +kernel⟩, gd (i := 751) (by decide +kernel) (by decide +kernel), gd (i := 18) (by decide +kernel) (by decide +kernel)⟩
set_option maxRecDepth 40000 in
theorem ok_Re_pushUnit : OkV M_Re_pushUnit 1 := ⟨⟨by decide +kernel, gd (i := 760) rfl (by decide +kernel), gd (i := 100) (by decide +kernel) (by decide +kernel), by decide +kernel, by decide +kernel, by decide +kernel⟩, gd (i := 759) (by decide +kernel) (by decide +kernel), gd (i := 19) (by decide +kernel) (by decide +kernel)⟩
set_option maxRecDepth 40000 in
theorem ok_Re_popUnit : OkV M_Re_popUnit 0 := ⟨⟨by decide +kernel, gd (i := 775) rfl (by decide +kernel), gd (i := 100) (by decide +kernel) (by decide +kernel), by decide +kernel, by decide +kernel, by decide +kernel⟩, gd (i := 774) (by decide +kernel) (by decide +kernel), gd (i := 21) (by decide +kernel) (by decide +kernel)⟩
set_option maxRecDepth 40000 in
theorem ok_Re_letWait : OkV M_Re_letWait 1 := ⟨⟨by decide +kernel, gd (i := 748) rfl (by decide +kernel), gd (i := 100) (by decide +kernel) (by decide +kernel), by decide +kernel, by decide +kernel, by decide +kernel⟩, gd (i := 747) (by decide +kernel) (by decide +kernel), gd (i := 17) (by decide +kernel) (by decide +kernel)⟩
set_option maxRecDepth 40000 in
theorem ok_Re_release : OkV M_Re_release 1 := ⟨⟨by decide +kernel, gd (i := 771) rfl (by decide +kernel), gd (i := 100) (by decide +kernel) (by decide +kernel), by decide +kernel, by decide +kernel, by decide +kernel⟩, gd (i := 770) (by decide +kernel) (by decide +kernel), gd (i := 20) (by decide +kernel) (by decide +kernel)⟩
set_option maxRecDepth 40000 in
theorem ok_Re_rank : OkS M_Re_rank 1 := ⟨⟨by decide +kernel, gd (i := 767) rfl (by decide +kernel), gd (i := 100) (by decide +kernel) (by decide +kernel), by decide +kernel, by decide +kernel, by decide +kernel⟩, gd (i := 766) (by decide +kernel) (by decide +kernel)⟩
set_option maxRecDepth 40000 in
theorem ok_Re_opOf : OkS M_Re_opOf 1 := ⟨⟨by decide +kernel, gd (i := 778) rfl (by decide +kernel), gd (i := 100) (by decide +kernel) (by decide +kernel), by decide +kernel, by decide +kernel, by decide +kernel⟩, gd (i := 777) (by decide +kernel) (by decide +kernel)⟩
set_option maxRecDepth 40000 in
theorem ok_Re_takeNewName : OkV M_Re_takeNewName 0 := ⟨⟨by decide +kernel, gd (i := 703) rfl (by decide +kernel), gd (i := 100) (by decide +kernel) (by decide +kernel), by decide +kernel, by decide +kernel, by decide +kernel⟩, gd (i := 702) (by decide +kernel) (by decide +kernel), gd (i := 8) (by decide +kernel) (by decide +kernel)⟩
set_option maxRecDepth 40000 in
theorem ok_Re_takeInt : OkV M_Re_takeInt 1 := ⟨⟨by decide +kernel, gd (i := 711) rfl (by decide +kernel), gd (i := 100) (by decide +kernel) (by decide +kernel), by decide +kernel, by decide +kernel, by decide +kernel⟩, gd (i := 710) (by decide +kernel) (by decide +kernel), gd (i := 10) (by decide +kernel) (by decide +kernel)⟩
set_option maxRecDepth 40000 in
theorem ok_Re_postNamed : OkV M_Re_postNamed 1 := ⟨⟨by decide +kernel, gd (i := 727) rfl (by decide +kernel), gd (i := 100) (by decide +kernel) (by decide +kernel), by decide +kernel, by decide +kernel, by decide +kernel⟩, gd (i := 726) (by decide +kernel) (by decide +kernel), gd (i := 13) (by decide +kernel) (by decide +kernel)⟩
set_option maxRecDepth 40000 in
theorem ok_Re_kind : OkV M_Re_kind 0 := ⟨⟨by decide +kernel, gd (i := 683) rfl (by decide +kernel), gd (i := 100) (by decide +kernel) (by decide +kernel), by decide +kernel, by decide +kernel, by decide +kernel⟩, gd (i := 682) (by decide +kernel) (by decide +kernel), gd (i := 3) (by decide +kernel) (by decide +kernel)⟩
set_option maxRecDepth 40000 in
theorem ok_Re_take : OkV M_Re_take 1 := ⟨⟨by decide +kernel, gd (i := 699) rfl (by decide +kernel), gd (i := 100) (by decide +kernel) (by decide +kernel), by decide +kernel, by decide +kernel, by decide +kernel⟩, gd (i := 698) (by decide +kernel) (by decide +kernel), gd (i := 7) (by decide +kernel) (by decide +kernel)⟩
set_option maxRecDepth 40000 in
theorem ok_Re_refuse : OkV M_Re_refuse 1 := ⟨⟨by decide +kernel, gd (i := 695) rfl (by decide +kernel), gd (i := 100) (by decide +kernel) (by decide +kernel), by decide +kernel, by decide +kernel, by decide +kernel⟩, gd (i := 694) (by decide +kernel) (by decide +kernel), gd (i := 6) (by decide +kernel) (by decide +kernel)⟩
set_option maxRecDepth 40000 in
theorem ok_Re_note : OkV M_Re_note 2 := ⟨⟨by decide +kernel, gd (i := 707) rfl (by decide +kernel), gd (i := 100) (by decide +kernel) (by decide +kernel), by decide +kernel, by decide +kernel, by decide +kernel⟩, gd (i := 706) (by decide +kernel) (by decide +kernel), gd (i := 9) (by decide +kernel) (by decide +kernel)⟩
set_option maxRecDepth 40000 in
theorem ok_Ru_add : OkV M_Ru_add 2 := ⟨⟨by decide +kernel, gd (i := 1140) rfl (by decide +kernel), gd (i := 109) (by decide +kernel) (by decide +kernel), by decide +kernel, by decide +kernel, by decide +kernel⟩, gd (i := 1138) (by decide +kernel) (by decide +kernel), gd (i := 1139) (by decide +kernel) (by decide +kernel)⟩
set_option maxRecDepth 40000 in
theorem ok_Ru_clear : OkV M_Ru_clear 0 := ⟨⟨by decide +kernel, gd (i := 828) rfl (by decide +kernel), gd (i := 109) (by decide +kernel) (by decide +kernel), by decide +kernel, by decide +kernel, by decide +kernel⟩, gd (i := 826) (by decide +kernel) (by decide +kernel), gd (i := 827) (by decide +kernel) (by decide +kernel)⟩
set_option maxRecDepth 40000 in
theorem ok_Ru_findWays : OkV M_Ru_findWays 4 := ⟨⟨by decide +kernel, gd (i := 1152) rfl (by decide +kernel), gd (i := 109) (by decide +kernel) (by decide +kernel), by decide +kernel, by decide +kernel, by decide +kernel⟩, gd (i := 1150) (by decide +kernel) (by decide +kernel), gd (i := 1151) (by decide +kernel) (by decide +kernel)⟩
set_option maxRecDepth 40000 in
theorem ok_Ru_setDue : OkV M_Ru_setDue 1 := ⟨⟨by decide +kernel, gd (i := 1156) rfl (by decide +kernel), gd (i := 109) (by decide +kernel) (by decide +kernel), by decide +kernel, by decide +kernel, by decide +kernel⟩, gd (i := 1155) (by decide +kernel) (by decide +kernel), gd (i := 44) (by decide +kernel) (by decide +kernel)⟩
set_option maxRecDepth 40000 in
theorem ok_Ru_isMissed : OkV M_Ru_isMissed 2 := ⟨⟨by decide +kernel, gd (i := 1167) rfl (by decide +kernel), gd (i := 109) (by decide +kernel) (by decide +kernel), by decide +kernel, by decide +kernel, by decide +kernel⟩, gd (i := 1166) (by decide +kernel) (by decide +kernel), gd (i := 46) (by decide +kernel) (by decide +kernel)⟩
set_option maxRecDepth 40000 in
theorem ok_Ru_comesAsDue : OkV M_Ru_comesAsDue 2 := ⟨⟨by decide +kernel, gd (i := 1162) rfl (by decide +kernel), gd (i := 109) (by decide +kernel) (by decide +kernel), by decide +kernel, by decide +kernel, by decide +kernel⟩, gd (i := 1161) (by decide +kernel) (by decide +kernel), gd (i := 45) (by decide +kernel) (by decide +kernel)⟩
set_option maxRecDepth 40000 in
theorem ok_Ta_hasRoomFor : OkV M_Ta_hasRoomFor 1 := ⟨⟨by decide +kernel, gd (i := 613) rfl (by decide +kernel), gd (i := 99) (by decide +kernel) (by decide +kernel), by decide +kernel, by decide +kernel, by decide +kernel⟩, gd (i := 611) (by decide +kernel) (by decide +kernel), gd (i := 612) (by decide +kernel) (by decide +kernel)⟩
set_option maxRecDepth 40000 in
theorem ok_Ta_append : OkV M_Ta_append 1 := ⟨⟨by decide +kernel, gd (i := 617) rfl (by decide +kernel), gd (i := 99) (by decide +kernel) (by decide +kernel), by decide +kernel, by decide +kernel, by decide +kernel⟩, gd (i := 615) (by decide +kernel) (by decide +kernel), gd (i := 616) (by decide +kernel) (by decide +kernel)⟩
set_option maxRecDepth 40000 in
theorem ok_To_cut : OkV M_To_cut 1 := ⟨⟨by decide +kernel, gd (i := 634) rfl (by decide +kernel), gd (i := 104) (by decide +kernel) (by decide +kernel), by decide +kernel, by decide +kernel, by decide +kernel⟩, gd (i := 632) (by decide +kernel) (by decide +kernel), gd (i := 633) (by decide +kernel) (by decide +kernel)⟩
set_option maxRecDepth 40000 in
theorem ok_To_skipBlanks : OkS M_To_skipBlanks 2 := ⟨⟨by decide +kernel, gd (i := 637) rfl (by decide +kernel), gd (i := 104) (by decide +kernel) (by decide +kernel), by decide +kernel, by decide +kernel, by decide +kernel⟩, gd (i := 636) (by decide +kernel) (by decide +kernel)⟩
set_option maxRecDepth 40000 in
theorem ok_To_addToken : OkV M_To_addToken 3 := ⟨⟨by decide +kernel, gd (i := 644) rfl (by decide +kernel), gd (i := 104) (by decide +kernel) (by decide +kernel), by decide +kernel, by decide +kernel, by decide +kernel⟩, gd (i := 643) (by decide +kernel) (by decide +kernel), gd (i := 0) (by decide +kernel) (by decide +kernel)⟩
set_option maxRecDepth 40000 in
theorem ok_To_addWord : OkV M_To_addWord 3 := ⟨⟨by decide +kernel, gd (i := 651) rfl (by decide +kernel), gd (i := 104) (by decide +kernel) (by decide +kernel), by decide +kernel, by decide +kernel, by decide +kernel⟩, gd (i := 650) (by decide +kernel) (by decide +kernel), gd (i := 1) (by decide +kernel) (by decide +kernel)⟩
set_option maxRecDepth 40000 in
theorem ok_To_addNumber : OkV M_To_addNumber 3 := ⟨⟨by decide +kernel, gd (i := 663) rfl (by decide +kernel), gd (i := 104) (by decide +kernel) (by decide +kernel), by decide +kernel, by decide +kernel, by decide +kernel⟩, gd (i := 662) (by decide +kernel) (by decide +kernel), gd (i := 2) (by decide +kernel) (by decide +kernel)⟩
set_option maxRecDepth 40000 in
theorem ok_To_kindOfWord : OkS M_To_kindOfWord 1 := ⟨⟨by decide +kernel, gd (i := 654) rfl (by decide +kernel), gd (i := 104) (by decide +kernel) (by decide +kernel), by decide +kernel, by decide +kernel, by decide +kernel⟩, gd (i := 653) (by decide +kernel) (by decide +kernel)⟩
set_option maxRecDepth 40000 in
theorem ok_To_isBlank : OkS M_To_isBlank 1 := ⟨⟨by decide +kernel, gd (i := 640) rfl (by decide +kernel), gd (i := 104) (by decide +kernel) (by decide +kernel), by decide +kernel, by decide +kernel, by decide +kernel⟩, gd (i := 639) (by decide +kernel) (by decide +kernel)⟩
set_option maxRecDepth 40000 in
theorem ok_To_isLetter : OkS M_To_isLetter 1 := ⟨⟨by decide +kernel, gd (i := 647) rfl (by decide +kernel), gd (i := 104) (by decide +kernel) (by decide +kernel), by decide +kernel, by decide +kernel, by decide +kernel⟩, gd (i := 646) (by decide +kernel) (by decide +kernel)⟩
set_option maxRecDepth 40000 in
theorem ok_To_isDigit : OkS M_To_isDigit 1 := ⟨⟨by decide +kernel, gd (i := 659) rfl (by decide +kernel), gd (i := 104) (by decide +kernel) (by decide +kernel), by decide +kernel, by decide +kernel, by decide +kernel⟩, gd (i := 658) (by decide +kernel) (by decide +kernel)⟩
set_option maxRecDepth 40000 in
theorem ok_To_isSign : OkS M_To_isSign 1 := ⟨⟨by decide +kernel, gd (i := 666) rfl (by decide +kernel), gd (i := 104) (by decide +kernel) (by decide +kernel), by decide +kernel, by decide +kernel, by decide +kernel⟩, gd (i := 665) (by decide +kernel) (by decide +kernel)⟩
set_option maxRecDepth 40000 in
theorem ok_Sg_feed : OkV M_Sg_feed 5 := ⟨⟨by decide +kernel, gd (i := 609) rfl (by decide +kernel), gd (i := 98) (by decide +kernel) (by decide +kernel), by decide +kernel, by decide +kernel, by decide +kernel⟩, gd (i := 607) (by decide +kernel) (by decide +kernel), gd (i := 608) (by decide +kernel) (by decide +kernel)⟩
set_option maxRecDepth 40000 in
theorem ok_Sg_back : OkV M_Sg_back 1 := ⟨⟨by decide +kernel, gd (i := 622) rfl (by decide +kernel), gd (i := 98) (by decide +kernel) (by decide +kernel), by decide +kernel, by decide +kernel, by decide +kernel⟩, gd (i := 620) (by decide +kernel) (by decide +kernel), gd (i := 621) (by decide +kernel) (by decide +kernel)⟩
set_option maxRecDepth 40000 in
theorem ok_Sg_read : OkV M_Sg_read 0 := ⟨⟨by decide +kernel, gd (i := 626) rfl (by decide +kernel), gd (i := 98) (by decide +kernel) (by decide +kernel), by decide +kernel, by decide +kernel, by decide +kernel⟩, gd (i := 624) (by decide +kernel) (by decide +kernel), gd (i := 625) (by decide +kernel) (by decide +kernel)⟩
set_option maxRecDepth 40000 in
theorem ok_Sg_beginAnew : OkV M_Sg_beginAnew 0 := ⟨⟨by decide +kernel, gd (i := 807) rfl (by decide +kernel), gd (i := 98) (by decide +kernel) (by decide +kernel), by decide +kernel, by decide +kernel, by decide +kernel⟩, gd (i := 806) (by decide +kernel) (by decide +kernel), gd (i := 25) (by decide +kernel) (by decide +kernel)⟩
set_option maxRecDepth 40000 in
theorem ok_Sg_place : OkV M_Sg_place 0 := ⟨⟨by decide +kernel, gd (i := 840) rfl (by decide +kernel), gd (i := 98) (by decide +kernel) (by decide +kernel), by decide +kernel, by decide +kernel, by decide +kernel⟩, gd (i := 838) (by decide +kernel) (by decide +kernel), gd (i := 839) (by decide +kernel) (by decide +kernel)⟩
set_option maxRecDepth 40000 in
theorem ok_Sg_post : OkV M_Sg_post 2 := ⟨⟨by decide +kernel, gd (i := 844) rfl (by decide +kernel), gd (i := 98) (by decide +kernel) (by decide +kernel), by decide +kernel, by decide +kernel, by decide +kernel⟩, gd (i := 842) (by decide +kernel) (by decide +kernel), gd (i := 843) (by decide +kernel) (by decide +kernel)⟩
set_option maxRecDepth 40000 in
theorem ok_Sg_guard : OkV M_Sg_guard 2 := ⟨⟨by decide +kernel, gd (i := 860) rfl (by decide +kernel), gd (i := 98) (by decide +kernel) (by decide +kernel), by decide +kernel, by decide +kernel, by decide +kernel⟩, gd (i := 858) (by decide +kernel) (by decide +kernel), gd (i := 859) (by decide +kernel) (by decide +kernel)⟩
set_option maxRecDepth 40000 in
theorem ok_Sg_run : OkV M_Sg_run 1 := ⟨⟨by decide +kernel, gd (i := 872) rfl (by decide +kernel), gd (i := 98) (by decide +kernel) (by decide +kernel), by decide +kernel, by decide +kernel, by decide +kernel⟩, gd (i := 870) (by decide +kernel) (by decide +kernel), gd (i := 871) (by decide +kernel) (by decide +kernel)⟩
set_option maxRecDepth 40000 in
theorem ok_Sg_turn : OkV M_Sg_turn 1 := ⟨⟨by decide +kernel, gd (i := 944) rfl (by decide +kernel), gd (i := 98) (by decide +kernel) (by decide +kernel), by decide +kernel, by decide +kernel, by decide +kernel⟩, gd (i := 942) (by decide +kernel) (by decide +kernel), gd (i := 943) (by decide +kernel) (by decide +kernel)⟩
set_option maxRecDepth 40000 in
theorem ok_Sg_shake : OkV M_Sg_shake 2 := ⟨⟨by decide +kernel, gd (i := 952) rfl (by decide +kernel), gd (i := 98) (by decide +kernel) (by decide +kernel), by decide +kernel, by decide +kernel, by decide +kernel⟩, gd (i := 950) (by decide +kernel) (by decide +kernel), gd (i := 951) (by decide +kernel) (by decide +kernel)⟩
set_option maxRecDepth 40000 in
theorem ok_Sg_dry : OkV M_Sg_dry 2 := ⟨⟨by decide +kernel, gd (i := 957) rfl (by decide +kernel), gd (i := 98) (by decide +kernel) (by decide +kernel), by decide +kernel, by decide +kernel, by decide +kernel⟩, gd (i := 955) (by decide +kernel) (by decide +kernel), gd (i := 956) (by decide +kernel) (by decide +kernel)⟩
set_option maxRecDepth 40000 in
theorem ok_Sg_pinch : OkV M_Sg_pinch 2 := ⟨⟨by decide +kernel, gd (i := 961) rfl (by decide +kernel), gd (i := 98) (by decide +kernel) (by decide +kernel), by decide +kernel, by decide +kernel, by decide +kernel⟩, gd (i := 959) (by decide +kernel) (by decide +kernel), gd (i := 960) (by decide +kernel) (by decide +kernel)⟩
set_option maxRecDepth 40000 in
theorem ok_Sg_send : OkV M_Sg_send 2 := ⟨⟨by decide +kernel, gd (i := 966) rfl (by decide +kernel), gd (i := 98) (by decide +kernel) (by decide +kernel), by decide +kernel, by decide +kernel, by decide +kernel⟩, gd (i := 964) (by decide +kernel) (by decide +kernel), gd (i := 965) (by decide +kernel) (by decide +kernel)⟩
set_option maxRecDepth 40000 in
theorem ok_Sg_undo : OkV M_Sg_undo 0 := ⟨⟨by decide +kernel, gd (i := 972) rfl (by decide +kernel), gd (i := 98) (by decide +kernel) (by decide +kernel), by decide +kernel, by decide +kernel, by decide +kernel⟩, gd (i := 970) (by decide +kernel) (by decide +kernel), gd (i := 971) (by decide +kernel) (by decide +kernel)⟩
set_option maxRecDepth 40000 in
theorem ok_Sg_out : OkV M_Sg_out 1 := ⟨⟨by decide +kernel, gd (i := 980) rfl (by decide +kernel), gd (i := 98) (by decide +kernel) (by decide +kernel), by decide +kernel, by decide +kernel, by decide +kernel⟩, gd (i := 978) (by decide +kernel) (by decide +kernel), gd (i := 979) (by decide +kernel) (by decide +kernel)⟩
set_option maxRecDepth 40000 in
theorem ok_Sg_slept : OkV M_Sg_slept 0 := ⟨⟨by decide +kernel, gd (i := 991) rfl (by decide +kernel), gd (i := 98) (by decide +kernel) (by decide +kernel), by decide +kernel, by decide +kernel, by decide +kernel⟩, gd (i := 989) (by decide +kernel) (by decide +kernel), gd (i := 990) (by decide +kernel) (by decide +kernel)⟩
set_option maxRecDepth 40000 in
theorem ok_Sg_dryFirst : OkV M_Sg_dryFirst 1 := ⟨⟨by decide +kernel, gd (i := 1010) rfl (by decide +kernel), gd (i := 98) (by decide +kernel) (by decide +kernel), by decide +kernel, by decide +kernel, by decide +kernel⟩, gd (i := 1008) (by decide +kernel) (by decide +kernel), gd (i := 1009) (by decide +kernel) (by decide +kernel)⟩
set_option maxRecDepth 40000 in
theorem ok_Sg_dryTwo : OkV M_Sg_dryTwo 1 := ⟨⟨by decide +kernel, gd (i := 1025) rfl (by decide +kernel), gd (i := 98) (by decide +kernel) (by decide +kernel), by decide +kernel, by decide +kernel, by decide +kernel⟩, gd (i := 1023) (by decide +kernel) (by decide +kernel), gd (i := 1024) (by decide +kernel) (by decide +kernel)⟩
set_option maxRecDepth 40000 in
theorem ok_Sg_bribe : OkV M_Sg_bribe 2 := ⟨⟨by decide +kernel, gd (i := 1037) rfl (by decide +kernel), gd (i := 98) (by decide +kernel) (by decide +kernel), by decide +kernel, by decide +kernel, by decide +kernel⟩, gd (i := 1035) (by decide +kernel) (by decide +kernel), gd (i := 1036) (by decide +kernel) (by decide +kernel)⟩
set_option maxRecDepth 40000 in
theorem ok_Sg_weak : OkV M_Sg_weak 2 := ⟨⟨by decide +kernel, gd (i := 1057) rfl (by decide +kernel), gd (i := 98) (by decide +kernel) (by decide +kernel), by decide +kernel, by decide +kernel, by decide +kernel⟩, gd (i := 1055) (by decide +kernel) (by decide +kernel), gd (i := 1056) (by decide +kernel) (by decide +kernel)⟩
set_option maxRecDepth 40000 in
theorem ok_Sg_never : OkV M_Sg_never 1 := ⟨⟨by decide +kernel, gd (i := 1061) rfl (by decide +kernel), gd (i := 98) (by decide +kernel) (by decide +kernel), by decide +kernel, by decide +kernel, by decide +kernel⟩, gd (i := 1059) (by decide +kernel) (by decide +kernel), gd (i := 1060) (by decide +kernel) (by decide +kernel)⟩
set_option maxRecDepth 40000 in
theorem ok_Sg_spread : OkV M_Sg_spread 1 := ⟨⟨by decide +kernel, gd (i := 1074) rfl (by decide +kernel), gd (i := 98) (by decide +kernel) (by decide +kernel), by decide +kernel, by decide +kernel, by decide +kernel⟩, gd (i := 1072) (by decide +kernel) (by decide +kernel), gd (i := 1073) (by decide +kernel) (by decide +kernel)⟩
set_option maxRecDepth 40000 in
theorem ok_Sg_shakeWorst : OkV M_Sg_shakeWorst 2 := ⟨⟨by decide +kernel, gd (i := 1083) rfl (by decide +kernel), gd (i := 98) (by decide +kernel) (by decide +kernel), by decide +kernel, by decide +kernel, by decide +kernel⟩, gd (i := 1081) (by decide +kernel) (by decide +kernel), gd (i := 1082) (by decide +kernel) (by decide +kernel)⟩
set_option maxRecDepth 40000 in
theorem ok_Sg_longest : OkV M_Sg_longest 1 := ⟨⟨by decide +kernel, gd (i := 1096) rfl (by decide +kernel), gd (i := 98) (by decide +kernel) (by decide +kernel), by decide +kernel, by decide +kernel, by decide +kernel⟩, gd (i := 1094) (by decide +kernel) (by decide +kernel), gd (i := 1095) (by decide +kernel) (by decide +kernel)⟩
set_option maxRecDepth 40000 in
theorem ok_Sg_rests : OkV M_Sg_rests 3 := ⟨⟨by decide +kernel, gd (i := 1105) rfl (by decide +kernel), gd (i := 98) (by decide +kernel) (by decide +kernel), by decide +kernel, by decide +kernel, by decide +kernel⟩, gd (i := 1103) (by decide +kernel) (by decide +kernel), gd (i := 1104) (by decide +kernel) (by decide +kernel)⟩
set_option maxRecDepth 40000 in
theorem ok_Sg_where : OkV M_Sg_where 2 := ⟨⟨by decide +kernel, gd (i := 1132) rfl (by decide +kernel), gd (i := 98) (by decide +kernel) (by decide +kernel), by decide +kernel, by decide +kernel, by decide +kernel⟩, gd (i := 1130) (by decide +kernel) (by decide +kernel), gd (i := 1131) (by decide +kernel) (by decide +kernel)⟩
set_option maxRecDepth 40000 in
theorem ok_Sg_tell : OkV M_Sg_tell 2 := ⟨⟨by decide +kernel, gd (i := 1136) rfl (by decide +kernel), gd (i := 98) (by decide +kernel) (by decide +kernel), by decide +kernel, by decide +kernel, by decide +kernel⟩, gd (i := 1134) (by decide +kernel) (by decide +kernel), gd (i := 1135) (by decide +kernel) (by decide +kernel)⟩
set_option maxRecDepth 40000 in
theorem ok_Sg_forget : OkV M_Sg_forget 0 := ⟨⟨by decide +kernel, gd (i := 1144) rfl (by decide +kernel), gd (i := 98) (by decide +kernel) (by decide +kernel), by decide +kernel, by decide +kernel, by decide +kernel⟩, gd (i := 1142) (by decide +kernel) (by decide +kernel), gd (i := 1143) (by decide +kernel) (by decide +kernel)⟩
set_option maxRecDepth 40000 in
theorem ok_Sg_tampered : OkV M_Sg_tampered 3 := ⟨⟨by decide +kernel, gd (i := 1148) rfl (by decide +kernel), gd (i := 98) (by decide +kernel) (by decide +kernel), by decide +kernel, by decide +kernel, by decide +kernel⟩, gd (i := 1146) (by decide +kernel) (by decide +kernel), gd (i := 1147) (by decide +kernel) (by decide +kernel)⟩
set_option maxRecDepth 40000 in
theorem ok_Sg_hold : OkV M_Sg_hold 1 := ⟨⟨by decide +kernel, gd (i := 1171) rfl (by decide +kernel), gd (i := 98) (by decide +kernel) (by decide +kernel), by decide +kernel, by decide +kernel, by decide +kernel⟩, gd (i := 1169) (by decide +kernel) (by decide +kernel), gd (i := 1170) (by decide +kernel) (by decide +kernel)⟩
set_option maxRecDepth 40000 in
theorem ok_Sg_restore : OkV M_Sg_restore 1 := ⟨⟨by decide +kernel, gd (i := 1175) rfl (by decide +kernel), gd (i := 98) (by decide +kernel) (by decide +kernel), by decide +kernel, by decide +kernel, by decide +kernel⟩, gd (i := 1173) (by decide +kernel) (by decide +kernel), gd (i := 1174) (by decide +kernel) (by decide +kernel)⟩
set_option maxRecDepth 40000 in
theorem ok_Sg_count : OkV M_Sg_count 1 := ⟨⟨by decide +kernel, gd (i := 1179) rfl (by decide +kernel), gd (i := 98) (by decide +kernel) (by decide +kernel), by decide +kernel, by decide +kernel, by decide +kernel⟩, gd (i := 1177) (by decide +kernel) (by decide +kernel), gd (i := 1178) (by decide +kernel) (by decide +kernel)⟩
set_option maxRecDepth 40000 in
theorem ok_Sg_slotsHeld : OkV M_Sg_slotsHeld 0 := ⟨⟨by decide +kernel, gd (i := 1191) rfl (by decide +kernel), gd (i := 98) (by decide +kernel) (by decide +kernel), by decide +kernel, by decide +kernel, by decide +kernel⟩, gd (i := 1190) (by decide +kernel) (by decide +kernel), gd (i := 47) (by decide +kernel) (by decide +kernel)⟩
set_option maxRecDepth 40000 in
theorem ok_Sg_isPost : OkV M_Sg_isPost 1 := ⟨⟨by decide +kernel, gd (i := 848) rfl (by decide +kernel), gd (i := 98) (by decide +kernel) (by decide +kernel), by decide +kernel, by decide +kernel, by decide +kernel⟩, gd (i := 847) (by decide +kernel) (by decide +kernel), gd (i := 27) (by decide +kernel) (by decide +kernel)⟩
set_option maxRecDepth 40000 in
theorem ok_Sg_isGuard : OkV M_Sg_isGuard 1 := ⟨⟨by decide +kernel, gd (i := 864) rfl (by decide +kernel), gd (i := 98) (by decide +kernel) (by decide +kernel), by decide +kernel, by decide +kernel, by decide +kernel⟩, gd (i := 863) (by decide +kernel) (by decide +kernel), gd (i := 28) (by decide +kernel) (by decide +kernel)⟩
set_option maxRecDepth 40000 in
theorem ok_Sg_beginThing : OkV M_Sg_beginThing 0 := ⟨⟨by decide +kernel, gd (i := 876) rfl (by decide +kernel), gd (i := 98) (by decide +kernel) (by decide +kernel), by decide +kernel, by decide +kernel, by decide +kernel⟩, gd (i := 875) (by decide +kernel) (by decide +kernel), gd (i := 29) (by decide +kernel) (by decide +kernel)⟩
set_option maxRecDepth 40000 in
theorem ok_Sg_noteChange : OkV M_Sg_noteChange 0 := ⟨⟨by decide +kernel, gd (i := 832) rfl (by decide +kernel), gd (i := 98) (by decide +kernel) (by decide +kernel), by decide +kernel, by decide +kernel, by decide +kernel⟩, gd (i := 831) (by decide +kernel) (by decide +kernel), gd (i := 26) (by decide +kernel) (by decide +kernel)⟩
set_option maxRecDepth 40000 in
theorem ok_Mo_feed : OkV M_Mo_feed 5 := ⟨⟨by decide +kernel, gd (i := 1392) rfl (by decide +kernel), gd (i := 110) (by decide +kernel) (by decide +kernel), by decide +kernel, by decide +kernel, by decide +kernel⟩, gd (i := 1390) (by decide +kernel) (by decide +kernel), gd (i := 1391) (by decide +kernel) (by decide +kernel)⟩
set_option maxRecDepth 40000 in
theorem ok_Mo_put : OkV M_Mo_put 1 := ⟨⟨by decide +kernel, gd (i := 1396) rfl (by decide +kernel), gd (i := 110) (by decide +kernel) (by decide +kernel), by decide +kernel, by decide +kernel, by decide +kernel⟩, gd (i := 1395) (by decide +kernel) (by decide +kernel), gd (i := 48) (by decide +kernel) (by decide +kernel)⟩
set_option maxRecDepth 40000 in
theorem ok_Mo_back : OkV M_Mo_back 1 := ⟨⟨by decide +kernel, gd (i := 1400) rfl (by decide +kernel), gd (i := 110) (by decide +kernel) (by decide +kernel), by decide +kernel, by decide +kernel, by decide +kernel⟩, gd (i := 1398) (by decide +kernel) (by decide +kernel), gd (i := 1399) (by decide +kernel) (by decide +kernel)⟩
set_option maxRecDepth 40000 in
theorem ok_Mo_byteAt : OkV M_Mo_byteAt 1 := ⟨⟨by decide +kernel, gd (i := 1412) rfl (by decide +kernel), gd (i := 110) (by decide +kernel) (by decide +kernel), by decide +kernel, by decide +kernel, by decide +kernel⟩, gd (i := 1411) (by decide +kernel) (by decide +kernel), gd (i := 50) (by decide +kernel) (by decide +kernel)⟩
set_option maxRecDepth 40000 in
theorem ok_Mo_isDigit : OkS M_Mo_isDigit 1 := ⟨⟨by decide +kernel, gd (i := 1422) rfl (by decide +kernel), gd (i := 110) (by decide +kernel) (by decide +kernel), by decide +kernel, by decide +kernel, by decide +kernel⟩, gd (i := 1421) (by decide +kernel) (by decide +kernel)⟩
set_option maxRecDepth 40000 in
theorem ok_Mo_isLetter : OkS M_Mo_isLetter 1 := ⟨⟨by decide +kernel, gd (i := 1419) rfl (by decide +kernel), gd (i := 110) (by decide +kernel) (by decide +kernel), by decide +kernel, by decide +kernel, by decide +kernel⟩, gd (i := 1418) (by decide +kernel) (by decide +kernel)⟩
set_option maxRecDepth 40000 in
theorem ok_Mo_appends : OkS M_Mo_appends 2 := ⟨⟨by decide +kernel, gd (i := 1204) rfl (by decide +kernel), gd (i := 110) (by decide +kernel) (by decide +kernel), by decide +kernel, by decide +kernel, by decide +kernel⟩, gd (i := 1203) (by decide +kernel) (by decide +kernel)⟩
set_option maxRecDepth 40000 in
theorem ok_Mo_word : OkS M_Mo_word 7 := ⟨⟨by decide +kernel, gd (i := 1201) rfl (by decide +kernel), gd (i := 110) (by decide +kernel) (by decide +kernel), by decide +kernel, by decide +kernel, by decide +kernel⟩, gd (i := 1200) (by decide +kernel) (by decide +kernel)⟩
set_option maxRecDepth 40000 in
theorem ok_Mo_token : OkV M_Mo_token 4 := ⟨⟨by decide +kernel, gd (i := 1416) rfl (by decide +kernel), gd (i := 110) (by decide +kernel) (by decide +kernel), by decide +kernel, by decide +kernel, by decide +kernel⟩, gd (i := 1415) (by decide +kernel) (by decide +kernel), gd (i := 51) (by decide +kernel) (by decide +kernel)⟩
set_option maxRecDepth 40000 in
theorem ok_Mo_cut : OkV M_Mo_cut 0 := ⟨⟨by decide +kernel, gd (i := 1408) rfl (by decide +kernel), gd (i := 110) (by decide +kernel) (by decide +kernel), by decide +kernel, by decide +kernel, by decide +kernel⟩, gd (i := 1407) (by decide +kernel) (by decide +kernel), gd (i := 49) (by decide +kernel) (by decide +kernel)⟩
set_option maxRecDepth 40000 in
theorem ok_Mo_sign : OkV M_Mo_sign 3 := ⟨⟨by decide +kernel, gd (i := 1426) rfl (by decide +kernel), gd (i := 110) (by decide +kernel) (by decide +kernel), by decide +kernel, by decide +kernel, by decide +kernel⟩, gd (i := 1425) (by decide +kernel) (by decide +kernel), gd (i := 52) (by decide +kernel) (by decide +kernel)⟩
set_option maxRecDepth 40000 in
theorem ok_Mo_is : OkV M_Mo_is 1 := ⟨⟨by decide +kernel, gd (i := 1430) rfl (by decide +kernel), gd (i := 110) (by decide +kernel) (by decide +kernel), by decide +kernel, by decide +kernel, by decide +kernel⟩, gd (i := 1429) (by decide +kernel) (by decide +kernel), gd (i := 53) (by decide +kernel) (by decide +kernel)⟩
set_option maxRecDepth 40000 in
theorem ok_Mo_fail : OkV M_Mo_fail 1 := ⟨⟨by decide +kernel, gd (i := 1442) rfl (by decide +kernel), gd (i := 110) (by decide +kernel) (by decide +kernel), by decide +kernel, by decide +kernel, by decide +kernel⟩, gd (i := 1441) (by decide +kernel) (by decide +kernel), gd (i := 56) (by decide +kernel) (by decide +kernel)⟩
set_option maxRecDepth 40000 in
theorem ok_Mo_wrong : OkV M_Mo_wrong 2 := ⟨⟨by decide +kernel, gd (i := 1462) rfl (by decide +kernel), gd (i := 110) (by decide +kernel) (by decide +kernel), by decide +kernel, by decide +kernel, by decide +kernel⟩, gd (i := 1461) (by decide +kernel) (by decide +kernel), gd (i := 61) (by decide +kernel) (by decide +kernel)⟩
set_option maxRecDepth 40000 in
theorem ok_Mo_goesOn : OkV M_Mo_goesOn 0 := ⟨⟨by decide +kernel, gd (i := 1446) rfl (by decide +kernel), gd (i := 110) (by decide +kernel) (by decide +kernel), by decide +kernel, by decide +kernel, by decide +kernel⟩, gd (i := 1445) (by decide +kernel) (by decide +kernel), gd (i := 57) (by decide +kernel) (by decide +kernel)⟩
set_option maxRecDepth 40000 in
theorem ok_Mo_must : OkV M_Mo_must 1 := ⟨⟨by decide +kernel, gd (i := 1458) rfl (by decide +kernel), gd (i := 110) (by decide +kernel) (by decide +kernel), by decide +kernel, by decide +kernel, by decide +kernel⟩, gd (i := 1457) (by decide +kernel) (by decide +kernel), gd (i := 60) (by decide +kernel) (by decide +kernel)⟩
set_option maxRecDepth 40000 in
theorem ok_Mo_read : OkV M_Mo_read 0 := ⟨⟨by decide +kernel, gd (i := 1404) rfl (by decide +kernel), gd (i := 110) (by decide +kernel) (by decide +kernel), by decide +kernel, by decide +kernel, by decide +kernel⟩, gd (i := 1402) (by decide +kernel) (by decide +kernel), gd (i := 1403) (by decide +kernel) (by decide +kernel)⟩
set_option maxRecDepth 40000 in
theorem ok_Mo_place : OkV M_Mo_place 0 := ⟨⟨by decide +kernel, gd (i := 1518) rfl (by decide +kernel), gd (i := 110) (by decide +kernel) (by decide +kernel), by decide +kernel, by decide +kernel, by decide +kernel⟩, gd (i := 1516) (by decide +kernel) (by decide +kernel), gd (i := 1517) (by decide +kernel) (by decide +kernel)⟩
set_option maxRecDepth 40000 in
theorem ok_Mo_roomFor : OkV M_Mo_roomFor 2 := ⟨⟨by decide +kernel, gd (i := 1438) rfl (by decide +kernel), gd (i := 110) (by decide +kernel) (by decide +kernel), by decide +kernel, by decide +kernel, by decide +kernel⟩, gd (i := 1437) (by decide +kernel) (by decide +kernel), gd (i := 55) (by decide +kernel) (by decide +kernel)⟩
set_option maxRecDepth 40000 in
theorem ok_Mo_tell : OkV M_Mo_tell 0 := ⟨⟨by decide +kernel, gd (i := 1434) rfl (by decide +kernel), gd (i := 110) (by decide +kernel) (by decide +kernel), by decide +kernel, by decide +kernel, by decide +kernel⟩, gd (i := 1433) (by decide +kernel) (by decide +kernel), gd (i := 54) (by decide +kernel) (by decide +kernel)⟩
set_option maxRecDepth 40000 in
theorem ok_Mo_named : OkV M_Mo_named 0 := ⟨⟨by decide +kernel, gd (i := 1454) rfl (by decide +kernel), gd (i := 110) (by decide +kernel) (by decide +kernel), by decide +kernel, by decide +kernel, by decide +kernel⟩, gd (i := 1453) (by decide +kernel) (by decide +kernel), gd (i := 59) (by decide +kernel) (by decide +kernel)⟩
set_option maxRecDepth 40000 in
theorem ok_Mo_notes : OkV M_Mo_notes 3 := ⟨⟨by decide +kernel, gd (i := 1470) rfl (by decide +kernel), gd (i := 110) (by decide +kernel) (by decide +kernel), by decide +kernel, by decide +kernel, by decide +kernel⟩, gd (i := 1469) (by decide +kernel) (by decide +kernel), gd (i := 63) (by decide +kernel) (by decide +kernel)⟩
set_option maxRecDepth 40000 in
theorem ok_Mo_bounded : OkV M_Mo_bounded 2 := ⟨⟨by decide +kernel, gd (i := 1466) rfl (by decide +kernel), gd (i := 110) (by decide +kernel) (by decide +kernel), by decide +kernel, by decide +kernel, by decide +kernel⟩, gd (i := 1465) (by decide +kernel) (by decide +kernel), gd (i := 62) (by decide +kernel) (by decide +kernel)⟩
set_option maxRecDepth 40000 in
theorem ok_Mo_tellPost : OkV M_Mo_tellPost 0 := ⟨⟨by decide +kernel, gd (i := 1450) rfl (by decide +kernel), gd (i := 110) (by decide +kernel) (by decide +kernel), by decide +kernel, by decide +kernel, by decide +kernel⟩, gd (i := 1449) (by decide +kernel) (by decide +kernel), gd (i := 58) (by decide +kernel) (by decide +kernel)⟩
set_option maxRecDepth 40000 in
theorem ok_Mo_tellGuard : OkV M_Mo_tellGuard 0 := ⟨⟨by decide +kernel, gd (i := 1474) rfl (by decide +kernel), gd (i := 110) (by decide +kernel) (by decide +kernel), by decide +kernel, by decide +kernel, by decide +kernel⟩, gd (i := 1473) (by decide +kernel) (by decide +kernel), gd (i := 64) (by decide +kernel) (by decide +kernel)⟩
set_option maxRecDepth 40000 in
theorem ok_Mo_atPost : OkV M_Mo_atPost 0 := ⟨⟨by decide +kernel, gd (i := 1478) rfl (by decide +kernel), gd (i := 110) (by decide +kernel) (by decide +kernel), by decide +kernel, by decide +kernel, by decide +kernel⟩, gd (i := 1477) (by decide +kernel) (by decide +kernel), gd (i := 65) (by decide +kernel) (by decide +kernel)⟩
set_option maxRecDepth 40000 in
theorem ok_Mo_tellDamp : OkV M_Mo_tellDamp 0 := ⟨⟨by decide +kernel, gd (i := 1506) rfl (by decide +kernel), gd (i := 110) (by decide +kernel) (by decide +kernel), by decide +kernel, by decide +kernel, by decide +kernel⟩, gd (i := 1505) (by decide +kernel) (by decide +kernel), gd (i := 72) (by decide +kernel) (by decide +kernel)⟩
set_option maxRecDepth 40000 in
theorem ok_Mo_tellLaw : OkV M_Mo_tellLaw 0 := ⟨⟨by decide +kernel, gd (i := 1482) rfl (by decide +kernel), gd (i := 110) (by decide +kernel) (by decide +kernel), by decide +kernel, by decide +kernel, by decide +kernel⟩, gd (i := 1481) (by decide +kernel) (by decide +kernel), gd (i := 66) (by decide +kernel) (by decide +kernel)⟩
set_option maxRecDepth 40000 in
theorem ok_Mo_term : OkV M_Mo_term 0 := ⟨⟨by decide +kernel, gd (i := 1502) rfl (by decide +kernel), gd (i := 110) (by decide +kernel) (by decide +kernel), by decide +kernel, by decide +kernel, by decide +kernel⟩, gd (i := 1501) (by decide +kernel) (by decide +kernel), gd (i := 71) (by decide +kernel) (by decide +kernel)⟩
set_option maxRecDepth 40000 in
theorem ok_Mo_emit : OkV M_Mo_emit 2 := ⟨⟨by decide +kernel, gd (i := 1494) rfl (by decide +kernel), gd (i := 110) (by decide +kernel) (by decide +kernel), by decide +kernel, by decide +kernel, by decide +kernel⟩, gd (i := 1493) (by decide +kernel) (by decide +kernel), gd (i := 69) (by decide +kernel) (by decide +kernel)⟩
set_option maxRecDepth 40000 in
theorem ok_Mo_comesOut : OkV M_Mo_comesOut 1 := ⟨⟨by decide +kernel, gd (i := 1498) rfl (by decide +kernel), gd (i := 110) (by decide +kernel) (by decide +kernel), by decide +kernel, by decide +kernel, by decide +kernel⟩, gd (i := 1497) (by decide +kernel) (by decide +kernel), gd (i := 70) (by decide +kernel) (by decide +kernel)⟩
set_option maxRecDepth 40000 in
theorem ok_Mo_expression : OkV M_Mo_expression 0 := ⟨⟨by decide +kernel, gd (i := 1486) rfl (by decide +kernel), gd (i := 110) (by decide +kernel) (by decide +kernel), by decide +kernel, by decide +kernel, by decide +kernel⟩, gd (i := 1485) (by decide +kernel) (by decide +kernel), gd (i := 67) (by decide +kernel) (by decide +kernel)⟩
set_option maxRecDepth 40000 in
theorem ok_Mo_unit : OkV M_Mo_unit 0 := ⟨⟨by decide +kernel, gd (i := 1490) rfl (by decide +kernel), gd (i := 110) (by decide +kernel) (by decide +kernel), by decide +kernel, by decide +kernel, by decide +kernel⟩, gd (i := 1489) (by decide +kernel) (by decide +kernel), gd (i := 68) (by decide +kernel) (by decide +kernel)⟩
set_option maxRecDepth 40000 in
theorem ok_Mo_termOf : OkV M_Mo_termOf 2 := ⟨⟨by decide +kernel, gd (i := 1541) rfl (by decide +kernel), gd (i := 110) (by decide +kernel) (by decide +kernel), by decide +kernel, by decide +kernel, by decide +kernel⟩, gd (i := 1540) (by decide +kernel) (by decide +kernel), gd (i := 78) (by decide +kernel) (by decide +kernel)⟩
set_option maxRecDepth 40000 in
theorem ok_Mo_in : OkS M_Mo_in 3 := ⟨⟨by decide +kernel, gd (i := 1529) rfl (by decide +kernel), gd (i := 110) (by decide +kernel) (by decide +kernel), by decide +kernel, by decide +kernel, by decide +kernel⟩, gd (i := 1528) (by decide +kernel) (by decide +kernel)⟩
set_option maxRecDepth 40000 in
theorem ok_Mo_isPost : OkV M_Mo_isPost 1 := ⟨⟨by decide +kernel, gd (i := 1526) rfl (by decide +kernel), gd (i := 110) (by decide +kernel) (by decide +kernel), by decide +kernel, by decide +kernel, by decide +kernel⟩, gd (i := 1525) (by decide +kernel) (by decide +kernel), gd (i := 75) (by decide +kernel) (by decide +kernel)⟩
set_option maxRecDepth 40000 in
theorem ok_Mo_isGuard : OkV M_Mo_isGuard 1 := ⟨⟨by decide +kernel, gd (i := 1549) rfl (by decide +kernel), gd (i := 110) (by decide +kernel) (by decide +kernel), by decide +kernel, by decide +kernel, by decide +kernel⟩, gd (i := 1548) (by decide +kernel) (by decide +kernel), gd (i := 79) (by decide +kernel) (by decide +kernel)⟩
set_option maxRecDepth 40000 in
theorem ok_Mo_begins : OkV M_Mo_begins 0 := ⟨⟨by decide +kernel, gd (i := 1510) rfl (by decide +kernel), gd (i := 110) (by decide +kernel) (by decide +kernel), by decide +kernel, by decide +kernel, by decide +kernel⟩, gd (i := 1509) (by decide +kernel) (by decide +kernel), gd (i := 73) (by decide +kernel) (by decide +kernel)⟩
set_option maxRecDepth 40000 in
theorem ok_Mo_copies : OkV M_Mo_copies 0 := ⟨⟨by decide +kernel, gd (i := 1533) rfl (by decide +kernel), gd (i := 110) (by decide +kernel) (by decide +kernel), by decide +kernel, by decide +kernel, by decide +kernel⟩, gd (i := 1532) (by decide +kernel) (by decide +kernel), gd (i := 76) (by decide +kernel) (by decide +kernel)⟩
set_option maxRecDepth 40000 in
theorem ok_Mo_liesDown : OkV M_Mo_liesDown 1 := ⟨⟨by decide +kernel, gd (i := 1514) rfl (by decide +kernel), gd (i := 110) (by decide +kernel) (by decide +kernel), by decide +kernel, by decide +kernel, by decide +kernel⟩, gd (i := 1513) (by decide +kernel) (by decide +kernel), gd (i := 74) (by decide +kernel) (by decide +kernel)⟩
set_option maxRecDepth 40000 in
theorem ok_Mo_getsUp : OkV M_Mo_getsUp 1 := ⟨⟨by decide +kernel, gd (i := 1585) rfl (by decide +kernel), gd (i := 110) (by decide +kernel) (by decide +kernel), by decide +kernel, by decide +kernel, by decide +kernel⟩, gd (i := 1584) (by decide +kernel) (by decide +kernel), gd (i := 87) (by decide +kernel) (by decide +kernel)⟩
set_option maxRecDepth 40000 in
theorem ok_Mo_comes : OkV M_Mo_comes 2 := ⟨⟨by decide +kernel, gd (i := 1581) rfl (by decide +kernel), gd (i := 110) (by decide +kernel) (by decide +kernel), by decide +kernel, by decide +kernel, by decide +kernel⟩, gd (i := 1580) (by decide +kernel) (by decide +kernel), gd (i := 86) (by decide +kernel) (by decide +kernel)⟩
set_option maxRecDepth 40000 in
theorem ok_Mo_flowOf : OkV M_Mo_flowOf 1 := ⟨⟨by decide +kernel, gd (i := 1537) rfl (by decide +kernel), gd (i := 110) (by decide +kernel) (by decide +kernel), by decide +kernel, by decide +kernel, by decide +kernel⟩, gd (i := 1536) (by decide +kernel) (by decide +kernel), gd (i := 77) (by decide +kernel) (by decide +kernel)⟩
set_option maxRecDepth 40000 in
theorem ok_Mo_runs : OkV M_Mo_runs 0 := ⟨⟨by decide +kernel, gd (i := 1573) rfl (by decide +kernel), gd (i := 110) (by decide +kernel) (by decide +kernel), by decide +kernel, by decide +kernel, by decide +kernel⟩, gd (i := 1572) (by decide +kernel) (by decide +kernel), gd (i := 84) (by decide +kernel) (by decide +kernel)⟩
set_option maxRecDepth 40000 in
theorem ok_Mo_relieves : OkV M_Mo_relieves 1 := ⟨⟨by decide +kernel, gd (i := 1577) rfl (by decide +kernel), gd (i := 110) (by decide +kernel) (by decide +kernel), by decide +kernel, by decide +kernel, by decide +kernel⟩, gd (i := 1576) (by decide +kernel) (by decide +kernel), gd (i := 85) (by decide +kernel) (by decide +kernel)⟩
set_option maxRecDepth 40000 in
theorem ok_Mo_minuteGoes : OkV M_Mo_minuteGoes 0 := ⟨⟨by decide +kernel, gd (i := 1569) rfl (by decide +kernel), gd (i := 110) (by decide +kernel) (by decide +kernel), by decide +kernel, by decide +kernel, by decide +kernel⟩, gd (i := 1568) (by decide +kernel) (by decide +kernel), gd (i := 83) (by decide +kernel) (by decide +kernel)⟩
set_option maxRecDepth 40000 in
theorem ok_Mo_postOf : OkV M_Mo_postOf 1 := ⟨⟨by decide +kernel, gd (i := 1553) rfl (by decide +kernel), gd (i := 110) (by decide +kernel) (by decide +kernel), by decide +kernel, by decide +kernel, by decide +kernel⟩, gd (i := 1552) (by decide +kernel) (by decide +kernel), gd (i := 80) (by decide +kernel) (by decide +kernel)⟩
set_option maxRecDepth 40000 in
theorem ok_Mo_placeInBed : OkV M_Mo_placeInBed 1 := ⟨⟨by decide +kernel, gd (i := 1557) rfl (by decide +kernel), gd (i := 110) (by decide +kernel) (by decide +kernel), by decide +kernel, by decide +kernel, by decide +kernel⟩, gd (i := 1556) (by decide +kernel) (by decide +kernel), gd (i := 81) (by decide +kernel) (by decide +kernel)⟩
set_option maxRecDepth 40000 in
theorem ok_Mo_emptyOnes : OkV M_Mo_emptyOnes 0 := ⟨⟨by decide +kernel, gd (i := 1656) rfl (by decide +kernel), gd (i := 110) (by decide +kernel) (by decide +kernel), by decide +kernel, by decide +kernel, by decide +kernel⟩, gd (i := 1655) (by decide +kernel) (by decide +kernel), gd (i := 92) (by decide +kernel) (by decide +kernel)⟩
set_option maxRecDepth 40000 in
theorem ok_Mo_sleptOnes : OkV M_Mo_sleptOnes 0 := ⟨⟨by decide +kernel, gd (i := 1633) rfl (by decide +kernel), gd (i := 110) (by decide +kernel) (by decide +kernel), by decide +kernel, by decide +kernel, by decide +kernel⟩, gd (i := 1632) (by decide +kernel) (by decide +kernel), gd (i := 91) (by decide +kernel) (by decide +kernel)⟩
set_option maxRecDepth 40000 in
theorem ok_Mo_post : OkV M_Mo_post 2 := ⟨⟨by decide +kernel, gd (i := 1522) rfl (by decide +kernel), gd (i := 110) (by decide +kernel) (by decide +kernel), by decide +kernel, by decide +kernel, by decide +kernel⟩, gd (i := 1520) (by decide +kernel) (by decide +kernel), gd (i := 1521) (by decide +kernel) (by decide +kernel)⟩
set_option maxRecDepth 40000 in
theorem ok_Mo_guard : OkV M_Mo_guard 2 := ⟨⟨by decide +kernel, gd (i := 1545) rfl (by decide +kernel), gd (i := 110) (by decide +kernel) (by decide +kernel), by decide +kernel, by decide +kernel, by decide +kernel⟩, gd (i := 1543) (by decide +kernel) (by decide +kernel), gd (i := 1544) (by decide +kernel) (by decide +kernel)⟩
set_option maxRecDepth 40000 in
theorem ok_Mo_keeps : OkV M_Mo_keeps 0 := ⟨⟨by decide +kernel, gd (i := 1589) rfl (by decide +kernel), gd (i := 110) (by decide +kernel) (by decide +kernel), by decide +kernel, by decide +kernel, by decide +kernel⟩, gd (i := 1588) (by decide +kernel) (by decide +kernel), gd (i := 88) (by decide +kernel) (by decide +kernel)⟩
set_option maxRecDepth 40000 in
theorem ok_Mo_goes : OkV M_Mo_goes 1 := ⟨⟨by decide +kernel, gd (i := 1565) rfl (by decide +kernel), gd (i := 110) (by decide +kernel) (by decide +kernel), by decide +kernel, by decide +kernel, by decide +kernel⟩, gd (i := 1564) (by decide +kernel) (by decide +kernel), gd (i := 82) (by decide +kernel) (by decide +kernel)⟩
set_option maxRecDepth 40000 in
theorem ok_Mo_run : OkV M_Mo_run 1 := ⟨⟨by decide +kernel, gd (i := 1561) rfl (by decide +kernel), gd (i := 110) (by decide +kernel) (by decide +kernel), by decide +kernel, by decide +kernel, by decide +kernel⟩, gd (i := 1559) (by decide +kernel) (by decide +kernel), gd (i := 1560) (by decide +kernel) (by decide +kernel)⟩
set_option maxRecDepth 40000 in
theorem ok_Mo_turns : OkV M_Mo_turns 1 := ⟨⟨by decide +kernel, gd (i := 1597) rfl (by decide +kernel), gd (i := 110) (by decide +kernel) (by decide +kernel), by decide +kernel, by decide +kernel, by decide +kernel⟩, gd (i := 1596) (by decide +kernel) (by decide +kernel), gd (i := 89) (by decide +kernel) (by decide +kernel)⟩
set_option maxRecDepth 40000 in
theorem ok_Mo_turn : OkV M_Mo_turn 1 := ⟨⟨by decide +kernel, gd (i := 1593) rfl (by decide +kernel), gd (i := 110) (by decide +kernel) (by decide +kernel), by decide +kernel, by decide +kernel, by decide +kernel⟩, gd (i := 1591) (by decide +kernel) (by decide +kernel), gd (i := 1592) (by decide +kernel) (by decide +kernel)⟩
set_option maxRecDepth 40000 in
theorem ok_Mo_shake : OkV M_Mo_shake 2 := ⟨⟨by decide +kernel, gd (i := 1601) rfl (by decide +kernel), gd (i := 110) (by decide +kernel) (by decide +kernel), by decide +kernel, by decide +kernel, by decide +kernel⟩, gd (i := 1599) (by decide +kernel) (by decide +kernel), gd (i := 1600) (by decide +kernel) (by decide +kernel)⟩
set_option maxRecDepth 40000 in
theorem ok_Mo_dry : OkV M_Mo_dry 2 := ⟨⟨by decide +kernel, gd (i := 1605) rfl (by decide +kernel), gd (i := 110) (by decide +kernel) (by decide +kernel), by decide +kernel, by decide +kernel, by decide +kernel⟩, gd (i := 1603) (by decide +kernel) (by decide +kernel), gd (i := 1604) (by decide +kernel) (by decide +kernel)⟩
set_option maxRecDepth 40000 in
theorem ok_Mo_pinch : OkV M_Mo_pinch 2 := ⟨⟨by decide +kernel, gd (i := 1609) rfl (by decide +kernel), gd (i := 110) (by decide +kernel) (by decide +kernel), by decide +kernel, by decide +kernel, by decide +kernel⟩, gd (i := 1607) (by decide +kernel) (by decide +kernel), gd (i := 1608) (by decide +kernel) (by decide +kernel)⟩
set_option maxRecDepth 40000 in
theorem ok_Mo_send : OkV M_Mo_send 2 := ⟨⟨by decide +kernel, gd (i := 1613) rfl (by decide +kernel), gd (i := 110) (by decide +kernel) (by decide +kernel), by decide +kernel, by decide +kernel, by decide +kernel⟩, gd (i := 1611) (by decide +kernel) (by decide +kernel), gd (i := 1612) (by decide +kernel) (by decide +kernel)⟩
set_option maxRecDepth 40000 in
theorem ok_Mo_undo : OkV M_Mo_undo 0 := ⟨⟨by decide +kernel, gd (i := 1617) rfl (by decide +kernel), gd (i := 110) (by decide +kernel) (by decide +kernel), by decide +kernel, by decide +kernel, by decide +kernel⟩, gd (i := 1615) (by decide +kernel) (by decide +kernel), gd (i := 1616) (by decide +kernel) (by decide +kernel)⟩
set_option maxRecDepth 40000 in
theorem ok_Mo_out : OkV M_Mo_out 1 := ⟨⟨by decide +kernel, gd (i := 1621) rfl (by decide +kernel), gd (i := 110) (by decide +kernel) (by decide +kernel), by decide +kernel, by decide +kernel, by decide +kernel⟩, gd (i := 1619) (by decide +kernel) (by decide +kernel), gd (i := 1620) (by decide +kernel) (by decide +kernel)⟩
set_option maxRecDepth 40000 in
theorem ok_Mo_sleptBy : OkV M_Mo_sleptBy 0 := ⟨⟨by decide +kernel, gd (i := 1629) rfl (by decide +kernel), gd (i := 110) (by decide +kernel) (by decide +kernel), by decide +kernel, by decide +kernel, by decide +kernel⟩, gd (i := 1628) (by decide +kernel) (by decide +kernel), gd (i := 90) (by decide +kernel) (by decide +kernel)⟩
set_option maxRecDepth 40000 in
theorem ok_Mo_orNot : OkS M_Mo_orNot 1 := ⟨⟨by decide +kernel, gd (i := 1636) rfl (by decide +kernel), gd (i := 110) (by decide +kernel) (by decide +kernel), by decide +kernel, by decide +kernel, by decide +kernel⟩, gd (i := 1635) (by decide +kernel) (by decide +kernel)⟩
set_option maxRecDepth 40000 in
theorem ok_Mo_slept : OkV M_Mo_slept 0 := ⟨⟨by decide +kernel, gd (i := 1625) rfl (by decide +kernel), gd (i := 110) (by decide +kernel) (by decide +kernel), by decide +kernel, by decide +kernel, by decide +kernel⟩, gd (i := 1623) (by decide +kernel) (by decide +kernel), gd (i := 1624) (by decide +kernel) (by decide +kernel)⟩
set_option maxRecDepth 40000 in
theorem ok_Mo_dryFirst : OkV M_Mo_dryFirst 1 := ⟨⟨by decide +kernel, gd (i := 1640) rfl (by decide +kernel), gd (i := 110) (by decide +kernel) (by decide +kernel), by decide +kernel, by decide +kernel, by decide +kernel⟩, gd (i := 1638) (by decide +kernel) (by decide +kernel), gd (i := 1639) (by decide +kernel) (by decide +kernel)⟩
set_option maxRecDepth 40000 in
theorem ok_Mo_dryTwo : OkV M_Mo_dryTwo 1 := ⟨⟨by decide +kernel, gd (i := 1644) rfl (by decide +kernel), gd (i := 110) (by decide +kernel) (by decide +kernel), by decide +kernel, by decide +kernel, by decide +kernel⟩, gd (i := 1642) (by decide +kernel) (by decide +kernel), gd (i := 1643) (by decide +kernel) (by decide +kernel)⟩
set_option maxRecDepth 40000 in
theorem ok_Mo_bribe : OkV M_Mo_bribe 2 := ⟨⟨by decide +kernel, gd (i := 1648) rfl (by decide +kernel), gd (i := 110) (by decide +kernel) (by decide +kernel), by decide +kernel, by decide +kernel, by decide +kernel⟩, gd (i := 1646) (by decide +kernel) (by decide +kernel), gd (i := 1647) (by decide +kernel) (by decide +kernel)⟩
set_option maxRecDepth 40000 in
theorem ok_Mo_weak : OkV M_Mo_weak 2 := ⟨⟨by decide +kernel, gd (i := 1652) rfl (by decide +kernel), gd (i := 110) (by decide +kernel) (by decide +kernel), by decide +kernel, by decide +kernel, by decide +kernel⟩, gd (i := 1650) (by decide +kernel) (by decide +kernel), gd (i := 1651) (by decide +kernel) (by decide +kernel)⟩
set_option maxRecDepth 40000 in
theorem ok_Mo_never : OkV M_Mo_never 1 := ⟨⟨by decide +kernel, gd (i := 1660) rfl (by decide +kernel), gd (i := 110) (by decide +kernel) (by decide +kernel), by decide +kernel, by decide +kernel, by decide +kernel⟩, gd (i := 1658) (by decide +kernel) (by decide +kernel), gd (i := 1659) (by decide +kernel) (by decide +kernel)⟩
set_option maxRecDepth 40000 in
theorem ok_Mo_spread : OkV M_Mo_spread 1 := ⟨⟨by decide +kernel, gd (i := 1664) rfl (by decide +kernel), gd (i := 110) (by decide +kernel) (by decide +kernel), by decide +kernel, by decide +kernel, by decide +kernel⟩, gd (i := 1662) (by decide +kernel) (by decide +kernel), gd (i := 1663) (by decide +kernel) (by decide +kernel)⟩
set_option maxRecDepth 40000 in
theorem ok_Mo_shakeWorst : OkV M_Mo_shakeWorst 2 := ⟨⟨by decide +kernel, gd (i := 1668) rfl (by decide +kernel), gd (i := 110) (by decide +kernel) (by decide +kernel), by decide +kernel, by decide +kernel, by decide +kernel⟩, gd (i := 1666) (by decide +kernel) (by decide +kernel), gd (i := 1667) (by decide +kernel) (by decide +kernel)⟩
set_option maxRecDepth 40000 in
theorem ok_Mo_longest : OkV M_Mo_longest 1 := ⟨⟨by decide +kernel, gd (i := 1672) rfl (by decide +kernel), gd (i := 110) (by decide +kernel) (by decide +kernel), by decide +kernel, by decide +kernel, by decide +kernel⟩, gd (i := 1670) (by decide +kernel) (by decide +kernel), gd (i := 1671) (by decide +kernel) (by decide +kernel)⟩
set_option maxRecDepth 40000 in
theorem ok_Mo_where : OkV M_Mo_where 2 := ⟨⟨by decide +kernel, gd (i := 1676) rfl (by decide +kernel), gd (i := 110) (by decide +kernel) (by decide +kernel), by decide +kernel, by decide +kernel, by decide +kernel⟩, gd (i := 1674) (by decide +kernel) (by decide +kernel), gd (i := 1675) (by decide +kernel) (by decide +kernel)⟩
set_option maxRecDepth 40000 in
theorem ok_Mo_fillsPinches : OkV M_Mo_fillsPinches 2 := ⟨⟨by decide +kernel, gd (i := 1684) rfl (by decide +kernel), gd (i := 110) (by decide +kernel) (by decide +kernel), by decide +kernel, by decide +kernel, by decide +kernel⟩, gd (i := 1683) (by decide +kernel) (by decide +kernel), gd (i := 93) (by decide +kernel) (by decide +kernel)⟩
set_option maxRecDepth 40000 in
theorem ok_Mo_isAllowed : OkV M_Mo_isAllowed 1 := ⟨⟨by decide +kernel, gd (i := 1688) rfl (by decide +kernel), gd (i := 110) (by decide +kernel) (by decide +kernel), by decide +kernel, by decide +kernel, by decide +kernel⟩, gd (i := 1687) (by decide +kernel) (by decide +kernel), gd (i := 94) (by decide +kernel) (by decide +kernel)⟩
set_option maxRecDepth 40000 in
theorem ok_Mo_isResting : OkV M_Mo_isResting 1 := ⟨⟨by decide +kernel, gd (i := 1692) rfl (by decide +kernel), gd (i := 110) (by decide +kernel) (by decide +kernel), by decide +kernel, by decide +kernel, by decide +kernel⟩, gd (i := 1691) (by decide +kernel) (by decide +kernel), gd (i := 95) (by decide +kernel) (by decide +kernel)⟩
set_option maxRecDepth 40000 in
theorem ok_Mo_rests : OkV M_Mo_rests 3 := ⟨⟨by decide +kernel, gd (i := 1680) rfl (by decide +kernel), gd (i := 110) (by decide +kernel) (by decide +kernel), by decide +kernel, by decide +kernel, by decide +kernel⟩, gd (i := 1678) (by decide +kernel) (by decide +kernel), gd (i := 1679) (by decide +kernel) (by decide +kernel)⟩
set_option maxRecDepth 40000 in
theorem ok_Mo_tell_ : OkV M_Mo_tell_ 2 := ⟨⟨by decide +kernel, gd (i := 1696) rfl (by decide +kernel), gd (i := 110) (by decide +kernel) (by decide +kernel), by decide +kernel, by decide +kernel, by decide +kernel⟩, gd (i := 1694) (by decide +kernel) (by decide +kernel), gd (i := 1695) (by decide +kernel) (by decide +kernel)⟩
set_option maxRecDepth 40000 in
theorem ok_Mo_forget : OkV M_Mo_forget 0 := ⟨⟨by decide +kernel, gd (i := 1700) rfl (by decide +kernel), gd (i := 110) (by decide +kernel) (by decide +kernel), by decide +kernel, by decide +kernel, by decide +kernel⟩, gd (i := 1698) (by decide +kernel) (by decide +kernel), gd (i := 1699) (by decide +kernel) (by decide +kernel)⟩
set_option maxRecDepth 40000 in
theorem ok_Mo_isSo : OkV M_Mo_isSo 3 := ⟨⟨by decide +kernel, gd (i := 1708) rfl (by decide +kernel), gd (i := 110) (by decide +kernel) (by decide +kernel), by decide +kernel, by decide +kernel, by decide +kernel⟩, gd (i := 1707) (by decide +kernel) (by decide +kernel), gd (i := 96) (by decide +kernel) (by decide +kernel)⟩
set_option maxRecDepth 40000 in
theorem ok_Mo_tampered : OkV M_Mo_tampered 3 := ⟨⟨by decide +kernel, gd (i := 1704) rfl (by decide +kernel), gd (i := 110) (by decide +kernel) (by decide +kernel), by decide +kernel, by decide +kernel, by decide +kernel⟩, gd (i := 1702) (by decide +kernel) (by decide +kernel), gd (i := 1703) (by decide +kernel) (by decide +kernel)⟩
set_option maxRecDepth 40000 in
theorem ok_Mo_hold : OkV M_Mo_hold 1 := ⟨⟨by decide +kernel, gd (i := 1712) rfl (by decide +kernel), gd (i := 110) (by decide +kernel) (by decide +kernel), by decide +kernel, by decide +kernel, by decide +kernel⟩, gd (i := 1710) (by decide +kernel) (by decide +kernel), gd (i := 1711) (by decide +kernel) (by decide +kernel)⟩
set_option maxRecDepth 40000 in
theorem ok_Mo_restore : OkV M_Mo_restore 1 := ⟨⟨by decide +kernel, gd (i := 1716) rfl (by decide +kernel), gd (i := 110) (by decide +kernel) (by decide +kernel), by decide +kernel, by decide +kernel, by decide +kernel⟩, gd (i := 1714) (by decide +kernel) (by decide +kernel), gd (i := 1715) (by decide +kernel) (by decide +kernel)⟩
set_option maxRecDepth 40000 in
theorem ok_Mo_count : OkV M_Mo_count 1 := ⟨⟨by decide +kernel, gd (i := 1720) rfl (by decide +kernel), gd (i := 110) (by decide +kernel) (by decide +kernel), by decide +kernel, by decide +kernel, by decide +kernel⟩, gd (i := 1718) (by decide +kernel) (by decide +kernel), gd (i := 1719) (by decide +kernel) (by decide +kernel)⟩
theorem fl_Sg_10 : FL "SandGuards" 10 11 0 := ⟨_, _, _, k_Sg, by decide, gd (i := 566) (by decide +kernel) (by decide +kernel)⟩
theorem fl_Sg_19 : FL "SandGuards" 19 11 1 := ⟨_, _, _, k_Sg, by decide, gd (i := 567) (by decide +kernel) (by decide +kernel)⟩
theorem fl_Sg_26 : FL "SandGuards" 26 11 2 := ⟨_, _, _, k_Sg, by decide, gd (i := 568) (by decide +kernel) (by decide +kernel)⟩
theorem fl_Sg_33 : FL "SandGuards" 33 11 3 := ⟨_, _, _, k_Sg, by decide, gd (i := 569) (by decide +kernel) (by decide +kernel)⟩
theorem fl_Sg_37 : FL "SandGuards" 37 11 4 := ⟨_, _, _, k_Sg, by decide, gd (i := 570) (by decide +kernel) (by decide +kernel)⟩
theorem fl_Sg_43 : FL "SandGuards" 43 11 5 := ⟨_, _, _, k_Sg, by decide, gd (i := 571) (by decide +kernel) (by decide +kernel)⟩
theorem fl_Sg_47 : FL "SandGuards" 47 11 6 := ⟨_, _, _, k_Sg, by decide, gd (i := 572) (by decide +kernel) (by decide +kernel)⟩
theorem fl_Sg_51 : FL "SandGuards" 51 11 7 := ⟨_, _, _, k_Sg, by decide, gd (i := 573) (by decide +kernel) (by decide +kernel)⟩
theorem fl_Sg_58 : FL "SandGuards" 58 11 8 := ⟨_, _, _, k_Sg, by decide, gd (i := 574) (by decide +kernel) (by decide +kernel)⟩
theorem fl_Sg_65 : FL "SandGuards" 65 11 9 := ⟨_, _, _, k_Sg, by decide, gd (i := 575) (by decide +kernel) (by decide +kernel)⟩
theorem fl_Sg_72 : FL "SandGuards" 72 11 10 := ⟨_, _, _, k_Sg, by decide, gd (i := 576) (by decide +kernel) (by decide +kernel)⟩
theorem fl_Sg_79 : FL "SandGuards" 79 11 11 := ⟨_, _, _, k_Sg, by decide, gd (i := 577) (by decide +kernel) (by decide +kernel)⟩
theorem fl_Sg_83 : FL "SandGuards" 83 11 12 := ⟨_, _, _, k_Sg, by decide, gd (i := 578) (by decide +kernel) (by decide +kernel)⟩
theorem fp_Sg_83 : FP "SandGuards" 83 11 12 .int := ⟨_, _, _, k_Sg, by decide, gd (i := 578) (by decide +kernel) (by decide +kernel), rfl, by decide +kernel⟩
theorem fl_Sg_95 : FL "SandGuards" 95 9 1 := ⟨_, _, _, k_Ta, by decide, gd (i := 131) (by decide +kernel) (by decide +kernel)⟩
theorem fp_Sg_95 : FP "SandGuards" 95 9 1 .int := ⟨_, _, _, k_Ta, by decide, gd (i := 131) (by decide +kernel) (by decide +kernel), rfl, by decide +kernel⟩
theorem fl_Sg_102 : FL "SandGuards" 102 7 2 := ⟨_, _, _, k_Re, by decide, gd (i := 356) (by decide +kernel) (by decide +kernel)⟩
theorem fl_Sg_108 : FL "SandGuards" 108 7 0 := ⟨_, _, _, k_Re, by decide, gd (i := 352) (by decide +kernel) (by decide +kernel)⟩
theorem fl_Sg_113 : FL "SandGuards" 113 7 1 := ⟨_, _, _, k_Re, by decide, gd (i := 354) (by decide +kernel) (by decide +kernel)⟩
theorem fl_Sg_119 : FL "SandGuards" 119 3 0 := ⟨_, _, _, k_Hi, by decide, gd (i := 420) (by decide +kernel) (by decide +kernel)⟩
theorem fp_Sg_119 : FP "SandGuards" 119 3 0 .int := ⟨_, _, _, k_Hi, by decide, gd (i := 420) (by decide +kernel) (by decide +kernel), rfl, by decide +kernel⟩
theorem fl_Sg_129 : FL "SandGuards" 129 0 0 := ⟨_, _, _, k_Ca, by decide, gd (i := 256) (by decide +kernel) (by decide +kernel)⟩
theorem fl_Sg_133 : FL "SandGuards" 133 0 1 := ⟨_, _, _, k_Ca, by decide, gd (i := 260) (by decide +kernel) (by decide +kernel)⟩
theorem fl_Sg_136 : FL "SandGuards" 136 0 2 := ⟨_, _, _, k_Ca, by decide, gd (i := 264) (by decide +kernel) (by decide +kernel)⟩
theorem fl_Sg_139 : FL "SandGuards" 139 0 3 := ⟨_, _, _, k_Ca, by decide, gd (i := 268) (by decide +kernel) (by decide +kernel)⟩
theorem fl_Sg_142 : FL "SandGuards" 142 0 4 := ⟨_, _, _, k_Ca, by decide, gd (i := 270) (by decide +kernel) (by decide +kernel)⟩
theorem fl_Sg_145 : FL "SandGuards" 145 0 12 := ⟨_, _, _, k_Ca, by decide, gd (i := 291) (by decide +kernel) (by decide +kernel)⟩
theorem fl_Sg_156 : FL "SandGuards" 156 0 5 := ⟨_, _, _, k_Ca, by decide, gd (i := 272) (by decide +kernel) (by decide +kernel)⟩
theorem fl_Sg_162 : FL "SandGuards" 162 0 6 := ⟨_, _, _, k_Ca, by decide, gd (i := 275) (by decide +kernel) (by decide +kernel)⟩
theorem fl_Sg_165 : FL "SandGuards" 165 0 7 := ⟨_, _, _, k_Ca, by decide, gd (i := 279) (by decide +kernel) (by decide +kernel)⟩
theorem fl_Sg_168 : FL "SandGuards" 168 0 8 := ⟨_, _, _, k_Ca, by decide, gd (i := 281) (by decide +kernel) (by decide +kernel)⟩
theorem fl_Sg_174 : FL "SandGuards" 174 0 9 := ⟨_, _, _, k_Ca, by decide, gd (i := 284) (by decide +kernel) (by decide +kernel)⟩
theorem fl_Sg_206 : FL "SandGuards" 206 5 0 := ⟨_, _, _, k_Ou, by decide, gd (i := 439) (by decide +kernel) (by decide +kernel)⟩
theorem fl_Sg_221 : FL "SandGuards" 221 1 0 := ⟨_, _, _, k_Dr, by decide, gd (i := 460) (by decide +kernel) (by decide +kernel)⟩
theorem fl_Sg_224 : FL "SandGuards" 224 1 1 := ⟨_, _, _, k_Dr, by decide, gd (i := 462) (by decide +kernel) (by decide +kernel)⟩
theorem fl_Sg_231 : FL "SandGuards" 231 1 2 := ⟨_, _, _, k_Dr, by decide, gd (i := 464) (by decide +kernel) (by decide +kernel)⟩
theorem fl_Sg_234 : FL "SandGuards" 234 1 3 := ⟨_, _, _, k_Dr, by decide, gd (i := 466) (by decide +kernel) (by decide +kernel)⟩
theorem fl_Sg_241 : FL "SandGuards" 241 6 4 := ⟨_, _, _, k_Pl, by decide, gd (i := 209) (by decide +kernel) (by decide +kernel)⟩
theorem fl_Sg_244 : FL "SandGuards" 244 6 3 := ⟨_, _, _, k_Pl, by decide, gd (i := 204) (by decide +kernel) (by decide +kernel)⟩
theorem fl_Sg_260 : FL "SandGuards" 260 5 1 := ⟨_, _, _, k_Ou, by decide, gd (i := 441) (by decide +kernel) (by decide +kernel)⟩
theorem fl_Sg_263 : FL "SandGuards" 263 5 2 := ⟨_, _, _, k_Ou, by decide, gd (i := 443) (by decide +kernel) (by decide +kernel)⟩
theorem fl_Sg_276 : FL "SandGuards" 276 2 1 := ⟨_, _, _, k_Ga, by decide, gd (i := 502) (by decide +kernel) (by decide +kernel)⟩
theorem fl_Sg_277 : FL "SandGuards" 277 2 0 := ⟨_, _, _, k_Ga, by decide, gd (i := 500) (by decide +kernel) (by decide +kernel)⟩
theorem fl_Sg_283 : FL "SandGuards" 283 8 2 := ⟨_, _, _, k_Ru, by decide, gd (i := 537) (by decide +kernel) (by decide +kernel)⟩
theorem fl_Sg_289 : FL "SandGuards" 289 8 1 := ⟨_, _, _, k_Ru, by decide, gd (i := 535) (by decide +kernel) (by decide +kernel)⟩
theorem fl_Sg_290 : FL "SandGuards" 290 8 0 := ⟨_, _, _, k_Ru, by decide, gd (i := 533) (by decide +kernel) (by decide +kernel)⟩
theorem fl_Sg_293 : FL "SandGuards" 293 0 11 := ⟨_, _, _, k_Ca, by decide, gd (i := 287) (by decide +kernel) (by decide +kernel)⟩
theorem fl_Sg_299 : FL "SandGuards" 299 6 6 := ⟨_, _, _, k_Pl, by decide, gd (i := 217) (by decide +kernel) (by decide +kernel)⟩
theorem fl_Sg_302 : FL "SandGuards" 302 6 5 := ⟨_, _, _, k_Pl, by decide, gd (i := 213) (by decide +kernel) (by decide +kernel)⟩
theorem fl_Sg_321 : FL "SandGuards" 321 2 2 := ⟨_, _, _, k_Ga, by decide, gd (i := 504) (by decide +kernel) (by decide +kernel)⟩
theorem fp_Sg_321 : FP "SandGuards" 321 2 2 .boolean := ⟨_, _, _, k_Ga, by decide, gd (i := 504) (by decide +kernel) (by decide +kernel), rfl, by decide +kernel⟩
theorem fl_Ca_9 : FL "SandGuards$Castle" 9 0 0 := ⟨_, _, _, k_Ca, by decide, gd (i := 250) (by decide +kernel) (by decide +kernel)⟩
theorem fl_Ca_15 : FL "SandGuards$Castle" 15 0 1 := ⟨_, _, _, k_Ca, by decide, gd (i := 257) (by decide +kernel) (by decide +kernel)⟩
theorem fl_Ca_18 : FL "SandGuards$Castle" 18 0 2 := ⟨_, _, _, k_Ca, by decide, gd (i := 261) (by decide +kernel) (by decide +kernel)⟩
theorem fl_Ca_21 : FL "SandGuards$Castle" 21 0 3 := ⟨_, _, _, k_Ca, by decide, gd (i := 265) (by decide +kernel) (by decide +kernel)⟩
theorem fl_Ca_25 : FL "SandGuards$Castle" 25 0 4 := ⟨_, _, _, k_Ca, by decide, gd (i := 269) (by decide +kernel) (by decide +kernel)⟩
theorem fl_Ca_28 : FL "SandGuards$Castle" 28 0 5 := ⟨_, _, _, k_Ca, by decide, gd (i := 271) (by decide +kernel) (by decide +kernel)⟩
theorem fl_Ca_31 : FL "SandGuards$Castle" 31 0 6 := ⟨_, _, _, k_Ca, by decide, gd (i := 273) (by decide +kernel) (by decide +kernel)⟩
theorem fl_Ca_34 : FL "SandGuards$Castle" 34 0 7 := ⟨_, _, _, k_Ca, by decide, gd (i := 276) (by decide +kernel) (by decide +kernel)⟩
theorem fl_Ca_37 : FL "SandGuards$Castle" 37 0 8 := ⟨_, _, _, k_Ca, by decide, gd (i := 280) (by decide +kernel) (by decide +kernel)⟩
theorem fl_Ca_40 : FL "SandGuards$Castle" 40 0 9 := ⟨_, _, _, k_Ca, by decide, gd (i := 282) (by decide +kernel) (by decide +kernel)⟩
theorem fl_Ca_43 : FL "SandGuards$Castle" 43 0 10 := ⟨_, _, _, k_Ca, by decide, gd (i := 285) (by decide +kernel) (by decide +kernel)⟩
theorem fl_Ca_46 : FL "SandGuards$Castle" 46 0 14 := ⟨_, _, _, k_Ca, by decide, gd (i := 294) (by decide +kernel) (by decide +kernel)⟩
theorem fl_Ca_52 : FL "SandGuards$Castle" 52 0 11 := ⟨_, _, _, k_Ca, by decide, gd (i := 286) (by decide +kernel) (by decide +kernel)⟩
theorem fp_Ca_52 : FP "SandGuards$Castle" 52 0 11 .int := ⟨_, _, _, k_Ca, by decide, gd (i := 286) (by decide +kernel) (by decide +kernel), rfl, by decide +kernel⟩
theorem fl_Ca_62 : FL "SandGuards$Castle" 62 0 12 := ⟨_, _, _, k_Ca, by decide, gd (i := 289) (by decide +kernel) (by decide +kernel)⟩
theorem fp_Ca_62 : FP "SandGuards$Castle" 62 0 12 .int := ⟨_, _, _, k_Ca, by decide, gd (i := 289) (by decide +kernel) (by decide +kernel), rfl, by decide +kernel⟩
theorem fl_Ca_75 : FL "SandGuards$Castle" 75 6 5 := ⟨_, _, _, k_Pl, by decide, gd (i := 211) (by decide +kernel) (by decide +kernel)⟩
theorem fl_Ca_86 : FL "SandGuards$Castle" 86 6 3 := ⟨_, _, _, k_Pl, by decide, gd (i := 202) (by decide +kernel) (by decide +kernel)⟩
theorem fl_Ca_96 : FL "SandGuards$Castle" 96 0 13 := ⟨_, _, _, k_Ca, by decide, gd (i := 292) (by decide +kernel) (by decide +kernel)⟩
theorem fp_Ca_96 : FP "SandGuards$Castle" 96 0 13 .int := ⟨_, _, _, k_Ca, by decide, gd (i := 292) (by decide +kernel) (by decide +kernel), rfl, by decide +kernel⟩
theorem fl_Ca_99 : FL "SandGuards$Castle" 99 6 4 := ⟨_, _, _, k_Pl, by decide, gd (i := 207) (by decide +kernel) (by decide +kernel)⟩
theorem fl_Ca_120 : FL "SandGuards$Castle" 120 6 2 := ⟨_, _, _, k_Pl, by decide, gd (i := 195) (by decide +kernel) (by decide +kernel)⟩
theorem fl_Ca_124 : FL "SandGuards$Castle" 124 4 0 := ⟨_, _, _, k_La, by decide, gd (i := 159) (by decide +kernel) (by decide +kernel)⟩
theorem fl_Ca_152 : FL "SandGuards$Castle" 152 6 6 := ⟨_, _, _, k_Pl, by decide, gd (i := 216) (by decide +kernel) (by decide +kernel)⟩
theorem fl_Dr_12 : FL "SandGuards$Dryings" 12 1 4 := ⟨_, _, _, k_Dr, by decide, gd (i := 467) (by decide +kernel) (by decide +kernel)⟩
theorem fl_Dr_18 : FL "SandGuards$Dryings" 18 1 6 := ⟨_, _, _, k_Dr, by decide, gd (i := 469) (by decide +kernel) (by decide +kernel)⟩
theorem fp_Dr_18 : FP "SandGuards$Dryings" 18 1 6 .boolean := ⟨_, _, _, k_Dr, by decide, gd (i := 469) (by decide +kernel) (by decide +kernel), rfl, by decide +kernel⟩
theorem fl_Dr_22 : FL "SandGuards$Dryings" 22 1 7 := ⟨_, _, _, k_Dr, by decide, gd (i := 470) (by decide +kernel) (by decide +kernel)⟩
theorem fp_Dr_22 : FP "SandGuards$Dryings" 22 1 7 .boolean := ⟨_, _, _, k_Dr, by decide, gd (i := 470) (by decide +kernel) (by decide +kernel), rfl, by decide +kernel⟩
theorem fl_Dr_25 : FL "SandGuards$Dryings" 25 1 8 := ⟨_, _, _, k_Dr, by decide, gd (i := 471) (by decide +kernel) (by decide +kernel)⟩
theorem fp_Dr_25 : FP "SandGuards$Dryings" 25 1 8 .boolean := ⟨_, _, _, k_Dr, by decide, gd (i := 471) (by decide +kernel) (by decide +kernel), rfl, by decide +kernel⟩
theorem fl_Dr_36 : FL "SandGuards$Dryings" 36 1 5 := ⟨_, _, _, k_Dr, by decide, gd (i := 468) (by decide +kernel) (by decide +kernel)⟩
theorem fp_Dr_36 : FP "SandGuards$Dryings" 36 1 5 .int := ⟨_, _, _, k_Dr, by decide, gd (i := 468) (by decide +kernel) (by decide +kernel), rfl, by decide +kernel⟩
theorem fl_Dr_40 : FL "SandGuards$Dryings" 40 1 0 := ⟨_, _, _, k_Dr, by decide, gd (i := 459) (by decide +kernel) (by decide +kernel)⟩
theorem fp_Dr_40 : FP "SandGuards$Dryings" 40 1 0 .int := ⟨_, _, _, k_Dr, by decide, gd (i := 459) (by decide +kernel) (by decide +kernel), rfl, by decide +kernel⟩
theorem fl_Dr_43 : FL "SandGuards$Dryings" 43 1 1 := ⟨_, _, _, k_Dr, by decide, gd (i := 461) (by decide +kernel) (by decide +kernel)⟩
theorem fp_Dr_43 : FP "SandGuards$Dryings" 43 1 1 .int := ⟨_, _, _, k_Dr, by decide, gd (i := 461) (by decide +kernel) (by decide +kernel), rfl, by decide +kernel⟩
theorem fl_Dr_46 : FL "SandGuards$Dryings" 46 6 3 := ⟨_, _, _, k_Pl, by decide, gd (i := 200) (by decide +kernel) (by decide +kernel)⟩
theorem fl_Dr_51 : FL "SandGuards$Dryings" 51 6 7 := ⟨_, _, _, k_Pl, by decide, gd (i := 219) (by decide +kernel) (by decide +kernel)⟩
theorem fl_Dr_54 : FL "SandGuards$Dryings" 54 0 3 := ⟨_, _, _, k_Ca, by decide, gd (i := 266) (by decide +kernel) (by decide +kernel)⟩
theorem fl_Dr_66 : FL "SandGuards$Dryings" 66 1 2 := ⟨_, _, _, k_Dr, by decide, gd (i := 463) (by decide +kernel) (by decide +kernel)⟩
theorem fp_Dr_66 : FP "SandGuards$Dryings" 66 1 2 .int := ⟨_, _, _, k_Dr, by decide, gd (i := 463) (by decide +kernel) (by decide +kernel), rfl, by decide +kernel⟩
theorem fl_Dr_69 : FL "SandGuards$Dryings" 69 1 3 := ⟨_, _, _, k_Dr, by decide, gd (i := 465) (by decide +kernel) (by decide +kernel)⟩
theorem fp_Dr_69 : FP "SandGuards$Dryings" 69 1 3 .int := ⟨_, _, _, k_Dr, by decide, gd (i := 465) (by decide +kernel) (by decide +kernel), rfl, by decide +kernel⟩
theorem fl_Ga_11 : FL "SandGuards$Game" 11 2 0 := ⟨_, _, _, k_Ga, by decide, gd (i := 499) (by decide +kernel) (by decide +kernel)⟩
theorem fl_Ga_18 : FL "SandGuards$Game" 18 2 3 := ⟨_, _, _, k_Ga, by decide, gd (i := 505) (by decide +kernel) (by decide +kernel)⟩
theorem fl_Ga_22 : FL "SandGuards$Game" 22 2 4 := ⟨_, _, _, k_Ga, by decide, gd (i := 506) (by decide +kernel) (by decide +kernel)⟩
theorem fl_Ga_25 : FL "SandGuards$Game" 25 2 2 := ⟨_, _, _, k_Ga, by decide, gd (i := 503) (by decide +kernel) (by decide +kernel)⟩
theorem fp_Ga_25 : FP "SandGuards$Game" 25 2 2 .boolean := ⟨_, _, _, k_Ga, by decide, gd (i := 503) (by decide +kernel) (by decide +kernel), rfl, by decide +kernel⟩
theorem fl_Ga_29 : FL "SandGuards$Game" 29 2 5 := ⟨_, _, _, k_Ga, by decide, gd (i := 507) (by decide +kernel) (by decide +kernel)⟩
theorem fp_Ga_29 : FP "SandGuards$Game" 29 2 5 .int := ⟨_, _, _, k_Ga, by decide, gd (i := 507) (by decide +kernel) (by decide +kernel), rfl, by decide +kernel⟩
theorem fl_Ga_33 : FL "SandGuards$Game" 33 2 6 := ⟨_, _, _, k_Ga, by decide, gd (i := 508) (by decide +kernel) (by decide +kernel)⟩
theorem fp_Ga_33 : FP "SandGuards$Game" 33 2 6 .int := ⟨_, _, _, k_Ga, by decide, gd (i := 508) (by decide +kernel) (by decide +kernel), rfl, by decide +kernel⟩
theorem fl_Ga_40 : FL "SandGuards$Game" 40 6 3 := ⟨_, _, _, k_Pl, by decide, gd (i := 198) (by decide +kernel) (by decide +kernel)⟩
theorem fl_Ga_61 : FL "SandGuards$Game" 61 2 1 := ⟨_, _, _, k_Ga, by decide, gd (i := 501) (by decide +kernel) (by decide +kernel)⟩
theorem fp_Ga_61 : FP "SandGuards$Game" 61 2 1 .int := ⟨_, _, _, k_Ga, by decide, gd (i := 501) (by decide +kernel) (by decide +kernel), rfl, by decide +kernel⟩
theorem fl_Ga_68 : FL "SandGuards$Game" 68 0 2 := ⟨_, _, _, k_Ca, by decide, gd (i := 262) (by decide +kernel) (by decide +kernel)⟩
theorem fl_Ga_71 : FL "SandGuards$Game" 71 0 0 := ⟨_, _, _, k_Ca, by decide, gd (i := 252) (by decide +kernel) (by decide +kernel)⟩
theorem fl_Ga_83 : FL "SandGuards$Game" 83 0 7 := ⟨_, _, _, k_Ca, by decide, gd (i := 277) (by decide +kernel) (by decide +kernel)⟩
theorem fl_Hi_11 : FL "SandGuards$History" 11 3 1 := ⟨_, _, _, k_Hi, by decide, gd (i := 421) (by decide +kernel) (by decide +kernel)⟩
theorem fl_Hi_16 : FL "SandGuards$History" 16 3 2 := ⟨_, _, _, k_Hi, by decide, gd (i := 422) (by decide +kernel) (by decide +kernel)⟩
theorem fp_Hi_16 : FP "SandGuards$History" 16 3 2 .int := ⟨_, _, _, k_Hi, by decide, gd (i := 422) (by decide +kernel) (by decide +kernel), rfl, by decide +kernel⟩
theorem fl_Hi_24 : FL "SandGuards$History" 24 3 0 := ⟨_, _, _, k_Hi, by decide, gd (i := 419) (by decide +kernel) (by decide +kernel)⟩
theorem fp_Hi_24 : FP "SandGuards$History" 24 3 0 .int := ⟨_, _, _, k_Hi, by decide, gd (i := 419) (by decide +kernel) (by decide +kernel), rfl, by decide +kernel⟩
theorem fl_La_11 : FL "SandGuards$Law" 11 4 2 := ⟨_, _, _, k_La, by decide, gd (i := 162) (by decide +kernel) (by decide +kernel)⟩
theorem fl_La_15 : FL "SandGuards$Law" 15 4 3 := ⟨_, _, _, k_La, by decide, gd (i := 163) (by decide +kernel) (by decide +kernel)⟩
theorem fl_La_18 : FL "SandGuards$Law" 18 4 4 := ⟨_, _, _, k_La, by decide, gd (i := 164) (by decide +kernel) (by decide +kernel)⟩
theorem fl_La_21 : FL "SandGuards$Law" 21 4 5 := ⟨_, _, _, k_La, by decide, gd (i := 165) (by decide +kernel) (by decide +kernel)⟩
theorem fl_La_24 : FL "SandGuards$Law" 24 4 6 := ⟨_, _, _, k_La, by decide, gd (i := 166) (by decide +kernel) (by decide +kernel)⟩
theorem fl_La_27 : FL "SandGuards$Law" 27 4 7 := ⟨_, _, _, k_La, by decide, gd (i := 167) (by decide +kernel) (by decide +kernel)⟩
theorem fp_La_27 : FP "SandGuards$Law" 27 4 7 .int := ⟨_, _, _, k_La, by decide, gd (i := 167) (by decide +kernel) (by decide +kernel), rfl, by decide +kernel⟩
theorem fl_La_31 : FL "SandGuards$Law" 31 4 8 := ⟨_, _, _, k_La, by decide, gd (i := 168) (by decide +kernel) (by decide +kernel)⟩
theorem fp_La_31 : FP "SandGuards$Law" 31 4 8 .int := ⟨_, _, _, k_La, by decide, gd (i := 168) (by decide +kernel) (by decide +kernel), rfl, by decide +kernel⟩
theorem fl_La_34 : FL "SandGuards$Law" 34 4 0 := ⟨_, _, _, k_La, by decide, gd (i := 156) (by decide +kernel) (by decide +kernel)⟩
theorem fp_La_34 : FP "SandGuards$Law" 34 4 0 .boolean := ⟨_, _, _, k_La, by decide, gd (i := 156) (by decide +kernel) (by decide +kernel), rfl, by decide +kernel⟩
theorem fl_La_38 : FL "SandGuards$Law" 38 4 1 := ⟨_, _, _, k_La, by decide, gd (i := 160) (by decide +kernel) (by decide +kernel)⟩
theorem fp_La_38 : FP "SandGuards$Law" 38 4 1 .boolean := ⟨_, _, _, k_La, by decide, gd (i := 160) (by decide +kernel) (by decide +kernel), rfl, by decide +kernel⟩
theorem fl_Ou_12 : FL "SandGuards$Outlook" 12 5 0 := ⟨_, _, _, k_Ou, by decide, gd (i := 438) (by decide +kernel) (by decide +kernel)⟩
theorem fl_Ou_26 : FL "SandGuards$Outlook" 26 0 0 := ⟨_, _, _, k_Ca, by decide, gd (i := 251) (by decide +kernel) (by decide +kernel)⟩
theorem fl_Ou_30 : FL "SandGuards$Outlook" 30 0 12 := ⟨_, _, _, k_Ca, by decide, gd (i := 288) (by decide +kernel) (by decide +kernel)⟩
theorem fp_Ou_30 : FP "SandGuards$Outlook" 30 0 12 .int := ⟨_, _, _, k_Ca, by decide, gd (i := 288) (by decide +kernel) (by decide +kernel), rfl, by decide +kernel⟩
theorem fl_Ou_48 : FL "SandGuards$Outlook" 48 0 9 := ⟨_, _, _, k_Ca, by decide, gd (i := 283) (by decide +kernel) (by decide +kernel)⟩
theorem fl_Ou_61 : FL "SandGuards$Outlook" 61 0 6 := ⟨_, _, _, k_Ca, by decide, gd (i := 274) (by decide +kernel) (by decide +kernel)⟩
theorem fl_Ou_64 : FL "SandGuards$Outlook" 64 6 2 := ⟨_, _, _, k_Pl, by decide, gd (i := 194) (by decide +kernel) (by decide +kernel)⟩
theorem fl_Ou_68 : FL "SandGuards$Outlook" 68 4 0 := ⟨_, _, _, k_La, by decide, gd (i := 158) (by decide +kernel) (by decide +kernel)⟩
theorem fl_Ou_85 : FL "SandGuards$Outlook" 85 6 4 := ⟨_, _, _, k_Pl, by decide, gd (i := 208) (by decide +kernel) (by decide +kernel)⟩
theorem fl_Ou_88 : FL "SandGuards$Outlook" 88 0 7 := ⟨_, _, _, k_Ca, by decide, gd (i := 278) (by decide +kernel) (by decide +kernel)⟩
theorem fl_Ou_94 : FL "SandGuards$Outlook" 94 5 1 := ⟨_, _, _, k_Ou, by decide, gd (i := 440) (by decide +kernel) (by decide +kernel)⟩
theorem fp_Ou_94 : FP "SandGuards$Outlook" 94 5 1 .int := ⟨_, _, _, k_Ou, by decide, gd (i := 440) (by decide +kernel) (by decide +kernel), rfl, by decide +kernel⟩
theorem fl_Ou_97 : FL "SandGuards$Outlook" 97 5 2 := ⟨_, _, _, k_Ou, by decide, gd (i := 442) (by decide +kernel) (by decide +kernel)⟩
theorem fp_Ou_97 : FP "SandGuards$Outlook" 97 5 2 .int := ⟨_, _, _, k_Ou, by decide, gd (i := 442) (by decide +kernel) (by decide +kernel), rfl, by decide +kernel⟩
theorem fl_Ou_100 : FL "SandGuards$Outlook" 100 6 3 := ⟨_, _, _, k_Pl, by decide, gd (i := 203) (by decide +kernel) (by decide +kernel)⟩
theorem fl_Pl_9 : FL "SandGuards$Plan" 9 6 0 := ⟨_, _, _, k_Pl, by decide, gd (i := 189) (by decide +kernel) (by decide +kernel)⟩
theorem fl_Pl_15 : FL "SandGuards$Plan" 15 6 1 := ⟨_, _, _, k_Pl, by decide, gd (i := 191) (by decide +kernel) (by decide +kernel)⟩
theorem fl_Pl_21 : FL "SandGuards$Plan" 21 6 2 := ⟨_, _, _, k_Pl, by decide, gd (i := 193) (by decide +kernel) (by decide +kernel)⟩
theorem fl_Pl_25 : FL "SandGuards$Plan" 25 6 6 := ⟨_, _, _, k_Pl, by decide, gd (i := 214) (by decide +kernel) (by decide +kernel)⟩
theorem fp_Pl_25 : FP "SandGuards$Plan" 25 6 6 .int := ⟨_, _, _, k_Pl, by decide, gd (i := 214) (by decide +kernel) (by decide +kernel), rfl, by decide +kernel⟩
theorem fl_Pl_29 : FL "SandGuards$Plan" 29 6 8 := ⟨_, _, _, k_Pl, by decide, gd (i := 220) (by decide +kernel) (by decide +kernel)⟩
theorem fl_Pl_32 : FL "SandGuards$Plan" 32 6 3 := ⟨_, _, _, k_Pl, by decide, gd (i := 197) (by decide +kernel) (by decide +kernel)⟩
theorem fp_Pl_32 : FP "SandGuards$Plan" 32 6 3 .int := ⟨_, _, _, k_Pl, by decide, gd (i := 197) (by decide +kernel) (by decide +kernel), rfl, by decide +kernel⟩
theorem fl_Pl_35 : FL "SandGuards$Plan" 35 6 4 := ⟨_, _, _, k_Pl, by decide, gd (i := 205) (by decide +kernel) (by decide +kernel)⟩
theorem fp_Pl_35 : FP "SandGuards$Plan" 35 6 4 .int := ⟨_, _, _, k_Pl, by decide, gd (i := 205) (by decide +kernel) (by decide +kernel), rfl, by decide +kernel⟩
theorem fl_Pl_38 : FL "SandGuards$Plan" 38 6 5 := ⟨_, _, _, k_Pl, by decide, gd (i := 210) (by decide +kernel) (by decide +kernel)⟩
theorem fp_Pl_38 : FP "SandGuards$Plan" 38 6 5 .int := ⟨_, _, _, k_Pl, by decide, gd (i := 210) (by decide +kernel) (by decide +kernel), rfl, by decide +kernel⟩
theorem fl_Pl_48 : FL "SandGuards$Plan" 48 4 1 := ⟨_, _, _, k_La, by decide, gd (i := 161) (by decide +kernel) (by decide +kernel)⟩
theorem fl_Pl_52 : FL "SandGuards$Plan" 52 6 7 := ⟨_, _, _, k_Pl, by decide, gd (i := 218) (by decide +kernel) (by decide +kernel)⟩
theorem fp_Pl_52 : FP "SandGuards$Plan" 52 6 7 .boolean := ⟨_, _, _, k_Pl, by decide, gd (i := 218) (by decide +kernel) (by decide +kernel), rfl, by decide +kernel⟩
theorem fl_Pl_55 : FL "SandGuards$Plan" 55 4 0 := ⟨_, _, _, k_La, by decide, gd (i := 157) (by decide +kernel) (by decide +kernel)⟩
theorem fl_Pl_72 : FL "SandGuards$Plan" 72 0 0 := ⟨_, _, _, k_Ca, by decide, gd (i := 255) (by decide +kernel) (by decide +kernel)⟩
theorem fl_Pl_77 : FL "SandGuards$Plan" 77 0 3 := ⟨_, _, _, k_Ca, by decide, gd (i := 267) (by decide +kernel) (by decide +kernel)⟩
theorem fl_Pl_81 : FL "SandGuards$Plan" 81 0 1 := ⟨_, _, _, k_Ca, by decide, gd (i := 259) (by decide +kernel) (by decide +kernel)⟩
theorem fl_Pl_84 : FL "SandGuards$Plan" 84 0 12 := ⟨_, _, _, k_Ca, by decide, gd (i := 290) (by decide +kernel) (by decide +kernel)⟩
theorem fl_Re_14 : FL "SandGuards$Reader" 14 7 0 := ⟨_, _, _, k_Re, by decide, gd (i := 351) (by decide +kernel) (by decide +kernel)⟩
theorem fl_Re_21 : FL "SandGuards$Reader" 21 7 1 := ⟨_, _, _, k_Re, by decide, gd (i := 353) (by decide +kernel) (by decide +kernel)⟩
theorem fl_Re_28 : FL "SandGuards$Reader" 28 7 3 := ⟨_, _, _, k_Re, by decide, gd (i := 357) (by decide +kernel) (by decide +kernel)⟩
theorem fl_Re_32 : FL "SandGuards$Reader" 32 7 4 := ⟨_, _, _, k_Re, by decide, gd (i := 358) (by decide +kernel) (by decide +kernel)⟩
theorem fl_Re_36 : FL "SandGuards$Reader" 36 7 5 := ⟨_, _, _, k_Re, by decide, gd (i := 359) (by decide +kernel) (by decide +kernel)⟩
theorem fl_Re_39 : FL "SandGuards$Reader" 39 7 6 := ⟨_, _, _, k_Re, by decide, gd (i := 360) (by decide +kernel) (by decide +kernel)⟩
theorem fl_Re_43 : FL "SandGuards$Reader" 43 7 8 := ⟨_, _, _, k_Re, by decide, gd (i := 362) (by decide +kernel) (by decide +kernel)⟩
theorem fl_Re_56 : FL "SandGuards$Reader" 56 7 10 := ⟨_, _, _, k_Re, by decide, gd (i := 364) (by decide +kernel) (by decide +kernel)⟩
theorem fp_Re_56 : FP "SandGuards$Reader" 56 7 10 .int := ⟨_, _, _, k_Re, by decide, gd (i := 364) (by decide +kernel) (by decide +kernel), rfl, by decide +kernel⟩
theorem fl_Re_60 : FL "SandGuards$Reader" 60 7 11 := ⟨_, _, _, k_Re, by decide, gd (i := 365) (by decide +kernel) (by decide +kernel)⟩
theorem fp_Re_60 : FP "SandGuards$Reader" 60 7 11 .int := ⟨_, _, _, k_Re, by decide, gd (i := 365) (by decide +kernel) (by decide +kernel), rfl, by decide +kernel⟩
theorem fl_Re_63 : FL "SandGuards$Reader" 63 7 12 := ⟨_, _, _, k_Re, by decide, gd (i := 366) (by decide +kernel) (by decide +kernel)⟩
theorem fp_Re_63 : FP "SandGuards$Reader" 63 7 12 .int := ⟨_, _, _, k_Re, by decide, gd (i := 366) (by decide +kernel) (by decide +kernel), rfl, by decide +kernel⟩
theorem fl_Re_66 : FL "SandGuards$Reader" 66 7 15 := ⟨_, _, _, k_Re, by decide, gd (i := 369) (by decide +kernel) (by decide +kernel)⟩
theorem fp_Re_66 : FP "SandGuards$Reader" 66 7 15 .int := ⟨_, _, _, k_Re, by decide, gd (i := 369) (by decide +kernel) (by decide +kernel), rfl, by decide +kernel⟩
theorem fl_Re_69 : FL "SandGuards$Reader" 69 7 2 := ⟨_, _, _, k_Re, by decide, gd (i := 355) (by decide +kernel) (by decide +kernel)⟩
theorem fp_Re_69 : FP "SandGuards$Reader" 69 7 2 .int := ⟨_, _, _, k_Re, by decide, gd (i := 355) (by decide +kernel) (by decide +kernel), rfl, by decide +kernel⟩
theorem fl_Re_80 : FL "SandGuards$Reader" 80 7 16 := ⟨_, _, _, k_Re, by decide, gd (i := 370) (by decide +kernel) (by decide +kernel)⟩
theorem fp_Re_80 : FP "SandGuards$Reader" 80 7 16 .int := ⟨_, _, _, k_Re, by decide, gd (i := 370) (by decide +kernel) (by decide +kernel), rfl, by decide +kernel⟩
theorem fl_Re_105 : FL "SandGuards$Reader" 105 6 3 := ⟨_, _, _, k_Pl, by decide, gd (i := 199) (by decide +kernel) (by decide +kernel)⟩
theorem fp_Re_105 : FP "SandGuards$Reader" 105 6 3 .int := ⟨_, _, _, k_Pl, by decide, gd (i := 199) (by decide +kernel) (by decide +kernel), rfl, by decide +kernel⟩
theorem fl_Re_114 : FL "SandGuards$Reader" 114 7 14 := ⟨_, _, _, k_Re, by decide, gd (i := 368) (by decide +kernel) (by decide +kernel)⟩
theorem fp_Re_114 : FP "SandGuards$Reader" 114 7 14 .long := ⟨_, _, _, k_Re, by decide, gd (i := 368) (by decide +kernel) (by decide +kernel), rfl, by decide +kernel⟩
theorem fl_Re_121 : FL "SandGuards$Reader" 121 0 0 := ⟨_, _, _, k_Ca, by decide, gd (i := 253) (by decide +kernel) (by decide +kernel)⟩
theorem fl_Re_124 : FL "SandGuards$Reader" 124 7 13 := ⟨_, _, _, k_Re, by decide, gd (i := 367) (by decide +kernel) (by decide +kernel)⟩
theorem fp_Re_124 : FP "SandGuards$Reader" 124 7 13 .int := ⟨_, _, _, k_Re, by decide, gd (i := 367) (by decide +kernel) (by decide +kernel), rfl, by decide +kernel⟩
theorem fl_Re_127 : FL "SandGuards$Reader" 127 0 1 := ⟨_, _, _, k_Ca, by decide, gd (i := 258) (by decide +kernel) (by decide +kernel)⟩
theorem fl_Re_130 : FL "SandGuards$Reader" 130 6 0 := ⟨_, _, _, k_Pl, by decide, gd (i := 190) (by decide +kernel) (by decide +kernel)⟩
theorem fl_Re_133 : FL "SandGuards$Reader" 133 6 4 := ⟨_, _, _, k_Pl, by decide, gd (i := 206) (by decide +kernel) (by decide +kernel)⟩
theorem fp_Re_133 : FP "SandGuards$Reader" 133 6 4 .int := ⟨_, _, _, k_Pl, by decide, gd (i := 206) (by decide +kernel) (by decide +kernel), rfl, by decide +kernel⟩
theorem fl_Re_143 : FL "SandGuards$Reader" 143 10 1 := ⟨_, _, _, k_To, by decide, gd (i := 336) (by decide +kernel) (by decide +kernel)⟩
theorem fl_Re_146 : FL "SandGuards$Reader" 146 10 3 := ⟨_, _, _, k_To, by decide, gd (i := 340) (by decide +kernel) (by decide +kernel)⟩
theorem fl_Re_155 : FL "SandGuards$Reader" 155 0 2 := ⟨_, _, _, k_Ca, by decide, gd (i := 263) (by decide +kernel) (by decide +kernel)⟩
theorem fl_Re_161 : FL "SandGuards$Reader" 161 6 5 := ⟨_, _, _, k_Pl, by decide, gd (i := 212) (by decide +kernel) (by decide +kernel)⟩
theorem fp_Re_161 : FP "SandGuards$Reader" 161 6 5 .int := ⟨_, _, _, k_Pl, by decide, gd (i := 212) (by decide +kernel) (by decide +kernel), rfl, by decide +kernel⟩
theorem fl_Re_164 : FL "SandGuards$Reader" 164 6 1 := ⟨_, _, _, k_Pl, by decide, gd (i := 192) (by decide +kernel) (by decide +kernel)⟩
theorem fl_Re_167 : FL "SandGuards$Reader" 167 6 6 := ⟨_, _, _, k_Pl, by decide, gd (i := 215) (by decide +kernel) (by decide +kernel)⟩
theorem fp_Re_167 : FP "SandGuards$Reader" 167 6 6 .int := ⟨_, _, _, k_Pl, by decide, gd (i := 215) (by decide +kernel) (by decide +kernel), rfl, by decide +kernel⟩
theorem fl_Re_170 : FL "SandGuards$Reader" 170 6 2 := ⟨_, _, _, k_Pl, by decide, gd (i := 196) (by decide +kernel) (by decide +kernel)⟩
theorem fl_Re_196 : FL "SandGuards$Reader" 196 7 7 := ⟨_, _, _, k_Re, by decide, gd (i := 361) (by decide +kernel) (by decide +kernel)⟩
theorem fp_Re_196 : FP "SandGuards$Reader" 196 7 7 .int := ⟨_, _, _, k_Re, by decide, gd (i := 361) (by decide +kernel) (by decide +kernel), rfl, by decide +kernel⟩
theorem fl_Re_199 : FL "SandGuards$Reader" 199 7 9 := ⟨_, _, _, k_Re, by decide, gd (i := 363) (by decide +kernel) (by decide +kernel)⟩
theorem fp_Re_199 : FP "SandGuards$Reader" 199 7 9 .int := ⟨_, _, _, k_Re, by decide, gd (i := 363) (by decide +kernel) (by decide +kernel), rfl, by decide +kernel⟩
theorem fl_Re_215 : FL "SandGuards$Reader" 215 10 2 := ⟨_, _, _, k_To, by decide, gd (i := 338) (by decide +kernel) (by decide +kernel)⟩
theorem fl_Re_230 : FL "SandGuards$Reader" 230 10 0 := ⟨_, _, _, k_To, by decide, gd (i := 334) (by decide +kernel) (by decide +kernel)⟩
theorem fl_Ru_11 : FL "SandGuards$Rumours" 11 8 0 := ⟨_, _, _, k_Ru, by decide, gd (i := 532) (by decide +kernel) (by decide +kernel)⟩
theorem fl_Ru_18 : FL "SandGuards$Rumours" 18 8 3 := ⟨_, _, _, k_Ru, by decide, gd (i := 538) (by decide +kernel) (by decide +kernel)⟩
theorem fl_Ru_22 : FL "SandGuards$Rumours" 22 8 4 := ⟨_, _, _, k_Ru, by decide, gd (i := 539) (by decide +kernel) (by decide +kernel)⟩
theorem fl_Ru_25 : FL "SandGuards$Rumours" 25 8 5 := ⟨_, _, _, k_Ru, by decide, gd (i := 540) (by decide +kernel) (by decide +kernel)⟩
theorem fl_Ru_28 : FL "SandGuards$Rumours" 28 8 6 := ⟨_, _, _, k_Ru, by decide, gd (i := 541) (by decide +kernel) (by decide +kernel)⟩
theorem fl_Ru_31 : FL "SandGuards$Rumours" 31 8 2 := ⟨_, _, _, k_Ru, by decide, gd (i := 536) (by decide +kernel) (by decide +kernel)⟩
theorem fp_Ru_31 : FP "SandGuards$Rumours" 31 8 2 .int := ⟨_, _, _, k_Ru, by decide, gd (i := 536) (by decide +kernel) (by decide +kernel), rfl, by decide +kernel⟩
theorem fl_Ru_35 : FL "SandGuards$Rumours" 35 8 7 := ⟨_, _, _, k_Ru, by decide, gd (i := 542) (by decide +kernel) (by decide +kernel)⟩
theorem fp_Ru_35 : FP "SandGuards$Rumours" 35 8 7 .boolean := ⟨_, _, _, k_Ru, by decide, gd (i := 542) (by decide +kernel) (by decide +kernel), rfl, by decide +kernel⟩
theorem fl_Ru_39 : FL "SandGuards$Rumours" 39 8 8 := ⟨_, _, _, k_Ru, by decide, gd (i := 543) (by decide +kernel) (by decide +kernel)⟩
theorem fp_Ru_39 : FP "SandGuards$Rumours" 39 8 8 .int := ⟨_, _, _, k_Ru, by decide, gd (i := 543) (by decide +kernel) (by decide +kernel), rfl, by decide +kernel⟩
theorem fl_Ru_42 : FL "SandGuards$Rumours" 42 8 9 := ⟨_, _, _, k_Ru, by decide, gd (i := 544) (by decide +kernel) (by decide +kernel)⟩
theorem fp_Ru_42 : FP "SandGuards$Rumours" 42 8 9 .int := ⟨_, _, _, k_Ru, by decide, gd (i := 544) (by decide +kernel) (by decide +kernel), rfl, by decide +kernel⟩
theorem fl_Ru_49 : FL "SandGuards$Rumours" 49 8 1 := ⟨_, _, _, k_Ru, by decide, gd (i := 534) (by decide +kernel) (by decide +kernel)⟩
theorem fp_Ru_49 : FP "SandGuards$Rumours" 49 8 1 .int := ⟨_, _, _, k_Ru, by decide, gd (i := 534) (by decide +kernel) (by decide +kernel), rfl, by decide +kernel⟩
theorem fl_Ru_52 : FL "SandGuards$Rumours" 52 6 3 := ⟨_, _, _, k_Pl, by decide, gd (i := 201) (by decide +kernel) (by decide +kernel)⟩
theorem fl_Ru_61 : FL "SandGuards$Rumours" 61 0 0 := ⟨_, _, _, k_Ca, by decide, gd (i := 254) (by decide +kernel) (by decide +kernel)⟩
theorem fl_Ru_74 : FL "SandGuards$Rumours" 74 0 13 := ⟨_, _, _, k_Ca, by decide, gd (i := 293) (by decide +kernel) (by decide +kernel)⟩
theorem fl_Ta_9 : FL "SandGuards$Tape" 9 9 0 := ⟨_, _, _, k_Ta, by decide, gd (i := 127) (by decide +kernel) (by decide +kernel)⟩
theorem fl_Ta_13 : FL "SandGuards$Tape" 13 9 1 := ⟨_, _, _, k_Ta, by decide, gd (i := 129) (by decide +kernel) (by decide +kernel)⟩
theorem fp_Ta_13 : FP "SandGuards$Tape" 13 9 1 .int := ⟨_, _, _, k_Ta, by decide, gd (i := 129) (by decide +kernel) (by decide +kernel), rfl, by decide +kernel⟩
theorem fl_To_11 : FL "SandGuards$Tokens" 11 10 0 := ⟨_, _, _, k_To, by decide, gd (i := 333) (by decide +kernel) (by decide +kernel)⟩
theorem fl_To_15 : FL "SandGuards$Tokens" 15 10 1 := ⟨_, _, _, k_To, by decide, gd (i := 335) (by decide +kernel) (by decide +kernel)⟩
theorem fl_To_18 : FL "SandGuards$Tokens" 18 10 2 := ⟨_, _, _, k_To, by decide, gd (i := 337) (by decide +kernel) (by decide +kernel)⟩
theorem fl_To_21 : FL "SandGuards$Tokens" 21 10 3 := ⟨_, _, _, k_To, by decide, gd (i := 339) (by decide +kernel) (by decide +kernel)⟩
theorem fl_To_29 : FL "SandGuards$Tokens" 29 9 1 := ⟨_, _, _, k_Ta, by decide, gd (i := 130) (by decide +kernel) (by decide +kernel)⟩
theorem fl_To_39 : FL "SandGuards$Tokens" 39 9 0 := ⟨_, _, _, k_Ta, by decide, gd (i := 128) (by decide +kernel) (by decide +kernel)⟩
theorem fl_Mo_13 : FL "SandGuardsModel" 13 12 1 := ⟨_, _, _, k_Mo, by decide, gd (i := 1206) (by decide +kernel) (by decide +kernel)⟩
theorem fl_Mo_17 : FL "SandGuardsModel" 17 12 3 := ⟨_, _, _, k_Mo, by decide, gd (i := 1208) (by decide +kernel) (by decide +kernel)⟩
theorem fl_Mo_20 : FL "SandGuardsModel" 20 12 5 := ⟨_, _, _, k_Mo, by decide, gd (i := 1210) (by decide +kernel) (by decide +kernel)⟩
theorem fl_Mo_24 : FL "SandGuardsModel" 24 12 6 := ⟨_, _, _, k_Mo, by decide, gd (i := 1211) (by decide +kernel) (by decide +kernel)⟩
theorem fl_Mo_27 : FL "SandGuardsModel" 27 12 7 := ⟨_, _, _, k_Mo, by decide, gd (i := 1212) (by decide +kernel) (by decide +kernel)⟩
theorem fl_Mo_30 : FL "SandGuardsModel" 30 12 8 := ⟨_, _, _, k_Mo, by decide, gd (i := 1213) (by decide +kernel) (by decide +kernel)⟩
theorem fl_Mo_34 : FL "SandGuardsModel" 34 12 9 := ⟨_, _, _, k_Mo, by decide, gd (i := 1214) (by decide +kernel) (by decide +kernel)⟩
theorem fl_Mo_37 : FL "SandGuardsModel" 37 12 17 := ⟨_, _, _, k_Mo, by decide, gd (i := 1222) (by decide +kernel) (by decide +kernel)⟩
theorem fp_Mo_37 : FP "SandGuardsModel" 37 12 17 .int := ⟨_, _, _, k_Mo, by decide, gd (i := 1222) (by decide +kernel) (by decide +kernel), rfl, by decide +kernel⟩
theorem fl_Mo_40 : FL "SandGuardsModel" 40 12 21 := ⟨_, _, _, k_Mo, by decide, gd (i := 1226) (by decide +kernel) (by decide +kernel)⟩
theorem fl_Mo_43 : FL "SandGuardsModel" 43 12 22 := ⟨_, _, _, k_Mo, by decide, gd (i := 1227) (by decide +kernel) (by decide +kernel)⟩
theorem fl_Mo_46 : FL "SandGuardsModel" 46 12 23 := ⟨_, _, _, k_Mo, by decide, gd (i := 1228) (by decide +kernel) (by decide +kernel)⟩
theorem fl_Mo_49 : FL "SandGuardsModel" 49 12 24 := ⟨_, _, _, k_Mo, by decide, gd (i := 1229) (by decide +kernel) (by decide +kernel)⟩
theorem fl_Mo_52 : FL "SandGuardsModel" 52 12 25 := ⟨_, _, _, k_Mo, by decide, gd (i := 1230) (by decide +kernel) (by decide +kernel)⟩
theorem fl_Mo_55 : FL "SandGuardsModel" 55 12 26 := ⟨_, _, _, k_Mo, by decide, gd (i := 1231) (by decide +kernel) (by decide +kernel)⟩
theorem fl_Mo_58 : FL "SandGuardsModel" 58 12 27 := ⟨_, _, _, k_Mo, by decide, gd (i := 1232) (by decide +kernel) (by decide +kernel)⟩
theorem fl_Mo_61 : FL "SandGuardsModel" 61 12 28 := ⟨_, _, _, k_Mo, by decide, gd (i := 1233) (by decide +kernel) (by decide +kernel)⟩
theorem fl_Mo_64 : FL "SandGuardsModel" 64 12 29 := ⟨_, _, _, k_Mo, by decide, gd (i := 1234) (by decide +kernel) (by decide +kernel)⟩
theorem fl_Mo_67 : FL "SandGuardsModel" 67 12 30 := ⟨_, _, _, k_Mo, by decide, gd (i := 1235) (by decide +kernel) (by decide +kernel)⟩
theorem fl_Mo_70 : FL "SandGuardsModel" 70 12 31 := ⟨_, _, _, k_Mo, by decide, gd (i := 1236) (by decide +kernel) (by decide +kernel)⟩
theorem fl_Mo_73 : FL "SandGuardsModel" 73 12 32 := ⟨_, _, _, k_Mo, by decide, gd (i := 1237) (by decide +kernel) (by decide +kernel)⟩
theorem fl_Mo_76 : FL "SandGuardsModel" 76 12 33 := ⟨_, _, _, k_Mo, by decide, gd (i := 1238) (by decide +kernel) (by decide +kernel)⟩
theorem fl_Mo_79 : FL "SandGuardsModel" 79 12 34 := ⟨_, _, _, k_Mo, by decide, gd (i := 1239) (by decide +kernel) (by decide +kernel)⟩
theorem fl_Mo_82 : FL "SandGuardsModel" 82 12 35 := ⟨_, _, _, k_Mo, by decide, gd (i := 1240) (by decide +kernel) (by decide +kernel)⟩
theorem fl_Mo_85 : FL "SandGuardsModel" 85 12 37 := ⟨_, _, _, k_Mo, by decide, gd (i := 1242) (by decide +kernel) (by decide +kernel)⟩
theorem fl_Mo_89 : FL "SandGuardsModel" 89 12 38 := ⟨_, _, _, k_Mo, by decide, gd (i := 1243) (by decide +kernel) (by decide +kernel)⟩
theorem fl_Mo_92 : FL "SandGuardsModel" 92 12 39 := ⟨_, _, _, k_Mo, by decide, gd (i := 1244) (by decide +kernel) (by decide +kernel)⟩
theorem fl_Mo_95 : FL "SandGuardsModel" 95 12 40 := ⟨_, _, _, k_Mo, by decide, gd (i := 1245) (by decide +kernel) (by decide +kernel)⟩
theorem fl_Mo_98 : FL "SandGuardsModel" 98 12 41 := ⟨_, _, _, k_Mo, by decide, gd (i := 1246) (by decide +kernel) (by decide +kernel)⟩
theorem fl_Mo_101 : FL "SandGuardsModel" 101 12 43 := ⟨_, _, _, k_Mo, by decide, gd (i := 1248) (by decide +kernel) (by decide +kernel)⟩
theorem fl_Mo_104 : FL "SandGuardsModel" 104 12 44 := ⟨_, _, _, k_Mo, by decide, gd (i := 1249) (by decide +kernel) (by decide +kernel)⟩
theorem fl_Mo_107 : FL "SandGuardsModel" 107 12 45 := ⟨_, _, _, k_Mo, by decide, gd (i := 1250) (by decide +kernel) (by decide +kernel)⟩
theorem fl_Mo_110 : FL "SandGuardsModel" 110 12 47 := ⟨_, _, _, k_Mo, by decide, gd (i := 1252) (by decide +kernel) (by decide +kernel)⟩
theorem fl_Mo_113 : FL "SandGuardsModel" 113 12 48 := ⟨_, _, _, k_Mo, by decide, gd (i := 1253) (by decide +kernel) (by decide +kernel)⟩
theorem fl_Mo_116 : FL "SandGuardsModel" 116 12 50 := ⟨_, _, _, k_Mo, by decide, gd (i := 1255) (by decide +kernel) (by decide +kernel)⟩
theorem fl_Mo_119 : FL "SandGuardsModel" 119 12 51 := ⟨_, _, _, k_Mo, by decide, gd (i := 1256) (by decide +kernel) (by decide +kernel)⟩
theorem fl_Mo_122 : FL "SandGuardsModel" 122 12 53 := ⟨_, _, _, k_Mo, by decide, gd (i := 1258) (by decide +kernel) (by decide +kernel)⟩
theorem fl_Mo_125 : FL "SandGuardsModel" 125 12 54 := ⟨_, _, _, k_Mo, by decide, gd (i := 1259) (by decide +kernel) (by decide +kernel)⟩
theorem fl_Mo_128 : FL "SandGuardsModel" 128 12 56 := ⟨_, _, _, k_Mo, by decide, gd (i := 1261) (by decide +kernel) (by decide +kernel)⟩
theorem fl_Mo_131 : FL "SandGuardsModel" 131 12 57 := ⟨_, _, _, k_Mo, by decide, gd (i := 1262) (by decide +kernel) (by decide +kernel)⟩
theorem fl_Mo_134 : FL "SandGuardsModel" 134 12 58 := ⟨_, _, _, k_Mo, by decide, gd (i := 1263) (by decide +kernel) (by decide +kernel)⟩
theorem fl_Mo_137 : FL "SandGuardsModel" 137 12 59 := ⟨_, _, _, k_Mo, by decide, gd (i := 1264) (by decide +kernel) (by decide +kernel)⟩
theorem fl_Mo_140 : FL "SandGuardsModel" 140 12 60 := ⟨_, _, _, k_Mo, by decide, gd (i := 1265) (by decide +kernel) (by decide +kernel)⟩
theorem fl_Mo_147 : FL "SandGuardsModel" 147 12 2 := ⟨_, _, _, k_Mo, by decide, gd (i := 1207) (by decide +kernel) (by decide +kernel)⟩
theorem fp_Mo_147 : FP "SandGuardsModel" 147 12 2 .int := ⟨_, _, _, k_Mo, by decide, gd (i := 1207) (by decide +kernel) (by decide +kernel), rfl, by decide +kernel⟩
theorem fl_Mo_154 : FL "SandGuardsModel" 154 12 4 := ⟨_, _, _, k_Mo, by decide, gd (i := 1209) (by decide +kernel) (by decide +kernel)⟩
theorem fp_Mo_154 : FP "SandGuardsModel" 154 12 4 .int := ⟨_, _, _, k_Mo, by decide, gd (i := 1209) (by decide +kernel) (by decide +kernel), rfl, by decide +kernel⟩
theorem fl_Mo_163 : FL "SandGuardsModel" 163 12 10 := ⟨_, _, _, k_Mo, by decide, gd (i := 1215) (by decide +kernel) (by decide +kernel)⟩
theorem fp_Mo_163 : FP "SandGuardsModel" 163 12 10 .int := ⟨_, _, _, k_Mo, by decide, gd (i := 1215) (by decide +kernel) (by decide +kernel), rfl, by decide +kernel⟩
theorem fl_Mo_185 : FL "SandGuardsModel" 185 12 13 := ⟨_, _, _, k_Mo, by decide, gd (i := 1218) (by decide +kernel) (by decide +kernel)⟩
theorem fp_Mo_185 : FP "SandGuardsModel" 185 12 13 .int := ⟨_, _, _, k_Mo, by decide, gd (i := 1218) (by decide +kernel) (by decide +kernel), rfl, by decide +kernel⟩
theorem fl_Mo_188 : FL "SandGuardsModel" 188 12 11 := ⟨_, _, _, k_Mo, by decide, gd (i := 1216) (by decide +kernel) (by decide +kernel)⟩
theorem fp_Mo_188 : FP "SandGuardsModel" 188 12 11 .int := ⟨_, _, _, k_Mo, by decide, gd (i := 1216) (by decide +kernel) (by decide +kernel), rfl, by decide +kernel⟩
theorem fl_Mo_191 : FL "SandGuardsModel" 191 12 14 := ⟨_, _, _, k_Mo, by decide, gd (i := 1219) (by decide +kernel) (by decide +kernel)⟩
theorem fp_Mo_191 : FP "SandGuardsModel" 191 12 14 .int := ⟨_, _, _, k_Mo, by decide, gd (i := 1219) (by decide +kernel) (by decide +kernel), rfl, by decide +kernel⟩
theorem fl_Mo_194 : FL "SandGuardsModel" 194 12 15 := ⟨_, _, _, k_Mo, by decide, gd (i := 1220) (by decide +kernel) (by decide +kernel)⟩
theorem fp_Mo_194 : FP "SandGuardsModel" 194 12 15 .int := ⟨_, _, _, k_Mo, by decide, gd (i := 1220) (by decide +kernel) (by decide +kernel), rfl, by decide +kernel⟩
theorem fl_Mo_197 : FL "SandGuardsModel" 197 12 16 := ⟨_, _, _, k_Mo, by decide, gd (i := 1221) (by decide +kernel) (by decide +kernel)⟩
theorem fp_Mo_197 : FP "SandGuardsModel" 197 12 16 .int := ⟨_, _, _, k_Mo, by decide, gd (i := 1221) (by decide +kernel) (by decide +kernel), rfl, by decide +kernel⟩
theorem fl_Mo_212 : FL "SandGuardsModel" 212 12 12 := ⟨_, _, _, k_Mo, by decide, gd (i := 1217) (by decide +kernel) (by decide +kernel)⟩
theorem fp_Mo_212 : FP "SandGuardsModel" 212 12 12 .int := ⟨_, _, _, k_Mo, by decide, gd (i := 1217) (by decide +kernel) (by decide +kernel), rfl, by decide +kernel⟩
theorem fl_Mo_215 : FL "SandGuardsModel" 215 12 18 := ⟨_, _, _, k_Mo, by decide, gd (i := 1223) (by decide +kernel) (by decide +kernel)⟩
theorem fp_Mo_215 : FP "SandGuardsModel" 215 12 18 .int := ⟨_, _, _, k_Mo, by decide, gd (i := 1223) (by decide +kernel) (by decide +kernel), rfl, by decide +kernel⟩
theorem fl_Mo_218 : FL "SandGuardsModel" 218 12 19 := ⟨_, _, _, k_Mo, by decide, gd (i := 1224) (by decide +kernel) (by decide +kernel)⟩
theorem fp_Mo_218 : FP "SandGuardsModel" 218 12 19 .int := ⟨_, _, _, k_Mo, by decide, gd (i := 1224) (by decide +kernel) (by decide +kernel), rfl, by decide +kernel⟩
theorem fl_Mo_221 : FL "SandGuardsModel" 221 12 20 := ⟨_, _, _, k_Mo, by decide, gd (i := 1225) (by decide +kernel) (by decide +kernel)⟩
theorem fp_Mo_221 : FP "SandGuardsModel" 221 12 20 .int := ⟨_, _, _, k_Mo, by decide, gd (i := 1225) (by decide +kernel) (by decide +kernel), rfl, by decide +kernel⟩
theorem fl_Mo_224 : FL "SandGuardsModel" 224 12 36 := ⟨_, _, _, k_Mo, by decide, gd (i := 1241) (by decide +kernel) (by decide +kernel)⟩
theorem fp_Mo_224 : FP "SandGuardsModel" 224 12 36 .int := ⟨_, _, _, k_Mo, by decide, gd (i := 1241) (by decide +kernel) (by decide +kernel), rfl, by decide +kernel⟩
theorem fl_Mo_227 : FL "SandGuardsModel" 227 12 42 := ⟨_, _, _, k_Mo, by decide, gd (i := 1247) (by decide +kernel) (by decide +kernel)⟩
theorem fp_Mo_227 : FP "SandGuardsModel" 227 12 42 .int := ⟨_, _, _, k_Mo, by decide, gd (i := 1247) (by decide +kernel) (by decide +kernel), rfl, by decide +kernel⟩
theorem fl_Mo_236 : FL "SandGuardsModel" 236 12 52 := ⟨_, _, _, k_Mo, by decide, gd (i := 1257) (by decide +kernel) (by decide +kernel)⟩
theorem fp_Mo_236 : FP "SandGuardsModel" 236 12 52 .int := ⟨_, _, _, k_Mo, by decide, gd (i := 1257) (by decide +kernel) (by decide +kernel), rfl, by decide +kernel⟩
theorem fl_Mo_239 : FL "SandGuardsModel" 239 12 55 := ⟨_, _, _, k_Mo, by decide, gd (i := 1260) (by decide +kernel) (by decide +kernel)⟩
theorem fp_Mo_239 : FP "SandGuardsModel" 239 12 55 .int := ⟨_, _, _, k_Mo, by decide, gd (i := 1260) (by decide +kernel) (by decide +kernel), rfl, by decide +kernel⟩
theorem fl_Mo_285 : FL "SandGuardsModel" 285 12 46 := ⟨_, _, _, k_Mo, by decide, gd (i := 1251) (by decide +kernel) (by decide +kernel)⟩
theorem fp_Mo_285 : FP "SandGuardsModel" 285 12 46 .int := ⟨_, _, _, k_Mo, by decide, gd (i := 1251) (by decide +kernel) (by decide +kernel), rfl, by decide +kernel⟩
theorem fl_Mo_298 : FL "SandGuardsModel" 298 12 49 := ⟨_, _, _, k_Mo, by decide, gd (i := 1254) (by decide +kernel) (by decide +kernel)⟩
theorem fp_Mo_298 : FP "SandGuardsModel" 298 12 49 .boolean := ⟨_, _, _, k_Mo, by decide, gd (i := 1254) (by decide +kernel) (by decide +kernel), rfl, by decide +kernel⟩
theorem lk_Sg_32 : Cond.methodLink "SandGuards" 32 M_Ca_init.1 ∈ lw_gd := gd (i := 409) (by decide +kernel) (by decide +kernel)
theorem lk_Sg_42 : Cond.methodLink "SandGuards" 42 M_Hi_init.1 ∈ lw_gd := gd (i := 412) (by decide +kernel) (by decide +kernel)
theorem lk_Sg_87 : Cond.methodLink "SandGuards" 87 M_Ta_hasRoomFor.1 ∈ lw_gd := gd (i := 610) (by decide +kernel) (by decide +kernel)
theorem lk_Sg_91 : Cond.methodLink "SandGuards" 91 M_Ta_append.1 ∈ lw_gd := gd (i := 614) (by decide +kernel) (by decide +kernel)
theorem lk_Sg_98 : Cond.methodLink "SandGuards" 98 M_Re_readText.1 ∈ lw_gd := gd (i := 627) (by decide +kernel) (by decide +kernel)
theorem lk_Sg_105 : Cond.methodLink "SandGuards" 105 M_Sg_beginAnew.1 ∈ lw_gd := gd (i := 804) (by decide +kernel) (by decide +kernel)
theorem lk_Sg_109 : Cond.methodLink "SandGuards" 109 M_Pl_copyFrom.1 ∈ lw_gd := gd (i := 808) (by decide +kernel) (by decide +kernel)
theorem lk_Sg_116 : Cond.methodLink "SandGuards" 116 M_Ca_copyFrom.1 ∈ lw_gd := gd (i := 820) (by decide +kernel) (by decide +kernel)
theorem lk_Sg_120 : Cond.methodLink "SandGuards" 120 M_Ru_clear.1 ∈ lw_gd := gd (i := 825) (by decide +kernel) (by decide +kernel)
theorem lk_Sg_123 : Cond.methodLink "SandGuards" 123 M_Sg_noteChange.1 ∈ lw_gd := gd (i := 829) (by decide +kernel) (by decide +kernel)
theorem lk_Sg_126 : Cond.methodLink "SandGuards" 126 M_Sg_isPost.1 ∈ lw_gd := gd (i := 845) (by decide +kernel) (by decide +kernel)
theorem lk_Sg_148 : Cond.methodLink "SandGuards" 148 M_Pl_hourOf.1 ∈ lw_gd := gd (i := 849) (by decide +kernel) (by decide +kernel)
theorem lk_Sg_152 : Cond.methodLink "SandGuards" 152 M_Pl_flow.1 ∈ lw_gd := gd (i := 853) (by decide +kernel) (by decide +kernel)
theorem lk_Sg_159 : Cond.methodLink "SandGuards" 159 M_Sg_isGuard.1 ∈ lw_gd := gd (i := 861) (by decide +kernel) (by decide +kernel)
theorem lk_Sg_171 : Cond.methodLink "SandGuards" 171 M_Ca_placeInBed.1 ∈ lw_gd := gd (i := 865) (by decide +kernel) (by decide +kernel)
theorem lk_Sg_177 : Cond.methodLink "SandGuards" 177 M_Sg_beginThing.1 ∈ lw_gd := gd (i := 873) (by decide +kernel) (by decide +kernel)
theorem lk_Sg_180 : Cond.methodLink "SandGuards" 180 M_Ca_passMany.1 ∈ lw_gd := gd (i := 885) (by decide +kernel) (by decide +kernel)
theorem lk_Sg_184 : Cond.methodLink "SandGuards" 184 M_Ca_exchange.1 ∈ lw_gd := gd (i := 945) (by decide +kernel) (by decide +kernel)
set_option maxRecDepth 40000 in
theorem lk_Sg_187 : Cond.methodLink "SandGuards" 187 Lib.Math.min.name ∈ lw_gd ∧ Cond.static Lib.Math.min.name ∈ lw_gd ∧ Cond.initialized "java/lang/Math" ∈ lw_gd ∧ Cond.code Lib.Math.min.name Lib.Math.min.code 2 (some .int) ∈ lw_gd := ⟨gd (i := 953) (by decide +kernel) (by decide +kernel), gd (i := 883) (by decide +kernel) (by decide +kernel), gd (i := 112) (by decide +kernel) (by decide +kernel), gd (i := 884) (by decide +kernel) (by decide +kernel)⟩
theorem lk_Sg_195 : Cond.methodLink "SandGuards" 195 M_Ca_leaveBed.1 ∈ lw_gd := gd (i := 967) (by decide +kernel) (by decide +kernel)
theorem lk_Sg_198 : Cond.methodLink "SandGuards" 198 M_Ca_stand.1 ∈ lw_gd := gd (i := 968) (by decide +kernel) (by decide +kernel)
theorem lk_Sg_202 : Cond.methodLink "SandGuards" 202 M_Hi_giveBack.1 ∈ lw_gd := gd (i := 973) (by decide +kernel) (by decide +kernel)
theorem lk_Sg_209 : Cond.methodLink "SandGuards" 209 M_Ou_minutesToOut.1 ∈ lw_gd := gd (i := 981) (by decide +kernel) (by decide +kernel)
theorem lk_Sg_213 : Cond.methodLink "SandGuards" 213 M_Dr_asItIs.1 ∈ lw_gd := gd (i := 992) (by decide +kernel) (by decide +kernel)
theorem lk_Sg_217 : Cond.methodLink "SandGuards" 217 M_Dr_findFirst.1 ∈ lw_gd := gd (i := 1011) (by decide +kernel) (by decide +kernel)
theorem lk_Sg_227 : Cond.methodLink "SandGuards" 227 M_Dr_findTwo.1 ∈ lw_gd := gd (i := 1026) (by decide +kernel) (by decide +kernel)
theorem lk_Sg_237 : Cond.methodLink "SandGuards" 237 M_Ou_fewestGrains.1 ∈ lw_gd := gd (i := 1038) (by decide +kernel) (by decide +kernel)
theorem lk_Sg_247 : Cond.methodLink "SandGuards" 247 M_Ou_goThrough.1 ∈ lw_gd := gd (i := 1062) (by decide +kernel) (by decide +kernel)
theorem lk_Sg_250 : Cond.methodLink "SandGuards" 250 M_Ou_sleepless.1 ∈ lw_gd := gd (i := 1067) (by decide +kernel) (by decide +kernel)
theorem lk_Sg_253 : Cond.methodLink "SandGuards" 253 M_Ou_spreadOfSleep.1 ∈ lw_gd := gd (i := 1075) (by decide +kernel) (by decide +kernel)
theorem lk_Sg_257 : Cond.methodLink "SandGuards" 257 M_Ou_findWorst.1 ∈ lw_gd := gd (i := 1084) (by decide +kernel) (by decide +kernel)
theorem lk_Sg_266 : Cond.methodLink "SandGuards" 266 M_Ca_longestOnWatch.1 ∈ lw_gd := gd (i := 1097) (by decide +kernel) (by decide +kernel)
theorem lk_Sg_269 : Cond.methodLink "SandGuards" 269 M_Ou_minutesToBed.1 ∈ lw_gd := gd (i := 1101) (by decide +kernel) (by decide +kernel)
theorem lk_Sg_272 : Cond.methodLink "SandGuards" 272 M_Ga_findRests.1 ∈ lw_gd := gd (i := 1106) (by decide +kernel) (by decide +kernel)
theorem lk_Sg_280 : Cond.methodLink "SandGuards" 280 M_Ru_add.1 ∈ lw_gd := gd (i := 1137) (by decide +kernel) (by decide +kernel)
theorem lk_Sg_286 : Cond.methodLink "SandGuards" 286 M_Ru_findWays.1 ∈ lw_gd := gd (i := 1149) (by decide +kernel) (by decide +kernel)
theorem lk_Sg_296 : Cond.methodLink "SandGuards" 296 M_Ca_emptyPosts.1 ∈ lw_gd := gd (i := 1180) (by decide +kernel) (by decide +kernel)
theorem lk_Sg_305 : Cond.methodLink "SandGuards" 305 M_Ca_grains.1 ∈ lw_gd := gd (i := 1184) (by decide +kernel) (by decide +kernel)
theorem lk_Sg_308 : Cond.methodLink "SandGuards" 308 M_Sg_slotsHeld.1 ∈ lw_gd := gd (i := 1188) (by decide +kernel) (by decide +kernel)
theorem lk_Sg_312 : Cond.methodLink "SandGuards" 312 M_Ca_guardsWhoSlept.1 ∈ lw_gd := gd (i := 1192) (by decide +kernel) (by decide +kernel)
theorem lk_Sg_315 : Cond.methodLink "SandGuards" 315 M_Hi_keep.1 ∈ lw_gd := gd (i := 877) (by decide +kernel) (by decide +kernel)
theorem lk_Sg_318 : Cond.methodLink "SandGuards" 318 M_Dr_forgetFound.1 ∈ lw_gd := gd (i := 833) (by decide +kernel) (by decide +kernel)
theorem lk_Ca_49 : Cond.methodLink "SandGuards$Castle" 49 M_Ca_leaveAll.1 ∈ lw_gd := gd (i := 246) (by decide +kernel) (by decide +kernel)
theorem lk_Ca_56 : Cond.methodLink "SandGuards$Castle" 56 arraycopyName ∈ lw_gd ∧ Cond.native arraycopyName ∈ lw_gd ∧ Cond.static arraycopyName ∈ lw_gd ∧ Cond.initialized "java/lang/System" ∈ lw_gd := ⟨gd (i := 824) (by decide +kernel) (by decide +kernel), gd (i := 814) (by decide +kernel) (by decide +kernel), gd (i := 813) (by decide +kernel) (by decide +kernel), gd (i := 111) (by decide +kernel) (by decide +kernel)⟩
theorem lk_Ca_65 : Cond.methodLink "SandGuards$Castle" 65 M_Ca_passSome.1 ∈ lw_gd := gd (i := 889) (by decide +kernel) (by decide +kernel)
set_option maxRecDepth 40000 in
theorem lk_Ca_69 : Cond.methodLink "SandGuards$Castle" 69 Lib.Math.max.name ∈ lw_gd ∧ Cond.static Lib.Math.max.name ∈ lw_gd ∧ Cond.initialized "java/lang/Math" ∈ lw_gd ∧ Cond.code Lib.Math.max.name Lib.Math.max.code 2 (some .int) ∈ lw_gd := ⟨gd (i := 938) (by decide +kernel) (by decide +kernel), gd (i := 939) (by decide +kernel) (by decide +kernel), gd (i := 112) (by decide +kernel) (by decide +kernel), gd (i := 940) (by decide +kernel) (by decide +kernel)⟩
set_option maxRecDepth 40000 in
theorem lk_Ca_80 : Cond.methodLink "SandGuards$Castle" 80 Lib.Math.min.name ∈ lw_gd ∧ Cond.static Lib.Math.min.name ∈ lw_gd ∧ Cond.initialized "java/lang/Math" ∈ lw_gd ∧ Cond.code Lib.Math.min.name Lib.Math.min.code 2 (some .int) ∈ lw_gd := ⟨gd (i := 893) (by decide +kernel) (by decide +kernel), gd (i := 883) (by decide +kernel) (by decide +kernel), gd (i := 112) (by decide +kernel) (by decide +kernel), gd (i := 884) (by decide +kernel) (by decide +kernel)⟩
theorem lk_Ca_83 : Cond.methodLink "SandGuards$Castle" 83 M_Ca_lookAhead.1 ∈ lw_gd := gd (i := 894) (by decide +kernel) (by decide +kernel)
set_option maxRecDepth 40000 in
theorem lk_Ca_89 : Cond.methodLink "SandGuards$Castle" 89 Lib.MathLoose.min_long.x ∈ lw_gd ∧ Cond.static Lib.MathLoose.min_long.x ∈ lw_gd ∧ Cond.initialized "java/lang/Math" ∈ lw_gd ∧ Cond.code Lib.MathLoose.min_long.x Lib.MathLoose.min_long.code 4 (some .long) ∈ lw_gd := ⟨gd (i := 909) (by decide +kernel) (by decide +kernel), gd (i := 910) (by decide +kernel) (by decide +kernel), gd (i := 112) (by decide +kernel) (by decide +kernel), gd (i := 911) (by decide +kernel) (by decide +kernel)⟩
theorem lk_Ca_92 : Cond.methodLink "SandGuards$Castle" 92 M_Ca_runDown.1 ∈ lw_gd := gd (i := 912) (by decide +kernel) (by decide +kernel)
theorem lk_Ca_102 : Cond.methodLink "SandGuards$Castle" 102 M_Ca_countMinutes.1 ∈ lw_gd := gd (i := 916) (by decide +kernel) (by decide +kernel)
theorem lk_Ca_105 : Cond.methodLink "SandGuards$Castle" 105 M_Ca_relieveAll.1 ∈ lw_gd := gd (i := 920) (by decide +kernel) (by decide +kernel)
theorem lk_Ca_109 : Cond.methodLink "SandGuards$Castle" 109 M_Ca_fillAll.1 ∈ lw_gd := gd (i := 934) (by decide +kernel) (by decide +kernel)
theorem lk_Ca_112 : Cond.methodLink "SandGuards$Castle" 112 M_Pl_hourOf.1 ∈ lw_gd := gd (i := 898) (by decide +kernel) (by decide +kernel)
theorem lk_Ca_116 : Cond.methodLink "SandGuards$Castle" 116 M_Pl_flow.1 ∈ lw_gd := gd (i := 899) (by decide +kernel) (by decide +kernel)
theorem lk_Ca_130 : Cond.methodLink "SandGuards$Castle" 130 M_Ca_quietAt.1 ∈ lw_gd := gd (i := 900) (by decide +kernel) (by decide +kernel)
theorem lk_Ca_134 : Cond.methodLink "SandGuards$Castle" 134 M_Ca_comer.1 ∈ lw_gd := gd (i := 904) (by decide +kernel) (by decide +kernel)
theorem lk_Ca_140 : Cond.methodLink "SandGuards$Castle" 140 M_Ca_relieve.1 ∈ lw_gd := gd (i := 924) (by decide +kernel) (by decide +kernel)
theorem lk_Ca_143 : Cond.methodLink "SandGuards$Castle" 143 M_Ca_leaveBed.1 ∈ lw_gd := gd (i := 929) (by decide +kernel) (by decide +kernel)
theorem lk_Ca_146 : Cond.methodLink "SandGuards$Castle" 146 M_Ca_stand.1 ∈ lw_gd := gd (i := 928) (by decide +kernel) (by decide +kernel)
theorem lk_Ca_149 : Cond.methodLink "SandGuards$Castle" 149 M_Ca_lieBehindAll.1 ∈ lw_gd := gd (i := 933) (by decide +kernel) (by decide +kernel)
theorem lk_Dr_11 : Cond.methodLink "SandGuards$Dryings" 11 M_Ca_init.1 ∈ lw_gd := gd (i := 458) (by decide +kernel) (by decide +kernel)
theorem lk_Dr_28 : Cond.methodLink "SandGuards$Dryings" 28 M_Ca_copyFrom.1 ∈ lw_gd := gd (i := 996) (by decide +kernel) (by decide +kernel)
theorem lk_Dr_32 : Cond.methodLink "SandGuards$Dryings" 32 M_Dr_soonest.1 ∈ lw_gd := gd (i := 997) (by decide +kernel) (by decide +kernel)
theorem lk_Dr_58 : Cond.methodLink "SandGuards$Dryings" 58 M_Dr_tryOne.1 ∈ lw_gd := gd (i := 1015) (by decide +kernel) (by decide +kernel)
theorem lk_Dr_62 : Cond.methodLink "SandGuards$Dryings" 62 M_Dr_mostThatIsSooner.1 ∈ lw_gd := gd (i := 1019) (by decide +kernel) (by decide +kernel)
theorem lk_Dr_72 : Cond.methodLink "SandGuards$Dryings" 72 M_Dr_tryTwo.1 ∈ lw_gd := gd (i := 1030) (by decide +kernel) (by decide +kernel)
theorem lk_Dr_76 : Cond.methodLink "SandGuards$Dryings" 76 M_Ca_sleepWanted.1 ∈ lw_gd := gd (i := 1001) (by decide +kernel) (by decide +kernel)
theorem lk_Dr_80 : Cond.methodLink "SandGuards$Dryings" 80 M_Ca_passSome.1 ∈ lw_gd := gd (i := 1005) (by decide +kernel) (by decide +kernel)
set_option maxRecDepth 40000 in
theorem lk_Dr_83 : Cond.methodLink "SandGuards$Dryings" 83 Lib.Math.max.name ∈ lw_gd ∧ Cond.static Lib.Math.max.name ∈ lw_gd ∧ Cond.initialized "java/lang/Math" ∈ lw_gd ∧ Cond.code Lib.Math.max.name Lib.Math.max.code 2 (some .int) ∈ lw_gd := ⟨gd (i := 1006) (by decide +kernel) (by decide +kernel), gd (i := 939) (by decide +kernel) (by decide +kernel), gd (i := 112) (by decide +kernel) (by decide +kernel), gd (i := 940) (by decide +kernel) (by decide +kernel)⟩
theorem lk_Ga_17 : Cond.methodLink "SandGuards$Game" 17 M_Ca_init.1 ∈ lw_gd := gd (i := 498) (by decide +kernel) (by decide +kernel)
theorem lk_Ga_36 : Cond.methodLink "SandGuards$Game" 36 M_Ga_players.1 ∈ lw_gd := gd (i := 1110) (by decide +kernel) (by decide +kernel)
theorem lk_Ga_45 : Cond.methodLink "SandGuards$Game" 45 M_Ca_copyFrom.1 ∈ lw_gd := gd (i := 1113) (by decide +kernel) (by decide +kernel)
theorem lk_Ga_49 : Cond.methodLink "SandGuards$Game" 49 M_Ga_putPinches.1 ∈ lw_gd := gd (i := 1114) (by decide +kernel) (by decide +kernel)
theorem lk_Ga_53 : Cond.methodLink "SandGuards$Game" 53 M_Ca_passMany.1 ∈ lw_gd := gd (i := 1120) (by decide +kernel) (by decide +kernel)
theorem lk_Ga_57 : Cond.methodLink "SandGuards$Game" 57 M_Ga_noteSleeps.1 ∈ lw_gd := gd (i := 1121) (by decide +kernel) (by decide +kernel)
theorem lk_Ga_64 : Cond.methodLink "SandGuards$Game" 64 M_Ga_isAtRest.1 ∈ lw_gd := gd (i := 1125) (by decide +kernel) (by decide +kernel)
set_option maxRecDepth 40000 in
theorem lk_Ga_74 : Cond.methodLink "SandGuards$Game" 74 Lib.Math.min.name ∈ lw_gd ∧ Cond.static Lib.Math.min.name ∈ lw_gd ∧ Cond.initialized "java/lang/Math" ∈ lw_gd ∧ Cond.code Lib.Math.min.name Lib.Math.min.code 2 (some .int) ∈ lw_gd := ⟨gd (i := 1118) (by decide +kernel) (by decide +kernel), gd (i := 883) (by decide +kernel) (by decide +kernel), gd (i := 112) (by decide +kernel) (by decide +kernel), gd (i := 884) (by decide +kernel) (by decide +kernel)⟩
set_option maxRecDepth 40000 in
theorem lk_Ga_80 : Cond.methodLink "SandGuards$Game" 80 Lib.Math.max.name ∈ lw_gd ∧ Cond.static Lib.Math.max.name ∈ lw_gd ∧ Cond.initialized "java/lang/Math" ∈ lw_gd ∧ Cond.code Lib.Math.max.name Lib.Math.max.code 2 (some .int) ∈ lw_gd := ⟨gd (i := 1119) (by decide +kernel) (by decide +kernel), gd (i := 939) (by decide +kernel) (by decide +kernel), gd (i := 112) (by decide +kernel) (by decide +kernel), gd (i := 940) (by decide +kernel) (by decide +kernel)⟩
theorem lk_Hi_15 : Cond.methodLink "SandGuards$History" 15 M_Ca_init.1 ∈ lw_gd := gd (i := 418) (by decide +kernel) (by decide +kernel)
theorem lk_Hi_20 : Cond.methodLink "SandGuards$History" 20 M_Ca_copyFrom.1 ∈ lw_gd := gd (i := 881) (by decide +kernel) (by decide +kernel)
set_option maxRecDepth 40000 in
theorem lk_Hi_27 : Cond.methodLink "SandGuards$History" 27 Lib.Math.min.name ∈ lw_gd ∧ Cond.static Lib.Math.min.name ∈ lw_gd ∧ Cond.initialized "java/lang/Math" ∈ lw_gd ∧ Cond.code Lib.Math.min.name Lib.Math.min.code 2 (some .int) ∈ lw_gd := ⟨gd (i := 882) (by decide +kernel) (by decide +kernel), gd (i := 883) (by decide +kernel) (by decide +kernel), gd (i := 112) (by decide +kernel) (by decide +kernel), gd (i := 884) (by decide +kernel) (by decide +kernel)⟩
theorem lk_La_41 : Cond.methodLink "SandGuards$Law" 41 arraycopyName ∈ lw_gd ∧ Cond.native arraycopyName ∈ lw_gd ∧ Cond.static arraycopyName ∈ lw_gd ∧ Cond.initialized "java/lang/System" ∈ lw_gd := ⟨gd (i := 819) (by decide +kernel) (by decide +kernel), gd (i := 814) (by decide +kernel) (by decide +kernel), gd (i := 813) (by decide +kernel) (by decide +kernel), gd (i := 111) (by decide +kernel) (by decide +kernel)⟩
theorem lk_Ou_11 : Cond.methodLink "SandGuards$Outlook" 11 M_Ca_init.1 ∈ lw_gd := gd (i := 437) (by decide +kernel) (by decide +kernel)
theorem lk_Ou_18 : Cond.methodLink "SandGuards$Outlook" 18 M_Ca_copyFrom.1 ∈ lw_gd := gd (i := 1046) (by decide +kernel) (by decide +kernel)
theorem lk_Ou_22 : Cond.methodLink "SandGuards$Outlook" 22 M_Ca_passMany.1 ∈ lw_gd := gd (i := 1066) (by decide +kernel) (by decide +kernel)
theorem lk_Ou_34 : Cond.methodLink "SandGuards$Outlook" 34 M_Pl_hourOf.1 ∈ lw_gd := gd (i := 985) (by decide +kernel) (by decide +kernel)
theorem lk_Ou_40 : Cond.methodLink "SandGuards$Outlook" 40 M_Pl_flow.1 ∈ lw_gd := gd (i := 986) (by decide +kernel) (by decide +kernel)
theorem lk_Ou_44 : Cond.methodLink "SandGuards$Outlook" 44 M_Ca_runDown.1 ∈ lw_gd := gd (i := 987) (by decide +kernel) (by decide +kernel)
theorem lk_Ou_51 : Cond.methodLink "SandGuards$Outlook" 51 M_Ca_passSome.1 ∈ lw_gd := gd (i := 1052) (by decide +kernel) (by decide +kernel)
set_option maxRecDepth 40000 in
theorem lk_Ou_55 : Cond.methodLink "SandGuards$Outlook" 55 Lib.Math.max.name ∈ lw_gd ∧ Cond.static Lib.Math.max.name ∈ lw_gd ∧ Cond.initialized "java/lang/Math" ∈ lw_gd ∧ Cond.code Lib.Math.max.name Lib.Math.max.code 2 (some .int) ∈ lw_gd := ⟨gd (i := 1053) (by decide +kernel) (by decide +kernel), gd (i := 939) (by decide +kernel) (by decide +kernel), gd (i := 112) (by decide +kernel) (by decide +kernel), gd (i := 940) (by decide +kernel) (by decide +kernel)⟩
theorem lk_Ou_74 : Cond.methodLink "SandGuards$Outlook" 74 M_Ou_isNotOut.1 ∈ lw_gd := gd (i := 1042) (by decide +kernel) (by decide +kernel)
theorem lk_Ou_78 : Cond.methodLink "SandGuards$Outlook" 78 M_Ou_minutesToBed.1 ∈ lw_gd := gd (i := 1048) (by decide +kernel) (by decide +kernel)
theorem lk_Ou_82 : Cond.methodLink "SandGuards$Outlook" 82 M_Ou_minutesToOut.1 ∈ lw_gd := gd (i := 1047) (by decide +kernel) (by decide +kernel)
set_option maxRecDepth 40000 in
theorem lk_Ou_91 : Cond.methodLink "SandGuards$Outlook" 91 Lib.Math.min.name ∈ lw_gd ∧ Cond.static Lib.Math.min.name ∈ lw_gd ∧ Cond.initialized "java/lang/Math" ∈ lw_gd ∧ Cond.code Lib.Math.min.name Lib.Math.min.code 2 (some .int) ∈ lw_gd := ⟨gd (i := 1079) (by decide +kernel) (by decide +kernel), gd (i := 883) (by decide +kernel) (by decide +kernel), gd (i := 112) (by decide +kernel) (by decide +kernel), gd (i := 884) (by decide +kernel) (by decide +kernel)⟩
theorem lk_Ou_103 : Cond.methodLink "SandGuards$Outlook" 103 M_Ca_exchange.1 ∈ lw_gd := gd (i := 1088) (by decide +kernel) (by decide +kernel)
theorem lk_Ou_107 : Cond.methodLink "SandGuards$Outlook" 107 M_Ca_guardsWhoSlept.1 ∈ lw_gd := gd (i := 1089) (by decide +kernel) (by decide +kernel)
theorem lk_Pl_41 : Cond.methodLink "SandGuards$Plan" 41 M_La_clear.1 ∈ lw_gd := gd (i := 671) (by decide +kernel) (by decide +kernel)
theorem lk_Pl_44 : Cond.methodLink "SandGuards$Plan" 44 M_La_addStep.1 ∈ lw_gd := gd (i := 675) (by decide +kernel) (by decide +kernel)
theorem lk_Pl_58 : Cond.methodLink "SandGuards$Plan" 58 M_La_value.1 ∈ lw_gd := gd (i := 800) (by decide +kernel) (by decide +kernel)
theorem lk_Pl_62 : Cond.methodLink "SandGuards$Plan" 62 arraycopyName ∈ lw_gd ∧ Cond.native arraycopyName ∈ lw_gd ∧ Cond.static arraycopyName ∈ lw_gd ∧ Cond.initialized "java/lang/System" ∈ lw_gd := ⟨gd (i := 812) (by decide +kernel) (by decide +kernel), gd (i := 814) (by decide +kernel) (by decide +kernel), gd (i := 813) (by decide +kernel) (by decide +kernel), gd (i := 111) (by decide +kernel) (by decide +kernel)⟩
theorem lk_Pl_68 : Cond.methodLink "SandGuards$Plan" 68 M_La_copyFrom.1 ∈ lw_gd := gd (i := 815) (by decide +kernel) (by decide +kernel)
theorem lk_Re_20 : Cond.methodLink "SandGuards$Reader" 20 M_Ca_init.1 ∈ lw_gd := gd (i := 242) (by decide +kernel) (by decide +kernel)
theorem lk_Re_46 : Cond.methodLink "SandGuards$Reader" 46 M_To_cut.1 ∈ lw_gd := gd (i := 631) (by decide +kernel) (by decide +kernel)
theorem lk_Re_50 : Cond.methodLink "SandGuards$Reader" 50 M_Pl_clear.1 ∈ lw_gd := gd (i := 667) (by decide +kernel) (by decide +kernel)
theorem lk_Re_53 : Cond.methodLink "SandGuards$Reader" 53 M_Ca_leaveAll.1 ∈ lw_gd := gd (i := 679) (by decide +kernel) (by decide +kernel)
theorem lk_Re_72 : Cond.methodLink "SandGuards$Reader" 72 M_Re_kind.1 ∈ lw_gd := gd (i := 680) (by decide +kernel) (by decide +kernel)
theorem lk_Re_76 : Cond.methodLink "SandGuards$Reader" 76 M_Re_takeTell.1 ∈ lw_gd := gd (i := 684) (by decide +kernel) (by decide +kernel)
theorem lk_Re_83 : Cond.methodLink "SandGuards$Reader" 83 M_Pl_settle.1 ∈ lw_gd := gd (i := 796) (by decide +kernel) (by decide +kernel)
theorem lk_Re_86 : Cond.methodLink "SandGuards$Reader" 86 M_Re_takePost.1 ∈ lw_gd := gd (i := 688) (by decide +kernel) (by decide +kernel)
theorem lk_Re_89 : Cond.methodLink "SandGuards$Reader" 89 M_Re_takeGuard.1 ∈ lw_gd := gd (i := 712) (by decide +kernel) (by decide +kernel)
theorem lk_Re_92 : Cond.methodLink "SandGuards$Reader" 92 M_Re_takeFlow.1 ∈ lw_gd := gd (i := 732) (by decide +kernel) (by decide +kernel)
theorem lk_Re_95 : Cond.methodLink "SandGuards$Reader" 95 M_Re_takeDamp.1 ∈ lw_gd := gd (i := 788) (by decide +kernel) (by decide +kernel)
theorem lk_Re_98 : Cond.methodLink "SandGuards$Reader" 98 M_Re_takeSleep.1 ∈ lw_gd := gd (i := 792) (by decide +kernel) (by decide +kernel)
theorem lk_Re_101 : Cond.methodLink "SandGuards$Reader" 101 M_Re_refuse.1 ∈ lw_gd := gd (i := 692) (by decide +kernel) (by decide +kernel)
theorem lk_Re_108 : Cond.methodLink "SandGuards$Reader" 108 M_Re_take.1 ∈ lw_gd := gd (i := 696) (by decide +kernel) (by decide +kernel)
theorem lk_Re_111 : Cond.methodLink "SandGuards$Reader" 111 M_Re_takeNewName.1 ∈ lw_gd := gd (i := 700) (by decide +kernel) (by decide +kernel)
theorem lk_Re_118 : Cond.methodLink "SandGuards$Reader" 118 M_Re_takeInt.1 ∈ lw_gd := gd (i := 708) (by decide +kernel) (by decide +kernel)
theorem lk_Re_136 : Cond.methodLink "SandGuards$Reader" 136 M_Ca_lieBehindAll.1 ∈ lw_gd := gd (i := 716) (by decide +kernel) (by decide +kernel)
theorem lk_Re_140 : Cond.methodLink "SandGuards$Reader" 140 M_Re_takePostOf.1 ∈ lw_gd := gd (i := 720) (by decide +kernel) (by decide +kernel)
theorem lk_Re_147 : Cond.methodLink "SandGuards$Reader" 147 M_Re_postNamed.1 ∈ lw_gd := gd (i := 724) (by decide +kernel) (by decide +kernel)
theorem lk_Re_151 : Cond.methodLink "SandGuards$Reader" 151 M_Re_note.1 ∈ lw_gd := gd (i := 704) (by decide +kernel) (by decide +kernel)
theorem lk_Re_158 : Cond.methodLink "SandGuards$Reader" 158 M_Ca_stand.1 ∈ lw_gd := gd (i := 728) (by decide +kernel) (by decide +kernel)
theorem lk_Re_174 : Cond.methodLink "SandGuards$Reader" 174 M_La_clear.1 ∈ lw_gd := gd (i := 736) (by decide +kernel) (by decide +kernel)
theorem lk_Re_177 : Cond.methodLink "SandGuards$Reader" 177 M_Re_takeIf.1 ∈ lw_gd := gd (i := 737) (by decide +kernel) (by decide +kernel)
theorem lk_Re_180 : Cond.methodLink "SandGuards$Reader" 180 M_Re_takeSum.1 ∈ lw_gd := gd (i := 741) (by decide +kernel) (by decide +kernel)
theorem lk_Re_183 : Cond.methodLink "SandGuards$Reader" 183 M_Re_addEnd.1 ∈ lw_gd := gd (i := 780) (by decide +kernel) (by decide +kernel)
theorem lk_Re_186 : Cond.methodLink "SandGuards$Reader" 186 M_Re_popUnit.1 ∈ lw_gd := gd (i := 772) (by decide +kernel) (by decide +kernel)
theorem lk_Re_189 : Cond.methodLink "SandGuards$Reader" 189 M_La_addStep.1 ∈ lw_gd := gd (i := 779) (by decide +kernel) (by decide +kernel)
theorem lk_Re_193 : Cond.methodLink "SandGuards$Reader" 193 M_La_aimHere.1 ∈ lw_gd := gd (i := 784) (by decide +kernel) (by decide +kernel)
theorem lk_Re_202 : Cond.methodLink "SandGuards$Reader" 202 M_Re_letWait.1 ∈ lw_gd := gd (i := 745) (by decide +kernel) (by decide +kernel)
theorem lk_Re_205 : Cond.methodLink "SandGuards$Reader" 205 M_Re_addUnit.1 ∈ lw_gd := gd (i := 749) (by decide +kernel) (by decide +kernel)
theorem lk_Re_208 : Cond.methodLink "SandGuards$Reader" 208 M_Re_rank.1 ∈ lw_gd := gd (i := 765) (by decide +kernel) (by decide +kernel)
theorem lk_Re_212 : Cond.methodLink "SandGuards$Reader" 212 M_Re_release.1 ∈ lw_gd := gd (i := 768) (by decide +kernel) (by decide +kernel)
theorem lk_Re_218 : Cond.methodLink "SandGuards$Reader" 218 M_La_useInt.1 ∈ lw_gd := gd (i := 753) (by decide +kernel) (by decide +kernel)
theorem lk_Re_221 : Cond.methodLink "SandGuards$Reader" 221 M_Re_pushUnit.1 ∈ lw_gd := gd (i := 757) (by decide +kernel) (by decide +kernel)
theorem lk_Re_224 : Cond.methodLink "SandGuards$Reader" 224 M_La_useVariable.1 ∈ lw_gd := gd (i := 761) (by decide +kernel) (by decide +kernel)
theorem lk_Re_227 : Cond.methodLink "SandGuards$Reader" 227 M_Re_opOf.1 ∈ lw_gd := gd (i := 776) (by decide +kernel) (by decide +kernel)
theorem lk_Ru_17 : Cond.methodLink "SandGuards$Rumours" 17 M_Ca_init.1 ∈ lw_gd := gd (i := 531) (by decide +kernel) (by decide +kernel)
theorem lk_Ru_45 : Cond.methodLink "SandGuards$Rumours" 45 M_Ru_setDue.1 ∈ lw_gd := gd (i := 1153) (by decide +kernel) (by decide +kernel)
theorem lk_Ru_57 : Cond.methodLink "SandGuards$Rumours" 57 M_Ca_copyFrom.1 ∈ lw_gd := gd (i := 1158) (by decide +kernel) (by decide +kernel)
theorem lk_Ru_64 : Cond.methodLink "SandGuards$Rumours" 64 M_Ru_comesAsDue.1 ∈ lw_gd := gd (i := 1159) (by decide +kernel) (by decide +kernel)
set_option maxRecDepth 40000 in
theorem lk_Ru_68 : Cond.methodLink "SandGuards$Rumours" 68 Lib.Math.max.name ∈ lw_gd ∧ Cond.static Lib.Math.max.name ∈ lw_gd ∧ Cond.initialized "java/lang/Math" ∈ lw_gd ∧ Cond.code Lib.Math.max.name Lib.Math.max.code 2 (some .int) ∈ lw_gd := ⟨gd (i := 1157) (by decide +kernel) (by decide +kernel), gd (i := 939) (by decide +kernel) (by decide +kernel), gd (i := 112) (by decide +kernel) (by decide +kernel), gd (i := 940) (by decide +kernel) (by decide +kernel)⟩
theorem lk_Ru_77 : Cond.methodLink "SandGuards$Rumours" 77 M_Ca_passSome.1 ∈ lw_gd := gd (i := 1163) (by decide +kernel) (by decide +kernel)
theorem lk_Ru_81 : Cond.methodLink "SandGuards$Rumours" 81 M_Ru_isMissed.1 ∈ lw_gd := gd (i := 1164) (by decide +kernel) (by decide +kernel)
theorem lk_Ta_17 : Cond.methodLink "SandGuards$Tape" 17 M_Ta_hasRoomFor.1 ∈ lw_gd := gd (i := 618) (by decide +kernel) (by decide +kernel)
theorem lk_To_25 : Cond.methodLink "SandGuards$Tokens" 25 M_To_skipBlanks.1 ∈ lw_gd := gd (i := 635) (by decide +kernel) (by decide +kernel)
theorem lk_To_35 : Cond.methodLink "SandGuards$Tokens" 35 M_To_addToken.1 ∈ lw_gd := gd (i := 641) (by decide +kernel) (by decide +kernel)
theorem lk_To_43 : Cond.methodLink "SandGuards$Tokens" 43 M_To_isBlank.1 ∈ lw_gd := gd (i := 638) (by decide +kernel) (by decide +kernel)
theorem lk_To_47 : Cond.methodLink "SandGuards$Tokens" 47 M_To_isLetter.1 ∈ lw_gd := gd (i := 645) (by decide +kernel) (by decide +kernel)
theorem lk_To_50 : Cond.methodLink "SandGuards$Tokens" 50 M_To_addWord.1 ∈ lw_gd := gd (i := 648) (by decide +kernel) (by decide +kernel)
theorem lk_To_53 : Cond.methodLink "SandGuards$Tokens" 53 M_To_isDigit.1 ∈ lw_gd := gd (i := 657) (by decide +kernel) (by decide +kernel)
theorem lk_To_56 : Cond.methodLink "SandGuards$Tokens" 56 M_To_addNumber.1 ∈ lw_gd := gd (i := 660) (by decide +kernel) (by decide +kernel)
theorem lk_To_59 : Cond.methodLink "SandGuards$Tokens" 59 M_To_isSign.1 ∈ lw_gd := gd (i := 664) (by decide +kernel) (by decide +kernel)
theorem lk_To_62 : Cond.methodLink "SandGuards$Tokens" 62 M_To_kindOfWord.1 ∈ lw_gd := gd (i := 652) (by decide +kernel) (by decide +kernel)
theorem lk_Lw_9 : Cond.methodLink "SandGuardsLaw" 9 M_Sg_init.1 ∈ lw_gd := gd (i := 115) (by decide +kernel) (by decide +kernel)
theorem lk_Lw_12 : Cond.methodLink "SandGuardsLaw" 12 M_Mo_init.1 ∈ lw_gd := gd (i := 1195) (by decide +kernel) (by decide +kernel)
theorem lk_Lw_13 : Cond.methodLink "SandGuardsLaw" 13 M_Sg_feed.1 ∈ lw_gd := gd (i := 606) (by decide +kernel) (by decide +kernel)
theorem lk_Lw_17 : Cond.methodLink "SandGuardsLaw" 17 M_Mo_feed.1 ∈ lw_gd := gd (i := 1389) (by decide +kernel) (by decide +kernel)
theorem lk_Lw_18 : Cond.methodLink "SandGuardsLaw" 18 M_Sg_back.1 ∈ lw_gd := gd (i := 619) (by decide +kernel) (by decide +kernel)
theorem lk_Lw_22 : Cond.methodLink "SandGuardsLaw" 22 M_Mo_back.1 ∈ lw_gd := gd (i := 1397) (by decide +kernel) (by decide +kernel)
theorem lk_Lw_23 : Cond.methodLink "SandGuardsLaw" 23 M_Sg_read.1 ∈ lw_gd := gd (i := 623) (by decide +kernel) (by decide +kernel)
theorem lk_Lw_27 : Cond.methodLink "SandGuardsLaw" 27 M_Mo_read.1 ∈ lw_gd := gd (i := 1401) (by decide +kernel) (by decide +kernel)
theorem lk_Lw_28 : Cond.methodLink "SandGuardsLaw" 28 M_Sg_place.1 ∈ lw_gd := gd (i := 837) (by decide +kernel) (by decide +kernel)
theorem lk_Lw_31 : Cond.methodLink "SandGuardsLaw" 31 M_Mo_place.1 ∈ lw_gd := gd (i := 1515) (by decide +kernel) (by decide +kernel)
theorem lk_Lw_32 : Cond.methodLink "SandGuardsLaw" 32 M_Sg_post.1 ∈ lw_gd := gd (i := 841) (by decide +kernel) (by decide +kernel)
theorem lk_Lw_36 : Cond.methodLink "SandGuardsLaw" 36 M_Mo_post.1 ∈ lw_gd := gd (i := 1519) (by decide +kernel) (by decide +kernel)
theorem lk_Lw_37 : Cond.methodLink "SandGuardsLaw" 37 M_Sg_guard.1 ∈ lw_gd := gd (i := 857) (by decide +kernel) (by decide +kernel)
theorem lk_Lw_40 : Cond.methodLink "SandGuardsLaw" 40 M_Mo_guard.1 ∈ lw_gd := gd (i := 1542) (by decide +kernel) (by decide +kernel)
theorem lk_Lw_41 : Cond.methodLink "SandGuardsLaw" 41 M_Sg_run.1 ∈ lw_gd := gd (i := 869) (by decide +kernel) (by decide +kernel)
theorem lk_Lw_44 : Cond.methodLink "SandGuardsLaw" 44 M_Mo_run.1 ∈ lw_gd := gd (i := 1558) (by decide +kernel) (by decide +kernel)
theorem lk_Lw_45 : Cond.methodLink "SandGuardsLaw" 45 M_Sg_turn.1 ∈ lw_gd := gd (i := 941) (by decide +kernel) (by decide +kernel)
theorem lk_Lw_49 : Cond.methodLink "SandGuardsLaw" 49 M_Mo_turn.1 ∈ lw_gd := gd (i := 1590) (by decide +kernel) (by decide +kernel)
theorem lk_Lw_50 : Cond.methodLink "SandGuardsLaw" 50 M_Sg_shake.1 ∈ lw_gd := gd (i := 949) (by decide +kernel) (by decide +kernel)
theorem lk_Lw_53 : Cond.methodLink "SandGuardsLaw" 53 M_Mo_shake.1 ∈ lw_gd := gd (i := 1598) (by decide +kernel) (by decide +kernel)
theorem lk_Lw_54 : Cond.methodLink "SandGuardsLaw" 54 M_Sg_dry.1 ∈ lw_gd := gd (i := 954) (by decide +kernel) (by decide +kernel)
theorem lk_Lw_58 : Cond.methodLink "SandGuardsLaw" 58 M_Mo_dry.1 ∈ lw_gd := gd (i := 1602) (by decide +kernel) (by decide +kernel)
theorem lk_Lw_59 : Cond.methodLink "SandGuardsLaw" 59 M_Sg_pinch.1 ∈ lw_gd := gd (i := 958) (by decide +kernel) (by decide +kernel)
theorem lk_Lw_62 : Cond.methodLink "SandGuardsLaw" 62 M_Mo_pinch.1 ∈ lw_gd := gd (i := 1606) (by decide +kernel) (by decide +kernel)
theorem lk_Lw_63 : Cond.methodLink "SandGuardsLaw" 63 M_Sg_send.1 ∈ lw_gd := gd (i := 963) (by decide +kernel) (by decide +kernel)
theorem lk_Lw_67 : Cond.methodLink "SandGuardsLaw" 67 M_Mo_send.1 ∈ lw_gd := gd (i := 1610) (by decide +kernel) (by decide +kernel)
theorem lk_Lw_68 : Cond.methodLink "SandGuardsLaw" 68 M_Sg_undo.1 ∈ lw_gd := gd (i := 969) (by decide +kernel) (by decide +kernel)
theorem lk_Lw_72 : Cond.methodLink "SandGuardsLaw" 72 M_Mo_undo.1 ∈ lw_gd := gd (i := 1614) (by decide +kernel) (by decide +kernel)
theorem lk_Lw_73 : Cond.methodLink "SandGuardsLaw" 73 M_Sg_out.1 ∈ lw_gd := gd (i := 977) (by decide +kernel) (by decide +kernel)
theorem lk_Lw_76 : Cond.methodLink "SandGuardsLaw" 76 M_Mo_out.1 ∈ lw_gd := gd (i := 1618) (by decide +kernel) (by decide +kernel)
theorem lk_Lw_77 : Cond.methodLink "SandGuardsLaw" 77 M_Sg_slept.1 ∈ lw_gd := gd (i := 988) (by decide +kernel) (by decide +kernel)
theorem lk_Lw_80 : Cond.methodLink "SandGuardsLaw" 80 M_Mo_slept.1 ∈ lw_gd := gd (i := 1622) (by decide +kernel) (by decide +kernel)
theorem lk_Lw_81 : Cond.methodLink "SandGuardsLaw" 81 M_Sg_dryFirst.1 ∈ lw_gd := gd (i := 1007) (by decide +kernel) (by decide +kernel)
theorem lk_Lw_84 : Cond.methodLink "SandGuardsLaw" 84 M_Mo_dryFirst.1 ∈ lw_gd := gd (i := 1637) (by decide +kernel) (by decide +kernel)
theorem lk_Lw_85 : Cond.methodLink "SandGuardsLaw" 85 M_Sg_dryTwo.1 ∈ lw_gd := gd (i := 1022) (by decide +kernel) (by decide +kernel)
theorem lk_Lw_88 : Cond.methodLink "SandGuardsLaw" 88 M_Mo_dryTwo.1 ∈ lw_gd := gd (i := 1641) (by decide +kernel) (by decide +kernel)
theorem lk_Lw_89 : Cond.methodLink "SandGuardsLaw" 89 M_Sg_bribe.1 ∈ lw_gd := gd (i := 1034) (by decide +kernel) (by decide +kernel)
theorem lk_Lw_92 : Cond.methodLink "SandGuardsLaw" 92 M_Mo_bribe.1 ∈ lw_gd := gd (i := 1645) (by decide +kernel) (by decide +kernel)
theorem lk_Lw_93 : Cond.methodLink "SandGuardsLaw" 93 M_Sg_weak.1 ∈ lw_gd := gd (i := 1054) (by decide +kernel) (by decide +kernel)
theorem lk_Lw_96 : Cond.methodLink "SandGuardsLaw" 96 M_Mo_weak.1 ∈ lw_gd := gd (i := 1649) (by decide +kernel) (by decide +kernel)
theorem lk_Lw_97 : Cond.methodLink "SandGuardsLaw" 97 M_Sg_never.1 ∈ lw_gd := gd (i := 1058) (by decide +kernel) (by decide +kernel)
theorem lk_Lw_100 : Cond.methodLink "SandGuardsLaw" 100 M_Mo_never.1 ∈ lw_gd := gd (i := 1657) (by decide +kernel) (by decide +kernel)
theorem lk_Lw_101 : Cond.methodLink "SandGuardsLaw" 101 M_Sg_spread.1 ∈ lw_gd := gd (i := 1071) (by decide +kernel) (by decide +kernel)
theorem lk_Lw_104 : Cond.methodLink "SandGuardsLaw" 104 M_Mo_spread.1 ∈ lw_gd := gd (i := 1661) (by decide +kernel) (by decide +kernel)
theorem lk_Lw_105 : Cond.methodLink "SandGuardsLaw" 105 M_Sg_shakeWorst.1 ∈ lw_gd := gd (i := 1080) (by decide +kernel) (by decide +kernel)
theorem lk_Lw_108 : Cond.methodLink "SandGuardsLaw" 108 M_Mo_shakeWorst.1 ∈ lw_gd := gd (i := 1665) (by decide +kernel) (by decide +kernel)
theorem lk_Lw_109 : Cond.methodLink "SandGuardsLaw" 109 M_Sg_longest.1 ∈ lw_gd := gd (i := 1093) (by decide +kernel) (by decide +kernel)
theorem lk_Lw_112 : Cond.methodLink "SandGuardsLaw" 112 M_Mo_longest.1 ∈ lw_gd := gd (i := 1669) (by decide +kernel) (by decide +kernel)
theorem lk_Lw_113 : Cond.methodLink "SandGuardsLaw" 113 M_Sg_rests.1 ∈ lw_gd := gd (i := 1102) (by decide +kernel) (by decide +kernel)
theorem lk_Lw_117 : Cond.methodLink "SandGuardsLaw" 117 M_Mo_rests.1 ∈ lw_gd := gd (i := 1677) (by decide +kernel) (by decide +kernel)
theorem lk_Lw_118 : Cond.methodLink "SandGuardsLaw" 118 M_Sg_where.1 ∈ lw_gd := gd (i := 1129) (by decide +kernel) (by decide +kernel)
theorem lk_Lw_121 : Cond.methodLink "SandGuardsLaw" 121 M_Mo_where.1 ∈ lw_gd := gd (i := 1673) (by decide +kernel) (by decide +kernel)
theorem lk_Lw_122 : Cond.methodLink "SandGuardsLaw" 122 M_Sg_tell.1 ∈ lw_gd := gd (i := 1133) (by decide +kernel) (by decide +kernel)
theorem lk_Lw_125 : Cond.methodLink "SandGuardsLaw" 125 M_Mo_tell_.1 ∈ lw_gd := gd (i := 1693) (by decide +kernel) (by decide +kernel)
theorem lk_Lw_126 : Cond.methodLink "SandGuardsLaw" 126 M_Sg_forget.1 ∈ lw_gd := gd (i := 1141) (by decide +kernel) (by decide +kernel)
theorem lk_Lw_129 : Cond.methodLink "SandGuardsLaw" 129 M_Mo_forget.1 ∈ lw_gd := gd (i := 1697) (by decide +kernel) (by decide +kernel)
theorem lk_Lw_130 : Cond.methodLink "SandGuardsLaw" 130 M_Sg_tampered.1 ∈ lw_gd := gd (i := 1145) (by decide +kernel) (by decide +kernel)
theorem lk_Lw_133 : Cond.methodLink "SandGuardsLaw" 133 M_Mo_tampered.1 ∈ lw_gd := gd (i := 1701) (by decide +kernel) (by decide +kernel)
theorem lk_Lw_134 : Cond.methodLink "SandGuardsLaw" 134 M_Sg_hold.1 ∈ lw_gd := gd (i := 1168) (by decide +kernel) (by decide +kernel)
theorem lk_Lw_137 : Cond.methodLink "SandGuardsLaw" 137 M_Mo_hold.1 ∈ lw_gd := gd (i := 1709) (by decide +kernel) (by decide +kernel)
theorem lk_Lw_138 : Cond.methodLink "SandGuardsLaw" 138 M_Sg_restore.1 ∈ lw_gd := gd (i := 1172) (by decide +kernel) (by decide +kernel)
theorem lk_Lw_141 : Cond.methodLink "SandGuardsLaw" 141 M_Mo_restore.1 ∈ lw_gd := gd (i := 1713) (by decide +kernel) (by decide +kernel)
theorem lk_Lw_142 : Cond.methodLink "SandGuardsLaw" 142 M_Sg_count.1 ∈ lw_gd := gd (i := 1176) (by decide +kernel) (by decide +kernel)
theorem lk_Lw_145 : Cond.methodLink "SandGuardsLaw" 145 M_Mo_count.1 ∈ lw_gd := gd (i := 1717) (by decide +kernel) (by decide +kernel)
theorem lk_Mo_143 : Cond.methodLink "SandGuardsModel" 143 M_Mo_word.1 ∈ lw_gd := gd (i := 1199) (by decide +kernel) (by decide +kernel)
theorem lk_Mo_150 : Cond.methodLink "SandGuardsModel" 150 M_Mo_put.1 ∈ lw_gd := gd (i := 1393) (by decide +kernel) (by decide +kernel)
theorem lk_Mo_159 : Cond.methodLink "SandGuardsModel" 159 M_Mo_appends.1 ∈ lw_gd := gd (i := 1202) (by decide +kernel) (by decide +kernel)
theorem lk_Mo_166 : Cond.methodLink "SandGuardsModel" 166 M_Mo_byteAt.1 ∈ lw_gd := gd (i := 1409) (by decide +kernel) (by decide +kernel)
theorem lk_Mo_170 : Cond.methodLink "SandGuardsModel" 170 M_Mo_token.1 ∈ lw_gd := gd (i := 1413) (by decide +kernel) (by decide +kernel)
theorem lk_Mo_174 : Cond.methodLink "SandGuardsModel" 174 M_Mo_isLetter.1 ∈ lw_gd := gd (i := 1417) (by decide +kernel) (by decide +kernel)
theorem lk_Mo_178 : Cond.methodLink "SandGuardsModel" 178 M_Mo_isDigit.1 ∈ lw_gd := gd (i := 1420) (by decide +kernel) (by decide +kernel)
theorem lk_Mo_181 : Cond.methodLink "SandGuardsModel" 181 M_Mo_sign.1 ∈ lw_gd := gd (i := 1423) (by decide +kernel) (by decide +kernel)
theorem lk_Mo_200 : Cond.methodLink "SandGuardsModel" 200 M_Mo_fail.1 ∈ lw_gd := gd (i := 1439) (by decide +kernel) (by decide +kernel)
theorem lk_Mo_203 : Cond.methodLink "SandGuardsModel" 203 M_Mo_is.1 ∈ lw_gd := gd (i := 1427) (by decide +kernel) (by decide +kernel)
theorem lk_Mo_206 : Cond.methodLink "SandGuardsModel" 206 M_Mo_goesOn.1 ∈ lw_gd := gd (i := 1443) (by decide +kernel) (by decide +kernel)
theorem lk_Mo_209 : Cond.methodLink "SandGuardsModel" 209 M_Mo_cut.1 ∈ lw_gd := gd (i := 1405) (by decide +kernel) (by decide +kernel)
theorem lk_Mo_230 : Cond.methodLink "SandGuardsModel" 230 M_Mo_tell.1 ∈ lw_gd := gd (i := 1431) (by decide +kernel) (by decide +kernel)
theorem lk_Mo_233 : Cond.methodLink "SandGuardsModel" 233 M_Mo_begins.1 ∈ lw_gd := gd (i := 1507) (by decide +kernel) (by decide +kernel)
theorem lk_Mo_242 : Cond.methodLink "SandGuardsModel" 242 M_Mo_roomFor.1 ∈ lw_gd := gd (i := 1435) (by decide +kernel) (by decide +kernel)
theorem lk_Mo_246 : Cond.methodLink "SandGuardsModel" 246 M_Mo_tellPost.1 ∈ lw_gd := gd (i := 1447) (by decide +kernel) (by decide +kernel)
theorem lk_Mo_249 : Cond.methodLink "SandGuardsModel" 249 M_Mo_tellGuard.1 ∈ lw_gd := gd (i := 1471) (by decide +kernel) (by decide +kernel)
theorem lk_Mo_252 : Cond.methodLink "SandGuardsModel" 252 M_Mo_must.1 ∈ lw_gd := gd (i := 1455) (by decide +kernel) (by decide +kernel)
theorem lk_Mo_255 : Cond.methodLink "SandGuardsModel" 255 M_Mo_tellLaw.1 ∈ lw_gd := gd (i := 1479) (by decide +kernel) (by decide +kernel)
theorem lk_Mo_258 : Cond.methodLink "SandGuardsModel" 258 M_Mo_tellDamp.1 ∈ lw_gd := gd (i := 1503) (by decide +kernel) (by decide +kernel)
theorem lk_Mo_261 : Cond.methodLink "SandGuardsModel" 261 M_Mo_bounded.1 ∈ lw_gd := gd (i := 1463) (by decide +kernel) (by decide +kernel)
theorem lk_Mo_265 : Cond.methodLink "SandGuardsModel" 265 M_Mo_wrong.1 ∈ lw_gd := gd (i := 1459) (by decide +kernel) (by decide +kernel)
theorem lk_Mo_268 : Cond.methodLink "SandGuardsModel" 268 M_Mo_named.1 ∈ lw_gd := gd (i := 1451) (by decide +kernel) (by decide +kernel)
theorem lk_Mo_272 : Cond.methodLink "SandGuardsModel" 272 M_Mo_notes.1 ∈ lw_gd := gd (i := 1467) (by decide +kernel) (by decide +kernel)
theorem lk_Mo_276 : Cond.methodLink "SandGuardsModel" 276 M_Mo_atPost.1 ∈ lw_gd := gd (i := 1475) (by decide +kernel) (by decide +kernel)
theorem lk_Mo_279 : Cond.methodLink "SandGuardsModel" 279 M_Mo_expression.1 ∈ lw_gd := gd (i := 1483) (by decide +kernel) (by decide +kernel)
theorem lk_Mo_282 : Cond.methodLink "SandGuardsModel" 282 M_Mo_term.1 ∈ lw_gd := gd (i := 1499) (by decide +kernel) (by decide +kernel)
theorem lk_Mo_288 : Cond.methodLink "SandGuardsModel" 288 M_Mo_emit.1 ∈ lw_gd := gd (i := 1491) (by decide +kernel) (by decide +kernel)
theorem lk_Mo_291 : Cond.methodLink "SandGuardsModel" 291 M_Mo_unit.1 ∈ lw_gd := gd (i := 1487) (by decide +kernel) (by decide +kernel)
theorem lk_Mo_294 : Cond.methodLink "SandGuardsModel" 294 M_Mo_comesOut.1 ∈ lw_gd := gd (i := 1495) (by decide +kernel) (by decide +kernel)
theorem lk_Mo_302 : Cond.methodLink "SandGuardsModel" 302 M_Mo_in.1 ∈ lw_gd := gd (i := 1527) (by decide +kernel) (by decide +kernel)
theorem lk_Mo_306 : Cond.methodLink "SandGuardsModel" 306 M_Mo_liesDown.1 ∈ lw_gd := gd (i := 1511) (by decide +kernel) (by decide +kernel)
theorem lk_Mo_309 : Cond.methodLink "SandGuardsModel" 309 M_Mo_termOf.1 ∈ lw_gd := gd (i := 1538) (by decide +kernel) (by decide +kernel)
theorem lk_Mo_312 : Cond.methodLink "SandGuardsModel" 312 M_Mo_flowOf.1 ∈ lw_gd := gd (i := 1534) (by decide +kernel) (by decide +kernel)
theorem lk_Mo_315 : Cond.methodLink "SandGuardsModel" 315 M_Mo_comes.1 ∈ lw_gd := gd (i := 1578) (by decide +kernel) (by decide +kernel)
theorem lk_Mo_318 : Cond.methodLink "SandGuardsModel" 318 M_Mo_getsUp.1 ∈ lw_gd := gd (i := 1582) (by decide +kernel) (by decide +kernel)
theorem lk_Mo_321 : Cond.methodLink "SandGuardsModel" 321 M_Mo_runs.1 ∈ lw_gd := gd (i := 1570) (by decide +kernel) (by decide +kernel)
theorem lk_Mo_324 : Cond.methodLink "SandGuardsModel" 324 M_Mo_relieves.1 ∈ lw_gd := gd (i := 1574) (by decide +kernel) (by decide +kernel)
theorem lk_Mo_327 : Cond.methodLink "SandGuardsModel" 327 M_Mo_isPost.1 ∈ lw_gd := gd (i := 1523) (by decide +kernel) (by decide +kernel)
theorem lk_Mo_330 : Cond.methodLink "SandGuardsModel" 330 M_Mo_copies.1 ∈ lw_gd := gd (i := 1530) (by decide +kernel) (by decide +kernel)
theorem lk_Mo_333 : Cond.methodLink "SandGuardsModel" 333 M_Mo_isGuard.1 ∈ lw_gd := gd (i := 1546) (by decide +kernel) (by decide +kernel)
theorem lk_Mo_336 : Cond.methodLink "SandGuardsModel" 336 M_Mo_postOf.1 ∈ lw_gd := gd (i := 1550) (by decide +kernel) (by decide +kernel)
theorem lk_Mo_339 : Cond.methodLink "SandGuardsModel" 339 M_Mo_placeInBed.1 ∈ lw_gd := gd (i := 1554) (by decide +kernel) (by decide +kernel)
theorem lk_Mo_342 : Cond.methodLink "SandGuardsModel" 342 M_Mo_minuteGoes.1 ∈ lw_gd := gd (i := 1566) (by decide +kernel) (by decide +kernel)
theorem lk_Mo_345 : Cond.methodLink "SandGuardsModel" 345 M_Mo_goes.1 ∈ lw_gd := gd (i := 1562) (by decide +kernel) (by decide +kernel)
theorem lk_Mo_348 : Cond.methodLink "SandGuardsModel" 348 M_Mo_keeps.1 ∈ lw_gd := gd (i := 1586) (by decide +kernel) (by decide +kernel)
theorem lk_Mo_351 : Cond.methodLink "SandGuardsModel" 351 M_Mo_turns.1 ∈ lw_gd := gd (i := 1594) (by decide +kernel) (by decide +kernel)
theorem lk_Mo_354 : Cond.methodLink "SandGuardsModel" 354 M_Mo_sleptOnes.1 ∈ lw_gd := gd (i := 1630) (by decide +kernel) (by decide +kernel)
theorem lk_Mo_357 : Cond.methodLink "SandGuardsModel" 357 M_Mo_sleptBy.1 ∈ lw_gd := gd (i := 1626) (by decide +kernel) (by decide +kernel)
theorem lk_Mo_360 : Cond.methodLink "SandGuardsModel" 360 M_Mo_orNot.1 ∈ lw_gd := gd (i := 1634) (by decide +kernel) (by decide +kernel)
theorem lk_Mo_363 : Cond.methodLink "SandGuardsModel" 363 M_Mo_emptyOnes.1 ∈ lw_gd := gd (i := 1653) (by decide +kernel) (by decide +kernel)
theorem lk_Mo_366 : Cond.methodLink "SandGuardsModel" 366 M_Mo_isAllowed.1 ∈ lw_gd := gd (i := 1685) (by decide +kernel) (by decide +kernel)
theorem lk_Mo_369 : Cond.methodLink "SandGuardsModel" 369 M_Mo_fillsPinches.1 ∈ lw_gd := gd (i := 1681) (by decide +kernel) (by decide +kernel)
theorem lk_Mo_372 : Cond.methodLink "SandGuardsModel" 372 M_Mo_isResting.1 ∈ lw_gd := gd (i := 1689) (by decide +kernel) (by decide +kernel)
theorem lk_Mo_375 : Cond.methodLink "SandGuardsModel" 375 M_Mo_isSo.1 ∈ lw_gd := gd (i := 1705) (by decide +kernel) (by decide +kernel)
-- constant "SandGuards$Castle" 139 (2147483647 : Int32)
-- constantLong "SandGuards" 193 (9999 : Int64)
-- constantLong "SandGuardsModel" 157 (27 : Int64)
end
