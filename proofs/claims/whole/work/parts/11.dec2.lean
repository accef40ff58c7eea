/-! what stands at each place of the code (written by wip/gen/gen10.py) -/
theorem d_Re_init_0 : decode M_Re_init.2.1 0 = .ok (.aload_n 0, 1) := by decide +kernel
theorem d_Re_init_1 : decode M_Re_init.2.1 1 = .ok (.invokespecial 5, 3) := by decide +kernel
theorem d_Re_init_4 : decode M_Re_init.2.1 4 = .ok (.aload_n 0, 1) := by decide +kernel
theorem d_Re_init_5 : decode M_Re_init.2.1 5 = .ok (.new 11, 3) := by decide +kernel
theorem d_Re_init_8 : decode M_Re_init.2.1 8 = .ok (.dup, 1) := by decide +kernel
theorem d_Re_init_9 : decode M_Re_init.2.1 9 = .ok (.invokespecial 13, 3) := by decide +kernel
theorem d_Re_init_12 : decode M_Re_init.2.1 12 = .ok (.putfield 14, 3) := by decide +kernel
theorem d_Re_init_15 : decode M_Re_init.2.1 15 = .ok (.aload_n 0, 1) := by decide +kernel
theorem d_Re_init_16 : decode M_Re_init.2.1 16 = .ok (.new 18, 3) := by decide +kernel
theorem d_Re_init_19 : decode M_Re_init.2.1 19 = .ok (.dup, 1) := by decide +kernel
theorem d_Re_init_20 : decode M_Re_init.2.1 20 = .ok (.invokespecial 20, 3) := by decide +kernel
theorem d_Re_init_23 : decode M_Re_init.2.1 23 = .ok (.putfield 21, 3) := by decide +kernel
theorem d_Re_init_26 : decode M_Re_init.2.1 26 = .ok (.aload_n 0, 1) := by decide +kernel
theorem d_Re_init_27 : decode M_Re_init.2.1 27 = .ok (.new 25, 3) := by decide +kernel
theorem d_Re_init_30 : decode M_Re_init.2.1 30 = .ok (.dup, 1) := by decide +kernel
theorem d_Re_init_31 : decode M_Re_init.2.1 31 = .ok (.invokespecial 27, 3) := by decide +kernel
theorem d_Re_init_34 : decode M_Re_init.2.1 34 = .ok (.putfield 28, 3) := by decide +kernel
theorem d_Re_init_37 : decode M_Re_init.2.1 37 = .ok (.aload_n 0, 1) := by decide +kernel
theorem d_Re_init_38 : decode M_Re_init.2.1 38 = .ok (.bipush 20, 2) := by decide +kernel
theorem d_Re_init_40 : decode M_Re_init.2.1 40 = .ok (.newarray .long, 2) := by decide +kernel
theorem d_Re_init_42 : decode M_Re_init.2.1 42 = .ok (.putfield 32, 3) := by decide +kernel
theorem d_Re_init_45 : decode M_Re_init.2.1 45 = .ok (.aload_n 0, 1) := by decide +kernel
theorem d_Re_init_46 : decode M_Re_init.2.1 46 = .ok (.bipush 8, 2) := by decide +kernel
theorem d_Re_init_48 : decode M_Re_init.2.1 48 = .ok (.newarray .long, 2) := by decide +kernel
theorem d_Re_init_50 : decode M_Re_init.2.1 50 = .ok (.putfield 36, 3) := by decide +kernel
theorem d_Re_init_53 : decode M_Re_init.2.1 53 = .ok (.aload_n 0, 1) := by decide +kernel
theorem d_Re_init_54 : decode M_Re_init.2.1 54 = .ok (.bipush 21, 2) := by decide +kernel
theorem d_Re_init_56 : decode M_Re_init.2.1 56 = .ok (.newarray .int, 2) := by decide +kernel
theorem d_Re_init_58 : decode M_Re_init.2.1 58 = .ok (.putfield 39, 3) := by decide +kernel
theorem d_Re_init_61 : decode M_Re_init.2.1 61 = .ok (.aload_n 0, 1) := by decide +kernel
theorem d_Re_init_62 : decode M_Re_init.2.1 62 = .ok (.bipush 21, 2) := by decide +kernel
theorem d_Re_init_64 : decode M_Re_init.2.1 64 = .ok (.newarray .int, 2) := by decide +kernel
theorem d_Re_init_66 : decode M_Re_init.2.1 66 = .ok (.putfield 43, 3) := by decide +kernel
theorem d_Re_init_69 : decode M_Re_init.2.1 69 = .ok (.return_, 1) := by decide +kernel
theorem d_Re_readText_0 : decode M_Re_readText.2.1 0 = .ok (.aload_n 0, 1) := by decide +kernel
theorem d_Re_readText_1 : decode M_Re_readText.2.1 1 = .ok (.getfield 28, 3) := by decide +kernel
theorem d_Re_readText_4 : decode M_Re_readText.2.1 4 = .ok (.aload_n 1, 1) := by decide +kernel
theorem d_Re_readText_5 : decode M_Re_readText.2.1 5 = .ok (.invokevirtual 46, 3) := by decide +kernel
theorem d_Re_readText_8 : decode M_Re_readText.2.1 8 = .ok (.aload_n 0, 1) := by decide +kernel
theorem d_Re_readText_9 : decode M_Re_readText.2.1 9 = .ok (.getfield 14, 3) := by decide +kernel
theorem d_Re_readText_12 : decode M_Re_readText.2.1 12 = .ok (.invokevirtual 50, 3) := by decide +kernel
theorem d_Re_readText_15 : decode M_Re_readText.2.1 15 = .ok (.aload_n 0, 1) := by decide +kernel
theorem d_Re_readText_16 : decode M_Re_readText.2.1 16 = .ok (.getfield 21, 3) := by decide +kernel
theorem d_Re_readText_19 : decode M_Re_readText.2.1 19 = .ok (.invokevirtual 53, 3) := by decide +kernel
theorem d_Re_readText_22 : decode M_Re_readText.2.1 22 = .ok (.aload_n 0, 1) := by decide +kernel
theorem d_Re_readText_23 : decode M_Re_readText.2.1 23 = .ok (.iconst 0, 1) := by decide +kernel
theorem d_Re_readText_24 : decode M_Re_readText.2.1 24 = .ok (.putfield 56, 3) := by decide +kernel
theorem d_Re_readText_27 : decode M_Re_readText.2.1 27 = .ok (.aload_n 0, 1) := by decide +kernel
theorem d_Re_readText_28 : decode M_Re_readText.2.1 28 = .ok (.iconst 0, 1) := by decide +kernel
theorem d_Re_readText_29 : decode M_Re_readText.2.1 29 = .ok (.putfield 60, 3) := by decide +kernel
theorem d_Re_readText_32 : decode M_Re_readText.2.1 32 = .ok (.aload_n 0, 1) := by decide +kernel
theorem d_Re_readText_33 : decode M_Re_readText.2.1 33 = .ok (.iconst 0, 1) := by decide +kernel
theorem d_Re_readText_34 : decode M_Re_readText.2.1 34 = .ok (.putfield 63, 3) := by decide +kernel
theorem d_Re_readText_37 : decode M_Re_readText.2.1 37 = .ok (.aload_n 0, 1) := by decide +kernel
theorem d_Re_readText_38 : decode M_Re_readText.2.1 38 = .ok (.iconst 0, 1) := by decide +kernel
theorem d_Re_readText_39 : decode M_Re_readText.2.1 39 = .ok (.putfield 66, 3) := by decide +kernel
theorem d_Re_readText_42 : decode M_Re_readText.2.1 42 = .ok (.aload_n 0, 1) := by decide +kernel
theorem d_Re_readText_43 : decode M_Re_readText.2.1 43 = .ok (.iconst (-1), 1) := by decide +kernel
theorem d_Re_readText_44 : decode M_Re_readText.2.1 44 = .ok (.putfield 69, 3) := by decide +kernel
theorem d_Re_readText_47 : decode M_Re_readText.2.1 47 = .ok (.iconst 0, 1) := by decide +kernel
theorem d_Re_readText_48 : decode M_Re_readText.2.1 48 = .ok (.istore_n 2, 1) := by decide +kernel
theorem d_Re_readText_49 : decode M_Re_readText.2.1 49 = .ok (.iload_n 2, 1) := by decide +kernel
theorem d_Re_readText_50 : decode M_Re_readText.2.1 50 = .ok (.sipush 400, 3) := by decide +kernel
theorem d_Re_readText_53 : decode M_Re_readText.2.1 53 = .ok (.if_icmp .gt 31, 3) := by decide +kernel
theorem d_Re_readText_56 : decode M_Re_readText.2.1 56 = .ok (.aload_n 0, 1) := by decide +kernel
theorem d_Re_readText_57 : decode M_Re_readText.2.1 57 = .ok (.invokevirtual 72, 3) := by decide +kernel
theorem d_Re_readText_60 : decode M_Re_readText.2.1 60 = .ok (.sipush 128, 3) := by decide +kernel
theorem d_Re_readText_63 : decode M_Re_readText.2.1 63 = .ok (.if_icmp .eq 21, 3) := by decide +kernel
theorem d_Re_readText_66 : decode M_Re_readText.2.1 66 = .ok (.aload_n 0, 1) := by decide +kernel
theorem d_Re_readText_67 : decode M_Re_readText.2.1 67 = .ok (.invokevirtual 76, 3) := by decide +kernel
theorem d_Re_readText_70 : decode M_Re_readText.2.1 70 = .ok (.ifCond .ne 8, 3) := by decide +kernel
theorem d_Re_readText_73 : decode M_Re_readText.2.1 73 = .ok (.aload_n 0, 1) := by decide +kernel
theorem d_Re_readText_74 : decode M_Re_readText.2.1 74 = .ok (.getfield 63, 3) := by decide +kernel
theorem d_Re_readText_77 : decode M_Re_readText.2.1 77 = .ok (.ireturn, 1) := by decide +kernel
theorem d_Re_readText_78 : decode M_Re_readText.2.1 78 = .ok (.iinc 2 1, 3) := by decide +kernel
theorem d_Re_readText_81 : decode M_Re_readText.2.1 81 = .ok (.goto (-32), 3) := by decide +kernel
theorem d_Re_readText_84 : decode M_Re_readText.2.1 84 = .ok (.aload_n 0, 1) := by decide +kernel
theorem d_Re_readText_85 : decode M_Re_readText.2.1 85 = .ok (.getfield 66, 3) := by decide +kernel
theorem d_Re_readText_88 : decode M_Re_readText.2.1 88 = .ok (.ifCond .eq 16, 3) := by decide +kernel
theorem d_Re_readText_91 : decode M_Re_readText.2.1 91 = .ok (.aload_n 0, 1) := by decide +kernel
theorem d_Re_readText_92 : decode M_Re_readText.2.1 92 = .ok (.aload_n 0, 1) := by decide +kernel
theorem d_Re_readText_93 : decode M_Re_readText.2.1 93 = .ok (.getfield 80, 3) := by decide +kernel
theorem d_Re_readText_96 : decode M_Re_readText.2.1 96 = .ok (.putfield 69, 3) := by decide +kernel
theorem d_Re_readText_99 : decode M_Re_readText.2.1 99 = .ok (.aload_n 0, 1) := by decide +kernel
theorem d_Re_readText_100 : decode M_Re_readText.2.1 100 = .ok (.getfield 66, 3) := by decide +kernel
theorem d_Re_readText_103 : decode M_Re_readText.2.1 103 = .ok (.ireturn, 1) := by decide +kernel
theorem d_Re_readText_104 : decode M_Re_readText.2.1 104 = .ok (.aload_n 0, 1) := by decide +kernel
theorem d_Re_readText_105 : decode M_Re_readText.2.1 105 = .ok (.getfield 14, 3) := by decide +kernel
theorem d_Re_readText_108 : decode M_Re_readText.2.1 108 = .ok (.invokevirtual 83, 3) := by decide +kernel
theorem d_Re_readText_111 : decode M_Re_readText.2.1 111 = .ok (.iconst 0, 1) := by decide +kernel
theorem d_Re_readText_112 : decode M_Re_readText.2.1 112 = .ok (.ireturn, 1) := by decide +kernel
theorem d_Re_takeTell_0 : decode M_Re_takeTell.2.1 0 = .ok (.aload_n 0, 1) := by decide +kernel
theorem d_Re_takeTell_1 : decode M_Re_takeTell.2.1 1 = .ok (.invokevirtual 72, 3) := by decide +kernel
theorem d_Re_takeTell_4 : decode M_Re_takeTell.2.1 4 = .ok (.tableswitch 77 137 145 #[52, 57, 77, 62, 77, 77, 77, 67, 72], 52) := by decide +kernel
theorem d_Re_takeTell_56 : decode M_Re_takeTell.2.1 56 = .ok (.aload_n 0, 1) := by decide +kernel
theorem d_Re_takeTell_57 : decode M_Re_takeTell.2.1 57 = .ok (.invokevirtual 86, 3) := by decide +kernel
theorem d_Re_takeTell_60 : decode M_Re_takeTell.2.1 60 = .ok (.ireturn, 1) := by decide +kernel
theorem d_Re_takeTell_61 : decode M_Re_takeTell.2.1 61 = .ok (.aload_n 0, 1) := by decide +kernel
theorem d_Re_takeTell_62 : decode M_Re_takeTell.2.1 62 = .ok (.invokevirtual 89, 3) := by decide +kernel
theorem d_Re_takeTell_65 : decode M_Re_takeTell.2.1 65 = .ok (.ireturn, 1) := by decide +kernel
theorem d_Re_takeTell_66 : decode M_Re_takeTell.2.1 66 = .ok (.aload_n 0, 1) := by decide +kernel
theorem d_Re_takeTell_67 : decode M_Re_takeTell.2.1 67 = .ok (.invokevirtual 92, 3) := by decide +kernel
theorem d_Re_takeTell_70 : decode M_Re_takeTell.2.1 70 = .ok (.ireturn, 1) := by decide +kernel
theorem d_Re_takeTell_71 : decode M_Re_takeTell.2.1 71 = .ok (.aload_n 0, 1) := by decide +kernel
theorem d_Re_takeTell_72 : decode M_Re_takeTell.2.1 72 = .ok (.invokevirtual 95, 3) := by decide +kernel
theorem d_Re_takeTell_75 : decode M_Re_takeTell.2.1 75 = .ok (.ireturn, 1) := by decide +kernel
theorem d_Re_takeTell_76 : decode M_Re_takeTell.2.1 76 = .ok (.aload_n 0, 1) := by decide +kernel
theorem d_Re_takeTell_77 : decode M_Re_takeTell.2.1 77 = .ok (.invokevirtual 98, 3) := by decide +kernel
theorem d_Re_takeTell_80 : decode M_Re_takeTell.2.1 80 = .ok (.ireturn, 1) := by decide +kernel
theorem d_Re_takeTell_81 : decode M_Re_takeTell.2.1 81 = .ok (.aload_n 0, 1) := by decide +kernel
theorem d_Re_takeTell_82 : decode M_Re_takeTell.2.1 82 = .ok (.iconst 1, 1) := by decide +kernel
theorem d_Re_takeTell_83 : decode M_Re_takeTell.2.1 83 = .ok (.invokevirtual 101, 3) := by decide +kernel
theorem d_Re_takeTell_86 : decode M_Re_takeTell.2.1 86 = .ok (.ireturn, 1) := by decide +kernel
theorem d_Re_takePost_0 : decode M_Re_takePost.2.1 0 = .ok (.aload_n 0, 1) := by decide +kernel
theorem d_Re_takePost_1 : decode M_Re_takePost.2.1 1 = .ok (.getfield 14, 3) := by decide +kernel
theorem d_Re_takePost_4 : decode M_Re_takePost.2.1 4 = .ok (.getfield 105, 3) := by decide +kernel
theorem d_Re_takePost_7 : decode M_Re_takePost.2.1 7 = .ok (.bipush 8, 2) := by decide +kernel
theorem d_Re_takePost_9 : decode M_Re_takePost.2.1 9 = .ok (.if_icmp .lt 9, 3) := by decide +kernel
theorem d_Re_takePost_12 : decode M_Re_takePost.2.1 12 = .ok (.aload_n 0, 1) := by decide +kernel
theorem d_Re_takePost_13 : decode M_Re_takePost.2.1 13 = .ok (.iconst 2, 1) := by decide +kernel
theorem d_Re_takePost_14 : decode M_Re_takePost.2.1 14 = .ok (.invokevirtual 101, 3) := by decide +kernel
theorem d_Re_takePost_17 : decode M_Re_takePost.2.1 17 = .ok (.ireturn, 1) := by decide +kernel
theorem d_Re_takePost_18 : decode M_Re_takePost.2.1 18 = .ok (.aload_n 0, 1) := by decide +kernel
theorem d_Re_takePost_19 : decode M_Re_takePost.2.1 19 = .ok (.sipush 137, 3) := by decide +kernel
theorem d_Re_takePost_22 : decode M_Re_takePost.2.1 22 = .ok (.invokevirtual 108, 3) := by decide +kernel
theorem d_Re_takePost_25 : decode M_Re_takePost.2.1 25 = .ok (.ifCond .eq 10, 3) := by decide +kernel
theorem d_Re_takePost_28 : decode M_Re_takePost.2.1 28 = .ok (.aload_n 0, 1) := by decide +kernel
theorem d_Re_takePost_29 : decode M_Re_takePost.2.1 29 = .ok (.invokevirtual 111, 3) := by decide +kernel
theorem d_Re_takePost_32 : decode M_Re_takePost.2.1 32 = .ok (.ifCond .ne 5, 3) := by decide +kernel
theorem d_Re_takePost_35 : decode M_Re_takePost.2.1 35 = .ok (.iconst 0, 1) := by decide +kernel
theorem d_Re_takePost_36 : decode M_Re_takePost.2.1 36 = .ok (.ireturn, 1) := by decide +kernel
theorem d_Re_takePost_37 : decode M_Re_takePost.2.1 37 = .ok (.aload_n 0, 1) := by decide +kernel
theorem d_Re_takePost_38 : decode M_Re_takePost.2.1 38 = .ok (.getfield 14, 3) := by decide +kernel
theorem d_Re_takePost_41 : decode M_Re_takePost.2.1 41 = .ok (.dup, 1) := by decide +kernel
theorem d_Re_takePost_42 : decode M_Re_takePost.2.1 42 = .ok (.getfield 105, 3) := by decide +kernel
theorem d_Re_takePost_45 : decode M_Re_takePost.2.1 45 = .ok (.dup_x1, 1) := by decide +kernel
theorem d_Re_takePost_46 : decode M_Re_takePost.2.1 46 = .ok (.iconst 1, 1) := by decide +kernel
theorem d_Re_takePost_47 : decode M_Re_takePost.2.1 47 = .ok (.iadd, 1) := by decide +kernel
theorem d_Re_takePost_48 : decode M_Re_takePost.2.1 48 = .ok (.putfield 105, 3) := by decide +kernel
theorem d_Re_takePost_51 : decode M_Re_takePost.2.1 51 = .ok (.istore_n 1, 1) := by decide +kernel
theorem d_Re_takePost_52 : decode M_Re_takePost.2.1 52 = .ok (.aload_n 0, 1) := by decide +kernel
theorem d_Re_takePost_53 : decode M_Re_takePost.2.1 53 = .ok (.getfield 36, 3) := by decide +kernel
theorem d_Re_takePost_56 : decode M_Re_takePost.2.1 56 = .ok (.iload_n 1, 1) := by decide +kernel
theorem d_Re_takePost_57 : decode M_Re_takePost.2.1 57 = .ok (.aload_n 0, 1) := by decide +kernel
theorem d_Re_takePost_58 : decode M_Re_takePost.2.1 58 = .ok (.getfield 114, 3) := by decide +kernel
theorem d_Re_takePost_61 : decode M_Re_takePost.2.1 61 = .ok (.lastore, 1) := by decide +kernel
theorem d_Re_takePost_62 : decode M_Re_takePost.2.1 62 = .ok (.aload_n 0, 1) := by decide +kernel
theorem d_Re_takePost_63 : decode M_Re_takePost.2.1 63 = .ok (.sipush 999, 3) := by decide +kernel
theorem d_Re_takePost_66 : decode M_Re_takePost.2.1 66 = .ok (.invokevirtual 118, 3) := by decide +kernel
theorem d_Re_takePost_69 : decode M_Re_takePost.2.1 69 = .ok (.ifCond .ne 5, 3) := by decide +kernel
theorem d_Re_takePost_72 : decode M_Re_takePost.2.1 72 = .ok (.iconst 0, 1) := by decide +kernel
theorem d_Re_takePost_73 : decode M_Re_takePost.2.1 73 = .ok (.ireturn, 1) := by decide +kernel
theorem d_Re_takePost_74 : decode M_Re_takePost.2.1 74 = .ok (.aload_n 0, 1) := by decide +kernel
theorem d_Re_takePost_75 : decode M_Re_takePost.2.1 75 = .ok (.getfield 21, 3) := by decide +kernel
theorem d_Re_takePost_78 : decode M_Re_takePost.2.1 78 = .ok (.getfield 121, 3) := by decide +kernel
theorem d_Re_takePost_81 : decode M_Re_takePost.2.1 81 = .ok (.iload_n 1, 1) := by decide +kernel
theorem d_Re_takePost_82 : decode M_Re_takePost.2.1 82 = .ok (.aload_n 0, 1) := by decide +kernel
theorem d_Re_takePost_83 : decode M_Re_takePost.2.1 83 = .ok (.getfield 124, 3) := by decide +kernel
theorem d_Re_takePost_86 : decode M_Re_takePost.2.1 86 = .ok (.iastore, 1) := by decide +kernel
theorem d_Re_takePost_87 : decode M_Re_takePost.2.1 87 = .ok (.aload_n 0, 1) := by decide +kernel
theorem d_Re_takePost_88 : decode M_Re_takePost.2.1 88 = .ok (.sipush 999, 3) := by decide +kernel
theorem d_Re_takePost_91 : decode M_Re_takePost.2.1 91 = .ok (.invokevirtual 118, 3) := by decide +kernel
theorem d_Re_takePost_94 : decode M_Re_takePost.2.1 94 = .ok (.ifCond .ne 5, 3) := by decide +kernel
theorem d_Re_takePost_97 : decode M_Re_takePost.2.1 97 = .ok (.iconst 0, 1) := by decide +kernel
theorem d_Re_takePost_98 : decode M_Re_takePost.2.1 98 = .ok (.ireturn, 1) := by decide +kernel
theorem d_Re_takePost_99 : decode M_Re_takePost.2.1 99 = .ok (.aload_n 0, 1) := by decide +kernel
theorem d_Re_takePost_100 : decode M_Re_takePost.2.1 100 = .ok (.getfield 21, 3) := by decide +kernel
theorem d_Re_takePost_103 : decode M_Re_takePost.2.1 103 = .ok (.getfield 127, 3) := by decide +kernel
theorem d_Re_takePost_106 : decode M_Re_takePost.2.1 106 = .ok (.iload_n 1, 1) := by decide +kernel
theorem d_Re_takePost_107 : decode M_Re_takePost.2.1 107 = .ok (.aload_n 0, 1) := by decide +kernel
theorem d_Re_takePost_108 : decode M_Re_takePost.2.1 108 = .ok (.getfield 124, 3) := by decide +kernel
theorem d_Re_takePost_111 : decode M_Re_takePost.2.1 111 = .ok (.iastore, 1) := by decide +kernel
theorem d_Re_takePost_112 : decode M_Re_takePost.2.1 112 = .ok (.aload_n 0, 1) := by decide +kernel
theorem d_Re_takePost_113 : decode M_Re_takePost.2.1 113 = .ok (.bipush 99, 2) := by decide +kernel
theorem d_Re_takePost_115 : decode M_Re_takePost.2.1 115 = .ok (.invokevirtual 118, 3) := by decide +kernel
theorem d_Re_takePost_118 : decode M_Re_takePost.2.1 118 = .ok (.ifCond .ne 5, 3) := by decide +kernel
theorem d_Re_takePost_121 : decode M_Re_takePost.2.1 121 = .ok (.iconst 0, 1) := by decide +kernel
theorem d_Re_takePost_122 : decode M_Re_takePost.2.1 122 = .ok (.ireturn, 1) := by decide +kernel
theorem d_Re_takePost_123 : decode M_Re_takePost.2.1 123 = .ok (.aload_n 0, 1) := by decide +kernel
theorem d_Re_takePost_124 : decode M_Re_takePost.2.1 124 = .ok (.getfield 14, 3) := by decide +kernel
theorem d_Re_takePost_127 : decode M_Re_takePost.2.1 127 = .ok (.getfield 130, 3) := by decide +kernel
theorem d_Re_takePost_130 : decode M_Re_takePost.2.1 130 = .ok (.iload_n 1, 1) := by decide +kernel
theorem d_Re_takePost_131 : decode M_Re_takePost.2.1 131 = .ok (.aload_n 0, 1) := by decide +kernel
theorem d_Re_takePost_132 : decode M_Re_takePost.2.1 132 = .ok (.getfield 124, 3) := by decide +kernel
theorem d_Re_takePost_135 : decode M_Re_takePost.2.1 135 = .ok (.iastore, 1) := by decide +kernel
theorem d_Re_takePost_136 : decode M_Re_takePost.2.1 136 = .ok (.aload_n 0, 1) := by decide +kernel
theorem d_Re_takePost_137 : decode M_Re_takePost.2.1 137 = .ok (.bipush 59, 2) := by decide +kernel
theorem d_Re_takePost_139 : decode M_Re_takePost.2.1 139 = .ok (.invokevirtual 108, 3) := by decide +kernel
theorem d_Re_takePost_142 : decode M_Re_takePost.2.1 142 = .ok (.ireturn, 1) := by decide +kernel
theorem d_Re_takeGuard_0 : decode M_Re_takeGuard.2.1 0 = .ok (.aload_n 0, 1) := by decide +kernel
theorem d_Re_takeGuard_1 : decode M_Re_takeGuard.2.1 1 = .ok (.getfield 14, 3) := by decide +kernel
theorem d_Re_takeGuard_4 : decode M_Re_takeGuard.2.1 4 = .ok (.getfield 133, 3) := by decide +kernel
theorem d_Re_takeGuard_7 : decode M_Re_takeGuard.2.1 7 = .ok (.bipush 12, 2) := by decide +kernel
theorem d_Re_takeGuard_9 : decode M_Re_takeGuard.2.1 9 = .ok (.if_icmp .lt 9, 3) := by decide +kernel
theorem d_Re_takeGuard_12 : decode M_Re_takeGuard.2.1 12 = .ok (.aload_n 0, 1) := by decide +kernel
theorem d_Re_takeGuard_13 : decode M_Re_takeGuard.2.1 13 = .ok (.iconst 2, 1) := by decide +kernel
theorem d_Re_takeGuard_14 : decode M_Re_takeGuard.2.1 14 = .ok (.invokevirtual 101, 3) := by decide +kernel
theorem d_Re_takeGuard_17 : decode M_Re_takeGuard.2.1 17 = .ok (.ireturn, 1) := by decide +kernel
theorem d_Re_takeGuard_18 : decode M_Re_takeGuard.2.1 18 = .ok (.aload_n 0, 1) := by decide +kernel
theorem d_Re_takeGuard_19 : decode M_Re_takeGuard.2.1 19 = .ok (.sipush 138, 3) := by decide +kernel
theorem d_Re_takeGuard_22 : decode M_Re_takeGuard.2.1 22 = .ok (.invokevirtual 108, 3) := by decide +kernel
theorem d_Re_takeGuard_25 : decode M_Re_takeGuard.2.1 25 = .ok (.ifCond .eq 10, 3) := by decide +kernel
theorem d_Re_takeGuard_28 : decode M_Re_takeGuard.2.1 28 = .ok (.aload_n 0, 1) := by decide +kernel
theorem d_Re_takeGuard_29 : decode M_Re_takeGuard.2.1 29 = .ok (.invokevirtual 111, 3) := by decide +kernel
theorem d_Re_takeGuard_32 : decode M_Re_takeGuard.2.1 32 = .ok (.ifCond .ne 5, 3) := by decide +kernel
theorem d_Re_takeGuard_35 : decode M_Re_takeGuard.2.1 35 = .ok (.iconst 0, 1) := by decide +kernel
theorem d_Re_takeGuard_36 : decode M_Re_takeGuard.2.1 36 = .ok (.ireturn, 1) := by decide +kernel
theorem d_Re_takeGuard_37 : decode M_Re_takeGuard.2.1 37 = .ok (.aload_n 0, 1) := by decide +kernel
theorem d_Re_takeGuard_38 : decode M_Re_takeGuard.2.1 38 = .ok (.getfield 14, 3) := by decide +kernel
theorem d_Re_takeGuard_41 : decode M_Re_takeGuard.2.1 41 = .ok (.dup, 1) := by decide +kernel
theorem d_Re_takeGuard_42 : decode M_Re_takeGuard.2.1 42 = .ok (.getfield 133, 3) := by decide +kernel
theorem d_Re_takeGuard_45 : decode M_Re_takeGuard.2.1 45 = .ok (.dup_x1, 1) := by decide +kernel
theorem d_Re_takeGuard_46 : decode M_Re_takeGuard.2.1 46 = .ok (.iconst 1, 1) := by decide +kernel
theorem d_Re_takeGuard_47 : decode M_Re_takeGuard.2.1 47 = .ok (.iadd, 1) := by decide +kernel
theorem d_Re_takeGuard_48 : decode M_Re_takeGuard.2.1 48 = .ok (.putfield 133, 3) := by decide +kernel
theorem d_Re_takeGuard_51 : decode M_Re_takeGuard.2.1 51 = .ok (.istore_n 1, 1) := by decide +kernel
theorem d_Re_takeGuard_52 : decode M_Re_takeGuard.2.1 52 = .ok (.aload_n 0, 1) := by decide +kernel
theorem d_Re_takeGuard_53 : decode M_Re_takeGuard.2.1 53 = .ok (.invokevirtual 72, 3) := by decide +kernel
theorem d_Re_takeGuard_56 : decode M_Re_takeGuard.2.1 56 = .ok (.sipush 139, 3) := by decide +kernel
theorem d_Re_takeGuard_59 : decode M_Re_takeGuard.2.1 59 = .ok (.if_icmp .eq 18, 3) := by decide +kernel
theorem d_Re_takeGuard_62 : decode M_Re_takeGuard.2.1 62 = .ok (.aload_n 0, 1) := by decide +kernel
theorem d_Re_takeGuard_63 : decode M_Re_takeGuard.2.1 63 = .ok (.getfield 21, 3) := by decide +kernel
theorem d_Re_takeGuard_66 : decode M_Re_takeGuard.2.1 66 = .ok (.iload_n 1, 1) := by decide +kernel
theorem d_Re_takeGuard_67 : decode M_Re_takeGuard.2.1 67 = .ok (.invokevirtual 136, 3) := by decide +kernel
theorem d_Re_takeGuard_70 : decode M_Re_takeGuard.2.1 70 = .ok (.aload_n 0, 1) := by decide +kernel
theorem d_Re_takeGuard_71 : decode M_Re_takeGuard.2.1 71 = .ok (.bipush 59, 2) := by decide +kernel
theorem d_Re_takeGuard_73 : decode M_Re_takeGuard.2.1 73 = .ok (.invokevirtual 108, 3) := by decide +kernel
theorem d_Re_takeGuard_76 : decode M_Re_takeGuard.2.1 76 = .ok (.ireturn, 1) := by decide +kernel
theorem d_Re_takeGuard_77 : decode M_Re_takeGuard.2.1 77 = .ok (.aload_n 0, 1) := by decide +kernel
theorem d_Re_takeGuard_78 : decode M_Re_takeGuard.2.1 78 = .ok (.sipush 139, 3) := by decide +kernel
theorem d_Re_takeGuard_81 : decode M_Re_takeGuard.2.1 81 = .ok (.invokevirtual 108, 3) := by decide +kernel
theorem d_Re_takeGuard_84 : decode M_Re_takeGuard.2.1 84 = .ok (.ifCond .eq 24, 3) := by decide +kernel
theorem d_Re_takeGuard_87 : decode M_Re_takeGuard.2.1 87 = .ok (.aload_n 0, 1) := by decide +kernel
theorem d_Re_takeGuard_88 : decode M_Re_takeGuard.2.1 88 = .ok (.iload_n 1, 1) := by decide +kernel
theorem d_Re_takeGuard_89 : decode M_Re_takeGuard.2.1 89 = .ok (.invokevirtual 140, 3) := by decide +kernel
theorem d_Re_takeGuard_92 : decode M_Re_takeGuard.2.1 92 = .ok (.ifCond .eq 16, 3) := by decide +kernel
theorem d_Re_takeGuard_95 : decode M_Re_takeGuard.2.1 95 = .ok (.aload_n 0, 1) := by decide +kernel
theorem d_Re_takeGuard_96 : decode M_Re_takeGuard.2.1 96 = .ok (.bipush 59, 2) := by decide +kernel
theorem d_Re_takeGuard_98 : decode M_Re_takeGuard.2.1 98 = .ok (.invokevirtual 108, 3) := by decide +kernel
theorem d_Re_takeGuard_101 : decode M_Re_takeGuard.2.1 101 = .ok (.ifCond .eq 7, 3) := by decide +kernel
theorem d_Re_takeGuard_104 : decode M_Re_takeGuard.2.1 104 = .ok (.iconst 1, 1) := by decide +kernel
theorem d_Re_takeGuard_105 : decode M_Re_takeGuard.2.1 105 = .ok (.goto 4, 3) := by decide +kernel
theorem d_Re_takeGuard_108 : decode M_Re_takeGuard.2.1 108 = .ok (.iconst 0, 1) := by decide +kernel
theorem d_Re_takeGuard_109 : decode M_Re_takeGuard.2.1 109 = .ok (.ireturn, 1) := by decide +kernel
theorem d_Re_takePostOf_0 : decode M_Re_takePostOf.2.1 0 = .ok (.aload_n 0, 1) := by decide +kernel
theorem d_Re_takePostOf_1 : decode M_Re_takePostOf.2.1 1 = .ok (.getfield 28, 3) := by decide +kernel
theorem d_Re_takePostOf_4 : decode M_Re_takePostOf.2.1 4 = .ok (.getfield 143, 3) := by decide +kernel
theorem d_Re_takePostOf_7 : decode M_Re_takePostOf.2.1 7 = .ok (.aload_n 0, 1) := by decide +kernel
theorem d_Re_takePostOf_8 : decode M_Re_takePostOf.2.1 8 = .ok (.getfield 60, 3) := by decide +kernel
theorem d_Re_takePostOf_11 : decode M_Re_takePostOf.2.1 11 = .ok (.iaload, 1) := by decide +kernel
theorem d_Re_takePostOf_12 : decode M_Re_takePostOf.2.1 12 = .ok (.istore_n 2, 1) := by decide +kernel
theorem d_Re_takePostOf_13 : decode M_Re_takePostOf.2.1 13 = .ok (.aload_n 0, 1) := by decide +kernel
theorem d_Re_takePostOf_14 : decode M_Re_takePostOf.2.1 14 = .ok (.getfield 28, 3) := by decide +kernel
theorem d_Re_takePostOf_17 : decode M_Re_takePostOf.2.1 17 = .ok (.getfield 146, 3) := by decide +kernel
theorem d_Re_takePostOf_20 : decode M_Re_takePostOf.2.1 20 = .ok (.aload_n 0, 1) := by decide +kernel
theorem d_Re_takePostOf_21 : decode M_Re_takePostOf.2.1 21 = .ok (.getfield 60, 3) := by decide +kernel
theorem d_Re_takePostOf_24 : decode M_Re_takePostOf.2.1 24 = .ok (.laload, 1) := by decide +kernel
theorem d_Re_takePostOf_25 : decode M_Re_takePostOf.2.1 25 = .ok (.lstore_n 3, 1) := by decide +kernel
theorem d_Re_takePostOf_26 : decode M_Re_takePostOf.2.1 26 = .ok (.aload_n 0, 1) := by decide +kernel
theorem d_Re_takePostOf_27 : decode M_Re_takePostOf.2.1 27 = .ok (.sipush 130, 3) := by decide +kernel
theorem d_Re_takePostOf_30 : decode M_Re_takePostOf.2.1 30 = .ok (.invokevirtual 108, 3) := by decide +kernel
theorem d_Re_takePostOf_33 : decode M_Re_takePostOf.2.1 33 = .ok (.ifCond .ne 5, 3) := by decide +kernel
theorem d_Re_takePostOf_36 : decode M_Re_takePostOf.2.1 36 = .ok (.iconst 0, 1) := by decide +kernel
theorem d_Re_takePostOf_37 : decode M_Re_takePostOf.2.1 37 = .ok (.ireturn, 1) := by decide +kernel
theorem d_Re_takePostOf_38 : decode M_Re_takePostOf.2.1 38 = .ok (.aload_n 0, 1) := by decide +kernel
theorem d_Re_takePostOf_39 : decode M_Re_takePostOf.2.1 39 = .ok (.lload_n 3, 1) := by decide +kernel
theorem d_Re_takePostOf_40 : decode M_Re_takePostOf.2.1 40 = .ok (.invokevirtual 147, 3) := by decide +kernel
theorem d_Re_takePostOf_43 : decode M_Re_takePostOf.2.1 43 = .ok (.istore 5, 2) := by decide +kernel
theorem d_Re_takePostOf_45 : decode M_Re_takePostOf.2.1 45 = .ok (.iload 5, 2) := by decide +kernel
theorem d_Re_takePostOf_47 : decode M_Re_takePostOf.2.1 47 = .ok (.bipush (-2), 2) := by decide +kernel
theorem d_Re_takePostOf_49 : decode M_Re_takePostOf.2.1 49 = .ok (.if_icmp .ne 12, 3) := by decide +kernel
theorem d_Re_takePostOf_52 : decode M_Re_takePostOf.2.1 52 = .ok (.aload_n 0, 1) := by decide +kernel
theorem d_Re_takePostOf_53 : decode M_Re_takePostOf.2.1 53 = .ok (.iconst 4, 1) := by decide +kernel
theorem d_Re_takePostOf_54 : decode M_Re_takePostOf.2.1 54 = .ok (.iload_n 2, 1) := by decide +kernel
theorem d_Re_takePostOf_55 : decode M_Re_takePostOf.2.1 55 = .ok (.invokevirtual 151, 3) := by decide +kernel
theorem d_Re_takePostOf_58 : decode M_Re_takePostOf.2.1 58 = .ok (.goto 37, 3) := by decide +kernel
theorem d_Re_takePostOf_61 : decode M_Re_takePostOf.2.1 61 = .ok (.aload_n 0, 1) := by decide +kernel
theorem d_Re_takePostOf_62 : decode M_Re_takePostOf.2.1 62 = .ok (.getfield 21, 3) := by decide +kernel
theorem d_Re_takePostOf_65 : decode M_Re_takePostOf.2.1 65 = .ok (.getfield 155, 3) := by decide +kernel
theorem d_Re_takePostOf_68 : decode M_Re_takePostOf.2.1 68 = .ok (.iload 5, 2) := by decide +kernel
theorem d_Re_takePostOf_70 : decode M_Re_takePostOf.2.1 70 = .ok (.iaload, 1) := by decide +kernel
theorem d_Re_takePostOf_71 : decode M_Re_takePostOf.2.1 71 = .ok (.bipush (-2), 2) := by decide +kernel
theorem d_Re_takePostOf_73 : decode M_Re_takePostOf.2.1 73 = .ok (.if_icmp .eq 12, 3) := by decide +kernel
theorem d_Re_takePostOf_76 : decode M_Re_takePostOf.2.1 76 = .ok (.aload_n 0, 1) := by decide +kernel
theorem d_Re_takePostOf_77 : decode M_Re_takePostOf.2.1 77 = .ok (.iconst 3, 1) := by decide +kernel
theorem d_Re_takePostOf_78 : decode M_Re_takePostOf.2.1 78 = .ok (.iload_n 2, 1) := by decide +kernel
theorem d_Re_takePostOf_79 : decode M_Re_takePostOf.2.1 79 = .ok (.invokevirtual 151, 3) := by decide +kernel
theorem d_Re_takePostOf_82 : decode M_Re_takePostOf.2.1 82 = .ok (.goto 13, 3) := by decide +kernel
theorem d_Re_takePostOf_85 : decode M_Re_takePostOf.2.1 85 = .ok (.aload_n 0, 1) := by decide +kernel
theorem d_Re_takePostOf_86 : decode M_Re_takePostOf.2.1 86 = .ok (.getfield 21, 3) := by decide +kernel
theorem d_Re_takePostOf_89 : decode M_Re_takePostOf.2.1 89 = .ok (.iload_n 1, 1) := by decide +kernel
theorem d_Re_takePostOf_90 : decode M_Re_takePostOf.2.1 90 = .ok (.iload 5, 2) := by decide +kernel
theorem d_Re_takePostOf_92 : decode M_Re_takePostOf.2.1 92 = .ok (.invokevirtual 158, 3) := by decide +kernel
theorem d_Re_takePostOf_95 : decode M_Re_takePostOf.2.1 95 = .ok (.iconst 1, 1) := by decide +kernel
theorem d_Re_takePostOf_96 : decode M_Re_takePostOf.2.1 96 = .ok (.ireturn, 1) := by decide +kernel
theorem d_Re_takeDamp_0 : decode M_Re_takeDamp.2.1 0 = .ok (.aload_n 0, 1) := by decide +kernel
theorem d_Re_takeDamp_1 : decode M_Re_takeDamp.2.1 1 = .ok (.sipush 144, 3) := by decide +kernel
theorem d_Re_takeDamp_4 : decode M_Re_takeDamp.2.1 4 = .ok (.invokevirtual 108, 3) := by decide +kernel
theorem d_Re_takeDamp_7 : decode M_Re_takeDamp.2.1 7 = .ok (.ifCond .ne 5, 3) := by decide +kernel
theorem d_Re_takeDamp_10 : decode M_Re_takeDamp.2.1 10 = .ok (.iconst 0, 1) := by decide +kernel
theorem d_Re_takeDamp_11 : decode M_Re_takeDamp.2.1 11 = .ok (.ireturn, 1) := by decide +kernel
theorem d_Re_takeDamp_12 : decode M_Re_takeDamp.2.1 12 = .ok (.aload_n 0, 1) := by decide +kernel
theorem d_Re_takeDamp_13 : decode M_Re_takeDamp.2.1 13 = .ok (.getfield 14, 3) := by decide +kernel
theorem d_Re_takeDamp_16 : decode M_Re_takeDamp.2.1 16 = .ok (.iconst 0, 1) := by decide +kernel
theorem d_Re_takeDamp_17 : decode M_Re_takeDamp.2.1 17 = .ok (.putfield 161, 3) := by decide +kernel
theorem d_Re_takeDamp_20 : decode M_Re_takeDamp.2.1 20 = .ok (.iconst 0, 1) := by decide +kernel
theorem d_Re_takeDamp_21 : decode M_Re_takeDamp.2.1 21 = .ok (.istore_n 1, 1) := by decide +kernel
theorem d_Re_takeDamp_22 : decode M_Re_takeDamp.2.1 22 = .ok (.iload_n 1, 1) := by decide +kernel
theorem d_Re_takeDamp_23 : decode M_Re_takeDamp.2.1 23 = .ok (.bipush 24, 2) := by decide +kernel
theorem d_Re_takeDamp_25 : decode M_Re_takeDamp.2.1 25 = .ok (.if_icmp .gt 74, 3) := by decide +kernel
theorem d_Re_takeDamp_28 : decode M_Re_takeDamp.2.1 28 = .ok (.aload_n 0, 1) := by decide +kernel
theorem d_Re_takeDamp_29 : decode M_Re_takeDamp.2.1 29 = .ok (.invokevirtual 72, 3) := by decide +kernel
theorem d_Re_takeDamp_32 : decode M_Re_takeDamp.2.1 32 = .ok (.sipush 131, 3) := by decide +kernel
theorem d_Re_takeDamp_35 : decode M_Re_takeDamp.2.1 35 = .ok (.if_icmp .ne 64, 3) := by decide +kernel
theorem d_Re_takeDamp_38 : decode M_Re_takeDamp.2.1 38 = .ok (.iload_n 1, 1) := by decide +kernel
theorem d_Re_takeDamp_39 : decode M_Re_takeDamp.2.1 39 = .ok (.bipush 24, 2) := by decide +kernel
theorem d_Re_takeDamp_41 : decode M_Re_takeDamp.2.1 41 = .ok (.if_icmp .ne 9, 3) := by decide +kernel
theorem d_Re_takeDamp_44 : decode M_Re_takeDamp.2.1 44 = .ok (.aload_n 0, 1) := by decide +kernel
theorem d_Re_takeDamp_45 : decode M_Re_takeDamp.2.1 45 = .ok (.iconst 2, 1) := by decide +kernel
theorem d_Re_takeDamp_46 : decode M_Re_takeDamp.2.1 46 = .ok (.invokevirtual 101, 3) := by decide +kernel
theorem d_Re_takeDamp_49 : decode M_Re_takeDamp.2.1 49 = .ok (.ireturn, 1) := by decide +kernel
theorem d_Re_takeDamp_50 : decode M_Re_takeDamp.2.1 50 = .ok (.aload_n 0, 1) := by decide +kernel
theorem d_Re_takeDamp_51 : decode M_Re_takeDamp.2.1 51 = .ok (.bipush 99, 2) := by decide +kernel
theorem d_Re_takeDamp_53 : decode M_Re_takeDamp.2.1 53 = .ok (.invokevirtual 118, 3) := by decide +kernel
theorem d_Re_takeDamp_56 : decode M_Re_takeDamp.2.1 56 = .ok (.ifCond .ne 5, 3) := by decide +kernel
theorem d_Re_takeDamp_59 : decode M_Re_takeDamp.2.1 59 = .ok (.iconst 0, 1) := by decide +kernel
theorem d_Re_takeDamp_60 : decode M_Re_takeDamp.2.1 60 = .ok (.ireturn, 1) := by decide +kernel
theorem d_Re_takeDamp_61 : decode M_Re_takeDamp.2.1 61 = .ok (.aload_n 0, 1) := by decide +kernel
theorem d_Re_takeDamp_62 : decode M_Re_takeDamp.2.1 62 = .ok (.getfield 14, 3) := by decide +kernel
theorem d_Re_takeDamp_65 : decode M_Re_takeDamp.2.1 65 = .ok (.dup, 1) := by decide +kernel
theorem d_Re_takeDamp_66 : decode M_Re_takeDamp.2.1 66 = .ok (.getfield 161, 3) := by decide +kernel
theorem d_Re_takeDamp_69 : decode M_Re_takeDamp.2.1 69 = .ok (.iconst 1, 1) := by decide +kernel
theorem d_Re_takeDamp_70 : decode M_Re_takeDamp.2.1 70 = .ok (.iadd, 1) := by decide +kernel
theorem d_Re_takeDamp_71 : decode M_Re_takeDamp.2.1 71 = .ok (.putfield 161, 3) := by decide +kernel
theorem d_Re_takeDamp_74 : decode M_Re_takeDamp.2.1 74 = .ok (.aload_n 0, 1) := by decide +kernel
theorem d_Re_takeDamp_75 : decode M_Re_takeDamp.2.1 75 = .ok (.getfield 14, 3) := by decide +kernel
theorem d_Re_takeDamp_78 : decode M_Re_takeDamp.2.1 78 = .ok (.getfield 164, 3) := by decide +kernel
theorem d_Re_takeDamp_81 : decode M_Re_takeDamp.2.1 81 = .ok (.aload_n 0, 1) := by decide +kernel
theorem d_Re_takeDamp_82 : decode M_Re_takeDamp.2.1 82 = .ok (.getfield 14, 3) := by decide +kernel
theorem d_Re_takeDamp_85 : decode M_Re_takeDamp.2.1 85 = .ok (.getfield 161, 3) := by decide +kernel
theorem d_Re_takeDamp_88 : decode M_Re_takeDamp.2.1 88 = .ok (.aload_n 0, 1) := by decide +kernel
theorem d_Re_takeDamp_89 : decode M_Re_takeDamp.2.1 89 = .ok (.getfield 124, 3) := by decide +kernel
theorem d_Re_takeDamp_92 : decode M_Re_takeDamp.2.1 92 = .ok (.iastore, 1) := by decide +kernel
theorem d_Re_takeDamp_93 : decode M_Re_takeDamp.2.1 93 = .ok (.iinc 1 1, 3) := by decide +kernel
theorem d_Re_takeDamp_96 : decode M_Re_takeDamp.2.1 96 = .ok (.goto (-74), 3) := by decide +kernel
theorem d_Re_takeDamp_99 : decode M_Re_takeDamp.2.1 99 = .ok (.aload_n 0, 1) := by decide +kernel
theorem d_Re_takeDamp_100 : decode M_Re_takeDamp.2.1 100 = .ok (.bipush 59, 2) := by decide +kernel
theorem d_Re_takeDamp_102 : decode M_Re_takeDamp.2.1 102 = .ok (.invokevirtual 108, 3) := by decide +kernel
theorem d_Re_takeDamp_105 : decode M_Re_takeDamp.2.1 105 = .ok (.ireturn, 1) := by decide +kernel
theorem d_Re_takeSleep_0 : decode M_Re_takeSleep.2.1 0 = .ok (.aload_n 0, 1) := by decide +kernel
theorem d_Re_takeSleep_1 : decode M_Re_takeSleep.2.1 1 = .ok (.sipush 145, 3) := by decide +kernel
theorem d_Re_takeSleep_4 : decode M_Re_takeSleep.2.1 4 = .ok (.invokevirtual 108, 3) := by decide +kernel
theorem d_Re_takeSleep_7 : decode M_Re_takeSleep.2.1 7 = .ok (.ifCond .eq 13, 3) := by decide +kernel
theorem d_Re_takeSleep_10 : decode M_Re_takeSleep.2.1 10 = .ok (.aload_n 0, 1) := by decide +kernel
theorem d_Re_takeSleep_11 : decode M_Re_takeSleep.2.1 11 = .ok (.sipush 9999, 3) := by decide +kernel
theorem d_Re_takeSleep_14 : decode M_Re_takeSleep.2.1 14 = .ok (.invokevirtual 118, 3) := by decide +kernel
theorem d_Re_takeSleep_17 : decode M_Re_takeSleep.2.1 17 = .ok (.ifCond .ne 5, 3) := by decide +kernel
theorem d_Re_takeSleep_20 : decode M_Re_takeSleep.2.1 20 = .ok (.iconst 0, 1) := by decide +kernel
theorem d_Re_takeSleep_21 : decode M_Re_takeSleep.2.1 21 = .ok (.ireturn, 1) := by decide +kernel
theorem d_Re_takeSleep_22 : decode M_Re_takeSleep.2.1 22 = .ok (.aload_n 0, 1) := by decide +kernel
theorem d_Re_takeSleep_23 : decode M_Re_takeSleep.2.1 23 = .ok (.getfield 14, 3) := by decide +kernel
theorem d_Re_takeSleep_26 : decode M_Re_takeSleep.2.1 26 = .ok (.aload_n 0, 1) := by decide +kernel
theorem d_Re_takeSleep_27 : decode M_Re_takeSleep.2.1 27 = .ok (.getfield 124, 3) := by decide +kernel
theorem d_Re_takeSleep_30 : decode M_Re_takeSleep.2.1 30 = .ok (.putfield 167, 3) := by decide +kernel
theorem d_Re_takeSleep_33 : decode M_Re_takeSleep.2.1 33 = .ok (.aload_n 0, 1) := by decide +kernel
theorem d_Re_takeSleep_34 : decode M_Re_takeSleep.2.1 34 = .ok (.bipush 59, 2) := by decide +kernel
theorem d_Re_takeSleep_36 : decode M_Re_takeSleep.2.1 36 = .ok (.invokevirtual 108, 3) := by decide +kernel
theorem d_Re_takeSleep_39 : decode M_Re_takeSleep.2.1 39 = .ok (.ireturn, 1) := by decide +kernel
theorem d_Re_takeFlow_0 : decode M_Re_takeFlow.2.1 0 = .ok (.aload_n 0, 1) := by decide +kernel
theorem d_Re_takeFlow_1 : decode M_Re_takeFlow.2.1 1 = .ok (.sipush 140, 3) := by decide +kernel
theorem d_Re_takeFlow_4 : decode M_Re_takeFlow.2.1 4 = .ok (.invokevirtual 108, 3) := by decide +kernel
theorem d_Re_takeFlow_7 : decode M_Re_takeFlow.2.1 7 = .ok (.ifCond .eq 12, 3) := by decide +kernel
theorem d_Re_takeFlow_10 : decode M_Re_takeFlow.2.1 10 = .ok (.aload_n 0, 1) := by decide +kernel
theorem d_Re_takeFlow_11 : decode M_Re_takeFlow.2.1 11 = .ok (.bipush 61, 2) := by decide +kernel
theorem d_Re_takeFlow_13 : decode M_Re_takeFlow.2.1 13 = .ok (.invokevirtual 108, 3) := by decide +kernel
theorem d_Re_takeFlow_16 : decode M_Re_takeFlow.2.1 16 = .ok (.ifCond .ne 5, 3) := by decide +kernel
theorem d_Re_takeFlow_19 : decode M_Re_takeFlow.2.1 19 = .ok (.iconst 0, 1) := by decide +kernel
theorem d_Re_takeFlow_20 : decode M_Re_takeFlow.2.1 20 = .ok (.ireturn, 1) := by decide +kernel
theorem d_Re_takeFlow_21 : decode M_Re_takeFlow.2.1 21 = .ok (.aload_n 0, 1) := by decide +kernel
theorem d_Re_takeFlow_22 : decode M_Re_takeFlow.2.1 22 = .ok (.getfield 14, 3) := by decide +kernel
theorem d_Re_takeFlow_25 : decode M_Re_takeFlow.2.1 25 = .ok (.getfield 170, 3) := by decide +kernel
theorem d_Re_takeFlow_28 : decode M_Re_takeFlow.2.1 28 = .ok (.invokevirtual 174, 3) := by decide +kernel
theorem d_Re_takeFlow_31 : decode M_Re_takeFlow.2.1 31 = .ok (.iconst 0, 1) := by decide +kernel
theorem d_Re_takeFlow_32 : decode M_Re_takeFlow.2.1 32 = .ok (.istore_n 1, 1) := by decide +kernel
theorem d_Re_takeFlow_33 : decode M_Re_takeFlow.2.1 33 = .ok (.iload_n 1, 1) := by decide +kernel
theorem d_Re_takeFlow_34 : decode M_Re_takeFlow.2.1 34 = .ok (.iconst 4, 1) := by decide +kernel
theorem d_Re_takeFlow_35 : decode M_Re_takeFlow.2.1 35 = .ok (.if_icmp .gt 39, 3) := by decide +kernel
theorem d_Re_takeFlow_38 : decode M_Re_takeFlow.2.1 38 = .ok (.aload_n 0, 1) := by decide +kernel
theorem d_Re_takeFlow_39 : decode M_Re_takeFlow.2.1 39 = .ok (.invokevirtual 72, 3) := by decide +kernel
theorem d_Re_takeFlow_42 : decode M_Re_takeFlow.2.1 42 = .ok (.sipush 141, 3) := by decide +kernel
theorem d_Re_takeFlow_45 : decode M_Re_takeFlow.2.1 45 = .ok (.if_icmp .ne 29, 3) := by decide +kernel
theorem d_Re_takeFlow_48 : decode M_Re_takeFlow.2.1 48 = .ok (.iload_n 1, 1) := by decide +kernel
theorem d_Re_takeFlow_49 : decode M_Re_takeFlow.2.1 49 = .ok (.iconst 4, 1) := by decide +kernel
theorem d_Re_takeFlow_50 : decode M_Re_takeFlow.2.1 50 = .ok (.if_icmp .ne 9, 3) := by decide +kernel
theorem d_Re_takeFlow_53 : decode M_Re_takeFlow.2.1 53 = .ok (.aload_n 0, 1) := by decide +kernel
theorem d_Re_takeFlow_54 : decode M_Re_takeFlow.2.1 54 = .ok (.iconst 2, 1) := by decide +kernel
theorem d_Re_takeFlow_55 : decode M_Re_takeFlow.2.1 55 = .ok (.invokevirtual 101, 3) := by decide +kernel
theorem d_Re_takeFlow_58 : decode M_Re_takeFlow.2.1 58 = .ok (.ireturn, 1) := by decide +kernel
theorem d_Re_takeFlow_59 : decode M_Re_takeFlow.2.1 59 = .ok (.aload_n 0, 1) := by decide +kernel
theorem d_Re_takeFlow_60 : decode M_Re_takeFlow.2.1 60 = .ok (.invokevirtual 177, 3) := by decide +kernel
theorem d_Re_takeFlow_63 : decode M_Re_takeFlow.2.1 63 = .ok (.ifCond .ne 5, 3) := by decide +kernel
theorem d_Re_takeFlow_66 : decode M_Re_takeFlow.2.1 66 = .ok (.iconst 0, 1) := by decide +kernel
theorem d_Re_takeFlow_67 : decode M_Re_takeFlow.2.1 67 = .ok (.ireturn, 1) := by decide +kernel
theorem d_Re_takeFlow_68 : decode M_Re_takeFlow.2.1 68 = .ok (.iinc 1 1, 3) := by decide +kernel
theorem d_Re_takeFlow_71 : decode M_Re_takeFlow.2.1 71 = .ok (.goto (-38), 3) := by decide +kernel
theorem d_Re_takeFlow_74 : decode M_Re_takeFlow.2.1 74 = .ok (.aload_n 0, 1) := by decide +kernel
theorem d_Re_takeFlow_75 : decode M_Re_takeFlow.2.1 75 = .ok (.invokevirtual 180, 3) := by decide +kernel
theorem d_Re_takeFlow_78 : decode M_Re_takeFlow.2.1 78 = .ok (.ifCond .ne 5, 3) := by decide +kernel
theorem d_Re_takeFlow_81 : decode M_Re_takeFlow.2.1 81 = .ok (.iconst 0, 1) := by decide +kernel
theorem d_Re_takeFlow_82 : decode M_Re_takeFlow.2.1 82 = .ok (.ireturn, 1) := by decide +kernel
theorem d_Re_takeFlow_83 : decode M_Re_takeFlow.2.1 83 = .ok (.aload_n 0, 1) := by decide +kernel
theorem d_Re_takeFlow_84 : decode M_Re_takeFlow.2.1 84 = .ok (.invokevirtual 183, 3) := by decide +kernel
theorem d_Re_takeFlow_87 : decode M_Re_takeFlow.2.1 87 = .ok (.aload_n 0, 1) := by decide +kernel
theorem d_Re_takeFlow_88 : decode M_Re_takeFlow.2.1 88 = .ok (.bipush 59, 2) := by decide +kernel
theorem d_Re_takeFlow_90 : decode M_Re_takeFlow.2.1 90 = .ok (.invokevirtual 108, 3) := by decide +kernel
theorem d_Re_takeFlow_93 : decode M_Re_takeFlow.2.1 93 = .ok (.ireturn, 1) := by decide +kernel
theorem d_Re_takeIf_0 : decode M_Re_takeIf.2.1 0 = .ok (.aload_n 0, 1) := by decide +kernel
theorem d_Re_takeIf_1 : decode M_Re_takeIf.2.1 1 = .ok (.sipush 141, 3) := by decide +kernel
theorem d_Re_takeIf_4 : decode M_Re_takeIf.2.1 4 = .ok (.invokevirtual 108, 3) := by decide +kernel
theorem d_Re_takeIf_7 : decode M_Re_takeIf.2.1 7 = .ok (.ifCond .eq 19, 3) := by decide +kernel
theorem d_Re_takeIf_10 : decode M_Re_takeIf.2.1 10 = .ok (.aload_n 0, 1) := by decide +kernel
theorem d_Re_takeIf_11 : decode M_Re_takeIf.2.1 11 = .ok (.invokevirtual 180, 3) := by decide +kernel
theorem d_Re_takeIf_14 : decode M_Re_takeIf.2.1 14 = .ok (.ifCond .eq 12, 3) := by decide +kernel
theorem d_Re_takeIf_17 : decode M_Re_takeIf.2.1 17 = .ok (.aload_n 0, 1) := by decide +kernel
theorem d_Re_takeIf_18 : decode M_Re_takeIf.2.1 18 = .ok (.bipush 60, 2) := by decide +kernel
theorem d_Re_takeIf_20 : decode M_Re_takeIf.2.1 20 = .ok (.invokevirtual 108, 3) := by decide +kernel
theorem d_Re_takeIf_23 : decode M_Re_takeIf.2.1 23 = .ok (.ifCond .ne 5, 3) := by decide +kernel
theorem d_Re_takeIf_26 : decode M_Re_takeIf.2.1 26 = .ok (.iconst 0, 1) := by decide +kernel
theorem d_Re_takeIf_27 : decode M_Re_takeIf.2.1 27 = .ok (.ireturn, 1) := by decide +kernel
theorem d_Re_takeIf_28 : decode M_Re_takeIf.2.1 28 = .ok (.aload_n 0, 1) := by decide +kernel
theorem d_Re_takeIf_29 : decode M_Re_takeIf.2.1 29 = .ok (.invokevirtual 186, 3) := by decide +kernel
theorem d_Re_takeIf_32 : decode M_Re_takeIf.2.1 32 = .ok (.istore_n 1, 1) := by decide +kernel
theorem d_Re_takeIf_33 : decode M_Re_takeIf.2.1 33 = .ok (.aload_n 0, 1) := by decide +kernel
theorem d_Re_takeIf_34 : decode M_Re_takeIf.2.1 34 = .ok (.invokevirtual 180, 3) := by decide +kernel
theorem d_Re_takeIf_37 : decode M_Re_takeIf.2.1 37 = .ok (.ifCond .eq 13, 3) := by decide +kernel
theorem d_Re_takeIf_40 : decode M_Re_takeIf.2.1 40 = .ok (.aload_n 0, 1) := by decide +kernel
theorem d_Re_takeIf_41 : decode M_Re_takeIf.2.1 41 = .ok (.sipush 142, 3) := by decide +kernel
theorem d_Re_takeIf_44 : decode M_Re_takeIf.2.1 44 = .ok (.invokevirtual 108, 3) := by decide +kernel
theorem d_Re_takeIf_47 : decode M_Re_takeIf.2.1 47 = .ok (.ifCond .ne 5, 3) := by decide +kernel
theorem d_Re_takeIf_50 : decode M_Re_takeIf.2.1 50 = .ok (.iconst 0, 1) := by decide +kernel
theorem d_Re_takeIf_51 : decode M_Re_takeIf.2.1 51 = .ok (.ireturn, 1) := by decide +kernel
theorem d_Re_takeIf_52 : decode M_Re_takeIf.2.1 52 = .ok (.aload_n 0, 1) := by decide +kernel
theorem d_Re_takeIf_53 : decode M_Re_takeIf.2.1 53 = .ok (.getfield 14, 3) := by decide +kernel
theorem d_Re_takeIf_56 : decode M_Re_takeIf.2.1 56 = .ok (.getfield 170, 3) := by decide +kernel
theorem d_Re_takeIf_59 : decode M_Re_takeIf.2.1 59 = .ok (.iconst 4, 1) := by decide +kernel
theorem d_Re_takeIf_60 : decode M_Re_takeIf.2.1 60 = .ok (.iload_n 1, 1) := by decide +kernel
theorem d_Re_takeIf_61 : decode M_Re_takeIf.2.1 61 = .ok (.aload_n 0, 1) := by decide +kernel
theorem d_Re_takeIf_62 : decode M_Re_takeIf.2.1 62 = .ok (.invokevirtual 186, 3) := by decide +kernel
theorem d_Re_takeIf_65 : decode M_Re_takeIf.2.1 65 = .ok (.invokevirtual 189, 3) := by decide +kernel
theorem d_Re_takeIf_68 : decode M_Re_takeIf.2.1 68 = .ok (.istore_n 2, 1) := by decide +kernel
theorem d_Re_takeIf_69 : decode M_Re_takeIf.2.1 69 = .ok (.aload_n 0, 1) := by decide +kernel
theorem d_Re_takeIf_70 : decode M_Re_takeIf.2.1 70 = .ok (.invokevirtual 180, 3) := by decide +kernel
theorem d_Re_takeIf_73 : decode M_Re_takeIf.2.1 73 = .ok (.ifCond .eq 13, 3) := by decide +kernel
theorem d_Re_takeIf_76 : decode M_Re_takeIf.2.1 76 = .ok (.aload_n 0, 1) := by decide +kernel
theorem d_Re_takeIf_77 : decode M_Re_takeIf.2.1 77 = .ok (.sipush 143, 3) := by decide +kernel
theorem d_Re_takeIf_80 : decode M_Re_takeIf.2.1 80 = .ok (.invokevirtual 108, 3) := by decide +kernel
theorem d_Re_takeIf_83 : decode M_Re_takeIf.2.1 83 = .ok (.ifCond .ne 5, 3) := by decide +kernel
theorem d_Re_takeIf_86 : decode M_Re_takeIf.2.1 86 = .ok (.iconst 0, 1) := by decide +kernel
theorem d_Re_takeIf_87 : decode M_Re_takeIf.2.1 87 = .ok (.ireturn, 1) := by decide +kernel
theorem d_Re_takeIf_88 : decode M_Re_takeIf.2.1 88 = .ok (.aload_n 0, 1) := by decide +kernel
theorem d_Re_takeIf_89 : decode M_Re_takeIf.2.1 89 = .ok (.invokevirtual 183, 3) := by decide +kernel
theorem d_Re_takeIf_92 : decode M_Re_takeIf.2.1 92 = .ok (.aload_n 0, 1) := by decide +kernel
theorem d_Re_takeIf_93 : decode M_Re_takeIf.2.1 93 = .ok (.getfield 14, 3) := by decide +kernel
theorem d_Re_takeIf_96 : decode M_Re_takeIf.2.1 96 = .ok (.getfield 170, 3) := by decide +kernel
theorem d_Re_takeIf_99 : decode M_Re_takeIf.2.1 99 = .ok (.iload_n 2, 1) := by decide +kernel
theorem d_Re_takeIf_100 : decode M_Re_takeIf.2.1 100 = .ok (.invokevirtual 193, 3) := by decide +kernel
theorem d_Re_takeIf_103 : decode M_Re_takeIf.2.1 103 = .ok (.iconst 1, 1) := by decide +kernel
theorem d_Re_takeIf_104 : decode M_Re_takeIf.2.1 104 = .ok (.ireturn, 1) := by decide +kernel
theorem d_Re_addEnd_0 : decode M_Re_addEnd.2.1 0 = .ok (.aload_n 0, 1) := by decide +kernel
theorem d_Re_addEnd_1 : decode M_Re_addEnd.2.1 1 = .ok (.invokevirtual 186, 3) := by decide +kernel
theorem d_Re_addEnd_4 : decode M_Re_addEnd.2.1 4 = .ok (.istore_n 1, 1) := by decide +kernel
theorem d_Re_addEnd_5 : decode M_Re_addEnd.2.1 5 = .ok (.aload_n 0, 1) := by decide +kernel
theorem d_Re_addEnd_6 : decode M_Re_addEnd.2.1 6 = .ok (.getfield 14, 3) := by decide +kernel
theorem d_Re_addEnd_9 : decode M_Re_addEnd.2.1 9 = .ok (.getfield 170, 3) := by decide +kernel
theorem d_Re_addEnd_12 : decode M_Re_addEnd.2.1 12 = .ok (.iconst 5, 1) := by decide +kernel
theorem d_Re_addEnd_13 : decode M_Re_addEnd.2.1 13 = .ok (.iload_n 1, 1) := by decide +kernel
theorem d_Re_addEnd_14 : decode M_Re_addEnd.2.1 14 = .ok (.iload_n 1, 1) := by decide +kernel
theorem d_Re_addEnd_15 : decode M_Re_addEnd.2.1 15 = .ok (.invokevirtual 189, 3) := by decide +kernel
theorem d_Re_addEnd_18 : decode M_Re_addEnd.2.1 18 = .ok (.pop, 1) := by decide +kernel
theorem d_Re_addEnd_19 : decode M_Re_addEnd.2.1 19 = .ok (.return_, 1) := by decide +kernel
theorem d_Re_takeSum_0 : decode M_Re_takeSum.2.1 0 = .ok (.iconst 0, 1) := by decide +kernel
theorem d_Re_takeSum_1 : decode M_Re_takeSum.2.1 1 = .ok (.istore_n 1, 1) := by decide +kernel
theorem d_Re_takeSum_2 : decode M_Re_takeSum.2.1 2 = .ok (.iconst 1, 1) := by decide +kernel
theorem d_Re_takeSum_3 : decode M_Re_takeSum.2.1 3 = .ok (.istore_n 2, 1) := by decide +kernel
theorem d_Re_takeSum_4 : decode M_Re_takeSum.2.1 4 = .ok (.aload_n 0, 1) := by decide +kernel
theorem d_Re_takeSum_5 : decode M_Re_takeSum.2.1 5 = .ok (.iconst 0, 1) := by decide +kernel
theorem d_Re_takeSum_6 : decode M_Re_takeSum.2.1 6 = .ok (.putfield 196, 3) := by decide +kernel
theorem d_Re_takeSum_9 : decode M_Re_takeSum.2.1 9 = .ok (.aload_n 0, 1) := by decide +kernel
theorem d_Re_takeSum_10 : decode M_Re_takeSum.2.1 10 = .ok (.iconst 0, 1) := by decide +kernel
theorem d_Re_takeSum_11 : decode M_Re_takeSum.2.1 11 = .ok (.putfield 199, 3) := by decide +kernel
theorem d_Re_takeSum_14 : decode M_Re_takeSum.2.1 14 = .ok (.iconst 0, 1) := by decide +kernel
theorem d_Re_takeSum_15 : decode M_Re_takeSum.2.1 15 = .ok (.istore_n 3, 1) := by decide +kernel
theorem d_Re_takeSum_16 : decode M_Re_takeSum.2.1 16 = .ok (.iload_n 3, 1) := by decide +kernel
theorem d_Re_takeSum_17 : decode M_Re_takeSum.2.1 17 = .ok (.sipush 400, 3) := by decide +kernel
theorem d_Re_takeSum_20 : decode M_Re_takeSum.2.1 20 = .ok (.if_icmp .gt 168, 3) := by decide +kernel
theorem d_Re_takeSum_23 : decode M_Re_takeSum.2.1 23 = .ok (.aload_n 0, 1) := by decide +kernel
theorem d_Re_takeSum_24 : decode M_Re_takeSum.2.1 24 = .ok (.invokevirtual 72, 3) := by decide +kernel
theorem d_Re_takeSum_27 : decode M_Re_takeSum.2.1 27 = .ok (.istore 4, 2) := by decide +kernel
theorem d_Re_takeSum_29 : decode M_Re_takeSum.2.1 29 = .ok (.iload_n 2, 1) := by decide +kernel
theorem d_Re_takeSum_30 : decode M_Re_takeSum.2.1 30 = .ok (.ifCond .eq 34, 3) := by decide +kernel
theorem d_Re_takeSum_33 : decode M_Re_takeSum.2.1 33 = .ok (.iload 4, 2) := by decide +kernel
theorem d_Re_takeSum_35 : decode M_Re_takeSum.2.1 35 = .ok (.bipush 40, 2) := by decide +kernel
theorem d_Re_takeSum_37 : decode M_Re_takeSum.2.1 37 = .ok (.if_icmp .ne 27, 3) := by decide +kernel
theorem d_Re_takeSum_40 : decode M_Re_takeSum.2.1 40 = .ok (.iload_n 1, 1) := by decide +kernel
theorem d_Re_takeSum_41 : decode M_Re_takeSum.2.1 41 = .ok (.bipush 6, 2) := by decide +kernel
theorem d_Re_takeSum_43 : decode M_Re_takeSum.2.1 43 = .ok (.if_icmp .ne 9, 3) := by decide +kernel
theorem d_Re_takeSum_46 : decode M_Re_takeSum.2.1 46 = .ok (.aload_n 0, 1) := by decide +kernel
theorem d_Re_takeSum_47 : decode M_Re_takeSum.2.1 47 = .ok (.iconst 2, 1) := by decide +kernel
theorem d_Re_takeSum_48 : decode M_Re_takeSum.2.1 48 = .ok (.invokevirtual 101, 3) := by decide +kernel
theorem d_Re_takeSum_51 : decode M_Re_takeSum.2.1 51 = .ok (.ireturn, 1) := by decide +kernel
theorem d_Re_takeSum_52 : decode M_Re_takeSum.2.1 52 = .ok (.iinc 1 1, 3) := by decide +kernel
theorem d_Re_takeSum_55 : decode M_Re_takeSum.2.1 55 = .ok (.aload_n 0, 1) := by decide +kernel
theorem d_Re_takeSum_56 : decode M_Re_takeSum.2.1 56 = .ok (.iload 4, 2) := by decide +kernel
theorem d_Re_takeSum_58 : decode M_Re_takeSum.2.1 58 = .ok (.invokevirtual 202, 3) := by decide +kernel
theorem d_Re_takeSum_61 : decode M_Re_takeSum.2.1 61 = .ok (.goto 110, 3) := by decide +kernel
theorem d_Re_takeSum_64 : decode M_Re_takeSum.2.1 64 = .ok (.iload_n 2, 1) := by decide +kernel
theorem d_Re_takeSum_65 : decode M_Re_takeSum.2.1 65 = .ok (.ifCond .eq 23, 3) := by decide +kernel
theorem d_Re_takeSum_68 : decode M_Re_takeSum.2.1 68 = .ok (.aload_n 0, 1) := by decide +kernel
theorem d_Re_takeSum_69 : decode M_Re_takeSum.2.1 69 = .ok (.iload 4, 2) := by decide +kernel
theorem d_Re_takeSum_71 : decode M_Re_takeSum.2.1 71 = .ok (.invokevirtual 205, 3) := by decide +kernel
theorem d_Re_takeSum_74 : decode M_Re_takeSum.2.1 74 = .ok (.ifCond .ne 9, 3) := by decide +kernel
theorem d_Re_takeSum_77 : decode M_Re_takeSum.2.1 77 = .ok (.aload_n 0, 1) := by decide +kernel
theorem d_Re_takeSum_78 : decode M_Re_takeSum.2.1 78 = .ok (.iconst 1, 1) := by decide +kernel
theorem d_Re_takeSum_79 : decode M_Re_takeSum.2.1 79 = .ok (.invokevirtual 101, 3) := by decide +kernel
theorem d_Re_takeSum_82 : decode M_Re_takeSum.2.1 82 = .ok (.ireturn, 1) := by decide +kernel
theorem d_Re_takeSum_83 : decode M_Re_takeSum.2.1 83 = .ok (.iconst 0, 1) := by decide +kernel
theorem d_Re_takeSum_84 : decode M_Re_takeSum.2.1 84 = .ok (.istore_n 2, 1) := by decide +kernel
theorem d_Re_takeSum_85 : decode M_Re_takeSum.2.1 85 = .ok (.goto 86, 3) := by decide +kernel
theorem d_Re_takeSum_88 : decode M_Re_takeSum.2.1 88 = .ok (.iload 4, 2) := by decide +kernel
theorem d_Re_takeSum_90 : decode M_Re_takeSum.2.1 90 = .ok (.invokestatic 208, 3) := by decide +kernel
theorem d_Re_takeSum_93 : decode M_Re_takeSum.2.1 93 = .ok (.ifCond .le 23, 3) := by decide +kernel
theorem d_Re_takeSum_96 : decode M_Re_takeSum.2.1 96 = .ok (.aload_n 0, 1) := by decide +kernel
theorem d_Re_takeSum_97 : decode M_Re_takeSum.2.1 97 = .ok (.iload 4, 2) := by decide +kernel
theorem d_Re_takeSum_99 : decode M_Re_takeSum.2.1 99 = .ok (.invokestatic 208, 3) := by decide +kernel
theorem d_Re_takeSum_102 : decode M_Re_takeSum.2.1 102 = .ok (.invokevirtual 212, 3) := by decide +kernel
theorem d_Re_takeSum_105 : decode M_Re_takeSum.2.1 105 = .ok (.aload_n 0, 1) := by decide +kernel
theorem d_Re_takeSum_106 : decode M_Re_takeSum.2.1 106 = .ok (.iload 4, 2) := by decide +kernel
theorem d_Re_takeSum_108 : decode M_Re_takeSum.2.1 108 = .ok (.invokevirtual 202, 3) := by decide +kernel
theorem d_Re_takeSum_111 : decode M_Re_takeSum.2.1 111 = .ok (.iconst 1, 1) := by decide +kernel
theorem d_Re_takeSum_112 : decode M_Re_takeSum.2.1 112 = .ok (.istore_n 2, 1) := by decide +kernel
theorem d_Re_takeSum_113 : decode M_Re_takeSum.2.1 113 = .ok (.goto 58, 3) := by decide +kernel
theorem d_Re_takeSum_116 : decode M_Re_takeSum.2.1 116 = .ok (.iload 4, 2) := by decide +kernel
theorem d_Re_takeSum_118 : decode M_Re_takeSum.2.1 118 = .ok (.bipush 41, 2) := by decide +kernel
theorem d_Re_takeSum_120 : decode M_Re_takeSum.2.1 120 = .ok (.if_icmp .ne 28, 3) := by decide +kernel
theorem d_Re_takeSum_123 : decode M_Re_takeSum.2.1 123 = .ok (.iload_n 1, 1) := by decide +kernel
theorem d_Re_takeSum_124 : decode M_Re_takeSum.2.1 124 = .ok (.ifCond .le 24, 3) := by decide +kernel
theorem d_Re_takeSum_127 : decode M_Re_takeSum.2.1 127 = .ok (.aload_n 0, 1) := by decide +kernel
theorem d_Re_takeSum_128 : decode M_Re_takeSum.2.1 128 = .ok (.iconst 1, 1) := by decide +kernel
theorem d_Re_takeSum_129 : decode M_Re_takeSum.2.1 129 = .ok (.invokevirtual 212, 3) := by decide +kernel
theorem d_Re_takeSum_132 : decode M_Re_takeSum.2.1 132 = .ok (.aload_n 0, 1) := by decide +kernel
theorem d_Re_takeSum_133 : decode M_Re_takeSum.2.1 133 = .ok (.dup, 1) := by decide +kernel
theorem d_Re_takeSum_134 : decode M_Re_takeSum.2.1 134 = .ok (.getfield 196, 3) := by decide +kernel
theorem d_Re_takeSum_137 : decode M_Re_takeSum.2.1 137 = .ok (.iconst 1, 1) := by decide +kernel
theorem d_Re_takeSum_138 : decode M_Re_takeSum.2.1 138 = .ok (.isub, 1) := by decide +kernel
theorem d_Re_takeSum_139 : decode M_Re_takeSum.2.1 139 = .ok (.putfield 196, 3) := by decide +kernel
theorem d_Re_takeSum_142 : decode M_Re_takeSum.2.1 142 = .ok (.iinc 1 (-1), 3) := by decide +kernel
theorem d_Re_takeSum_145 : decode M_Re_takeSum.2.1 145 = .ok (.goto 26, 3) := by decide +kernel
theorem d_Re_takeSum_148 : decode M_Re_takeSum.2.1 148 = .ok (.aload_n 0, 1) := by decide +kernel
theorem d_Re_takeSum_149 : decode M_Re_takeSum.2.1 149 = .ok (.iconst 1, 1) := by decide +kernel
theorem d_Re_takeSum_150 : decode M_Re_takeSum.2.1 150 = .ok (.invokevirtual 212, 3) := by decide +kernel
theorem d_Re_takeSum_153 : decode M_Re_takeSum.2.1 153 = .ok (.iload_n 1, 1) := by decide +kernel
theorem d_Re_takeSum_154 : decode M_Re_takeSum.2.1 154 = .ok (.ifCond .eq 11, 3) := by decide +kernel
theorem d_Re_takeSum_157 : decode M_Re_takeSum.2.1 157 = .ok (.aload_n 0, 1) := by decide +kernel
theorem d_Re_takeSum_158 : decode M_Re_takeSum.2.1 158 = .ok (.iconst 1, 1) := by decide +kernel
theorem d_Re_takeSum_159 : decode M_Re_takeSum.2.1 159 = .ok (.invokevirtual 101, 3) := by decide +kernel
theorem d_Re_takeSum_162 : decode M_Re_takeSum.2.1 162 = .ok (.ifCond .eq 7, 3) := by decide +kernel
theorem d_Re_takeSum_165 : decode M_Re_takeSum.2.1 165 = .ok (.iconst 1, 1) := by decide +kernel
theorem d_Re_takeSum_166 : decode M_Re_takeSum.2.1 166 = .ok (.goto 4, 3) := by decide +kernel
theorem d_Re_takeSum_169 : decode M_Re_takeSum.2.1 169 = .ok (.iconst 0, 1) := by decide +kernel
theorem d_Re_takeSum_170 : decode M_Re_takeSum.2.1 170 = .ok (.ireturn, 1) := by decide +kernel
theorem d_Re_takeSum_171 : decode M_Re_takeSum.2.1 171 = .ok (.aload_n 0, 1) := by decide +kernel
theorem d_Re_takeSum_172 : decode M_Re_takeSum.2.1 172 = .ok (.iload 4, 2) := by decide +kernel
theorem d_Re_takeSum_174 : decode M_Re_takeSum.2.1 174 = .ok (.invokevirtual 108, 3) := by decide +kernel
theorem d_Re_takeSum_177 : decode M_Re_takeSum.2.1 177 = .ok (.ifCond .ne 5, 3) := by decide +kernel
theorem d_Re_takeSum_180 : decode M_Re_takeSum.2.1 180 = .ok (.iconst 0, 1) := by decide +kernel
theorem d_Re_takeSum_181 : decode M_Re_takeSum.2.1 181 = .ok (.ireturn, 1) := by decide +kernel
theorem d_Re_takeSum_182 : decode M_Re_takeSum.2.1 182 = .ok (.iinc 3 1, 3) := by decide +kernel
theorem d_Re_takeSum_185 : decode M_Re_takeSum.2.1 185 = .ok (.goto (-169), 3) := by decide +kernel
theorem d_Re_takeSum_188 : decode M_Re_takeSum.2.1 188 = .ok (.aload_n 0, 1) := by decide +kernel
theorem d_Re_takeSum_189 : decode M_Re_takeSum.2.1 189 = .ok (.iconst 2, 1) := by decide +kernel
theorem d_Re_takeSum_190 : decode M_Re_takeSum.2.1 190 = .ok (.invokevirtual 101, 3) := by decide +kernel
theorem d_Re_takeSum_193 : decode M_Re_takeSum.2.1 193 = .ok (.ireturn, 1) := by decide +kernel
theorem d_Re_addUnit_0 : decode M_Re_addUnit.2.1 0 = .ok (.iload_n 1, 1) := by decide +kernel
theorem d_Re_addUnit_1 : decode M_Re_addUnit.2.1 1 = .ok (.sipush 131, 3) := by decide +kernel
theorem d_Re_addUnit_4 : decode M_Re_addUnit.2.1 4 = .ok (.if_icmp .ne 31, 3) := by decide +kernel
theorem d_Re_addUnit_7 : decode M_Re_addUnit.2.1 7 = .ok (.aload_n 0, 1) := by decide +kernel
theorem d_Re_addUnit_8 : decode M_Re_addUnit.2.1 8 = .ok (.aload_n 0, 1) := by decide +kernel
theorem d_Re_addUnit_9 : decode M_Re_addUnit.2.1 9 = .ok (.getfield 14, 3) := by decide +kernel
theorem d_Re_addUnit_12 : decode M_Re_addUnit.2.1 12 = .ok (.getfield 170, 3) := by decide +kernel
theorem d_Re_addUnit_15 : decode M_Re_addUnit.2.1 15 = .ok (.aload_n 0, 1) := by decide +kernel
theorem d_Re_addUnit_16 : decode M_Re_addUnit.2.1 16 = .ok (.getfield 28, 3) := by decide +kernel
theorem d_Re_addUnit_19 : decode M_Re_addUnit.2.1 19 = .ok (.getfield 215, 3) := by decide +kernel
theorem d_Re_addUnit_22 : decode M_Re_addUnit.2.1 22 = .ok (.aload_n 0, 1) := by decide +kernel
theorem d_Re_addUnit_23 : decode M_Re_addUnit.2.1 23 = .ok (.getfield 60, 3) := by decide +kernel
theorem d_Re_addUnit_26 : decode M_Re_addUnit.2.1 26 = .ok (.iaload, 1) := by decide +kernel
theorem d_Re_addUnit_27 : decode M_Re_addUnit.2.1 27 = .ok (.invokevirtual 218, 3) := by decide +kernel
theorem d_Re_addUnit_30 : decode M_Re_addUnit.2.1 30 = .ok (.invokevirtual 221, 3) := by decide +kernel
theorem d_Re_addUnit_33 : decode M_Re_addUnit.2.1 33 = .ok (.iconst 1, 1) := by decide +kernel
theorem d_Re_addUnit_34 : decode M_Re_addUnit.2.1 34 = .ok (.ireturn, 1) := by decide +kernel
theorem d_Re_addUnit_35 : decode M_Re_addUnit.2.1 35 = .ok (.iload_n 1, 1) := by decide +kernel
theorem d_Re_addUnit_36 : decode M_Re_addUnit.2.1 36 = .ok (.sipush 132, 3) := by decide +kernel
theorem d_Re_addUnit_39 : decode M_Re_addUnit.2.1 39 = .ok (.if_icmp .lt 33, 3) := by decide +kernel
theorem d_Re_addUnit_42 : decode M_Re_addUnit.2.1 42 = .ok (.iload_n 1, 1) := by decide +kernel
theorem d_Re_addUnit_43 : decode M_Re_addUnit.2.1 43 = .ok (.sipush 137, 3) := by decide +kernel
theorem d_Re_addUnit_46 : decode M_Re_addUnit.2.1 46 = .ok (.if_icmp .gt 26, 3) := by decide +kernel
theorem d_Re_addUnit_49 : decode M_Re_addUnit.2.1 49 = .ok (.aload_n 0, 1) := by decide +kernel
theorem d_Re_addUnit_50 : decode M_Re_addUnit.2.1 50 = .ok (.aload_n 0, 1) := by decide +kernel
theorem d_Re_addUnit_51 : decode M_Re_addUnit.2.1 51 = .ok (.getfield 14, 3) := by decide +kernel
theorem d_Re_addUnit_54 : decode M_Re_addUnit.2.1 54 = .ok (.getfield 170, 3) := by decide +kernel
theorem d_Re_addUnit_57 : decode M_Re_addUnit.2.1 57 = .ok (.iconst 0, 1) := by decide +kernel
theorem d_Re_addUnit_58 : decode M_Re_addUnit.2.1 58 = .ok (.iload_n 1, 1) := by decide +kernel
theorem d_Re_addUnit_59 : decode M_Re_addUnit.2.1 59 = .ok (.iadd, 1) := by decide +kernel
theorem d_Re_addUnit_60 : decode M_Re_addUnit.2.1 60 = .ok (.sipush 132, 3) := by decide +kernel
theorem d_Re_addUnit_63 : decode M_Re_addUnit.2.1 63 = .ok (.isub, 1) := by decide +kernel
theorem d_Re_addUnit_64 : decode M_Re_addUnit.2.1 64 = .ok (.invokevirtual 224, 3) := by decide +kernel
theorem d_Re_addUnit_67 : decode M_Re_addUnit.2.1 67 = .ok (.invokevirtual 221, 3) := by decide +kernel
theorem d_Re_addUnit_70 : decode M_Re_addUnit.2.1 70 = .ok (.iconst 1, 1) := by decide +kernel
theorem d_Re_addUnit_71 : decode M_Re_addUnit.2.1 71 = .ok (.ireturn, 1) := by decide +kernel
theorem d_Re_addUnit_72 : decode M_Re_addUnit.2.1 72 = .ok (.iconst 0, 1) := by decide +kernel
theorem d_Re_addUnit_73 : decode M_Re_addUnit.2.1 73 = .ok (.ireturn, 1) := by decide +kernel
theorem d_Re_pushUnit_0 : decode M_Re_pushUnit.2.1 0 = .ok (.aload_n 0, 1) := by decide +kernel
theorem d_Re_pushUnit_1 : decode M_Re_pushUnit.2.1 1 = .ok (.getfield 199, 3) := by decide +kernel
theorem d_Re_pushUnit_4 : decode M_Re_pushUnit.2.1 4 = .ok (.ifCond .lt 29, 3) := by decide +kernel
theorem d_Re_pushUnit_7 : decode M_Re_pushUnit.2.1 7 = .ok (.aload_n 0, 1) := by decide +kernel
theorem d_Re_pushUnit_8 : decode M_Re_pushUnit.2.1 8 = .ok (.getfield 199, 3) := by decide +kernel
theorem d_Re_pushUnit_11 : decode M_Re_pushUnit.2.1 11 = .ok (.bipush 21, 2) := by decide +kernel
theorem d_Re_pushUnit_13 : decode M_Re_pushUnit.2.1 13 = .ok (.if_icmp .ge 20, 3) := by decide +kernel
theorem d_Re_pushUnit_16 : decode M_Re_pushUnit.2.1 16 = .ok (.aload_n 0, 1) := by decide +kernel
theorem d_Re_pushUnit_17 : decode M_Re_pushUnit.2.1 17 = .ok (.getfield 43, 3) := by decide +kernel
theorem d_Re_pushUnit_20 : decode M_Re_pushUnit.2.1 20 = .ok (.aload_n 0, 1) := by decide +kernel
theorem d_Re_pushUnit_21 : decode M_Re_pushUnit.2.1 21 = .ok (.dup, 1) := by decide +kernel
theorem d_Re_pushUnit_22 : decode M_Re_pushUnit.2.1 22 = .ok (.getfield 199, 3) := by decide +kernel
theorem d_Re_pushUnit_25 : decode M_Re_pushUnit.2.1 25 = .ok (.dup_x1, 1) := by decide +kernel
theorem d_Re_pushUnit_26 : decode M_Re_pushUnit.2.1 26 = .ok (.iconst 1, 1) := by decide +kernel
theorem d_Re_pushUnit_27 : decode M_Re_pushUnit.2.1 27 = .ok (.iadd, 1) := by decide +kernel
theorem d_Re_pushUnit_28 : decode M_Re_pushUnit.2.1 28 = .ok (.putfield 199, 3) := by decide +kernel
theorem d_Re_pushUnit_31 : decode M_Re_pushUnit.2.1 31 = .ok (.iload_n 1, 1) := by decide +kernel
theorem d_Re_pushUnit_32 : decode M_Re_pushUnit.2.1 32 = .ok (.iastore, 1) := by decide +kernel
theorem d_Re_pushUnit_33 : decode M_Re_pushUnit.2.1 33 = .ok (.return_, 1) := by decide +kernel
theorem d_Re_popUnit_0 : decode M_Re_popUnit.2.1 0 = .ok (.aload_n 0, 1) := by decide +kernel
theorem d_Re_popUnit_1 : decode M_Re_popUnit.2.1 1 = .ok (.getfield 199, 3) := by decide +kernel
theorem d_Re_popUnit_4 : decode M_Re_popUnit.2.1 4 = .ok (.ifCond .le 12, 3) := by decide +kernel
theorem d_Re_popUnit_7 : decode M_Re_popUnit.2.1 7 = .ok (.aload_n 0, 1) := by decide +kernel
theorem d_Re_popUnit_8 : decode M_Re_popUnit.2.1 8 = .ok (.getfield 199, 3) := by decide +kernel
theorem d_Re_popUnit_11 : decode M_Re_popUnit.2.1 11 = .ok (.bipush 21, 2) := by decide +kernel
theorem d_Re_popUnit_13 : decode M_Re_popUnit.2.1 13 = .ok (.if_icmp .le 5, 3) := by decide +kernel
theorem d_Re_popUnit_16 : decode M_Re_popUnit.2.1 16 = .ok (.iconst 0, 1) := by decide +kernel
theorem d_Re_popUnit_17 : decode M_Re_popUnit.2.1 17 = .ok (.ireturn, 1) := by decide +kernel
theorem d_Re_popUnit_18 : decode M_Re_popUnit.2.1 18 = .ok (.aload_n 0, 1) := by decide +kernel
theorem d_Re_popUnit_19 : decode M_Re_popUnit.2.1 19 = .ok (.dup, 1) := by decide +kernel
theorem d_Re_popUnit_20 : decode M_Re_popUnit.2.1 20 = .ok (.getfield 199, 3) := by decide +kernel
theorem d_Re_popUnit_23 : decode M_Re_popUnit.2.1 23 = .ok (.iconst 1, 1) := by decide +kernel
theorem d_Re_popUnit_24 : decode M_Re_popUnit.2.1 24 = .ok (.isub, 1) := by decide +kernel
theorem d_Re_popUnit_25 : decode M_Re_popUnit.2.1 25 = .ok (.putfield 199, 3) := by decide +kernel
theorem d_Re_popUnit_28 : decode M_Re_popUnit.2.1 28 = .ok (.aload_n 0, 1) := by decide +kernel
theorem d_Re_popUnit_29 : decode M_Re_popUnit.2.1 29 = .ok (.getfield 43, 3) := by decide +kernel
theorem d_Re_popUnit_32 : decode M_Re_popUnit.2.1 32 = .ok (.aload_n 0, 1) := by decide +kernel
theorem d_Re_popUnit_33 : decode M_Re_popUnit.2.1 33 = .ok (.getfield 199, 3) := by decide +kernel
theorem d_Re_popUnit_36 : decode M_Re_popUnit.2.1 36 = .ok (.iaload, 1) := by decide +kernel
theorem d_Re_popUnit_37 : decode M_Re_popUnit.2.1 37 = .ok (.ireturn, 1) := by decide +kernel
theorem d_Re_letWait_0 : decode M_Re_letWait.2.1 0 = .ok (.aload_n 0, 1) := by decide +kernel
theorem d_Re_letWait_1 : decode M_Re_letWait.2.1 1 = .ok (.getfield 196, 3) := by decide +kernel
theorem d_Re_letWait_4 : decode M_Re_letWait.2.1 4 = .ok (.ifCond .lt 29, 3) := by decide +kernel
theorem d_Re_letWait_7 : decode M_Re_letWait.2.1 7 = .ok (.aload_n 0, 1) := by decide +kernel
theorem d_Re_letWait_8 : decode M_Re_letWait.2.1 8 = .ok (.getfield 196, 3) := by decide +kernel
theorem d_Re_letWait_11 : decode M_Re_letWait.2.1 11 = .ok (.bipush 21, 2) := by decide +kernel
theorem d_Re_letWait_13 : decode M_Re_letWait.2.1 13 = .ok (.if_icmp .ge 20, 3) := by decide +kernel
theorem d_Re_letWait_16 : decode M_Re_letWait.2.1 16 = .ok (.aload_n 0, 1) := by decide +kernel
theorem d_Re_letWait_17 : decode M_Re_letWait.2.1 17 = .ok (.getfield 39, 3) := by decide +kernel
theorem d_Re_letWait_20 : decode M_Re_letWait.2.1 20 = .ok (.aload_n 0, 1) := by decide +kernel
theorem d_Re_letWait_21 : decode M_Re_letWait.2.1 21 = .ok (.dup, 1) := by decide +kernel
theorem d_Re_letWait_22 : decode M_Re_letWait.2.1 22 = .ok (.getfield 196, 3) := by decide +kernel
theorem d_Re_letWait_25 : decode M_Re_letWait.2.1 25 = .ok (.dup_x1, 1) := by decide +kernel
theorem d_Re_letWait_26 : decode M_Re_letWait.2.1 26 = .ok (.iconst 1, 1) := by decide +kernel
theorem d_Re_letWait_27 : decode M_Re_letWait.2.1 27 = .ok (.iadd, 1) := by decide +kernel
theorem d_Re_letWait_28 : decode M_Re_letWait.2.1 28 = .ok (.putfield 196, 3) := by decide +kernel
theorem d_Re_letWait_31 : decode M_Re_letWait.2.1 31 = .ok (.iload_n 1, 1) := by decide +kernel
theorem d_Re_letWait_32 : decode M_Re_letWait.2.1 32 = .ok (.iastore, 1) := by decide +kernel
theorem d_Re_letWait_33 : decode M_Re_letWait.2.1 33 = .ok (.return_, 1) := by decide +kernel
theorem d_Re_release_0 : decode M_Re_release.2.1 0 = .ok (.aload_n 0, 1) := by decide +kernel
theorem d_Re_release_1 : decode M_Re_release.2.1 1 = .ok (.getfield 196, 3) := by decide +kernel
theorem d_Re_release_4 : decode M_Re_release.2.1 4 = .ok (.ifCond .le 72, 3) := by decide +kernel
theorem d_Re_release_7 : decode M_Re_release.2.1 7 = .ok (.aload_n 0, 1) := by decide +kernel
theorem d_Re_release_8 : decode M_Re_release.2.1 8 = .ok (.getfield 39, 3) := by decide +kernel
theorem d_Re_release_11 : decode M_Re_release.2.1 11 = .ok (.aload_n 0, 1) := by decide +kernel
theorem d_Re_release_12 : decode M_Re_release.2.1 12 = .ok (.getfield 196, 3) := by decide +kernel
theorem d_Re_release_15 : decode M_Re_release.2.1 15 = .ok (.iconst 1, 1) := by decide +kernel
theorem d_Re_release_16 : decode M_Re_release.2.1 16 = .ok (.isub, 1) := by decide +kernel
theorem d_Re_release_17 : decode M_Re_release.2.1 17 = .ok (.iaload, 1) := by decide +kernel
theorem d_Re_release_18 : decode M_Re_release.2.1 18 = .ok (.invokestatic 208, 3) := by decide +kernel
theorem d_Re_release_21 : decode M_Re_release.2.1 21 = .ok (.iload_n 1, 1) := by decide +kernel
theorem d_Re_release_22 : decode M_Re_release.2.1 22 = .ok (.if_icmp .lt 54, 3) := by decide +kernel
theorem d_Re_release_25 : decode M_Re_release.2.1 25 = .ok (.aload_n 0, 1) := by decide +kernel
theorem d_Re_release_26 : decode M_Re_release.2.1 26 = .ok (.dup, 1) := by decide +kernel
theorem d_Re_release_27 : decode M_Re_release.2.1 27 = .ok (.getfield 196, 3) := by decide +kernel
theorem d_Re_release_30 : decode M_Re_release.2.1 30 = .ok (.iconst 1, 1) := by decide +kernel
theorem d_Re_release_31 : decode M_Re_release.2.1 31 = .ok (.isub, 1) := by decide +kernel
theorem d_Re_release_32 : decode M_Re_release.2.1 32 = .ok (.putfield 196, 3) := by decide +kernel
theorem d_Re_release_35 : decode M_Re_release.2.1 35 = .ok (.aload_n 0, 1) := by decide +kernel
theorem d_Re_release_36 : decode M_Re_release.2.1 36 = .ok (.invokevirtual 186, 3) := by decide +kernel
theorem d_Re_release_39 : decode M_Re_release.2.1 39 = .ok (.istore_n 2, 1) := by decide +kernel
theorem d_Re_release_40 : decode M_Re_release.2.1 40 = .ok (.aload_n 0, 1) := by decide +kernel
theorem d_Re_release_41 : decode M_Re_release.2.1 41 = .ok (.invokevirtual 186, 3) := by decide +kernel
theorem d_Re_release_44 : decode M_Re_release.2.1 44 = .ok (.istore_n 3, 1) := by decide +kernel
theorem d_Re_release_45 : decode M_Re_release.2.1 45 = .ok (.aload_n 0, 1) := by decide +kernel
theorem d_Re_release_46 : decode M_Re_release.2.1 46 = .ok (.aload_n 0, 1) := by decide +kernel
theorem d_Re_release_47 : decode M_Re_release.2.1 47 = .ok (.getfield 14, 3) := by decide +kernel
theorem d_Re_release_50 : decode M_Re_release.2.1 50 = .ok (.getfield 170, 3) := by decide +kernel
theorem d_Re_release_53 : decode M_Re_release.2.1 53 = .ok (.aload_n 0, 1) := by decide +kernel
theorem d_Re_release_54 : decode M_Re_release.2.1 54 = .ok (.getfield 39, 3) := by decide +kernel
theorem d_Re_release_57 : decode M_Re_release.2.1 57 = .ok (.aload_n 0, 1) := by decide +kernel
theorem d_Re_release_58 : decode M_Re_release.2.1 58 = .ok (.getfield 196, 3) := by decide +kernel
theorem d_Re_release_61 : decode M_Re_release.2.1 61 = .ok (.iaload, 1) := by decide +kernel
theorem d_Re_release_62 : decode M_Re_release.2.1 62 = .ok (.invokestatic 227, 3) := by decide +kernel
theorem d_Re_release_65 : decode M_Re_release.2.1 65 = .ok (.iload_n 3, 1) := by decide +kernel
theorem d_Re_release_66 : decode M_Re_release.2.1 66 = .ok (.iload_n 2, 1) := by decide +kernel
theorem d_Re_release_67 : decode M_Re_release.2.1 67 = .ok (.invokevirtual 189, 3) := by decide +kernel
theorem d_Re_release_70 : decode M_Re_release.2.1 70 = .ok (.invokevirtual 221, 3) := by decide +kernel
theorem d_Re_release_73 : decode M_Re_release.2.1 73 = .ok (.goto (-73), 3) := by decide +kernel
theorem d_Re_release_76 : decode M_Re_release.2.1 76 = .ok (.return_, 1) := by decide +kernel
theorem d_Re_rank_0 : decode M_Re_rank.2.1 0 = .ok (.iload_n 0, 1) := by decide +kernel
theorem d_Re_rank_1 : decode M_Re_rank.2.1 1 = .ok (.bipush 42, 2) := by decide +kernel
theorem d_Re_rank_3 : decode M_Re_rank.2.1 3 = .ok (.if_icmp .eq 9, 3) := by decide +kernel
theorem d_Re_rank_6 : decode M_Re_rank.2.1 6 = .ok (.iload_n 0, 1) := by decide +kernel
theorem d_Re_rank_7 : decode M_Re_rank.2.1 7 = .ok (.bipush 47, 2) := by decide +kernel
theorem d_Re_rank_9 : decode M_Re_rank.2.1 9 = .ok (.if_icmp .ne 5, 3) := by decide +kernel
theorem d_Re_rank_12 : decode M_Re_rank.2.1 12 = .ok (.iconst 2, 1) := by decide +kernel
theorem d_Re_rank_13 : decode M_Re_rank.2.1 13 = .ok (.ireturn, 1) := by decide +kernel
theorem d_Re_rank_14 : decode M_Re_rank.2.1 14 = .ok (.iload_n 0, 1) := by decide +kernel
theorem d_Re_rank_15 : decode M_Re_rank.2.1 15 = .ok (.bipush 43, 2) := by decide +kernel
theorem d_Re_rank_17 : decode M_Re_rank.2.1 17 = .ok (.if_icmp .eq 9, 3) := by decide +kernel
theorem d_Re_rank_20 : decode M_Re_rank.2.1 20 = .ok (.iload_n 0, 1) := by decide +kernel
theorem d_Re_rank_21 : decode M_Re_rank.2.1 21 = .ok (.bipush 45, 2) := by decide +kernel
theorem d_Re_rank_23 : decode M_Re_rank.2.1 23 = .ok (.if_icmp .ne 7, 3) := by decide +kernel
theorem d_Re_rank_26 : decode M_Re_rank.2.1 26 = .ok (.iconst 1, 1) := by decide +kernel
theorem d_Re_rank_27 : decode M_Re_rank.2.1 27 = .ok (.goto 4, 3) := by decide +kernel
theorem d_Re_rank_30 : decode M_Re_rank.2.1 30 = .ok (.iconst 0, 1) := by decide +kernel
theorem d_Re_rank_31 : decode M_Re_rank.2.1 31 = .ok (.ireturn, 1) := by decide +kernel
theorem d_Re_opOf_0 : decode M_Re_opOf.2.1 0 = .ok (.iload_n 0, 1) := by decide +kernel
theorem d_Re_opOf_1 : decode M_Re_opOf.2.1 1 = .ok (.tableswitch 37 42 45 #[35, 31, 37, 33], 31) := by decide +kernel
theorem d_Re_opOf_32 : decode M_Re_opOf.2.1 32 = .ok (.iconst 0, 1) := by decide +kernel
theorem d_Re_opOf_33 : decode M_Re_opOf.2.1 33 = .ok (.ireturn, 1) := by decide +kernel
theorem d_Re_opOf_34 : decode M_Re_opOf.2.1 34 = .ok (.iconst 1, 1) := by decide +kernel
theorem d_Re_opOf_35 : decode M_Re_opOf.2.1 35 = .ok (.ireturn, 1) := by decide +kernel
theorem d_Re_opOf_36 : decode M_Re_opOf.2.1 36 = .ok (.iconst 2, 1) := by decide +kernel
theorem d_Re_opOf_37 : decode M_Re_opOf.2.1 37 = .ok (.ireturn, 1) := by decide +kernel
theorem d_Re_opOf_38 : decode M_Re_opOf.2.1 38 = .ok (.iconst 3, 1) := by decide +kernel
theorem d_Re_opOf_39 : decode M_Re_opOf.2.1 39 = .ok (.ireturn, 1) := by decide +kernel
theorem d_Re_takeNewName_0 : decode M_Re_takeNewName.2.1 0 = .ok (.aload_n 0, 1) := by decide +kernel
theorem d_Re_takeNewName_1 : decode M_Re_takeNewName.2.1 1 = .ok (.getfield 28, 3) := by decide +kernel
theorem d_Re_takeNewName_4 : decode M_Re_takeNewName.2.1 4 = .ok (.getfield 143, 3) := by decide +kernel
theorem d_Re_takeNewName_7 : decode M_Re_takeNewName.2.1 7 = .ok (.aload_n 0, 1) := by decide +kernel
theorem d_Re_takeNewName_8 : decode M_Re_takeNewName.2.1 8 = .ok (.getfield 60, 3) := by decide +kernel
theorem d_Re_takeNewName_11 : decode M_Re_takeNewName.2.1 11 = .ok (.iaload, 1) := by decide +kernel
theorem d_Re_takeNewName_12 : decode M_Re_takeNewName.2.1 12 = .ok (.istore_n 1, 1) := by decide +kernel
theorem d_Re_takeNewName_13 : decode M_Re_takeNewName.2.1 13 = .ok (.aload_n 0, 1) := by decide +kernel
theorem d_Re_takeNewName_14 : decode M_Re_takeNewName.2.1 14 = .ok (.aload_n 0, 1) := by decide +kernel
theorem d_Re_takeNewName_15 : decode M_Re_takeNewName.2.1 15 = .ok (.getfield 28, 3) := by decide +kernel
theorem d_Re_takeNewName_18 : decode M_Re_takeNewName.2.1 18 = .ok (.getfield 146, 3) := by decide +kernel
theorem d_Re_takeNewName_21 : decode M_Re_takeNewName.2.1 21 = .ok (.aload_n 0, 1) := by decide +kernel
theorem d_Re_takeNewName_22 : decode M_Re_takeNewName.2.1 22 = .ok (.getfield 60, 3) := by decide +kernel
theorem d_Re_takeNewName_25 : decode M_Re_takeNewName.2.1 25 = .ok (.laload, 1) := by decide +kernel
theorem d_Re_takeNewName_26 : decode M_Re_takeNewName.2.1 26 = .ok (.putfield 114, 3) := by decide +kernel
theorem d_Re_takeNewName_29 : decode M_Re_takeNewName.2.1 29 = .ok (.aload_n 0, 1) := by decide +kernel
theorem d_Re_takeNewName_30 : decode M_Re_takeNewName.2.1 30 = .ok (.sipush 130, 3) := by decide +kernel
theorem d_Re_takeNewName_33 : decode M_Re_takeNewName.2.1 33 = .ok (.invokevirtual 108, 3) := by decide +kernel
theorem d_Re_takeNewName_36 : decode M_Re_takeNewName.2.1 36 = .ok (.ifCond .ne 5, 3) := by decide +kernel
theorem d_Re_takeNewName_39 : decode M_Re_takeNewName.2.1 39 = .ok (.iconst 0, 1) := by decide +kernel
theorem d_Re_takeNewName_40 : decode M_Re_takeNewName.2.1 40 = .ok (.ireturn, 1) := by decide +kernel
theorem d_Re_takeNewName_41 : decode M_Re_takeNewName.2.1 41 = .ok (.iconst 0, 1) := by decide +kernel
theorem d_Re_takeNewName_42 : decode M_Re_takeNewName.2.1 42 = .ok (.istore_n 2, 1) := by decide +kernel
theorem d_Re_takeNewName_43 : decode M_Re_takeNewName.2.1 43 = .ok (.iload_n 2, 1) := by decide +kernel
theorem d_Re_takeNewName_44 : decode M_Re_takeNewName.2.1 44 = .ok (.aload_n 0, 1) := by decide +kernel
theorem d_Re_takeNewName_45 : decode M_Re_takeNewName.2.1 45 = .ok (.getfield 56, 3) := by decide +kernel
theorem d_Re_takeNewName_48 : decode M_Re_takeNewName.2.1 48 = .ok (.if_icmp .ge 29, 3) := by decide +kernel
theorem d_Re_takeNewName_51 : decode M_Re_takeNewName.2.1 51 = .ok (.aload_n 0, 1) := by decide +kernel
theorem d_Re_takeNewName_52 : decode M_Re_takeNewName.2.1 52 = .ok (.getfield 32, 3) := by decide +kernel
theorem d_Re_takeNewName_55 : decode M_Re_takeNewName.2.1 55 = .ok (.iload_n 2, 1) := by decide +kernel
theorem d_Re_takeNewName_56 : decode M_Re_takeNewName.2.1 56 = .ok (.laload, 1) := by decide +kernel
theorem d_Re_takeNewName_57 : decode M_Re_takeNewName.2.1 57 = .ok (.aload_n 0, 1) := by decide +kernel
theorem d_Re_takeNewName_58 : decode M_Re_takeNewName.2.1 58 = .ok (.getfield 114, 3) := by decide +kernel
theorem d_Re_takeNewName_61 : decode M_Re_takeNewName.2.1 61 = .ok (.lcmp, 1) := by decide +kernel
theorem d_Re_takeNewName_62 : decode M_Re_takeNewName.2.1 62 = .ok (.ifCond .ne 9, 3) := by decide +kernel
theorem d_Re_takeNewName_65 : decode M_Re_takeNewName.2.1 65 = .ok (.aload_n 0, 1) := by decide +kernel
theorem d_Re_takeNewName_66 : decode M_Re_takeNewName.2.1 66 = .ok (.iconst 3, 1) := by decide +kernel
theorem d_Re_takeNewName_67 : decode M_Re_takeNewName.2.1 67 = .ok (.iload_n 1, 1) := by decide +kernel
theorem d_Re_takeNewName_68 : decode M_Re_takeNewName.2.1 68 = .ok (.invokevirtual 151, 3) := by decide +kernel
theorem d_Re_takeNewName_71 : decode M_Re_takeNewName.2.1 71 = .ok (.iinc 2 1, 3) := by decide +kernel
theorem d_Re_takeNewName_74 : decode M_Re_takeNewName.2.1 74 = .ok (.goto (-31), 3) := by decide +kernel
theorem d_Re_takeNewName_77 : decode M_Re_takeNewName.2.1 77 = .ok (.aload_n 0, 1) := by decide +kernel
theorem d_Re_takeNewName_78 : decode M_Re_takeNewName.2.1 78 = .ok (.getfield 56, 3) := by decide +kernel
theorem d_Re_takeNewName_81 : decode M_Re_takeNewName.2.1 81 = .ok (.aload_n 0, 1) := by decide +kernel
theorem d_Re_takeNewName_82 : decode M_Re_takeNewName.2.1 82 = .ok (.getfield 32, 3) := by decide +kernel
theorem d_Re_takeNewName_85 : decode M_Re_takeNewName.2.1 85 = .ok (.arraylength, 1) := by decide +kernel
theorem d_Re_takeNewName_86 : decode M_Re_takeNewName.2.1 86 = .ok (.if_icmp .ge 23, 3) := by decide +kernel
theorem d_Re_takeNewName_89 : decode M_Re_takeNewName.2.1 89 = .ok (.aload_n 0, 1) := by decide +kernel
theorem d_Re_takeNewName_90 : decode M_Re_takeNewName.2.1 90 = .ok (.getfield 32, 3) := by decide +kernel
theorem d_Re_takeNewName_93 : decode M_Re_takeNewName.2.1 93 = .ok (.aload_n 0, 1) := by decide +kernel
theorem d_Re_takeNewName_94 : decode M_Re_takeNewName.2.1 94 = .ok (.dup, 1) := by decide +kernel
theorem d_Re_takeNewName_95 : decode M_Re_takeNewName.2.1 95 = .ok (.getfield 56, 3) := by decide +kernel
theorem d_Re_takeNewName_98 : decode M_Re_takeNewName.2.1 98 = .ok (.dup_x1, 1) := by decide +kernel
theorem d_Re_takeNewName_99 : decode M_Re_takeNewName.2.1 99 = .ok (.iconst 1, 1) := by decide +kernel
theorem d_Re_takeNewName_100 : decode M_Re_takeNewName.2.1 100 = .ok (.iadd, 1) := by decide +kernel
theorem d_Re_takeNewName_101 : decode M_Re_takeNewName.2.1 101 = .ok (.putfield 56, 3) := by decide +kernel
theorem d_Re_takeNewName_104 : decode M_Re_takeNewName.2.1 104 = .ok (.aload_n 0, 1) := by decide +kernel
theorem d_Re_takeNewName_105 : decode M_Re_takeNewName.2.1 105 = .ok (.getfield 114, 3) := by decide +kernel
theorem d_Re_takeNewName_108 : decode M_Re_takeNewName.2.1 108 = .ok (.lastore, 1) := by decide +kernel
theorem d_Re_takeNewName_109 : decode M_Re_takeNewName.2.1 109 = .ok (.iconst 1, 1) := by decide +kernel
theorem d_Re_takeNewName_110 : decode M_Re_takeNewName.2.1 110 = .ok (.ireturn, 1) := by decide +kernel
theorem d_Re_takeInt_0 : decode M_Re_takeInt.2.1 0 = .ok (.aload_n 0, 1) := by decide +kernel
theorem d_Re_takeInt_1 : decode M_Re_takeInt.2.1 1 = .ok (.getfield 28, 3) := by decide +kernel
theorem d_Re_takeInt_4 : decode M_Re_takeInt.2.1 4 = .ok (.getfield 143, 3) := by decide +kernel
theorem d_Re_takeInt_7 : decode M_Re_takeInt.2.1 7 = .ok (.aload_n 0, 1) := by decide +kernel
theorem d_Re_takeInt_8 : decode M_Re_takeInt.2.1 8 = .ok (.getfield 60, 3) := by decide +kernel
theorem d_Re_takeInt_11 : decode M_Re_takeInt.2.1 11 = .ok (.iaload, 1) := by decide +kernel
theorem d_Re_takeInt_12 : decode M_Re_takeInt.2.1 12 = .ok (.istore_n 2, 1) := by decide +kernel
theorem d_Re_takeInt_13 : decode M_Re_takeInt.2.1 13 = .ok (.aload_n 0, 1) := by decide +kernel
theorem d_Re_takeInt_14 : decode M_Re_takeInt.2.1 14 = .ok (.aload_n 0, 1) := by decide +kernel
theorem d_Re_takeInt_15 : decode M_Re_takeInt.2.1 15 = .ok (.getfield 28, 3) := by decide +kernel
theorem d_Re_takeInt_18 : decode M_Re_takeInt.2.1 18 = .ok (.getfield 215, 3) := by decide +kernel
theorem d_Re_takeInt_21 : decode M_Re_takeInt.2.1 21 = .ok (.aload_n 0, 1) := by decide +kernel
theorem d_Re_takeInt_22 : decode M_Re_takeInt.2.1 22 = .ok (.getfield 60, 3) := by decide +kernel
theorem d_Re_takeInt_25 : decode M_Re_takeInt.2.1 25 = .ok (.iaload, 1) := by decide +kernel
theorem d_Re_takeInt_26 : decode M_Re_takeInt.2.1 26 = .ok (.putfield 124, 3) := by decide +kernel
theorem d_Re_takeInt_29 : decode M_Re_takeInt.2.1 29 = .ok (.aload_n 0, 1) := by decide +kernel
theorem d_Re_takeInt_30 : decode M_Re_takeInt.2.1 30 = .ok (.sipush 131, 3) := by decide +kernel
theorem d_Re_takeInt_33 : decode M_Re_takeInt.2.1 33 = .ok (.invokevirtual 108, 3) := by decide +kernel
theorem d_Re_takeInt_36 : decode M_Re_takeInt.2.1 36 = .ok (.ifCond .ne 5, 3) := by decide +kernel
theorem d_Re_takeInt_39 : decode M_Re_takeInt.2.1 39 = .ok (.iconst 0, 1) := by decide +kernel
theorem d_Re_takeInt_40 : decode M_Re_takeInt.2.1 40 = .ok (.ireturn, 1) := by decide +kernel
theorem d_Re_takeInt_41 : decode M_Re_takeInt.2.1 41 = .ok (.aload_n 0, 1) := by decide +kernel
theorem d_Re_takeInt_42 : decode M_Re_takeInt.2.1 42 = .ok (.getfield 124, 3) := by decide +kernel
theorem d_Re_takeInt_45 : decode M_Re_takeInt.2.1 45 = .ok (.iload_n 1, 1) := by decide +kernel
theorem d_Re_takeInt_46 : decode M_Re_takeInt.2.1 46 = .ok (.if_icmp .le 9, 3) := by decide +kernel
theorem d_Re_takeInt_49 : decode M_Re_takeInt.2.1 49 = .ok (.aload_n 0, 1) := by decide +kernel
theorem d_Re_takeInt_50 : decode M_Re_takeInt.2.1 50 = .ok (.iconst 5, 1) := by decide +kernel
theorem d_Re_takeInt_51 : decode M_Re_takeInt.2.1 51 = .ok (.iload_n 2, 1) := by decide +kernel
theorem d_Re_takeInt_52 : decode M_Re_takeInt.2.1 52 = .ok (.invokevirtual 151, 3) := by decide +kernel
theorem d_Re_takeInt_55 : decode M_Re_takeInt.2.1 55 = .ok (.iconst 1, 1) := by decide +kernel
theorem d_Re_takeInt_56 : decode M_Re_takeInt.2.1 56 = .ok (.ireturn, 1) := by decide +kernel
theorem d_Re_postNamed_0 : decode M_Re_postNamed.2.1 0 = .ok (.iconst 0, 1) := by decide +kernel
theorem d_Re_postNamed_1 : decode M_Re_postNamed.2.1 1 = .ok (.istore_n 3, 1) := by decide +kernel
theorem d_Re_postNamed_2 : decode M_Re_postNamed.2.1 2 = .ok (.iload_n 3, 1) := by decide +kernel
theorem d_Re_postNamed_3 : decode M_Re_postNamed.2.1 3 = .ok (.aload_n 0, 1) := by decide +kernel
theorem d_Re_postNamed_4 : decode M_Re_postNamed.2.1 4 = .ok (.getfield 14, 3) := by decide +kernel
theorem d_Re_postNamed_7 : decode M_Re_postNamed.2.1 7 = .ok (.getfield 105, 3) := by decide +kernel
theorem d_Re_postNamed_10 : decode M_Re_postNamed.2.1 10 = .ok (.if_icmp .ge 22, 3) := by decide +kernel
theorem d_Re_postNamed_13 : decode M_Re_postNamed.2.1 13 = .ok (.aload_n 0, 1) := by decide +kernel
theorem d_Re_postNamed_14 : decode M_Re_postNamed.2.1 14 = .ok (.getfield 36, 3) := by decide +kernel
theorem d_Re_postNamed_17 : decode M_Re_postNamed.2.1 17 = .ok (.iload_n 3, 1) := by decide +kernel
theorem d_Re_postNamed_18 : decode M_Re_postNamed.2.1 18 = .ok (.laload, 1) := by decide +kernel
theorem d_Re_postNamed_19 : decode M_Re_postNamed.2.1 19 = .ok (.lload_n 1, 1) := by decide +kernel
theorem d_Re_postNamed_20 : decode M_Re_postNamed.2.1 20 = .ok (.lcmp, 1) := by decide +kernel
theorem d_Re_postNamed_21 : decode M_Re_postNamed.2.1 21 = .ok (.ifCond .ne 5, 3) := by decide +kernel
theorem d_Re_postNamed_24 : decode M_Re_postNamed.2.1 24 = .ok (.iload_n 3, 1) := by decide +kernel
theorem d_Re_postNamed_25 : decode M_Re_postNamed.2.1 25 = .ok (.ireturn, 1) := by decide +kernel
theorem d_Re_postNamed_26 : decode M_Re_postNamed.2.1 26 = .ok (.iinc 3 1, 3) := by decide +kernel
theorem d_Re_postNamed_29 : decode M_Re_postNamed.2.1 29 = .ok (.goto (-27), 3) := by decide +kernel
theorem d_Re_postNamed_32 : decode M_Re_postNamed.2.1 32 = .ok (.bipush (-2), 2) := by decide +kernel
theorem d_Re_postNamed_34 : decode M_Re_postNamed.2.1 34 = .ok (.ireturn, 1) := by decide +kernel
theorem d_Re_kind_0 : decode M_Re_kind.2.1 0 = .ok (.aload_n 0, 1) := by decide +kernel
theorem d_Re_kind_1 : decode M_Re_kind.2.1 1 = .ok (.getfield 28, 3) := by decide +kernel
theorem d_Re_kind_4 : decode M_Re_kind.2.1 4 = .ok (.getfield 230, 3) := by decide +kernel
theorem d_Re_kind_7 : decode M_Re_kind.2.1 7 = .ok (.aload_n 0, 1) := by decide +kernel
theorem d_Re_kind_8 : decode M_Re_kind.2.1 8 = .ok (.getfield 60, 3) := by decide +kernel
theorem d_Re_kind_11 : decode M_Re_kind.2.1 11 = .ok (.iaload, 1) := by decide +kernel
theorem d_Re_kind_12 : decode M_Re_kind.2.1 12 = .ok (.ireturn, 1) := by decide +kernel
theorem d_Re_take_0 : decode M_Re_take.2.1 0 = .ok (.aload_n 0, 1) := by decide +kernel
theorem d_Re_take_1 : decode M_Re_take.2.1 1 = .ok (.invokevirtual 72, 3) := by decide +kernel
theorem d_Re_take_4 : decode M_Re_take.2.1 4 = .ok (.iload_n 1, 1) := by decide +kernel
theorem d_Re_take_5 : decode M_Re_take.2.1 5 = .ok (.if_icmp .eq 9, 3) := by decide +kernel
theorem d_Re_take_8 : decode M_Re_take.2.1 8 = .ok (.aload_n 0, 1) := by decide +kernel
theorem d_Re_take_9 : decode M_Re_take.2.1 9 = .ok (.iconst 1, 1) := by decide +kernel
theorem d_Re_take_10 : decode M_Re_take.2.1 10 = .ok (.invokevirtual 101, 3) := by decide +kernel
theorem d_Re_take_13 : decode M_Re_take.2.1 13 = .ok (.ireturn, 1) := by decide +kernel
theorem d_Re_take_14 : decode M_Re_take.2.1 14 = .ok (.aload_n 0, 1) := by decide +kernel
theorem d_Re_take_15 : decode M_Re_take.2.1 15 = .ok (.getfield 60, 3) := by decide +kernel
theorem d_Re_take_18 : decode M_Re_take.2.1 18 = .ok (.sipush 400, 3) := by decide +kernel
theorem d_Re_take_21 : decode M_Re_take.2.1 21 = .ok (.if_icmp .lt 9, 3) := by decide +kernel
theorem d_Re_take_24 : decode M_Re_take.2.1 24 = .ok (.aload_n 0, 1) := by decide +kernel
theorem d_Re_take_25 : decode M_Re_take.2.1 25 = .ok (.iconst 2, 1) := by decide +kernel
theorem d_Re_take_26 : decode M_Re_take.2.1 26 = .ok (.invokevirtual 101, 3) := by decide +kernel
theorem d_Re_take_29 : decode M_Re_take.2.1 29 = .ok (.ireturn, 1) := by decide +kernel
theorem d_Re_take_30 : decode M_Re_take.2.1 30 = .ok (.aload_n 0, 1) := by decide +kernel
theorem d_Re_take_31 : decode M_Re_take.2.1 31 = .ok (.dup, 1) := by decide +kernel
theorem d_Re_take_32 : decode M_Re_take.2.1 32 = .ok (.getfield 60, 3) := by decide +kernel
theorem d_Re_take_35 : decode M_Re_take.2.1 35 = .ok (.iconst 1, 1) := by decide +kernel
theorem d_Re_take_36 : decode M_Re_take.2.1 36 = .ok (.iadd, 1) := by decide +kernel
theorem d_Re_take_37 : decode M_Re_take.2.1 37 = .ok (.putfield 60, 3) := by decide +kernel
theorem d_Re_take_40 : decode M_Re_take.2.1 40 = .ok (.iconst 1, 1) := by decide +kernel
theorem d_Re_take_41 : decode M_Re_take.2.1 41 = .ok (.ireturn, 1) := by decide +kernel
theorem d_Re_refuse_0 : decode M_Re_refuse.2.1 0 = .ok (.aload_n 0, 1) := by decide +kernel
theorem d_Re_refuse_1 : decode M_Re_refuse.2.1 1 = .ok (.iload_n 1, 1) := by decide +kernel
theorem d_Re_refuse_2 : decode M_Re_refuse.2.1 2 = .ok (.putfield 63, 3) := by decide +kernel
theorem d_Re_refuse_5 : decode M_Re_refuse.2.1 5 = .ok (.aload_n 0, 1) := by decide +kernel
theorem d_Re_refuse_6 : decode M_Re_refuse.2.1 6 = .ok (.aload_n 0, 1) := by decide +kernel
theorem d_Re_refuse_7 : decode M_Re_refuse.2.1 7 = .ok (.getfield 28, 3) := by decide +kernel
theorem d_Re_refuse_10 : decode M_Re_refuse.2.1 10 = .ok (.getfield 143, 3) := by decide +kernel
theorem d_Re_refuse_13 : decode M_Re_refuse.2.1 13 = .ok (.aload_n 0, 1) := by decide +kernel
theorem d_Re_refuse_14 : decode M_Re_refuse.2.1 14 = .ok (.getfield 60, 3) := by decide +kernel
theorem d_Re_refuse_17 : decode M_Re_refuse.2.1 17 = .ok (.iaload, 1) := by decide +kernel
theorem d_Re_refuse_18 : decode M_Re_refuse.2.1 18 = .ok (.putfield 69, 3) := by decide +kernel
theorem d_Re_refuse_21 : decode M_Re_refuse.2.1 21 = .ok (.iconst 0, 1) := by decide +kernel
theorem d_Re_refuse_22 : decode M_Re_refuse.2.1 22 = .ok (.ireturn, 1) := by decide +kernel
theorem d_Re_note_0 : decode M_Re_note.2.1 0 = .ok (.aload_n 0, 1) := by decide +kernel
theorem d_Re_note_1 : decode M_Re_note.2.1 1 = .ok (.getfield 66, 3) := by decide +kernel
theorem d_Re_note_4 : decode M_Re_note.2.1 4 = .ok (.ifCond .ne 13, 3) := by decide +kernel
theorem d_Re_note_7 : decode M_Re_note.2.1 7 = .ok (.aload_n 0, 1) := by decide +kernel
theorem d_Re_note_8 : decode M_Re_note.2.1 8 = .ok (.iload_n 1, 1) := by decide +kernel
theorem d_Re_note_9 : decode M_Re_note.2.1 9 = .ok (.putfield 66, 3) := by decide +kernel
theorem d_Re_note_12 : decode M_Re_note.2.1 12 = .ok (.aload_n 0, 1) := by decide +kernel
theorem d_Re_note_13 : decode M_Re_note.2.1 13 = .ok (.iload_n 2, 1) := by decide +kernel
theorem d_Re_note_14 : decode M_Re_note.2.1 14 = .ok (.putfield 80, 3) := by decide +kernel
theorem d_Re_note_17 : decode M_Re_note.2.1 17 = .ok (.return_, 1) := by decide +kernel
theorem d_Ru_init_0 : decode M_Ru_init.2.1 0 = .ok (.aload_n 0, 1) := by decide +kernel
theorem d_Ru_init_1 : decode M_Ru_init.2.1 1 = .ok (.invokespecial 3, 3) := by decide +kernel
theorem d_Ru_init_4 : decode M_Ru_init.2.1 4 = .ok (.aload_n 0, 1) := by decide +kernel
theorem d_Ru_init_5 : decode M_Ru_init.2.1 5 = .ok (.sipush 1601, 3) := by decide +kernel
theorem d_Ru_init_8 : decode M_Ru_init.2.1 8 = .ok (.newarray .int, 2) := by decide +kernel
theorem d_Ru_init_10 : decode M_Ru_init.2.1 10 = .ok (.putfield 11, 3) := by decide +kernel
theorem d_Ru_init_13 : decode M_Ru_init.2.1 13 = .ok (.aload_n 0, 1) := by decide +kernel
theorem d_Ru_init_14 : decode M_Ru_init.2.1 14 = .ok (.new 15, 3) := by decide +kernel
theorem d_Ru_init_17 : decode M_Ru_init.2.1 17 = .ok (.dup, 1) := by decide +kernel
theorem d_Ru_init_18 : decode M_Ru_init.2.1 18 = .ok (.invokespecial 17, 3) := by decide +kernel
theorem d_Ru_init_21 : decode M_Ru_init.2.1 21 = .ok (.putfield 18, 3) := by decide +kernel
theorem d_Ru_init_24 : decode M_Ru_init.2.1 24 = .ok (.aload_n 0, 1) := by decide +kernel
theorem d_Ru_init_25 : decode M_Ru_init.2.1 25 = .ok (.bipush 20, 2) := by decide +kernel
theorem d_Ru_init_27 : decode M_Ru_init.2.1 27 = .ok (.newarray .int, 2) := by decide +kernel
theorem d_Ru_init_29 : decode M_Ru_init.2.1 29 = .ok (.putfield 22, 3) := by decide +kernel
theorem d_Ru_init_32 : decode M_Ru_init.2.1 32 = .ok (.aload_n 0, 1) := by decide +kernel
theorem d_Ru_init_33 : decode M_Ru_init.2.1 33 = .ok (.bipush 20, 2) := by decide +kernel
theorem d_Ru_init_35 : decode M_Ru_init.2.1 35 = .ok (.newarray .int, 2) := by decide +kernel
theorem d_Ru_init_37 : decode M_Ru_init.2.1 37 = .ok (.putfield 25, 3) := by decide +kernel
theorem d_Ru_init_40 : decode M_Ru_init.2.1 40 = .ok (.aload_n 0, 1) := by decide +kernel
theorem d_Ru_init_41 : decode M_Ru_init.2.1 41 = .ok (.sipush 2001, 3) := by decide +kernel
theorem d_Ru_init_44 : decode M_Ru_init.2.1 44 = .ok (.newarray .int, 2) := by decide +kernel
theorem d_Ru_init_46 : decode M_Ru_init.2.1 46 = .ok (.putfield 28, 3) := by decide +kernel
theorem d_Ru_init_49 : decode M_Ru_init.2.1 49 = .ok (.return_, 1) := by decide +kernel
theorem d_Ru_add_0 : decode M_Ru_add.2.1 0 = .ok (.aload_n 0, 1) := by decide +kernel
theorem d_Ru_add_1 : decode M_Ru_add.2.1 1 = .ok (.getfield 31, 3) := by decide +kernel
theorem d_Ru_add_4 : decode M_Ru_add.2.1 4 = .ok (.bipush 20, 2) := by decide +kernel
theorem d_Ru_add_6 : decode M_Ru_add.2.1 6 = .ok (.if_icmp .lt 5, 3) := by decide +kernel
theorem d_Ru_add_9 : decode M_Ru_add.2.1 9 = .ok (.iconst (-1), 1) := by decide +kernel
theorem d_Ru_add_10 : decode M_Ru_add.2.1 10 = .ok (.ireturn, 1) := by decide +kernel
theorem d_Ru_add_11 : decode M_Ru_add.2.1 11 = .ok (.aload_n 0, 1) := by decide +kernel
theorem d_Ru_add_12 : decode M_Ru_add.2.1 12 = .ok (.getfield 22, 3) := by decide +kernel
theorem d_Ru_add_15 : decode M_Ru_add.2.1 15 = .ok (.aload_n 0, 1) := by decide +kernel
theorem d_Ru_add_16 : decode M_Ru_add.2.1 16 = .ok (.getfield 31, 3) := by decide +kernel
theorem d_Ru_add_19 : decode M_Ru_add.2.1 19 = .ok (.iload_n 1, 1) := by decide +kernel
theorem d_Ru_add_20 : decode M_Ru_add.2.1 20 = .ok (.iastore, 1) := by decide +kernel
theorem d_Ru_add_21 : decode M_Ru_add.2.1 21 = .ok (.aload_n 0, 1) := by decide +kernel
theorem d_Ru_add_22 : decode M_Ru_add.2.1 22 = .ok (.getfield 25, 3) := by decide +kernel
theorem d_Ru_add_25 : decode M_Ru_add.2.1 25 = .ok (.aload_n 0, 1) := by decide +kernel
theorem d_Ru_add_26 : decode M_Ru_add.2.1 26 = .ok (.getfield 31, 3) := by decide +kernel
theorem d_Ru_add_29 : decode M_Ru_add.2.1 29 = .ok (.iload_n 2, 1) := by decide +kernel
theorem d_Ru_add_30 : decode M_Ru_add.2.1 30 = .ok (.iastore, 1) := by decide +kernel
theorem d_Ru_add_31 : decode M_Ru_add.2.1 31 = .ok (.aload_n 0, 1) := by decide +kernel
theorem d_Ru_add_32 : decode M_Ru_add.2.1 32 = .ok (.dup, 1) := by decide +kernel
theorem d_Ru_add_33 : decode M_Ru_add.2.1 33 = .ok (.getfield 31, 3) := by decide +kernel
theorem d_Ru_add_36 : decode M_Ru_add.2.1 36 = .ok (.dup_x1, 1) := by decide +kernel
theorem d_Ru_add_37 : decode M_Ru_add.2.1 37 = .ok (.iconst 1, 1) := by decide +kernel
theorem d_Ru_add_38 : decode M_Ru_add.2.1 38 = .ok (.iadd, 1) := by decide +kernel
theorem d_Ru_add_39 : decode M_Ru_add.2.1 39 = .ok (.putfield 31, 3) := by decide +kernel
theorem d_Ru_add_42 : decode M_Ru_add.2.1 42 = .ok (.ireturn, 1) := by decide +kernel
theorem d_Ru_clear_0 : decode M_Ru_clear.2.1 0 = .ok (.aload_n 0, 1) := by decide +kernel
theorem d_Ru_clear_1 : decode M_Ru_clear.2.1 1 = .ok (.iconst 0, 1) := by decide +kernel
theorem d_Ru_clear_2 : decode M_Ru_clear.2.1 2 = .ok (.putfield 31, 3) := by decide +kernel
theorem d_Ru_clear_5 : decode M_Ru_clear.2.1 5 = .ok (.aload_n 0, 1) := by decide +kernel
theorem d_Ru_clear_6 : decode M_Ru_clear.2.1 6 = .ok (.iconst 0, 1) := by decide +kernel
theorem d_Ru_clear_7 : decode M_Ru_clear.2.1 7 = .ok (.putfield 35, 3) := by decide +kernel
theorem d_Ru_clear_10 : decode M_Ru_clear.2.1 10 = .ok (.return_, 1) := by decide +kernel
theorem d_Ru_findWays_0 : decode M_Ru_findWays.2.1 0 = .ok (.aload_n 0, 1) := by decide +kernel
theorem d_Ru_findWays_1 : decode M_Ru_findWays.2.1 1 = .ok (.getfield 35, 3) := by decide +kernel
theorem d_Ru_findWays_4 : decode M_Ru_findWays.2.1 4 = .ok (.ifCond .eq 21, 3) := by decide +kernel
theorem d_Ru_findWays_7 : decode M_Ru_findWays.2.1 7 = .ok (.aload_n 0, 1) := by decide +kernel
theorem d_Ru_findWays_8 : decode M_Ru_findWays.2.1 8 = .ok (.getfield 39, 3) := by decide +kernel
theorem d_Ru_findWays_11 : decode M_Ru_findWays.2.1 11 = .ok (.iload_n 3, 1) := by decide +kernel
theorem d_Ru_findWays_12 : decode M_Ru_findWays.2.1 12 = .ok (.if_icmp .ne 13, 3) := by decide +kernel
theorem d_Ru_findWays_15 : decode M_Ru_findWays.2.1 15 = .ok (.aload_n 0, 1) := by decide +kernel
theorem d_Ru_findWays_16 : decode M_Ru_findWays.2.1 16 = .ok (.getfield 42, 3) := by decide +kernel
theorem d_Ru_findWays_19 : decode M_Ru_findWays.2.1 19 = .ok (.iload 4, 2) := by decide +kernel
theorem d_Ru_findWays_21 : decode M_Ru_findWays.2.1 21 = .ok (.if_icmp .ne 4, 3) := by decide +kernel
theorem d_Ru_findWays_24 : decode M_Ru_findWays.2.1 24 = .ok (.return_, 1) := by decide +kernel
theorem d_Ru_findWays_25 : decode M_Ru_findWays.2.1 25 = .ok (.aload_n 0, 1) := by decide +kernel
theorem d_Ru_findWays_26 : decode M_Ru_findWays.2.1 26 = .ok (.iload 4, 2) := by decide +kernel
theorem d_Ru_findWays_28 : decode M_Ru_findWays.2.1 28 = .ok (.invokevirtual 45, 3) := by decide +kernel
theorem d_Ru_findWays_31 : decode M_Ru_findWays.2.1 31 = .ok (.istore 5, 2) := by decide +kernel
theorem d_Ru_findWays_33 : decode M_Ru_findWays.2.1 33 = .ok (.aload_n 0, 1) := by decide +kernel
theorem d_Ru_findWays_34 : decode M_Ru_findWays.2.1 34 = .ok (.iconst 0, 1) := by decide +kernel
theorem d_Ru_findWays_35 : decode M_Ru_findWays.2.1 35 = .ok (.putfield 49, 3) := by decide +kernel
theorem d_Ru_findWays_38 : decode M_Ru_findWays.2.1 38 = .ok (.iconst 0, 1) := by decide +kernel
theorem d_Ru_findWays_39 : decode M_Ru_findWays.2.1 39 = .ok (.istore 6, 2) := by decide +kernel
theorem d_Ru_findWays_41 : decode M_Ru_findWays.2.1 41 = .ok (.iload 6, 2) := by decide +kernel
theorem d_Ru_findWays_43 : decode M_Ru_findWays.2.1 43 = .ok (.aload_n 1, 1) := by decide +kernel
theorem d_Ru_findWays_44 : decode M_Ru_findWays.2.1 44 = .ok (.getfield 52, 3) := by decide +kernel
theorem d_Ru_findWays_47 : decode M_Ru_findWays.2.1 47 = .ok (.if_icmp .ge 91, 3) := by decide +kernel
theorem d_Ru_findWays_50 : decode M_Ru_findWays.2.1 50 = .ok (.iload 6, 2) := by decide +kernel
theorem d_Ru_findWays_52 : decode M_Ru_findWays.2.1 52 = .ok (.ifCond .ne 7, 3) := by decide +kernel
theorem d_Ru_findWays_55 : decode M_Ru_findWays.2.1 55 = .ok (.iconst 0, 1) := by decide +kernel
theorem d_Ru_findWays_56 : decode M_Ru_findWays.2.1 56 = .ok (.goto 4, 3) := by decide +kernel
theorem d_Ru_findWays_59 : decode M_Ru_findWays.2.1 59 = .ok (.iconst 1, 1) := by decide +kernel
theorem d_Ru_findWays_60 : decode M_Ru_findWays.2.1 60 = .ok (.istore 7, 2) := by decide +kernel
theorem d_Ru_findWays_62 : decode M_Ru_findWays.2.1 62 = .ok (.iload 7, 2) := by decide +kernel
theorem d_Ru_findWays_64 : decode M_Ru_findWays.2.1 64 = .ok (.iload_n 3, 1) := by decide +kernel
theorem d_Ru_findWays_65 : decode M_Ru_findWays.2.1 65 = .ok (.if_icmp .gt 67, 3) := by decide +kernel
theorem d_Ru_findWays_68 : decode M_Ru_findWays.2.1 68 = .ok (.aload_n 0, 1) := by decide +kernel
theorem d_Ru_findWays_69 : decode M_Ru_findWays.2.1 69 = .ok (.getfield 18, 3) := by decide +kernel
theorem d_Ru_findWays_72 : decode M_Ru_findWays.2.1 72 = .ok (.aload_n 2, 1) := by decide +kernel
theorem d_Ru_findWays_73 : decode M_Ru_findWays.2.1 73 = .ok (.invokevirtual 57, 3) := by decide +kernel
theorem d_Ru_findWays_76 : decode M_Ru_findWays.2.1 76 = .ok (.aload_n 0, 1) := by decide +kernel
theorem d_Ru_findWays_77 : decode M_Ru_findWays.2.1 77 = .ok (.getfield 18, 3) := by decide +kernel
theorem d_Ru_findWays_80 : decode M_Ru_findWays.2.1 80 = .ok (.getfield 61, 3) := by decide +kernel
theorem d_Ru_findWays_83 : decode M_Ru_findWays.2.1 83 = .ok (.iload 6, 2) := by decide +kernel
theorem d_Ru_findWays_85 : decode M_Ru_findWays.2.1 85 = .ok (.dup2, 1) := by decide +kernel
theorem d_Ru_findWays_86 : decode M_Ru_findWays.2.1 86 = .ok (.iaload, 1) := by decide +kernel
theorem d_Ru_findWays_87 : decode M_Ru_findWays.2.1 87 = .ok (.iload 7, 2) := by decide +kernel
theorem d_Ru_findWays_89 : decode M_Ru_findWays.2.1 89 = .ok (.iadd, 1) := by decide +kernel
theorem d_Ru_findWays_90 : decode M_Ru_findWays.2.1 90 = .ok (.iastore, 1) := by decide +kernel
theorem d_Ru_findWays_91 : decode M_Ru_findWays.2.1 91 = .ok (.aload_n 0, 1) := by decide +kernel
theorem d_Ru_findWays_92 : decode M_Ru_findWays.2.1 92 = .ok (.aload_n 1, 1) := by decide +kernel
theorem d_Ru_findWays_93 : decode M_Ru_findWays.2.1 93 = .ok (.iload 5, 2) := by decide +kernel
theorem d_Ru_findWays_95 : decode M_Ru_findWays.2.1 95 = .ok (.invokevirtual 64, 3) := by decide +kernel
theorem d_Ru_findWays_98 : decode M_Ru_findWays.2.1 98 = .ok (.ifCond .eq 28, 3) := by decide +kernel
theorem d_Ru_findWays_101 : decode M_Ru_findWays.2.1 101 = .ok (.aload_n 0, 1) := by decide +kernel
theorem d_Ru_findWays_102 : decode M_Ru_findWays.2.1 102 = .ok (.getfield 11, 3) := by decide +kernel
theorem d_Ru_findWays_105 : decode M_Ru_findWays.2.1 105 = .ok (.aload_n 0, 1) := by decide +kernel
theorem d_Ru_findWays_106 : decode M_Ru_findWays.2.1 106 = .ok (.dup, 1) := by decide +kernel
theorem d_Ru_findWays_107 : decode M_Ru_findWays.2.1 107 = .ok (.getfield 49, 3) := by decide +kernel
theorem d_Ru_findWays_110 : decode M_Ru_findWays.2.1 110 = .ok (.dup_x1, 1) := by decide +kernel
theorem d_Ru_findWays_111 : decode M_Ru_findWays.2.1 111 = .ok (.iconst 1, 1) := by decide +kernel
theorem d_Ru_findWays_112 : decode M_Ru_findWays.2.1 112 = .ok (.iadd, 1) := by decide +kernel
theorem d_Ru_findWays_113 : decode M_Ru_findWays.2.1 113 = .ok (.putfield 49, 3) := by decide +kernel
theorem d_Ru_findWays_116 : decode M_Ru_findWays.2.1 116 = .ok (.sipush 1000, 3) := by decide +kernel
theorem d_Ru_findWays_119 : decode M_Ru_findWays.2.1 119 = .ok (.iload 6, 2) := by decide +kernel
theorem d_Ru_findWays_121 : decode M_Ru_findWays.2.1 121 = .ok (.imul, 1) := by decide +kernel
theorem d_Ru_findWays_122 : decode M_Ru_findWays.2.1 122 = .ok (.iload 7, 2) := by decide +kernel
theorem d_Ru_findWays_124 : decode M_Ru_findWays.2.1 124 = .ok (.iadd, 1) := by decide +kernel
theorem d_Ru_findWays_125 : decode M_Ru_findWays.2.1 125 = .ok (.iastore, 1) := by decide +kernel
theorem d_Ru_findWays_126 : decode M_Ru_findWays.2.1 126 = .ok (.iinc 7 1, 3) := by decide +kernel
theorem d_Ru_findWays_129 : decode M_Ru_findWays.2.1 129 = .ok (.goto (-67), 3) := by decide +kernel
theorem d_Ru_findWays_132 : decode M_Ru_findWays.2.1 132 = .ok (.iinc 6 1, 3) := by decide +kernel
theorem d_Ru_findWays_135 : decode M_Ru_findWays.2.1 135 = .ok (.goto (-94), 3) := by decide +kernel
theorem d_Ru_findWays_138 : decode M_Ru_findWays.2.1 138 = .ok (.aload_n 0, 1) := by decide +kernel
theorem d_Ru_findWays_139 : decode M_Ru_findWays.2.1 139 = .ok (.iconst 1, 1) := by decide +kernel
theorem d_Ru_findWays_140 : decode M_Ru_findWays.2.1 140 = .ok (.putfield 35, 3) := by decide +kernel
theorem d_Ru_findWays_143 : decode M_Ru_findWays.2.1 143 = .ok (.aload_n 0, 1) := by decide +kernel
theorem d_Ru_findWays_144 : decode M_Ru_findWays.2.1 144 = .ok (.iload_n 3, 1) := by decide +kernel
theorem d_Ru_findWays_145 : decode M_Ru_findWays.2.1 145 = .ok (.putfield 39, 3) := by decide +kernel
theorem d_Ru_findWays_148 : decode M_Ru_findWays.2.1 148 = .ok (.aload_n 0, 1) := by decide +kernel
theorem d_Ru_findWays_149 : decode M_Ru_findWays.2.1 149 = .ok (.iload 4, 2) := by decide +kernel
theorem d_Ru_findWays_151 : decode M_Ru_findWays.2.1 151 = .ok (.putfield 42, 3) := by decide +kernel
theorem d_Ru_findWays_154 : decode M_Ru_findWays.2.1 154 = .ok (.return_, 1) := by decide +kernel
theorem d_Ru_setDue_0 : decode M_Ru_setDue.2.1 0 = .ok (.iconst 0, 1) := by decide +kernel
theorem d_Ru_setDue_1 : decode M_Ru_setDue.2.1 1 = .ok (.istore_n 2, 1) := by decide +kernel
theorem d_Ru_setDue_2 : decode M_Ru_setDue.2.1 2 = .ok (.iload_n 2, 1) := by decide +kernel
theorem d_Ru_setDue_3 : decode M_Ru_setDue.2.1 3 = .ok (.sipush 2000, 3) := by decide +kernel
theorem d_Ru_setDue_6 : decode M_Ru_setDue.2.1 6 = .ok (.if_icmp .gt 16, 3) := by decide +kernel
theorem d_Ru_setDue_9 : decode M_Ru_setDue.2.1 9 = .ok (.aload_n 0, 1) := by decide +kernel
theorem d_Ru_setDue_10 : decode M_Ru_setDue.2.1 10 = .ok (.getfield 28, 3) := by decide +kernel
theorem d_Ru_setDue_13 : decode M_Ru_setDue.2.1 13 = .ok (.iload_n 2, 1) := by decide +kernel
theorem d_Ru_setDue_14 : decode M_Ru_setDue.2.1 14 = .ok (.iconst 0, 1) := by decide +kernel
theorem d_Ru_setDue_15 : decode M_Ru_setDue.2.1 15 = .ok (.iastore, 1) := by decide +kernel
theorem d_Ru_setDue_16 : decode M_Ru_setDue.2.1 16 = .ok (.iinc 2 1, 3) := by decide +kernel
theorem d_Ru_setDue_19 : decode M_Ru_setDue.2.1 19 = .ok (.goto (-17), 3) := by decide +kernel
theorem d_Ru_setDue_22 : decode M_Ru_setDue.2.1 22 = .ok (.iconst 0, 1) := by decide +kernel
theorem d_Ru_setDue_23 : decode M_Ru_setDue.2.1 23 = .ok (.istore_n 2, 1) := by decide +kernel
theorem d_Ru_setDue_24 : decode M_Ru_setDue.2.1 24 = .ok (.iconst 0, 1) := by decide +kernel
theorem d_Ru_setDue_25 : decode M_Ru_setDue.2.1 25 = .ok (.istore_n 3, 1) := by decide +kernel
theorem d_Ru_setDue_26 : decode M_Ru_setDue.2.1 26 = .ok (.iload_n 3, 1) := by decide +kernel
theorem d_Ru_setDue_27 : decode M_Ru_setDue.2.1 27 = .ok (.iload_n 1, 1) := by decide +kernel
theorem d_Ru_setDue_28 : decode M_Ru_setDue.2.1 28 = .ok (.if_icmp .ge 52, 3) := by decide +kernel
theorem d_Ru_setDue_31 : decode M_Ru_setDue.2.1 31 = .ok (.iload_n 3, 1) := by decide +kernel
theorem d_Ru_setDue_32 : decode M_Ru_setDue.2.1 32 = .ok (.aload_n 0, 1) := by decide +kernel
theorem d_Ru_setDue_33 : decode M_Ru_setDue.2.1 33 = .ok (.getfield 31, 3) := by decide +kernel
theorem d_Ru_setDue_36 : decode M_Ru_setDue.2.1 36 = .ok (.if_icmp .ge 44, 3) := by decide +kernel
theorem d_Ru_setDue_39 : decode M_Ru_setDue.2.1 39 = .ok (.aload_n 0, 1) := by decide +kernel
theorem d_Ru_setDue_40 : decode M_Ru_setDue.2.1 40 = .ok (.getfield 28, 3) := by decide +kernel
theorem d_Ru_setDue_43 : decode M_Ru_setDue.2.1 43 = .ok (.aload_n 0, 1) := by decide +kernel
theorem d_Ru_setDue_44 : decode M_Ru_setDue.2.1 44 = .ok (.getfield 25, 3) := by decide +kernel
theorem d_Ru_setDue_47 : decode M_Ru_setDue.2.1 47 = .ok (.iload_n 3, 1) := by decide +kernel
theorem d_Ru_setDue_48 : decode M_Ru_setDue.2.1 48 = .ok (.iaload, 1) := by decide +kernel
theorem d_Ru_setDue_49 : decode M_Ru_setDue.2.1 49 = .ok (.dup2, 1) := by decide +kernel
theorem d_Ru_setDue_50 : decode M_Ru_setDue.2.1 50 = .ok (.iaload, 1) := by decide +kernel
theorem d_Ru_setDue_51 : decode M_Ru_setDue.2.1 51 = .ok (.iconst 1, 1) := by decide +kernel
theorem d_Ru_setDue_52 : decode M_Ru_setDue.2.1 52 = .ok (.aload_n 0, 1) := by decide +kernel
theorem d_Ru_setDue_53 : decode M_Ru_setDue.2.1 53 = .ok (.getfield 22, 3) := by decide +kernel
theorem d_Ru_setDue_56 : decode M_Ru_setDue.2.1 56 = .ok (.iload_n 3, 1) := by decide +kernel
theorem d_Ru_setDue_57 : decode M_Ru_setDue.2.1 57 = .ok (.iaload, 1) := by decide +kernel
theorem d_Ru_setDue_58 : decode M_Ru_setDue.2.1 58 = .ok (.ishl, 1) := by decide +kernel
theorem d_Ru_setDue_59 : decode M_Ru_setDue.2.1 59 = .ok (.ior, 1) := by decide +kernel
theorem d_Ru_setDue_60 : decode M_Ru_setDue.2.1 60 = .ok (.iastore, 1) := by decide +kernel
theorem d_Ru_setDue_61 : decode M_Ru_setDue.2.1 61 = .ok (.iload_n 2, 1) := by decide +kernel
theorem d_Ru_setDue_62 : decode M_Ru_setDue.2.1 62 = .ok (.aload_n 0, 1) := by decide +kernel
theorem d_Ru_setDue_63 : decode M_Ru_setDue.2.1 63 = .ok (.getfield 25, 3) := by decide +kernel
theorem d_Ru_setDue_66 : decode M_Ru_setDue.2.1 66 = .ok (.iload_n 3, 1) := by decide +kernel
theorem d_Ru_setDue_67 : decode M_Ru_setDue.2.1 67 = .ok (.iaload, 1) := by decide +kernel
theorem d_Ru_setDue_68 : decode M_Ru_setDue.2.1 68 = .ok (.iconst 1, 1) := by decide +kernel
theorem d_Ru_setDue_69 : decode M_Ru_setDue.2.1 69 = .ok (.iadd, 1) := by decide +kernel
theorem d_Ru_setDue_70 : decode M_Ru_setDue.2.1 70 = .ok (.invokestatic 68, 3) := by decide +kernel
theorem d_Ru_setDue_73 : decode M_Ru_setDue.2.1 73 = .ok (.istore_n 2, 1) := by decide +kernel
theorem d_Ru_setDue_74 : decode M_Ru_setDue.2.1 74 = .ok (.iinc 3 1, 3) := by decide +kernel
theorem d_Ru_setDue_77 : decode M_Ru_setDue.2.1 77 = .ok (.goto (-51), 3) := by decide +kernel
theorem d_Ru_setDue_80 : decode M_Ru_setDue.2.1 80 = .ok (.iload_n 2, 1) := by decide +kernel
theorem d_Ru_setDue_81 : decode M_Ru_setDue.2.1 81 = .ok (.ireturn, 1) := by decide +kernel
theorem d_Ru_isMissed_0 : decode M_Ru_isMissed.2.1 0 = .ok (.iload_n 1, 1) := by decide +kernel
theorem d_Ru_isMissed_1 : decode M_Ru_isMissed.2.1 1 = .ok (.istore_n 3, 1) := by decide +kernel
theorem d_Ru_isMissed_2 : decode M_Ru_isMissed.2.1 2 = .ok (.iload_n 3, 1) := by decide +kernel
theorem d_Ru_isMissed_3 : decode M_Ru_isMissed.2.1 3 = .ok (.iload_n 2, 1) := by decide +kernel
theorem d_Ru_isMissed_4 : decode M_Ru_isMissed.2.1 4 = .ok (.if_icmp .ge 27, 3) := by decide +kernel
theorem d_Ru_isMissed_7 : decode M_Ru_isMissed.2.1 7 = .ok (.iload_n 3, 1) := by decide +kernel
theorem d_Ru_isMissed_8 : decode M_Ru_isMissed.2.1 8 = .ok (.sipush 2000, 3) := by decide +kernel
theorem d_Ru_isMissed_11 : decode M_Ru_isMissed.2.1 11 = .ok (.if_icmp .gt 20, 3) := by decide +kernel
theorem d_Ru_isMissed_14 : decode M_Ru_isMissed.2.1 14 = .ok (.aload_n 0, 1) := by decide +kernel
theorem d_Ru_isMissed_15 : decode M_Ru_isMissed.2.1 15 = .ok (.getfield 28, 3) := by decide +kernel
theorem d_Ru_isMissed_18 : decode M_Ru_isMissed.2.1 18 = .ok (.iload_n 3, 1) := by decide +kernel
theorem d_Ru_isMissed_19 : decode M_Ru_isMissed.2.1 19 = .ok (.iaload, 1) := by decide +kernel
theorem d_Ru_isMissed_20 : decode M_Ru_isMissed.2.1 20 = .ok (.ifCond .eq 5, 3) := by decide +kernel
theorem d_Ru_isMissed_23 : decode M_Ru_isMissed.2.1 23 = .ok (.iconst 1, 1) := by decide +kernel
theorem d_Ru_isMissed_24 : decode M_Ru_isMissed.2.1 24 = .ok (.ireturn, 1) := by decide +kernel
theorem d_Ru_isMissed_25 : decode M_Ru_isMissed.2.1 25 = .ok (.iinc 3 1, 3) := by decide +kernel
theorem d_Ru_isMissed_28 : decode M_Ru_isMissed.2.1 28 = .ok (.goto (-26), 3) := by decide +kernel
theorem d_Ru_isMissed_31 : decode M_Ru_isMissed.2.1 31 = .ok (.iload_n 2, 1) := by decide +kernel
theorem d_Ru_isMissed_32 : decode M_Ru_isMissed.2.1 32 = .ok (.sipush 2000, 3) := by decide +kernel
theorem d_Ru_isMissed_35 : decode M_Ru_isMissed.2.1 35 = .ok (.if_icmp .gt 26, 3) := by decide +kernel
theorem d_Ru_isMissed_38 : decode M_Ru_isMissed.2.1 38 = .ok (.aload_n 0, 1) := by decide +kernel
theorem d_Ru_isMissed_39 : decode M_Ru_isMissed.2.1 39 = .ok (.getfield 28, 3) := by decide +kernel
theorem d_Ru_isMissed_42 : decode M_Ru_isMissed.2.1 42 = .ok (.iload_n 2, 1) := by decide +kernel
theorem d_Ru_isMissed_43 : decode M_Ru_isMissed.2.1 43 = .ok (.iaload, 1) := by decide +kernel
theorem d_Ru_isMissed_44 : decode M_Ru_isMissed.2.1 44 = .ok (.aload_n 0, 1) := by decide +kernel
theorem d_Ru_isMissed_45 : decode M_Ru_isMissed.2.1 45 = .ok (.getfield 18, 3) := by decide +kernel
theorem d_Ru_isMissed_48 : decode M_Ru_isMissed.2.1 48 = .ok (.getfield 74, 3) := by decide +kernel
theorem d_Ru_isMissed_51 : decode M_Ru_isMissed.2.1 51 = .ok (.iconst (-1), 1) := by decide +kernel
theorem d_Ru_isMissed_52 : decode M_Ru_isMissed.2.1 52 = .ok (.ixor, 1) := by decide +kernel
theorem d_Ru_isMissed_53 : decode M_Ru_isMissed.2.1 53 = .ok (.iand, 1) := by decide +kernel
theorem d_Ru_isMissed_54 : decode M_Ru_isMissed.2.1 54 = .ok (.ifCond .eq 7, 3) := by decide +kernel
theorem d_Ru_isMissed_57 : decode M_Ru_isMissed.2.1 57 = .ok (.iconst 1, 1) := by decide +kernel
theorem d_Ru_isMissed_58 : decode M_Ru_isMissed.2.1 58 = .ok (.goto 4, 3) := by decide +kernel
theorem d_Ru_isMissed_61 : decode M_Ru_isMissed.2.1 61 = .ok (.iconst 0, 1) := by decide +kernel
theorem d_Ru_isMissed_62 : decode M_Ru_isMissed.2.1 62 = .ok (.ireturn, 1) := by decide +kernel
theorem d_Ru_comesAsDue_0 : decode M_Ru_comesAsDue.2.1 0 = .ok (.iconst 0, 1) := by decide +kernel
theorem d_Ru_comesAsDue_1 : decode M_Ru_comesAsDue.2.1 1 = .ok (.istore_n 3, 1) := by decide +kernel
theorem d_Ru_comesAsDue_2 : decode M_Ru_comesAsDue.2.1 2 = .ok (.iload_n 3, 1) := by decide +kernel
theorem d_Ru_comesAsDue_3 : decode M_Ru_comesAsDue.2.1 3 = .ok (.iload_n 2, 1) := by decide +kernel
theorem d_Ru_comesAsDue_4 : decode M_Ru_comesAsDue.2.1 4 = .ok (.if_icmp .ge 44, 3) := by decide +kernel
theorem d_Ru_comesAsDue_7 : decode M_Ru_comesAsDue.2.1 7 = .ok (.iconst 1, 1) := by decide +kernel
theorem d_Ru_comesAsDue_8 : decode M_Ru_comesAsDue.2.1 8 = .ok (.aload_n 0, 1) := by decide +kernel
theorem d_Ru_comesAsDue_9 : decode M_Ru_comesAsDue.2.1 9 = .ok (.getfield 18, 3) := by decide +kernel
theorem d_Ru_comesAsDue_12 : decode M_Ru_comesAsDue.2.1 12 = .ok (.aload_n 1, 1) := by decide +kernel
theorem d_Ru_comesAsDue_13 : decode M_Ru_comesAsDue.2.1 13 = .ok (.iload_n 2, 1) := by decide +kernel
theorem d_Ru_comesAsDue_14 : decode M_Ru_comesAsDue.2.1 14 = .ok (.iload_n 3, 1) := by decide +kernel
theorem d_Ru_comesAsDue_15 : decode M_Ru_comesAsDue.2.1 15 = .ok (.isub, 1) := by decide +kernel
theorem d_Ru_comesAsDue_16 : decode M_Ru_comesAsDue.2.1 16 = .ok (.invokevirtual 77, 3) := by decide +kernel
theorem d_Ru_comesAsDue_19 : decode M_Ru_comesAsDue.2.1 19 = .ok (.invokestatic 68, 3) := by decide +kernel
theorem d_Ru_comesAsDue_22 : decode M_Ru_comesAsDue.2.1 22 = .ok (.istore 4, 2) := by decide +kernel
theorem d_Ru_comesAsDue_24 : decode M_Ru_comesAsDue.2.1 24 = .ok (.iload_n 3, 1) := by decide +kernel
theorem d_Ru_comesAsDue_25 : decode M_Ru_comesAsDue.2.1 25 = .ok (.iload 4, 2) := by decide +kernel
theorem d_Ru_comesAsDue_27 : decode M_Ru_comesAsDue.2.1 27 = .ok (.iadd, 1) := by decide +kernel
theorem d_Ru_comesAsDue_28 : decode M_Ru_comesAsDue.2.1 28 = .ok (.istore_n 3, 1) := by decide +kernel
theorem d_Ru_comesAsDue_29 : decode M_Ru_comesAsDue.2.1 29 = .ok (.aload_n 0, 1) := by decide +kernel
theorem d_Ru_comesAsDue_30 : decode M_Ru_comesAsDue.2.1 30 = .ok (.iload_n 3, 1) := by decide +kernel
theorem d_Ru_comesAsDue_31 : decode M_Ru_comesAsDue.2.1 31 = .ok (.iload 4, 2) := by decide +kernel
theorem d_Ru_comesAsDue_33 : decode M_Ru_comesAsDue.2.1 33 = .ok (.isub, 1) := by decide +kernel
theorem d_Ru_comesAsDue_34 : decode M_Ru_comesAsDue.2.1 34 = .ok (.iload_n 3, 1) := by decide +kernel
theorem d_Ru_comesAsDue_35 : decode M_Ru_comesAsDue.2.1 35 = .ok (.iconst 1, 1) := by decide +kernel
theorem d_Ru_comesAsDue_36 : decode M_Ru_comesAsDue.2.1 36 = .ok (.isub, 1) := by decide +kernel
theorem d_Ru_comesAsDue_37 : decode M_Ru_comesAsDue.2.1 37 = .ok (.invokevirtual 81, 3) := by decide +kernel
theorem d_Ru_comesAsDue_40 : decode M_Ru_comesAsDue.2.1 40 = .ok (.ifCond .eq 5, 3) := by decide +kernel
theorem d_Ru_comesAsDue_43 : decode M_Ru_comesAsDue.2.1 43 = .ok (.iconst 0, 1) := by decide +kernel
theorem d_Ru_comesAsDue_44 : decode M_Ru_comesAsDue.2.1 44 = .ok (.ireturn, 1) := by decide +kernel
theorem d_Ru_comesAsDue_45 : decode M_Ru_comesAsDue.2.1 45 = .ok (.goto (-43), 3) := by decide +kernel
theorem d_Ru_comesAsDue_48 : decode M_Ru_comesAsDue.2.1 48 = .ok (.iconst 1, 1) := by decide +kernel
theorem d_Ru_comesAsDue_49 : decode M_Ru_comesAsDue.2.1 49 = .ok (.ireturn, 1) := by decide +kernel
theorem d_Ta_init_0 : decode M_Ta_init.2.1 0 = .ok (.aload_n 0, 1) := by decide +kernel
theorem d_Ta_init_1 : decode M_Ta_init.2.1 1 = .ok (.invokespecial 1, 3) := by decide +kernel
theorem d_Ta_init_4 : decode M_Ta_init.2.1 4 = .ok (.aload_n 0, 1) := by decide +kernel
theorem d_Ta_init_5 : decode M_Ta_init.2.1 5 = .ok (.sipush 2000, 3) := by decide +kernel
theorem d_Ta_init_8 : decode M_Ta_init.2.1 8 = .ok (.newarray .byte, 2) := by decide +kernel
theorem d_Ta_init_10 : decode M_Ta_init.2.1 10 = .ok (.putfield 9, 3) := by decide +kernel
theorem d_Ta_init_13 : decode M_Ta_init.2.1 13 = .ok (.return_, 1) := by decide +kernel
theorem d_Ta_hasRoomFor_0 : decode M_Ta_hasRoomFor.2.1 0 = .ok (.aload_n 0, 1) := by decide +kernel
theorem d_Ta_hasRoomFor_1 : decode M_Ta_hasRoomFor.2.1 1 = .ok (.getfield 13, 3) := by decide +kernel
theorem d_Ta_hasRoomFor_4 : decode M_Ta_hasRoomFor.2.1 4 = .ok (.iload_n 1, 1) := by decide +kernel
theorem d_Ta_hasRoomFor_5 : decode M_Ta_hasRoomFor.2.1 5 = .ok (.iadd, 1) := by decide +kernel
theorem d_Ta_hasRoomFor_6 : decode M_Ta_hasRoomFor.2.1 6 = .ok (.sipush 2000, 3) := by decide +kernel
theorem d_Ta_hasRoomFor_9 : decode M_Ta_hasRoomFor.2.1 9 = .ok (.if_icmp .gt 7, 3) := by decide +kernel
theorem d_Ta_hasRoomFor_12 : decode M_Ta_hasRoomFor.2.1 12 = .ok (.iconst 1, 1) := by decide +kernel
theorem d_Ta_hasRoomFor_13 : decode M_Ta_hasRoomFor.2.1 13 = .ok (.goto 4, 3) := by decide +kernel
theorem d_Ta_hasRoomFor_16 : decode M_Ta_hasRoomFor.2.1 16 = .ok (.iconst 0, 1) := by decide +kernel
theorem d_Ta_hasRoomFor_17 : decode M_Ta_hasRoomFor.2.1 17 = .ok (.ireturn, 1) := by decide +kernel
theorem d_Ta_append_0 : decode M_Ta_append.2.1 0 = .ok (.aload_n 0, 1) := by decide +kernel
theorem d_Ta_append_1 : decode M_Ta_append.2.1 1 = .ok (.iconst 4, 1) := by decide +kernel
theorem d_Ta_append_2 : decode M_Ta_append.2.1 2 = .ok (.invokevirtual 17, 3) := by decide +kernel
theorem d_Ta_append_5 : decode M_Ta_append.2.1 5 = .ok (.ifCond .ne 4, 3) := by decide +kernel
theorem d_Ta_append_8 : decode M_Ta_append.2.1 8 = .ok (.return_, 1) := by decide +kernel
theorem d_Ta_append_9 : decode M_Ta_append.2.1 9 = .ok (.bipush 24, 2) := by decide +kernel
theorem d_Ta_append_11 : decode M_Ta_append.2.1 11 = .ok (.istore_n 2, 1) := by decide +kernel
theorem d_Ta_append_12 : decode M_Ta_append.2.1 12 = .ok (.iload_n 2, 1) := by decide +kernel
theorem d_Ta_append_13 : decode M_Ta_append.2.1 13 = .ok (.ifCond .lt 29, 3) := by decide +kernel
theorem d_Ta_append_16 : decode M_Ta_append.2.1 16 = .ok (.aload_n 0, 1) := by decide +kernel
theorem d_Ta_append_17 : decode M_Ta_append.2.1 17 = .ok (.getfield 9, 3) := by decide +kernel
theorem d_Ta_append_20 : decode M_Ta_append.2.1 20 = .ok (.aload_n 0, 1) := by decide +kernel
theorem d_Ta_append_21 : decode M_Ta_append.2.1 21 = .ok (.dup, 1) := by decide +kernel
theorem d_Ta_append_22 : decode M_Ta_append.2.1 22 = .ok (.getfield 13, 3) := by decide +kernel
theorem d_Ta_append_25 : decode M_Ta_append.2.1 25 = .ok (.dup_x1, 1) := by decide +kernel
theorem d_Ta_append_26 : decode M_Ta_append.2.1 26 = .ok (.iconst 1, 1) := by decide +kernel
theorem d_Ta_append_27 : decode M_Ta_append.2.1 27 = .ok (.iadd, 1) := by decide +kernel
theorem d_Ta_append_28 : decode M_Ta_append.2.1 28 = .ok (.putfield 13, 3) := by decide +kernel
theorem d_Ta_append_31 : decode M_Ta_append.2.1 31 = .ok (.iload_n 1, 1) := by decide +kernel
theorem d_Ta_append_32 : decode M_Ta_append.2.1 32 = .ok (.iload_n 2, 1) := by decide +kernel
theorem d_Ta_append_33 : decode M_Ta_append.2.1 33 = .ok (.ishr, 1) := by decide +kernel
theorem d_Ta_append_34 : decode M_Ta_append.2.1 34 = .ok (.i2b, 1) := by decide +kernel
theorem d_Ta_append_35 : decode M_Ta_append.2.1 35 = .ok (.bastore, 1) := by decide +kernel
theorem d_Ta_append_36 : decode M_Ta_append.2.1 36 = .ok (.iinc 2 (-8), 3) := by decide +kernel
theorem d_Ta_append_39 : decode M_Ta_append.2.1 39 = .ok (.goto (-27), 3) := by decide +kernel
theorem d_Ta_append_42 : decode M_Ta_append.2.1 42 = .ok (.return_, 1) := by decide +kernel
theorem d_To_init_0 : decode M_To_init.2.1 0 = .ok (.aload_n 0, 1) := by decide +kernel
theorem d_To_init_1 : decode M_To_init.2.1 1 = .ok (.invokespecial 3, 3) := by decide +kernel
theorem d_To_init_4 : decode M_To_init.2.1 4 = .ok (.aload_n 0, 1) := by decide +kernel
theorem d_To_init_5 : decode M_To_init.2.1 5 = .ok (.sipush 402, 3) := by decide +kernel
theorem d_To_init_8 : decode M_To_init.2.1 8 = .ok (.newarray .int, 2) := by decide +kernel
theorem d_To_init_10 : decode M_To_init.2.1 10 = .ok (.putfield 11, 3) := by decide +kernel
theorem d_To_init_13 : decode M_To_init.2.1 13 = .ok (.aload_n 0, 1) := by decide +kernel
theorem d_To_init_14 : decode M_To_init.2.1 14 = .ok (.sipush 402, 3) := by decide +kernel
theorem d_To_init_17 : decode M_To_init.2.1 17 = .ok (.newarray .int, 2) := by decide +kernel
theorem d_To_init_19 : decode M_To_init.2.1 19 = .ok (.putfield 15, 3) := by decide +kernel
theorem d_To_init_22 : decode M_To_init.2.1 22 = .ok (.aload_n 0, 1) := by decide +kernel
theorem d_To_init_23 : decode M_To_init.2.1 23 = .ok (.sipush 402, 3) := by decide +kernel
theorem d_To_init_26 : decode M_To_init.2.1 26 = .ok (.newarray .int, 2) := by decide +kernel
theorem d_To_init_28 : decode M_To_init.2.1 28 = .ok (.putfield 18, 3) := by decide +kernel
theorem d_To_init_31 : decode M_To_init.2.1 31 = .ok (.aload_n 0, 1) := by decide +kernel
theorem d_To_init_32 : decode M_To_init.2.1 32 = .ok (.sipush 402, 3) := by decide +kernel
theorem d_To_init_35 : decode M_To_init.2.1 35 = .ok (.newarray .long, 2) := by decide +kernel
theorem d_To_init_37 : decode M_To_init.2.1 37 = .ok (.putfield 21, 3) := by decide +kernel
theorem d_To_init_40 : decode M_To_init.2.1 40 = .ok (.return_, 1) := by decide +kernel
theorem d_To_cut_0 : decode M_To_cut.2.1 0 = .ok (.iconst 0, 1) := by decide +kernel
theorem d_To_cut_1 : decode M_To_cut.2.1 1 = .ok (.istore_n 2, 1) := by decide +kernel
theorem d_To_cut_2 : decode M_To_cut.2.1 2 = .ok (.iconst 0, 1) := by decide +kernel
theorem d_To_cut_3 : decode M_To_cut.2.1 3 = .ok (.istore_n 3, 1) := by decide +kernel
theorem d_To_cut_4 : decode M_To_cut.2.1 4 = .ok (.iconst 0, 1) := by decide +kernel
theorem d_To_cut_5 : decode M_To_cut.2.1 5 = .ok (.istore 4, 2) := by decide +kernel
theorem d_To_cut_7 : decode M_To_cut.2.1 7 = .ok (.iload 4, 2) := by decide +kernel
theorem d_To_cut_9 : decode M_To_cut.2.1 9 = .ok (.sipush 400, 3) := by decide +kernel
theorem d_To_cut_12 : decode M_To_cut.2.1 12 = .ok (.if_icmp .gt 37, 3) := by decide +kernel
theorem d_To_cut_15 : decode M_To_cut.2.1 15 = .ok (.aload_n 1, 1) := by decide +kernel
theorem d_To_cut_16 : decode M_To_cut.2.1 16 = .ok (.iload_n 2, 1) := by decide +kernel
theorem d_To_cut_17 : decode M_To_cut.2.1 17 = .ok (.invokestatic 25, 3) := by decide +kernel
theorem d_To_cut_20 : decode M_To_cut.2.1 20 = .ok (.istore_n 2, 1) := by decide +kernel
theorem d_To_cut_21 : decode M_To_cut.2.1 21 = .ok (.iload_n 2, 1) := by decide +kernel
theorem d_To_cut_22 : decode M_To_cut.2.1 22 = .ok (.aload_n 1, 1) := by decide +kernel
theorem d_To_cut_23 : decode M_To_cut.2.1 23 = .ok (.getfield 29, 3) := by decide +kernel
theorem d_To_cut_26 : decode M_To_cut.2.1 26 = .ok (.if_icmp .lt 6, 3) := by decide +kernel
theorem d_To_cut_29 : decode M_To_cut.2.1 29 = .ok (.goto 20, 3) := by decide +kernel
theorem d_To_cut_32 : decode M_To_cut.2.1 32 = .ok (.aload_n 0, 1) := by decide +kernel
theorem d_To_cut_33 : decode M_To_cut.2.1 33 = .ok (.aload_n 1, 1) := by decide +kernel
theorem d_To_cut_34 : decode M_To_cut.2.1 34 = .ok (.iload_n 2, 1) := by decide +kernel
theorem d_To_cut_35 : decode M_To_cut.2.1 35 = .ok (.iload_n 3, 1) := by decide +kernel
theorem d_To_cut_36 : decode M_To_cut.2.1 36 = .ok (.invokevirtual 35, 3) := by decide +kernel
theorem d_To_cut_39 : decode M_To_cut.2.1 39 = .ok (.istore_n 2, 1) := by decide +kernel
theorem d_To_cut_40 : decode M_To_cut.2.1 40 = .ok (.iinc 3 1, 3) := by decide +kernel
theorem d_To_cut_43 : decode M_To_cut.2.1 43 = .ok (.iinc 4 1, 3) := by decide +kernel
theorem d_To_cut_46 : decode M_To_cut.2.1 46 = .ok (.goto (-39), 3) := by decide +kernel
theorem d_To_cut_49 : decode M_To_cut.2.1 49 = .ok (.aload_n 0, 1) := by decide +kernel
theorem d_To_cut_50 : decode M_To_cut.2.1 50 = .ok (.getfield 11, 3) := by decide +kernel
theorem d_To_cut_53 : decode M_To_cut.2.1 53 = .ok (.iload_n 3, 1) := by decide +kernel
theorem d_To_cut_54 : decode M_To_cut.2.1 54 = .ok (.sipush 128, 3) := by decide +kernel
theorem d_To_cut_57 : decode M_To_cut.2.1 57 = .ok (.iastore, 1) := by decide +kernel
theorem d_To_cut_58 : decode M_To_cut.2.1 58 = .ok (.aload_n 0, 1) := by decide +kernel
theorem d_To_cut_59 : decode M_To_cut.2.1 59 = .ok (.getfield 15, 3) := by decide +kernel
theorem d_To_cut_62 : decode M_To_cut.2.1 62 = .ok (.iload_n 3, 1) := by decide +kernel
theorem d_To_cut_63 : decode M_To_cut.2.1 63 = .ok (.aload_n 1, 1) := by decide +kernel
theorem d_To_cut_64 : decode M_To_cut.2.1 64 = .ok (.getfield 29, 3) := by decide +kernel
theorem d_To_cut_67 : decode M_To_cut.2.1 67 = .ok (.iastore, 1) := by decide +kernel
theorem d_To_cut_68 : decode M_To_cut.2.1 68 = .ok (.return_, 1) := by decide +kernel
theorem d_To_skipBlanks_0 : decode M_To_skipBlanks.2.1 0 = .ok (.iload_n 1, 1) := by decide +kernel
theorem d_To_skipBlanks_1 : decode M_To_skipBlanks.2.1 1 = .ok (.istore_n 2, 1) := by decide +kernel
theorem d_To_skipBlanks_2 : decode M_To_skipBlanks.2.1 2 = .ok (.iload_n 2, 1) := by decide +kernel
theorem d_To_skipBlanks_3 : decode M_To_skipBlanks.2.1 3 = .ok (.aload_n 0, 1) := by decide +kernel
theorem d_To_skipBlanks_4 : decode M_To_skipBlanks.2.1 4 = .ok (.getfield 29, 3) := by decide +kernel
theorem d_To_skipBlanks_7 : decode M_To_skipBlanks.2.1 7 = .ok (.if_icmp .ge 21, 3) := by decide +kernel
theorem d_To_skipBlanks_10 : decode M_To_skipBlanks.2.1 10 = .ok (.aload_n 0, 1) := by decide +kernel
theorem d_To_skipBlanks_11 : decode M_To_skipBlanks.2.1 11 = .ok (.getfield 39, 3) := by decide +kernel
theorem d_To_skipBlanks_14 : decode M_To_skipBlanks.2.1 14 = .ok (.iload_n 2, 1) := by decide +kernel
theorem d_To_skipBlanks_15 : decode M_To_skipBlanks.2.1 15 = .ok (.baload, 1) := by decide +kernel
theorem d_To_skipBlanks_16 : decode M_To_skipBlanks.2.1 16 = .ok (.invokestatic 43, 3) := by decide +kernel
theorem d_To_skipBlanks_19 : decode M_To_skipBlanks.2.1 19 = .ok (.ifCond .eq 9, 3) := by decide +kernel
theorem d_To_skipBlanks_22 : decode M_To_skipBlanks.2.1 22 = .ok (.iinc 2 1, 3) := by decide +kernel
theorem d_To_skipBlanks_25 : decode M_To_skipBlanks.2.1 25 = .ok (.goto (-23), 3) := by decide +kernel
theorem d_To_skipBlanks_28 : decode M_To_skipBlanks.2.1 28 = .ok (.iload_n 2, 1) := by decide +kernel
theorem d_To_skipBlanks_29 : decode M_To_skipBlanks.2.1 29 = .ok (.ireturn, 1) := by decide +kernel
theorem d_To_addToken_0 : decode M_To_addToken.2.1 0 = .ok (.aload_n 0, 1) := by decide +kernel
theorem d_To_addToken_1 : decode M_To_addToken.2.1 1 = .ok (.getfield 15, 3) := by decide +kernel
theorem d_To_addToken_4 : decode M_To_addToken.2.1 4 = .ok (.iload_n 3, 1) := by decide +kernel
theorem d_To_addToken_5 : decode M_To_addToken.2.1 5 = .ok (.iload_n 2, 1) := by decide +kernel
theorem d_To_addToken_6 : decode M_To_addToken.2.1 6 = .ok (.iastore, 1) := by decide +kernel
theorem d_To_addToken_7 : decode M_To_addToken.2.1 7 = .ok (.aload_n 1, 1) := by decide +kernel
theorem d_To_addToken_8 : decode M_To_addToken.2.1 8 = .ok (.getfield 39, 3) := by decide +kernel
theorem d_To_addToken_11 : decode M_To_addToken.2.1 11 = .ok (.iload_n 2, 1) := by decide +kernel
theorem d_To_addToken_12 : decode M_To_addToken.2.1 12 = .ok (.baload, 1) := by decide +kernel
theorem d_To_addToken_13 : decode M_To_addToken.2.1 13 = .ok (.istore 4, 2) := by decide +kernel
theorem d_To_addToken_15 : decode M_To_addToken.2.1 15 = .ok (.iload 4, 2) := by decide +kernel
theorem d_To_addToken_17 : decode M_To_addToken.2.1 17 = .ok (.invokestatic 47, 3) := by decide +kernel
theorem d_To_addToken_20 : decode M_To_addToken.2.1 20 = .ok (.ifCond .eq 11, 3) := by decide +kernel
theorem d_To_addToken_23 : decode M_To_addToken.2.1 23 = .ok (.aload_n 0, 1) := by decide +kernel
theorem d_To_addToken_24 : decode M_To_addToken.2.1 24 = .ok (.aload_n 1, 1) := by decide +kernel
theorem d_To_addToken_25 : decode M_To_addToken.2.1 25 = .ok (.iload_n 2, 1) := by decide +kernel
theorem d_To_addToken_26 : decode M_To_addToken.2.1 26 = .ok (.iload_n 3, 1) := by decide +kernel
theorem d_To_addToken_27 : decode M_To_addToken.2.1 27 = .ok (.invokevirtual 50, 3) := by decide +kernel
theorem d_To_addToken_30 : decode M_To_addToken.2.1 30 = .ok (.ireturn, 1) := by decide +kernel
theorem d_To_addToken_31 : decode M_To_addToken.2.1 31 = .ok (.iload 4, 2) := by decide +kernel
theorem d_To_addToken_33 : decode M_To_addToken.2.1 33 = .ok (.invokestatic 53, 3) := by decide +kernel
theorem d_To_addToken_36 : decode M_To_addToken.2.1 36 = .ok (.ifCond .eq 11, 3) := by decide +kernel
theorem d_To_addToken_39 : decode M_To_addToken.2.1 39 = .ok (.aload_n 0, 1) := by decide +kernel
theorem d_To_addToken_40 : decode M_To_addToken.2.1 40 = .ok (.aload_n 1, 1) := by decide +kernel
theorem d_To_addToken_41 : decode M_To_addToken.2.1 41 = .ok (.iload_n 2, 1) := by decide +kernel
theorem d_To_addToken_42 : decode M_To_addToken.2.1 42 = .ok (.iload_n 3, 1) := by decide +kernel
theorem d_To_addToken_43 : decode M_To_addToken.2.1 43 = .ok (.invokevirtual 56, 3) := by decide +kernel
theorem d_To_addToken_46 : decode M_To_addToken.2.1 46 = .ok (.ireturn, 1) := by decide +kernel
theorem d_To_addToken_47 : decode M_To_addToken.2.1 47 = .ok (.aload_n 0, 1) := by decide +kernel
theorem d_To_addToken_48 : decode M_To_addToken.2.1 48 = .ok (.getfield 11, 3) := by decide +kernel
theorem d_To_addToken_51 : decode M_To_addToken.2.1 51 = .ok (.iload_n 3, 1) := by decide +kernel
theorem d_To_addToken_52 : decode M_To_addToken.2.1 52 = .ok (.iload 4, 2) := by decide +kernel
theorem d_To_addToken_54 : decode M_To_addToken.2.1 54 = .ok (.invokestatic 59, 3) := by decide +kernel
theorem d_To_addToken_57 : decode M_To_addToken.2.1 57 = .ok (.ifCond .eq 8, 3) := by decide +kernel
theorem d_To_addToken_60 : decode M_To_addToken.2.1 60 = .ok (.iload 4, 2) := by decide +kernel
theorem d_To_addToken_62 : decode M_To_addToken.2.1 62 = .ok (.goto 6, 3) := by decide +kernel
theorem d_To_addToken_65 : decode M_To_addToken.2.1 65 = .ok (.sipush 129, 3) := by decide +kernel
theorem d_To_addToken_68 : decode M_To_addToken.2.1 68 = .ok (.iastore, 1) := by decide +kernel
theorem d_To_addToken_69 : decode M_To_addToken.2.1 69 = .ok (.iload_n 2, 1) := by decide +kernel
theorem d_To_addToken_70 : decode M_To_addToken.2.1 70 = .ok (.iconst 1, 1) := by decide +kernel
theorem d_To_addToken_71 : decode M_To_addToken.2.1 71 = .ok (.iadd, 1) := by decide +kernel
theorem d_To_addToken_72 : decode M_To_addToken.2.1 72 = .ok (.ireturn, 1) := by decide +kernel
theorem d_To_addWord_0 : decode M_To_addWord.2.1 0 = .ok (.iload_n 2, 1) := by decide +kernel
theorem d_To_addWord_1 : decode M_To_addWord.2.1 1 = .ok (.istore 4, 2) := by decide +kernel
theorem d_To_addWord_3 : decode M_To_addWord.2.1 3 = .ok (.lconst 0, 1) := by decide +kernel
theorem d_To_addWord_4 : decode M_To_addWord.2.1 4 = .ok (.lstore 5, 2) := by decide +kernel
theorem d_To_addWord_6 : decode M_To_addWord.2.1 6 = .ok (.iload 4, 2) := by decide +kernel
theorem d_To_addWord_8 : decode M_To_addWord.2.1 8 = .ok (.aload_n 1, 1) := by decide +kernel
theorem d_To_addWord_9 : decode M_To_addWord.2.1 9 = .ok (.getfield 29, 3) := by decide +kernel
theorem d_To_addWord_12 : decode M_To_addWord.2.1 12 = .ok (.if_icmp .ge 38, 3) := by decide +kernel
theorem d_To_addWord_15 : decode M_To_addWord.2.1 15 = .ok (.aload_n 1, 1) := by decide +kernel
theorem d_To_addWord_16 : decode M_To_addWord.2.1 16 = .ok (.getfield 39, 3) := by decide +kernel
theorem d_To_addWord_19 : decode M_To_addWord.2.1 19 = .ok (.iload 4, 2) := by decide +kernel
theorem d_To_addWord_21 : decode M_To_addWord.2.1 21 = .ok (.baload, 1) := by decide +kernel
theorem d_To_addWord_22 : decode M_To_addWord.2.1 22 = .ok (.invokestatic 47, 3) := by decide +kernel
theorem d_To_addWord_25 : decode M_To_addWord.2.1 25 = .ok (.ifCond .eq 25, 3) := by decide +kernel
theorem d_To_addWord_28 : decode M_To_addWord.2.1 28 = .ok (.lload 5, 2) := by decide +kernel
theorem d_To_addWord_30 : decode M_To_addWord.2.1 30 = .ok (.bipush 8, 2) := by decide +kernel
theorem d_To_addWord_32 : decode M_To_addWord.2.1 32 = .ok (.lshl, 1) := by decide +kernel
theorem d_To_addWord_33 : decode M_To_addWord.2.1 33 = .ok (.aload_n 1, 1) := by decide +kernel
theorem d_To_addWord_34 : decode M_To_addWord.2.1 34 = .ok (.getfield 39, 3) := by decide +kernel
theorem d_To_addWord_37 : decode M_To_addWord.2.1 37 = .ok (.iload 4, 2) := by decide +kernel
theorem d_To_addWord_39 : decode M_To_addWord.2.1 39 = .ok (.baload, 1) := by decide +kernel
theorem d_To_addWord_40 : decode M_To_addWord.2.1 40 = .ok (.i2l, 1) := by decide +kernel
theorem d_To_addWord_41 : decode M_To_addWord.2.1 41 = .ok (.lor, 1) := by decide +kernel
theorem d_To_addWord_42 : decode M_To_addWord.2.1 42 = .ok (.lstore 5, 2) := by decide +kernel
theorem d_To_addWord_44 : decode M_To_addWord.2.1 44 = .ok (.iinc 4 1, 3) := by decide +kernel
theorem d_To_addWord_47 : decode M_To_addWord.2.1 47 = .ok (.goto (-41), 3) := by decide +kernel
theorem d_To_addWord_50 : decode M_To_addWord.2.1 50 = .ok (.aload_n 0, 1) := by decide +kernel
theorem d_To_addWord_51 : decode M_To_addWord.2.1 51 = .ok (.getfield 21, 3) := by decide +kernel
theorem d_To_addWord_54 : decode M_To_addWord.2.1 54 = .ok (.iload_n 3, 1) := by decide +kernel
theorem d_To_addWord_55 : decode M_To_addWord.2.1 55 = .ok (.lload 5, 2) := by decide +kernel
theorem d_To_addWord_57 : decode M_To_addWord.2.1 57 = .ok (.lastore, 1) := by decide +kernel
theorem d_To_addWord_58 : decode M_To_addWord.2.1 58 = .ok (.aload_n 0, 1) := by decide +kernel
theorem d_To_addWord_59 : decode M_To_addWord.2.1 59 = .ok (.getfield 11, 3) := by decide +kernel
theorem d_To_addWord_62 : decode M_To_addWord.2.1 62 = .ok (.iload_n 3, 1) := by decide +kernel
theorem d_To_addWord_63 : decode M_To_addWord.2.1 63 = .ok (.iload 4, 2) := by decide +kernel
theorem d_To_addWord_65 : decode M_To_addWord.2.1 65 = .ok (.iload_n 2, 1) := by decide +kernel
theorem d_To_addWord_66 : decode M_To_addWord.2.1 66 = .ok (.isub, 1) := by decide +kernel
theorem d_To_addWord_67 : decode M_To_addWord.2.1 67 = .ok (.bipush 8, 2) := by decide +kernel
theorem d_To_addWord_69 : decode M_To_addWord.2.1 69 = .ok (.if_icmp .le 9, 3) := by decide +kernel
theorem d_To_addWord_72 : decode M_To_addWord.2.1 72 = .ok (.sipush 129, 3) := by decide +kernel
theorem d_To_addWord_75 : decode M_To_addWord.2.1 75 = .ok (.goto 8, 3) := by decide +kernel
theorem d_To_addWord_78 : decode M_To_addWord.2.1 78 = .ok (.lload 5, 2) := by decide +kernel
theorem d_To_addWord_80 : decode M_To_addWord.2.1 80 = .ok (.invokestatic 62, 3) := by decide +kernel
theorem d_To_addWord_83 : decode M_To_addWord.2.1 83 = .ok (.iastore, 1) := by decide +kernel
theorem d_To_addWord_84 : decode M_To_addWord.2.1 84 = .ok (.iload 4, 2) := by decide +kernel
theorem d_To_addWord_86 : decode M_To_addWord.2.1 86 = .ok (.ireturn, 1) := by decide +kernel
theorem d_To_addNumber_0 : decode M_To_addNumber.2.1 0 = .ok (.iload_n 2, 1) := by decide +kernel
theorem d_To_addNumber_1 : decode M_To_addNumber.2.1 1 = .ok (.istore 4, 2) := by decide +kernel
theorem d_To_addNumber_3 : decode M_To_addNumber.2.1 3 = .ok (.iconst 0, 1) := by decide +kernel
theorem d_To_addNumber_4 : decode M_To_addNumber.2.1 4 = .ok (.istore 5, 2) := by decide +kernel
theorem d_To_addNumber_6 : decode M_To_addNumber.2.1 6 = .ok (.iload 4, 2) := by decide +kernel
theorem d_To_addNumber_8 : decode M_To_addNumber.2.1 8 = .ok (.aload_n 1, 1) := by decide +kernel
theorem d_To_addNumber_9 : decode M_To_addNumber.2.1 9 = .ok (.getfield 29, 3) := by decide +kernel
theorem d_To_addNumber_12 : decode M_To_addNumber.2.1 12 = .ok (.if_icmp .ge 40, 3) := by decide +kernel
theorem d_To_addNumber_15 : decode M_To_addNumber.2.1 15 = .ok (.aload_n 1, 1) := by decide +kernel
theorem d_To_addNumber_16 : decode M_To_addNumber.2.1 16 = .ok (.getfield 39, 3) := by decide +kernel
theorem d_To_addNumber_19 : decode M_To_addNumber.2.1 19 = .ok (.iload 4, 2) := by decide +kernel
theorem d_To_addNumber_21 : decode M_To_addNumber.2.1 21 = .ok (.baload, 1) := by decide +kernel
theorem d_To_addNumber_22 : decode M_To_addNumber.2.1 22 = .ok (.invokestatic 53, 3) := by decide +kernel
theorem d_To_addNumber_25 : decode M_To_addNumber.2.1 25 = .ok (.ifCond .eq 27, 3) := by decide +kernel
theorem d_To_addNumber_28 : decode M_To_addNumber.2.1 28 = .ok (.iload 5, 2) := by decide +kernel
theorem d_To_addNumber_30 : decode M_To_addNumber.2.1 30 = .ok (.bipush 10, 2) := by decide +kernel
theorem d_To_addNumber_32 : decode M_To_addNumber.2.1 32 = .ok (.imul, 1) := by decide +kernel
theorem d_To_addNumber_33 : decode M_To_addNumber.2.1 33 = .ok (.aload_n 1, 1) := by decide +kernel
theorem d_To_addNumber_34 : decode M_To_addNumber.2.1 34 = .ok (.getfield 39, 3) := by decide +kernel
theorem d_To_addNumber_37 : decode M_To_addNumber.2.1 37 = .ok (.iload 4, 2) := by decide +kernel
theorem d_To_addNumber_39 : decode M_To_addNumber.2.1 39 = .ok (.baload, 1) := by decide +kernel
theorem d_To_addNumber_40 : decode M_To_addNumber.2.1 40 = .ok (.iadd, 1) := by decide +kernel
theorem d_To_addNumber_41 : decode M_To_addNumber.2.1 41 = .ok (.bipush 48, 2) := by decide +kernel
theorem d_To_addNumber_43 : decode M_To_addNumber.2.1 43 = .ok (.isub, 1) := by decide +kernel
theorem d_To_addNumber_44 : decode M_To_addNumber.2.1 44 = .ok (.istore 5, 2) := by decide +kernel
theorem d_To_addNumber_46 : decode M_To_addNumber.2.1 46 = .ok (.iinc 4 1, 3) := by decide +kernel
theorem d_To_addNumber_49 : decode M_To_addNumber.2.1 49 = .ok (.goto (-43), 3) := by decide +kernel
theorem d_To_addNumber_52 : decode M_To_addNumber.2.1 52 = .ok (.aload_n 0, 1) := by decide +kernel
theorem d_To_addNumber_53 : decode M_To_addNumber.2.1 53 = .ok (.getfield 18, 3) := by decide +kernel
theorem d_To_addNumber_56 : decode M_To_addNumber.2.1 56 = .ok (.iload_n 3, 1) := by decide +kernel
theorem d_To_addNumber_57 : decode M_To_addNumber.2.1 57 = .ok (.iload 5, 2) := by decide +kernel
theorem d_To_addNumber_59 : decode M_To_addNumber.2.1 59 = .ok (.iastore, 1) := by decide +kernel
theorem d_To_addNumber_60 : decode M_To_addNumber.2.1 60 = .ok (.aload_n 0, 1) := by decide +kernel
theorem d_To_addNumber_61 : decode M_To_addNumber.2.1 61 = .ok (.getfield 11, 3) := by decide +kernel
theorem d_To_addNumber_64 : decode M_To_addNumber.2.1 64 = .ok (.iload_n 3, 1) := by decide +kernel
theorem d_To_addNumber_65 : decode M_To_addNumber.2.1 65 = .ok (.iload 4, 2) := by decide +kernel
theorem d_To_addNumber_67 : decode M_To_addNumber.2.1 67 = .ok (.iload_n 2, 1) := by decide +kernel
theorem d_To_addNumber_68 : decode M_To_addNumber.2.1 68 = .ok (.isub, 1) := by decide +kernel
theorem d_To_addNumber_69 : decode M_To_addNumber.2.1 69 = .ok (.iconst 4, 1) := by decide +kernel
theorem d_To_addNumber_70 : decode M_To_addNumber.2.1 70 = .ok (.if_icmp .le 9, 3) := by decide +kernel
theorem d_To_addNumber_73 : decode M_To_addNumber.2.1 73 = .ok (.sipush 129, 3) := by decide +kernel
theorem d_To_addNumber_76 : decode M_To_addNumber.2.1 76 = .ok (.goto 6, 3) := by decide +kernel
theorem d_To_addNumber_79 : decode M_To_addNumber.2.1 79 = .ok (.sipush 131, 3) := by decide +kernel
theorem d_To_addNumber_82 : decode M_To_addNumber.2.1 82 = .ok (.iastore, 1) := by decide +kernel
theorem d_To_addNumber_83 : decode M_To_addNumber.2.1 83 = .ok (.iload 4, 2) := by decide +kernel
theorem d_To_addNumber_85 : decode M_To_addNumber.2.1 85 = .ok (.ireturn, 1) := by decide +kernel
theorem d_To_kindOfWord_0 : decode M_To_kindOfWord.2.1 0 = .ok (.iconst 0, 1) := by decide +kernel
theorem d_To_kindOfWord_1 : decode M_To_kindOfWord.2.1 1 = .ok (.istore_n 2, 1) := by decide +kernel
theorem d_To_kindOfWord_2 : decode M_To_kindOfWord.2.1 2 = .ok (.iload_n 2, 1) := by decide +kernel
theorem d_To_kindOfWord_3 : decode M_To_kindOfWord.2.1 3 = .ok (.getstatic 66, 3) := by decide +kernel
theorem d_To_kindOfWord_6 : decode M_To_kindOfWord.2.1 6 = .ok (.arraylength, 1) := by decide +kernel
theorem d_To_kindOfWord_7 : decode M_To_kindOfWord.2.1 7 = .ok (.if_icmp .ge 25, 3) := by decide +kernel
theorem d_To_kindOfWord_10 : decode M_To_kindOfWord.2.1 10 = .ok (.getstatic 66, 3) := by decide +kernel
theorem d_To_kindOfWord_13 : decode M_To_kindOfWord.2.1 13 = .ok (.iload_n 2, 1) := by decide +kernel
theorem d_To_kindOfWord_14 : decode M_To_kindOfWord.2.1 14 = .ok (.laload, 1) := by decide +kernel
theorem d_To_kindOfWord_15 : decode M_To_kindOfWord.2.1 15 = .ok (.lload_n 0, 1) := by decide +kernel
theorem d_To_kindOfWord_16 : decode M_To_kindOfWord.2.1 16 = .ok (.lcmp, 1) := by decide +kernel
theorem d_To_kindOfWord_17 : decode M_To_kindOfWord.2.1 17 = .ok (.ifCond .ne 9, 3) := by decide +kernel
theorem d_To_kindOfWord_20 : decode M_To_kindOfWord.2.1 20 = .ok (.sipush 132, 3) := by decide +kernel
theorem d_To_kindOfWord_23 : decode M_To_kindOfWord.2.1 23 = .ok (.iload_n 2, 1) := by decide +kernel
theorem d_To_kindOfWord_24 : decode M_To_kindOfWord.2.1 24 = .ok (.iadd, 1) := by decide +kernel
theorem d_To_kindOfWord_25 : decode M_To_kindOfWord.2.1 25 = .ok (.ireturn, 1) := by decide +kernel
theorem d_To_kindOfWord_26 : decode M_To_kindOfWord.2.1 26 = .ok (.iinc 2 1, 3) := by decide +kernel
theorem d_To_kindOfWord_29 : decode M_To_kindOfWord.2.1 29 = .ok (.goto (-27), 3) := by decide +kernel
theorem d_To_kindOfWord_32 : decode M_To_kindOfWord.2.1 32 = .ok (.sipush 130, 3) := by decide +kernel
theorem d_To_kindOfWord_35 : decode M_To_kindOfWord.2.1 35 = .ok (.ireturn, 1) := by decide +kernel
theorem d_To_isBlank_0 : decode M_To_isBlank.2.1 0 = .ok (.iload_n 0, 1) := by decide +kernel
theorem d_To_isBlank_1 : decode M_To_isBlank.2.1 1 = .ok (.bipush 32, 2) := by decide +kernel
theorem d_To_isBlank_3 : decode M_To_isBlank.2.1 3 = .ok (.if_icmp .eq 21, 3) := by decide +kernel
theorem d_To_isBlank_6 : decode M_To_isBlank.2.1 6 = .ok (.iload_n 0, 1) := by decide +kernel
theorem d_To_isBlank_7 : decode M_To_isBlank.2.1 7 = .ok (.bipush 9, 2) := by decide +kernel
theorem d_To_isBlank_9 : decode M_To_isBlank.2.1 9 = .ok (.if_icmp .eq 15, 3) := by decide +kernel
theorem d_To_isBlank_12 : decode M_To_isBlank.2.1 12 = .ok (.iload_n 0, 1) := by decide +kernel
theorem d_To_isBlank_13 : decode M_To_isBlank.2.1 13 = .ok (.bipush 10, 2) := by decide +kernel
theorem d_To_isBlank_15 : decode M_To_isBlank.2.1 15 = .ok (.if_icmp .eq 9, 3) := by decide +kernel
theorem d_To_isBlank_18 : decode M_To_isBlank.2.1 18 = .ok (.iload_n 0, 1) := by decide +kernel
theorem d_To_isBlank_19 : decode M_To_isBlank.2.1 19 = .ok (.bipush 13, 2) := by decide +kernel
theorem d_To_isBlank_21 : decode M_To_isBlank.2.1 21 = .ok (.if_icmp .ne 7, 3) := by decide +kernel
theorem d_To_isBlank_24 : decode M_To_isBlank.2.1 24 = .ok (.iconst 1, 1) := by decide +kernel
theorem d_To_isBlank_25 : decode M_To_isBlank.2.1 25 = .ok (.goto 4, 3) := by decide +kernel
theorem d_To_isBlank_28 : decode M_To_isBlank.2.1 28 = .ok (.iconst 0, 1) := by decide +kernel
theorem d_To_isBlank_29 : decode M_To_isBlank.2.1 29 = .ok (.ireturn, 1) := by decide +kernel
theorem d_To_isLetter_0 : decode M_To_isLetter.2.1 0 = .ok (.iload_n 0, 1) := by decide +kernel
theorem d_To_isLetter_1 : decode M_To_isLetter.2.1 1 = .ok (.bipush 97, 2) := by decide +kernel
theorem d_To_isLetter_3 : decode M_To_isLetter.2.1 3 = .ok (.if_icmp .lt 13, 3) := by decide +kernel
theorem d_To_isLetter_6 : decode M_To_isLetter.2.1 6 = .ok (.iload_n 0, 1) := by decide +kernel
theorem d_To_isLetter_7 : decode M_To_isLetter.2.1 7 = .ok (.bipush 122, 2) := by decide +kernel
theorem d_To_isLetter_9 : decode M_To_isLetter.2.1 9 = .ok (.if_icmp .gt 7, 3) := by decide +kernel
theorem d_To_isLetter_12 : decode M_To_isLetter.2.1 12 = .ok (.iconst 1, 1) := by decide +kernel
theorem d_To_isLetter_13 : decode M_To_isLetter.2.1 13 = .ok (.goto 4, 3) := by decide +kernel
theorem d_To_isLetter_16 : decode M_To_isLetter.2.1 16 = .ok (.iconst 0, 1) := by decide +kernel
theorem d_To_isLetter_17 : decode M_To_isLetter.2.1 17 = .ok (.ireturn, 1) := by decide +kernel
theorem d_To_isDigit_0 : decode M_To_isDigit.2.1 0 = .ok (.iload_n 0, 1) := by decide +kernel
theorem d_To_isDigit_1 : decode M_To_isDigit.2.1 1 = .ok (.bipush 48, 2) := by decide +kernel
theorem d_To_isDigit_3 : decode M_To_isDigit.2.1 3 = .ok (.if_icmp .lt 13, 3) := by decide +kernel
theorem d_To_isDigit_6 : decode M_To_isDigit.2.1 6 = .ok (.iload_n 0, 1) := by decide +kernel
theorem d_To_isDigit_7 : decode M_To_isDigit.2.1 7 = .ok (.bipush 57, 2) := by decide +kernel
theorem d_To_isDigit_9 : decode M_To_isDigit.2.1 9 = .ok (.if_icmp .gt 7, 3) := by decide +kernel
theorem d_To_isDigit_12 : decode M_To_isDigit.2.1 12 = .ok (.iconst 1, 1) := by decide +kernel
theorem d_To_isDigit_13 : decode M_To_isDigit.2.1 13 = .ok (.goto 4, 3) := by decide +kernel
theorem d_To_isDigit_16 : decode M_To_isDigit.2.1 16 = .ok (.iconst 0, 1) := by decide +kernel
theorem d_To_isDigit_17 : decode M_To_isDigit.2.1 17 = .ok (.ireturn, 1) := by decide +kernel
theorem d_To_isSign_0 : decode M_To_isSign.2.1 0 = .ok (.iload_n 0, 1) := by decide +kernel
theorem d_To_isSign_1 : decode M_To_isSign.2.1 1 = .ok (.bipush 59, 2) := by decide +kernel
theorem d_To_isSign_3 : decode M_To_isSign.2.1 3 = .ok (.if_icmp .eq 51, 3) := by decide +kernel
theorem d_To_isSign_6 : decode M_To_isSign.2.1 6 = .ok (.iload_n 0, 1) := by decide +kernel
theorem d_To_isSign_7 : decode M_To_isSign.2.1 7 = .ok (.bipush 61, 2) := by decide +kernel
theorem d_To_isSign_9 : decode M_To_isSign.2.1 9 = .ok (.if_icmp .eq 45, 3) := by decide +kernel
theorem d_To_isSign_12 : decode M_To_isSign.2.1 12 = .ok (.iload_n 0, 1) := by decide +kernel
theorem d_To_isSign_13 : decode M_To_isSign.2.1 13 = .ok (.bipush 60, 2) := by decide +kernel
theorem d_To_isSign_15 : decode M_To_isSign.2.1 15 = .ok (.if_icmp .eq 39, 3) := by decide +kernel
theorem d_To_isSign_18 : decode M_To_isSign.2.1 18 = .ok (.iload_n 0, 1) := by decide +kernel
theorem d_To_isSign_19 : decode M_To_isSign.2.1 19 = .ok (.bipush 40, 2) := by decide +kernel
theorem d_To_isSign_21 : decode M_To_isSign.2.1 21 = .ok (.if_icmp .eq 33, 3) := by decide +kernel
theorem d_To_isSign_24 : decode M_To_isSign.2.1 24 = .ok (.iload_n 0, 1) := by decide +kernel
theorem d_To_isSign_25 : decode M_To_isSign.2.1 25 = .ok (.bipush 41, 2) := by decide +kernel
theorem d_To_isSign_27 : decode M_To_isSign.2.1 27 = .ok (.if_icmp .eq 27, 3) := by decide +kernel
theorem d_To_isSign_30 : decode M_To_isSign.2.1 30 = .ok (.iload_n 0, 1) := by decide +kernel
theorem d_To_isSign_31 : decode M_To_isSign.2.1 31 = .ok (.bipush 43, 2) := by decide +kernel
theorem d_To_isSign_33 : decode M_To_isSign.2.1 33 = .ok (.if_icmp .eq 21, 3) := by decide +kernel
theorem d_To_isSign_36 : decode M_To_isSign.2.1 36 = .ok (.iload_n 0, 1) := by decide +kernel
theorem d_To_isSign_37 : decode M_To_isSign.2.1 37 = .ok (.bipush 45, 2) := by decide +kernel
theorem d_To_isSign_39 : decode M_To_isSign.2.1 39 = .ok (.if_icmp .eq 15, 3) := by decide +kernel
theorem d_To_isSign_42 : decode M_To_isSign.2.1 42 = .ok (.iload_n 0, 1) := by decide +kernel
theorem d_To_isSign_43 : decode M_To_isSign.2.1 43 = .ok (.bipush 42, 2) := by decide +kernel
theorem d_To_isSign_45 : decode M_To_isSign.2.1 45 = .ok (.if_icmp .eq 9, 3) := by decide +kernel
theorem d_To_isSign_48 : decode M_To_isSign.2.1 48 = .ok (.iload_n 0, 1) := by decide +kernel
theorem d_To_isSign_49 : decode M_To_isSign.2.1 49 = .ok (.bipush 47, 2) := by decide +kernel
theorem d_To_isSign_51 : decode M_To_isSign.2.1 51 = .ok (.if_icmp .ne 7, 3) := by decide +kernel
theorem d_To_isSign_54 : decode M_To_isSign.2.1 54 = .ok (.iconst 1, 1) := by decide +kernel
theorem d_To_isSign_55 : decode M_To_isSign.2.1 55 = .ok (.goto 4, 3) := by decide +kernel
theorem d_To_isSign_58 : decode M_To_isSign.2.1 58 = .ok (.iconst 0, 1) := by decide +kernel
theorem d_To_isSign_59 : decode M_To_isSign.2.1 59 = .ok (.ireturn, 1) := by decide +kernel
theorem d_Sg_init_0 : decode M_Sg_init.2.1 0 = .ok (.aload_n 0, 1) := by decide +kernel
theorem d_Sg_init_1 : decode M_Sg_init.2.1 1 = .ok (.invokespecial 1, 3) := by decide +kernel
theorem d_Sg_init_4 : decode M_Sg_init.2.1 4 = .ok (.aload_n 0, 1) := by decide +kernel
theorem d_Sg_init_5 : decode M_Sg_init.2.1 5 = .ok (.new 7, 3) := by decide +kernel
theorem d_Sg_init_8 : decode M_Sg_init.2.1 8 = .ok (.dup, 1) := by decide +kernel
theorem d_Sg_init_9 : decode M_Sg_init.2.1 9 = .ok (.invokespecial 9, 3) := by decide +kernel
theorem d_Sg_init_12 : decode M_Sg_init.2.1 12 = .ok (.putfield 10, 3) := by decide +kernel
theorem d_Sg_init_15 : decode M_Sg_init.2.1 15 = .ok (.aload_n 0, 1) := by decide +kernel
theorem d_Sg_init_16 : decode M_Sg_init.2.1 16 = .ok (.new 16, 3) := by decide +kernel
theorem d_Sg_init_19 : decode M_Sg_init.2.1 19 = .ok (.dup, 1) := by decide +kernel
theorem d_Sg_init_20 : decode M_Sg_init.2.1 20 = .ok (.invokespecial 18, 3) := by decide +kernel
theorem d_Sg_init_23 : decode M_Sg_init.2.1 23 = .ok (.putfield 19, 3) := by decide +kernel
theorem d_Sg_init_26 : decode M_Sg_init.2.1 26 = .ok (.aload_n 0, 1) := by decide +kernel
theorem d_Sg_init_27 : decode M_Sg_init.2.1 27 = .ok (.new 23, 3) := by decide +kernel
theorem d_Sg_init_30 : decode M_Sg_init.2.1 30 = .ok (.dup, 1) := by decide +kernel
theorem d_Sg_init_31 : decode M_Sg_init.2.1 31 = .ok (.invokespecial 25, 3) := by decide +kernel
theorem d_Sg_init_34 : decode M_Sg_init.2.1 34 = .ok (.putfield 26, 3) := by decide +kernel
theorem d_Sg_init_37 : decode M_Sg_init.2.1 37 = .ok (.aload_n 0, 1) := by decide +kernel
theorem d_Sg_init_38 : decode M_Sg_init.2.1 38 = .ok (.new 30, 3) := by decide +kernel
theorem d_Sg_init_41 : decode M_Sg_init.2.1 41 = .ok (.dup, 1) := by decide +kernel
theorem d_Sg_init_42 : decode M_Sg_init.2.1 42 = .ok (.invokespecial 32, 3) := by decide +kernel
theorem d_Sg_init_45 : decode M_Sg_init.2.1 45 = .ok (.putfield 33, 3) := by decide +kernel
theorem d_Sg_init_48 : decode M_Sg_init.2.1 48 = .ok (.aload_n 0, 1) := by decide +kernel
theorem d_Sg_init_49 : decode M_Sg_init.2.1 49 = .ok (.new 30, 3) := by decide +kernel
theorem d_Sg_init_52 : decode M_Sg_init.2.1 52 = .ok (.dup, 1) := by decide +kernel
theorem d_Sg_init_53 : decode M_Sg_init.2.1 53 = .ok (.invokespecial 32, 3) := by decide +kernel
theorem d_Sg_init_56 : decode M_Sg_init.2.1 56 = .ok (.putfield 37, 3) := by decide +kernel
theorem d_Sg_init_59 : decode M_Sg_init.2.1 59 = .ok (.aload_n 0, 1) := by decide +kernel
theorem d_Sg_init_60 : decode M_Sg_init.2.1 60 = .ok (.new 40, 3) := by decide +kernel
theorem d_Sg_init_63 : decode M_Sg_init.2.1 63 = .ok (.dup, 1) := by decide +kernel
theorem d_Sg_init_64 : decode M_Sg_init.2.1 64 = .ok (.invokespecial 42, 3) := by decide +kernel
theorem d_Sg_init_67 : decode M_Sg_init.2.1 67 = .ok (.putfield 43, 3) := by decide +kernel
theorem d_Sg_init_70 : decode M_Sg_init.2.1 70 = .ok (.aload_n 0, 1) := by decide +kernel
theorem d_Sg_init_71 : decode M_Sg_init.2.1 71 = .ok (.iconst 3, 1) := by decide +kernel
theorem d_Sg_init_72 : decode M_Sg_init.2.1 72 = .ok (.anewarray 30, 3) := by decide +kernel
theorem d_Sg_init_75 : decode M_Sg_init.2.1 75 = .ok (.putfield 47, 3) := by decide +kernel
theorem d_Sg_init_78 : decode M_Sg_init.2.1 78 = .ok (.aload_n 0, 1) := by decide +kernel
theorem d_Sg_init_79 : decode M_Sg_init.2.1 79 = .ok (.iconst 3, 1) := by decide +kernel
theorem d_Sg_init_80 : decode M_Sg_init.2.1 80 = .ok (.newarray .boolean, 2) := by decide +kernel
theorem d_Sg_init_82 : decode M_Sg_init.2.1 82 = .ok (.putfield 51, 3) := by decide +kernel
theorem d_Sg_init_85 : decode M_Sg_init.2.1 85 = .ok (.aload_n 0, 1) := by decide +kernel
theorem d_Sg_init_86 : decode M_Sg_init.2.1 86 = .ok (.new 55, 3) := by decide +kernel
theorem d_Sg_init_89 : decode M_Sg_init.2.1 89 = .ok (.dup, 1) := by decide +kernel
theorem d_Sg_init_90 : decode M_Sg_init.2.1 90 = .ok (.invokespecial 57, 3) := by decide +kernel
theorem d_Sg_init_93 : decode M_Sg_init.2.1 93 = .ok (.putfield 58, 3) := by decide +kernel
theorem d_Sg_init_96 : decode M_Sg_init.2.1 96 = .ok (.aload_n 0, 1) := by decide +kernel
theorem d_Sg_init_97 : decode M_Sg_init.2.1 97 = .ok (.new 62, 3) := by decide +kernel
theorem d_Sg_init_100 : decode M_Sg_init.2.1 100 = .ok (.dup, 1) := by decide +kernel
theorem d_Sg_init_101 : decode M_Sg_init.2.1 101 = .ok (.invokespecial 64, 3) := by decide +kernel
theorem d_Sg_init_104 : decode M_Sg_init.2.1 104 = .ok (.putfield 65, 3) := by decide +kernel
theorem d_Sg_init_107 : decode M_Sg_init.2.1 107 = .ok (.aload_n 0, 1) := by decide +kernel
theorem d_Sg_init_108 : decode M_Sg_init.2.1 108 = .ok (.new 69, 3) := by decide +kernel
theorem d_Sg_init_111 : decode M_Sg_init.2.1 111 = .ok (.dup, 1) := by decide +kernel
theorem d_Sg_init_112 : decode M_Sg_init.2.1 112 = .ok (.invokespecial 71, 3) := by decide +kernel
theorem d_Sg_init_115 : decode M_Sg_init.2.1 115 = .ok (.putfield 72, 3) := by decide +kernel
theorem d_Sg_init_118 : decode M_Sg_init.2.1 118 = .ok (.aload_n 0, 1) := by decide +kernel
theorem d_Sg_init_119 : decode M_Sg_init.2.1 119 = .ok (.new 76, 3) := by decide +kernel
theorem d_Sg_init_122 : decode M_Sg_init.2.1 122 = .ok (.dup, 1) := by decide +kernel
theorem d_Sg_init_123 : decode M_Sg_init.2.1 123 = .ok (.invokespecial 78, 3) := by decide +kernel
theorem d_Sg_init_126 : decode M_Sg_init.2.1 126 = .ok (.putfield 79, 3) := by decide +kernel
theorem d_Sg_init_129 : decode M_Sg_init.2.1 129 = .ok (.aload_n 0, 1) := by decide +kernel
theorem d_Sg_init_130 : decode M_Sg_init.2.1 130 = .ok (.iconst (-1), 1) := by decide +kernel
theorem d_Sg_init_131 : decode M_Sg_init.2.1 131 = .ok (.putfield 83, 3) := by decide +kernel
theorem d_Sg_init_134 : decode M_Sg_init.2.1 134 = .ok (.iconst 0, 1) := by decide +kernel
theorem d_Sg_init_135 : decode M_Sg_init.2.1 135 = .ok (.istore_n 1, 1) := by decide +kernel
theorem d_Sg_init_136 : decode M_Sg_init.2.1 136 = .ok (.iload_n 1, 1) := by decide +kernel
theorem d_Sg_init_137 : decode M_Sg_init.2.1 137 = .ok (.iconst 3, 1) := by decide +kernel
theorem d_Sg_init_138 : decode M_Sg_init.2.1 138 = .ok (.if_icmp .ge 22, 3) := by decide +kernel
theorem d_Sg_init_141 : decode M_Sg_init.2.1 141 = .ok (.aload_n 0, 1) := by decide +kernel
theorem d_Sg_init_142 : decode M_Sg_init.2.1 142 = .ok (.getfield 47, 3) := by decide +kernel
theorem d_Sg_init_145 : decode M_Sg_init.2.1 145 = .ok (.iload_n 1, 1) := by decide +kernel
theorem d_Sg_init_146 : decode M_Sg_init.2.1 146 = .ok (.new 30, 3) := by decide +kernel
theorem d_Sg_init_149 : decode M_Sg_init.2.1 149 = .ok (.dup, 1) := by decide +kernel
theorem d_Sg_init_150 : decode M_Sg_init.2.1 150 = .ok (.invokespecial 32, 3) := by decide +kernel
theorem d_Sg_init_153 : decode M_Sg_init.2.1 153 = .ok (.aastore, 1) := by decide +kernel
theorem d_Sg_init_154 : decode M_Sg_init.2.1 154 = .ok (.iinc 1 1, 3) := by decide +kernel
theorem d_Sg_init_157 : decode M_Sg_init.2.1 157 = .ok (.goto (-21), 3) := by decide +kernel
theorem d_Sg_init_160 : decode M_Sg_init.2.1 160 = .ok (.return_, 1) := by decide +kernel
theorem d_Sg_feed_0 : decode M_Sg_feed.2.1 0 = .ok (.aload_n 0, 1) := by decide +kernel
theorem d_Sg_feed_1 : decode M_Sg_feed.2.1 1 = .ok (.getfield 10, 3) := by decide +kernel
theorem d_Sg_feed_4 : decode M_Sg_feed.2.1 4 = .ok (.bipush 20, 2) := by decide +kernel
theorem d_Sg_feed_6 : decode M_Sg_feed.2.1 6 = .ok (.invokevirtual 87, 3) := by decide +kernel
theorem d_Sg_feed_9 : decode M_Sg_feed.2.1 9 = .ok (.ifCond .ne 5, 3) := by decide +kernel
theorem d_Sg_feed_12 : decode M_Sg_feed.2.1 12 = .ok (.iconst (-1), 1) := by decide +kernel
theorem d_Sg_feed_13 : decode M_Sg_feed.2.1 13 = .ok (.ireturn, 1) := by decide +kernel
theorem d_Sg_feed_14 : decode M_Sg_feed.2.1 14 = .ok (.aload_n 0, 1) := by decide +kernel
theorem d_Sg_feed_15 : decode M_Sg_feed.2.1 15 = .ok (.getfield 10, 3) := by decide +kernel
theorem d_Sg_feed_18 : decode M_Sg_feed.2.1 18 = .ok (.iload_n 1, 1) := by decide +kernel
theorem d_Sg_feed_19 : decode M_Sg_feed.2.1 19 = .ok (.invokevirtual 91, 3) := by decide +kernel
theorem d_Sg_feed_22 : decode M_Sg_feed.2.1 22 = .ok (.aload_n 0, 1) := by decide +kernel
theorem d_Sg_feed_23 : decode M_Sg_feed.2.1 23 = .ok (.getfield 10, 3) := by decide +kernel
theorem d_Sg_feed_26 : decode M_Sg_feed.2.1 26 = .ok (.iload_n 2, 1) := by decide +kernel
theorem d_Sg_feed_27 : decode M_Sg_feed.2.1 27 = .ok (.invokevirtual 91, 3) := by decide +kernel
theorem d_Sg_feed_30 : decode M_Sg_feed.2.1 30 = .ok (.aload_n 0, 1) := by decide +kernel
theorem d_Sg_feed_31 : decode M_Sg_feed.2.1 31 = .ok (.getfield 10, 3) := by decide +kernel
theorem d_Sg_feed_34 : decode M_Sg_feed.2.1 34 = .ok (.iload_n 3, 1) := by decide +kernel
theorem d_Sg_feed_35 : decode M_Sg_feed.2.1 35 = .ok (.invokevirtual 91, 3) := by decide +kernel
theorem d_Sg_feed_38 : decode M_Sg_feed.2.1 38 = .ok (.aload_n 0, 1) := by decide +kernel
theorem d_Sg_feed_39 : decode M_Sg_feed.2.1 39 = .ok (.getfield 10, 3) := by decide +kernel
theorem d_Sg_feed_42 : decode M_Sg_feed.2.1 42 = .ok (.iload 4, 2) := by decide +kernel
theorem d_Sg_feed_44 : decode M_Sg_feed.2.1 44 = .ok (.invokevirtual 91, 3) := by decide +kernel
theorem d_Sg_feed_47 : decode M_Sg_feed.2.1 47 = .ok (.aload_n 0, 1) := by decide +kernel
theorem d_Sg_feed_48 : decode M_Sg_feed.2.1 48 = .ok (.getfield 10, 3) := by decide +kernel
theorem d_Sg_feed_51 : decode M_Sg_feed.2.1 51 = .ok (.iload 5, 2) := by decide +kernel
theorem d_Sg_feed_53 : decode M_Sg_feed.2.1 53 = .ok (.invokevirtual 91, 3) := by decide +kernel
theorem d_Sg_feed_56 : decode M_Sg_feed.2.1 56 = .ok (.aload_n 0, 1) := by decide +kernel
theorem d_Sg_feed_57 : decode M_Sg_feed.2.1 57 = .ok (.getfield 10, 3) := by decide +kernel
theorem d_Sg_feed_60 : decode M_Sg_feed.2.1 60 = .ok (.getfield 95, 3) := by decide +kernel
theorem d_Sg_feed_63 : decode M_Sg_feed.2.1 63 = .ok (.ireturn, 1) := by decide +kernel
theorem d_Sg_back_0 : decode M_Sg_back.2.1 0 = .ok (.iload_n 1, 1) := by decide +kernel
theorem d_Sg_back_1 : decode M_Sg_back.2.1 1 = .ok (.ifCond .lt 14, 3) := by decide +kernel
theorem d_Sg_back_4 : decode M_Sg_back.2.1 4 = .ok (.iload_n 1, 1) := by decide +kernel
theorem d_Sg_back_5 : decode M_Sg_back.2.1 5 = .ok (.aload_n 0, 1) := by decide +kernel
theorem d_Sg_back_6 : decode M_Sg_back.2.1 6 = .ok (.getfield 10, 3) := by decide +kernel
theorem d_Sg_back_9 : decode M_Sg_back.2.1 9 = .ok (.getfield 95, 3) := by decide +kernel
theorem d_Sg_back_12 : decode M_Sg_back.2.1 12 = .ok (.if_icmp .le 5, 3) := by decide +kernel
theorem d_Sg_back_15 : decode M_Sg_back.2.1 15 = .ok (.iconst (-1), 1) := by decide +kernel
theorem d_Sg_back_16 : decode M_Sg_back.2.1 16 = .ok (.ireturn, 1) := by decide +kernel
theorem d_Sg_back_17 : decode M_Sg_back.2.1 17 = .ok (.aload_n 0, 1) := by decide +kernel
theorem d_Sg_back_18 : decode M_Sg_back.2.1 18 = .ok (.getfield 10, 3) := by decide +kernel
theorem d_Sg_back_21 : decode M_Sg_back.2.1 21 = .ok (.dup, 1) := by decide +kernel
theorem d_Sg_back_22 : decode M_Sg_back.2.1 22 = .ok (.getfield 95, 3) := by decide +kernel
theorem d_Sg_back_25 : decode M_Sg_back.2.1 25 = .ok (.iload_n 1, 1) := by decide +kernel
theorem d_Sg_back_26 : decode M_Sg_back.2.1 26 = .ok (.isub, 1) := by decide +kernel
theorem d_Sg_back_27 : decode M_Sg_back.2.1 27 = .ok (.putfield 95, 3) := by decide +kernel
theorem d_Sg_back_30 : decode M_Sg_back.2.1 30 = .ok (.aload_n 0, 1) := by decide +kernel
theorem d_Sg_back_31 : decode M_Sg_back.2.1 31 = .ok (.getfield 10, 3) := by decide +kernel
theorem d_Sg_back_34 : decode M_Sg_back.2.1 34 = .ok (.getfield 95, 3) := by decide +kernel
theorem d_Sg_back_37 : decode M_Sg_back.2.1 37 = .ok (.ireturn, 1) := by decide +kernel
theorem d_Sg_read_0 : decode M_Sg_read.2.1 0 = .ok (.aload_n 0, 1) := by decide +kernel
theorem d_Sg_read_1 : decode M_Sg_read.2.1 1 = .ok (.getfield 19, 3) := by decide +kernel
theorem d_Sg_read_4 : decode M_Sg_read.2.1 4 = .ok (.aload_n 0, 1) := by decide +kernel
theorem d_Sg_read_5 : decode M_Sg_read.2.1 5 = .ok (.getfield 10, 3) := by decide +kernel
theorem d_Sg_read_8 : decode M_Sg_read.2.1 8 = .ok (.invokevirtual 98, 3) := by decide +kernel
theorem d_Sg_read_11 : decode M_Sg_read.2.1 11 = .ok (.istore_n 1, 1) := by decide +kernel
theorem d_Sg_read_12 : decode M_Sg_read.2.1 12 = .ok (.aload_n 0, 1) := by decide +kernel
theorem d_Sg_read_13 : decode M_Sg_read.2.1 13 = .ok (.getfield 10, 3) := by decide +kernel
theorem d_Sg_read_16 : decode M_Sg_read.2.1 16 = .ok (.iconst 0, 1) := by decide +kernel
theorem d_Sg_read_17 : decode M_Sg_read.2.1 17 = .ok (.putfield 95, 3) := by decide +kernel
theorem d_Sg_read_20 : decode M_Sg_read.2.1 20 = .ok (.aload_n 0, 1) := by decide +kernel
theorem d_Sg_read_21 : decode M_Sg_read.2.1 21 = .ok (.aload_n 0, 1) := by decide +kernel
theorem d_Sg_read_22 : decode M_Sg_read.2.1 22 = .ok (.getfield 19, 3) := by decide +kernel
theorem d_Sg_read_25 : decode M_Sg_read.2.1 25 = .ok (.getfield 102, 3) := by decide +kernel
theorem d_Sg_read_28 : decode M_Sg_read.2.1 28 = .ok (.putfield 83, 3) := by decide +kernel
theorem d_Sg_read_31 : decode M_Sg_read.2.1 31 = .ok (.iload_n 1, 1) := by decide +kernel
theorem d_Sg_read_32 : decode M_Sg_read.2.1 32 = .ok (.ifCond .ne 7, 3) := by decide +kernel
theorem d_Sg_read_35 : decode M_Sg_read.2.1 35 = .ok (.aload_n 0, 1) := by decide +kernel
theorem d_Sg_read_36 : decode M_Sg_read.2.1 36 = .ok (.invokevirtual 105, 3) := by decide +kernel
theorem d_Sg_read_39 : decode M_Sg_read.2.1 39 = .ok (.iload_n 1, 1) := by decide +kernel
theorem d_Sg_read_40 : decode M_Sg_read.2.1 40 = .ok (.ireturn, 1) := by decide +kernel
theorem d_Sg_beginAnew_0 : decode M_Sg_beginAnew.2.1 0 = .ok (.aload_n 0, 1) := by decide +kernel
theorem d_Sg_beginAnew_1 : decode M_Sg_beginAnew.2.1 1 = .ok (.getfield 26, 3) := by decide +kernel
theorem d_Sg_beginAnew_4 : decode M_Sg_beginAnew.2.1 4 = .ok (.aload_n 0, 1) := by decide +kernel
theorem d_Sg_beginAnew_5 : decode M_Sg_beginAnew.2.1 5 = .ok (.getfield 19, 3) := by decide +kernel
theorem d_Sg_beginAnew_8 : decode M_Sg_beginAnew.2.1 8 = .ok (.getfield 108, 3) := by decide +kernel
theorem d_Sg_beginAnew_11 : decode M_Sg_beginAnew.2.1 11 = .ok (.invokevirtual 109, 3) := by decide +kernel
theorem d_Sg_beginAnew_14 : decode M_Sg_beginAnew.2.1 14 = .ok (.aload_n 0, 1) := by decide +kernel
theorem d_Sg_beginAnew_15 : decode M_Sg_beginAnew.2.1 15 = .ok (.getfield 33, 3) := by decide +kernel
theorem d_Sg_beginAnew_18 : decode M_Sg_beginAnew.2.1 18 = .ok (.aload_n 0, 1) := by decide +kernel
theorem d_Sg_beginAnew_19 : decode M_Sg_beginAnew.2.1 19 = .ok (.getfield 19, 3) := by decide +kernel
theorem d_Sg_beginAnew_22 : decode M_Sg_beginAnew.2.1 22 = .ok (.getfield 113, 3) := by decide +kernel
theorem d_Sg_beginAnew_25 : decode M_Sg_beginAnew.2.1 25 = .ok (.invokevirtual 116, 3) := by decide +kernel
theorem d_Sg_beginAnew_28 : decode M_Sg_beginAnew.2.1 28 = .ok (.aload_n 0, 1) := by decide +kernel
theorem d_Sg_beginAnew_29 : decode M_Sg_beginAnew.2.1 29 = .ok (.getfield 37, 3) := by decide +kernel
theorem d_Sg_beginAnew_32 : decode M_Sg_beginAnew.2.1 32 = .ok (.aload_n 0, 1) := by decide +kernel
theorem d_Sg_beginAnew_33 : decode M_Sg_beginAnew.2.1 33 = .ok (.getfield 33, 3) := by decide +kernel
theorem d_Sg_beginAnew_36 : decode M_Sg_beginAnew.2.1 36 = .ok (.invokevirtual 116, 3) := by decide +kernel
theorem d_Sg_beginAnew_39 : decode M_Sg_beginAnew.2.1 39 = .ok (.aload_n 0, 1) := by decide +kernel
theorem d_Sg_beginAnew_40 : decode M_Sg_beginAnew.2.1 40 = .ok (.getfield 43, 3) := by decide +kernel
theorem d_Sg_beginAnew_43 : decode M_Sg_beginAnew.2.1 43 = .ok (.iconst 0, 1) := by decide +kernel
theorem d_Sg_beginAnew_44 : decode M_Sg_beginAnew.2.1 44 = .ok (.putfield 119, 3) := by decide +kernel
theorem d_Sg_beginAnew_47 : decode M_Sg_beginAnew.2.1 47 = .ok (.iconst 0, 1) := by decide +kernel
theorem d_Sg_beginAnew_48 : decode M_Sg_beginAnew.2.1 48 = .ok (.istore_n 1, 1) := by decide +kernel
theorem d_Sg_beginAnew_49 : decode M_Sg_beginAnew.2.1 49 = .ok (.iload_n 1, 1) := by decide +kernel
theorem d_Sg_beginAnew_50 : decode M_Sg_beginAnew.2.1 50 = .ok (.iconst 3, 1) := by decide +kernel
theorem d_Sg_beginAnew_51 : decode M_Sg_beginAnew.2.1 51 = .ok (.if_icmp .ge 16, 3) := by decide +kernel
theorem d_Sg_beginAnew_54 : decode M_Sg_beginAnew.2.1 54 = .ok (.aload_n 0, 1) := by decide +kernel
theorem d_Sg_beginAnew_55 : decode M_Sg_beginAnew.2.1 55 = .ok (.getfield 51, 3) := by decide +kernel
theorem d_Sg_beginAnew_58 : decode M_Sg_beginAnew.2.1 58 = .ok (.iload_n 1, 1) := by decide +kernel
theorem d_Sg_beginAnew_59 : decode M_Sg_beginAnew.2.1 59 = .ok (.iconst 0, 1) := by decide +kernel
theorem d_Sg_beginAnew_60 : decode M_Sg_beginAnew.2.1 60 = .ok (.bastore, 1) := by decide +kernel
theorem d_Sg_beginAnew_61 : decode M_Sg_beginAnew.2.1 61 = .ok (.iinc 1 1, 3) := by decide +kernel
theorem d_Sg_beginAnew_64 : decode M_Sg_beginAnew.2.1 64 = .ok (.goto (-15), 3) := by decide +kernel
theorem d_Sg_beginAnew_67 : decode M_Sg_beginAnew.2.1 67 = .ok (.aload_n 0, 1) := by decide +kernel
theorem d_Sg_beginAnew_68 : decode M_Sg_beginAnew.2.1 68 = .ok (.getfield 79, 3) := by decide +kernel
theorem d_Sg_beginAnew_71 : decode M_Sg_beginAnew.2.1 71 = .ok (.invokevirtual 120, 3) := by decide +kernel
theorem d_Sg_beginAnew_74 : decode M_Sg_beginAnew.2.1 74 = .ok (.aload_n 0, 1) := by decide +kernel
theorem d_Sg_beginAnew_75 : decode M_Sg_beginAnew.2.1 75 = .ok (.invokevirtual 123, 3) := by decide +kernel
theorem d_Sg_beginAnew_78 : decode M_Sg_beginAnew.2.1 78 = .ok (.return_, 1) := by decide +kernel
theorem d_Sg_place_0 : decode M_Sg_place.2.1 0 = .ok (.aload_n 0, 1) := by decide +kernel
theorem d_Sg_place_1 : decode M_Sg_place.2.1 1 = .ok (.getfield 83, 3) := by decide +kernel
theorem d_Sg_place_4 : decode M_Sg_place.2.1 4 = .ok (.ireturn, 1) := by decide +kernel
theorem d_Sg_post_0 : decode M_Sg_post.2.1 0 = .ok (.aload_n 0, 1) := by decide +kernel
theorem d_Sg_post_1 : decode M_Sg_post.2.1 1 = .ok (.iload_n 1, 1) := by decide +kernel
theorem d_Sg_post_2 : decode M_Sg_post.2.1 2 = .ok (.invokevirtual 126, 3) := by decide +kernel
theorem d_Sg_post_5 : decode M_Sg_post.2.1 5 = .ok (.ifCond .ne 5, 3) := by decide +kernel
theorem d_Sg_post_8 : decode M_Sg_post.2.1 8 = .ok (.iconst (-1), 1) := by decide +kernel
theorem d_Sg_post_9 : decode M_Sg_post.2.1 9 = .ok (.ireturn, 1) := by decide +kernel
theorem d_Sg_post_10 : decode M_Sg_post.2.1 10 = .ok (.iload_n 2, 1) := by decide +kernel
theorem d_Sg_post_11 : decode M_Sg_post.2.1 11 = .ok (.tableswitch 136 0 6 #[41, 51, 61, 71, 89, 99, 126], 41) := by decide +kernel
theorem d_Sg_post_52 : decode M_Sg_post.2.1 52 = .ok (.aload_n 0, 1) := by decide +kernel
theorem d_Sg_post_53 : decode M_Sg_post.2.1 53 = .ok (.getfield 37, 3) := by decide +kernel
theorem d_Sg_post_56 : decode M_Sg_post.2.1 56 = .ok (.getfield 129, 3) := by decide +kernel
theorem d_Sg_post_59 : decode M_Sg_post.2.1 59 = .ok (.iload_n 1, 1) := by decide +kernel
theorem d_Sg_post_60 : decode M_Sg_post.2.1 60 = .ok (.iaload, 1) := by decide +kernel
theorem d_Sg_post_61 : decode M_Sg_post.2.1 61 = .ok (.ireturn, 1) := by decide +kernel
theorem d_Sg_post_62 : decode M_Sg_post.2.1 62 = .ok (.aload_n 0, 1) := by decide +kernel
theorem d_Sg_post_63 : decode M_Sg_post.2.1 63 = .ok (.getfield 37, 3) := by decide +kernel
theorem d_Sg_post_66 : decode M_Sg_post.2.1 66 = .ok (.getfield 133, 3) := by decide +kernel
theorem d_Sg_post_69 : decode M_Sg_post.2.1 69 = .ok (.iload_n 1, 1) := by decide +kernel
theorem d_Sg_post_70 : decode M_Sg_post.2.1 70 = .ok (.iaload, 1) := by decide +kernel
theorem d_Sg_post_71 : decode M_Sg_post.2.1 71 = .ok (.ireturn, 1) := by decide +kernel
theorem d_Sg_post_72 : decode M_Sg_post.2.1 72 = .ok (.aload_n 0, 1) := by decide +kernel
theorem d_Sg_post_73 : decode M_Sg_post.2.1 73 = .ok (.getfield 37, 3) := by decide +kernel
theorem d_Sg_post_76 : decode M_Sg_post.2.1 76 = .ok (.getfield 136, 3) := by decide +kernel
theorem d_Sg_post_79 : decode M_Sg_post.2.1 79 = .ok (.iload_n 1, 1) := by decide +kernel
theorem d_Sg_post_80 : decode M_Sg_post.2.1 80 = .ok (.iaload, 1) := by decide +kernel
theorem d_Sg_post_81 : decode M_Sg_post.2.1 81 = .ok (.ireturn, 1) := by decide +kernel
theorem d_Sg_post_82 : decode M_Sg_post.2.1 82 = .ok (.aload_n 0, 1) := by decide +kernel
theorem d_Sg_post_83 : decode M_Sg_post.2.1 83 = .ok (.getfield 37, 3) := by decide +kernel
theorem d_Sg_post_86 : decode M_Sg_post.2.1 86 = .ok (.getfield 139, 3) := by decide +kernel
theorem d_Sg_post_89 : decode M_Sg_post.2.1 89 = .ok (.iload_n 1, 1) := by decide +kernel
theorem d_Sg_post_90 : decode M_Sg_post.2.1 90 = .ok (.baload, 1) := by decide +kernel
theorem d_Sg_post_91 : decode M_Sg_post.2.1 91 = .ok (.ifCond .eq 7, 3) := by decide +kernel
theorem d_Sg_post_94 : decode M_Sg_post.2.1 94 = .ok (.iconst 1, 1) := by decide +kernel
theorem d_Sg_post_95 : decode M_Sg_post.2.1 95 = .ok (.goto 4, 3) := by decide +kernel
theorem d_Sg_post_98 : decode M_Sg_post.2.1 98 = .ok (.iconst 0, 1) := by decide +kernel
theorem d_Sg_post_99 : decode M_Sg_post.2.1 99 = .ok (.ireturn, 1) := by decide +kernel
theorem d_Sg_post_100 : decode M_Sg_post.2.1 100 = .ok (.aload_n 0, 1) := by decide +kernel
theorem d_Sg_post_101 : decode M_Sg_post.2.1 101 = .ok (.getfield 37, 3) := by decide +kernel
theorem d_Sg_post_104 : decode M_Sg_post.2.1 104 = .ok (.getfield 142, 3) := by decide +kernel
theorem d_Sg_post_107 : decode M_Sg_post.2.1 107 = .ok (.iload_n 1, 1) := by decide +kernel
theorem d_Sg_post_108 : decode M_Sg_post.2.1 108 = .ok (.iaload, 1) := by decide +kernel
theorem d_Sg_post_109 : decode M_Sg_post.2.1 109 = .ok (.ireturn, 1) := by decide +kernel
theorem d_Sg_post_110 : decode M_Sg_post.2.1 110 = .ok (.aload_n 0, 1) := by decide +kernel
theorem d_Sg_post_111 : decode M_Sg_post.2.1 111 = .ok (.getfield 26, 3) := by decide +kernel
theorem d_Sg_post_114 : decode M_Sg_post.2.1 114 = .ok (.aload_n 0, 1) := by decide +kernel
theorem d_Sg_post_115 : decode M_Sg_post.2.1 115 = .ok (.getfield 37, 3) := by decide +kernel
theorem d_Sg_post_118 : decode M_Sg_post.2.1 118 = .ok (.iload_n 1, 1) := by decide +kernel
theorem d_Sg_post_119 : decode M_Sg_post.2.1 119 = .ok (.aload_n 0, 1) := by decide +kernel
theorem d_Sg_post_120 : decode M_Sg_post.2.1 120 = .ok (.getfield 26, 3) := by decide +kernel
theorem d_Sg_post_123 : decode M_Sg_post.2.1 123 = .ok (.aload_n 0, 1) := by decide +kernel
theorem d_Sg_post_124 : decode M_Sg_post.2.1 124 = .ok (.getfield 37, 3) := by decide +kernel
theorem d_Sg_post_127 : decode M_Sg_post.2.1 127 = .ok (.getfield 145, 3) := by decide +kernel
theorem d_Sg_post_130 : decode M_Sg_post.2.1 130 = .ok (.invokevirtual 148, 3) := by decide +kernel
theorem d_Sg_post_133 : decode M_Sg_post.2.1 133 = .ok (.invokevirtual 152, 3) := by decide +kernel
theorem d_Sg_post_136 : decode M_Sg_post.2.1 136 = .ok (.ireturn, 1) := by decide +kernel
theorem d_Sg_post_137 : decode M_Sg_post.2.1 137 = .ok (.aload_n 0, 1) := by decide +kernel
theorem d_Sg_post_138 : decode M_Sg_post.2.1 138 = .ok (.getfield 37, 3) := by decide +kernel
theorem d_Sg_post_141 : decode M_Sg_post.2.1 141 = .ok (.getfield 156, 3) := by decide +kernel
theorem d_Sg_post_144 : decode M_Sg_post.2.1 144 = .ok (.iload_n 1, 1) := by decide +kernel
theorem d_Sg_post_145 : decode M_Sg_post.2.1 145 = .ok (.iaload, 1) := by decide +kernel
theorem d_Sg_post_146 : decode M_Sg_post.2.1 146 = .ok (.ireturn, 1) := by decide +kernel
theorem d_Sg_post_147 : decode M_Sg_post.2.1 147 = .ok (.iconst (-1), 1) := by decide +kernel
theorem d_Sg_post_148 : decode M_Sg_post.2.1 148 = .ok (.ireturn, 1) := by decide +kernel
theorem d_Sg_guard_0 : decode M_Sg_guard.2.1 0 = .ok (.aload_n 0, 1) := by decide +kernel
theorem d_Sg_guard_1 : decode M_Sg_guard.2.1 1 = .ok (.iload_n 1, 1) := by decide +kernel
theorem d_Sg_guard_2 : decode M_Sg_guard.2.1 2 = .ok (.invokevirtual 159, 3) := by decide +kernel
theorem d_Sg_guard_5 : decode M_Sg_guard.2.1 5 = .ok (.ifCond .ne 5, 3) := by decide +kernel
theorem d_Sg_guard_8 : decode M_Sg_guard.2.1 8 = .ok (.iconst (-1), 1) := by decide +kernel
theorem d_Sg_guard_9 : decode M_Sg_guard.2.1 9 = .ok (.ireturn, 1) := by decide +kernel
theorem d_Sg_guard_10 : decode M_Sg_guard.2.1 10 = .ok (.iload_n 2, 1) := by decide +kernel
theorem d_Sg_guard_11 : decode M_Sg_guard.2.1 11 = .ok (.tableswitch 82 0 4 #[33, 43, 53, 63, 72], 33) := by decide +kernel
theorem d_Sg_guard_44 : decode M_Sg_guard.2.1 44 = .ok (.aload_n 0, 1) := by decide +kernel
theorem d_Sg_guard_45 : decode M_Sg_guard.2.1 45 = .ok (.getfield 37, 3) := by decide +kernel
theorem d_Sg_guard_48 : decode M_Sg_guard.2.1 48 = .ok (.getfield 162, 3) := by decide +kernel
theorem d_Sg_guard_51 : decode M_Sg_guard.2.1 51 = .ok (.iload_n 1, 1) := by decide +kernel
theorem d_Sg_guard_52 : decode M_Sg_guard.2.1 52 = .ok (.iaload, 1) := by decide +kernel
theorem d_Sg_guard_53 : decode M_Sg_guard.2.1 53 = .ok (.ireturn, 1) := by decide +kernel
theorem d_Sg_guard_54 : decode M_Sg_guard.2.1 54 = .ok (.aload_n 0, 1) := by decide +kernel
theorem d_Sg_guard_55 : decode M_Sg_guard.2.1 55 = .ok (.getfield 37, 3) := by decide +kernel
theorem d_Sg_guard_58 : decode M_Sg_guard.2.1 58 = .ok (.getfield 165, 3) := by decide +kernel
theorem d_Sg_guard_61 : decode M_Sg_guard.2.1 61 = .ok (.iload_n 1, 1) := by decide +kernel
theorem d_Sg_guard_62 : decode M_Sg_guard.2.1 62 = .ok (.iaload, 1) := by decide +kernel
theorem d_Sg_guard_63 : decode M_Sg_guard.2.1 63 = .ok (.ireturn, 1) := by decide +kernel
theorem d_Sg_guard_64 : decode M_Sg_guard.2.1 64 = .ok (.aload_n 0, 1) := by decide +kernel
theorem d_Sg_guard_65 : decode M_Sg_guard.2.1 65 = .ok (.getfield 37, 3) := by decide +kernel
theorem d_Sg_guard_68 : decode M_Sg_guard.2.1 68 = .ok (.getfield 168, 3) := by decide +kernel
theorem d_Sg_guard_71 : decode M_Sg_guard.2.1 71 = .ok (.iload_n 1, 1) := by decide +kernel
theorem d_Sg_guard_72 : decode M_Sg_guard.2.1 72 = .ok (.iaload, 1) := by decide +kernel
theorem d_Sg_guard_73 : decode M_Sg_guard.2.1 73 = .ok (.ireturn, 1) := by decide +kernel
theorem d_Sg_guard_74 : decode M_Sg_guard.2.1 74 = .ok (.aload_n 0, 1) := by decide +kernel
theorem d_Sg_guard_75 : decode M_Sg_guard.2.1 75 = .ok (.getfield 37, 3) := by decide +kernel
theorem d_Sg_guard_78 : decode M_Sg_guard.2.1 78 = .ok (.iload_n 1, 1) := by decide +kernel
theorem d_Sg_guard_79 : decode M_Sg_guard.2.1 79 = .ok (.invokevirtual 171, 3) := by decide +kernel
theorem d_Sg_guard_82 : decode M_Sg_guard.2.1 82 = .ok (.ireturn, 1) := by decide +kernel
theorem d_Sg_guard_83 : decode M_Sg_guard.2.1 83 = .ok (.aload_n 0, 1) := by decide +kernel
theorem d_Sg_guard_84 : decode M_Sg_guard.2.1 84 = .ok (.getfield 37, 3) := by decide +kernel
theorem d_Sg_guard_87 : decode M_Sg_guard.2.1 87 = .ok (.getfield 174, 3) := by decide +kernel
theorem d_Sg_guard_90 : decode M_Sg_guard.2.1 90 = .ok (.iload_n 1, 1) := by decide +kernel
theorem d_Sg_guard_91 : decode M_Sg_guard.2.1 91 = .ok (.iaload, 1) := by decide +kernel
theorem d_Sg_guard_92 : decode M_Sg_guard.2.1 92 = .ok (.ireturn, 1) := by decide +kernel
theorem d_Sg_guard_93 : decode M_Sg_guard.2.1 93 = .ok (.iconst (-1), 1) := by decide +kernel
theorem d_Sg_guard_94 : decode M_Sg_guard.2.1 94 = .ok (.ireturn, 1) := by decide +kernel
theorem d_Sg_run_0 : decode M_Sg_run.2.1 0 = .ok (.iload_n 1, 1) := by decide +kernel
theorem d_Sg_run_1 : decode M_Sg_run.2.1 1 = .ok (.ifCond .lt 10, 3) := by decide +kernel
theorem d_Sg_run_4 : decode M_Sg_run.2.1 4 = .ok (.iload_n 1, 1) := by decide +kernel
theorem d_Sg_run_5 : decode M_Sg_run.2.1 5 = .ok (.sipush 2000, 3) := by decide +kernel
theorem d_Sg_run_8 : decode M_Sg_run.2.1 8 = .ok (.if_icmp .le 5, 3) := by decide +kernel
theorem d_Sg_run_11 : decode M_Sg_run.2.1 11 = .ok (.iconst (-1), 1) := by decide +kernel
theorem d_Sg_run_12 : decode M_Sg_run.2.1 12 = .ok (.ireturn, 1) := by decide +kernel
theorem d_Sg_run_13 : decode M_Sg_run.2.1 13 = .ok (.iload_n 1, 1) := by decide +kernel
theorem d_Sg_run_14 : decode M_Sg_run.2.1 14 = .ok (.ifCond .le 19, 3) := by decide +kernel
theorem d_Sg_run_17 : decode M_Sg_run.2.1 17 = .ok (.aload_n 0, 1) := by decide +kernel
theorem d_Sg_run_18 : decode M_Sg_run.2.1 18 = .ok (.invokevirtual 177, 3) := by decide +kernel
theorem d_Sg_run_21 : decode M_Sg_run.2.1 21 = .ok (.aload_n 0, 1) := by decide +kernel
theorem d_Sg_run_22 : decode M_Sg_run.2.1 22 = .ok (.getfield 37, 3) := by decide +kernel
theorem d_Sg_run_25 : decode M_Sg_run.2.1 25 = .ok (.aload_n 0, 1) := by decide +kernel
theorem d_Sg_run_26 : decode M_Sg_run.2.1 26 = .ok (.getfield 26, 3) := by decide +kernel
theorem d_Sg_run_29 : decode M_Sg_run.2.1 29 = .ok (.iload_n 1, 1) := by decide +kernel
theorem d_Sg_run_30 : decode M_Sg_run.2.1 30 = .ok (.invokevirtual 180, 3) := by decide +kernel
theorem d_Sg_run_33 : decode M_Sg_run.2.1 33 = .ok (.aload_n 0, 1) := by decide +kernel
theorem d_Sg_run_34 : decode M_Sg_run.2.1 34 = .ok (.getfield 37, 3) := by decide +kernel
theorem d_Sg_run_37 : decode M_Sg_run.2.1 37 = .ok (.getfield 145, 3) := by decide +kernel
theorem d_Sg_run_40 : decode M_Sg_run.2.1 40 = .ok (.ireturn, 1) := by decide +kernel
theorem d_Sg_turn_0 : decode M_Sg_turn.2.1 0 = .ok (.aload_n 0, 1) := by decide +kernel
theorem d_Sg_turn_1 : decode M_Sg_turn.2.1 1 = .ok (.iload_n 1, 1) := by decide +kernel
theorem d_Sg_turn_2 : decode M_Sg_turn.2.1 2 = .ok (.invokevirtual 126, 3) := by decide +kernel
theorem d_Sg_turn_5 : decode M_Sg_turn.2.1 5 = .ok (.ifCond .ne 5, 3) := by decide +kernel
theorem d_Sg_turn_8 : decode M_Sg_turn.2.1 8 = .ok (.iconst 0, 1) := by decide +kernel
theorem d_Sg_turn_9 : decode M_Sg_turn.2.1 9 = .ok (.ireturn, 1) := by decide +kernel
theorem d_Sg_turn_10 : decode M_Sg_turn.2.1 10 = .ok (.aload_n 0, 1) := by decide +kernel
theorem d_Sg_turn_11 : decode M_Sg_turn.2.1 11 = .ok (.invokevirtual 177, 3) := by decide +kernel
theorem d_Sg_turn_14 : decode M_Sg_turn.2.1 14 = .ok (.aload_n 0, 1) := by decide +kernel
theorem d_Sg_turn_15 : decode M_Sg_turn.2.1 15 = .ok (.getfield 37, 3) := by decide +kernel
theorem d_Sg_turn_18 : decode M_Sg_turn.2.1 18 = .ok (.iload_n 1, 1) := by decide +kernel
theorem d_Sg_turn_19 : decode M_Sg_turn.2.1 19 = .ok (.invokevirtual 184, 3) := by decide +kernel
theorem d_Sg_turn_22 : decode M_Sg_turn.2.1 22 = .ok (.iconst 1, 1) := by decide +kernel
theorem d_Sg_turn_23 : decode M_Sg_turn.2.1 23 = .ok (.ireturn, 1) := by decide +kernel
theorem d_Sg_shake_0 : decode M_Sg_shake.2.1 0 = .ok (.aload_n 0, 1) := by decide +kernel
theorem d_Sg_shake_1 : decode M_Sg_shake.2.1 1 = .ok (.iload_n 1, 1) := by decide +kernel
theorem d_Sg_shake_2 : decode M_Sg_shake.2.1 2 = .ok (.invokevirtual 126, 3) := by decide +kernel
theorem d_Sg_shake_5 : decode M_Sg_shake.2.1 5 = .ok (.ifCond .eq 7, 3) := by decide +kernel
theorem d_Sg_shake_8 : decode M_Sg_shake.2.1 8 = .ok (.iload_n 2, 1) := by decide +kernel
theorem d_Sg_shake_9 : decode M_Sg_shake.2.1 9 = .ok (.ifCond .ge 5, 3) := by decide +kernel
theorem d_Sg_shake_12 : decode M_Sg_shake.2.1 12 = .ok (.iconst (-1), 1) := by decide +kernel
theorem d_Sg_shake_13 : decode M_Sg_shake.2.1 13 = .ok (.ireturn, 1) := by decide +kernel
theorem d_Sg_shake_14 : decode M_Sg_shake.2.1 14 = .ok (.aload_n 0, 1) := by decide +kernel
theorem d_Sg_shake_15 : decode M_Sg_shake.2.1 15 = .ok (.invokevirtual 177, 3) := by decide +kernel
theorem d_Sg_shake_18 : decode M_Sg_shake.2.1 18 = .ok (.iload_n 2, 1) := by decide +kernel
theorem d_Sg_shake_19 : decode M_Sg_shake.2.1 19 = .ok (.aload_n 0, 1) := by decide +kernel
theorem d_Sg_shake_20 : decode M_Sg_shake.2.1 20 = .ok (.getfield 37, 3) := by decide +kernel
theorem d_Sg_shake_23 : decode M_Sg_shake.2.1 23 = .ok (.getfield 133, 3) := by decide +kernel
theorem d_Sg_shake_26 : decode M_Sg_shake.2.1 26 = .ok (.iload_n 1, 1) := by decide +kernel
theorem d_Sg_shake_27 : decode M_Sg_shake.2.1 27 = .ok (.iaload, 1) := by decide +kernel
theorem d_Sg_shake_28 : decode M_Sg_shake.2.1 28 = .ok (.invokestatic 187, 3) := by decide +kernel
theorem d_Sg_shake_31 : decode M_Sg_shake.2.1 31 = .ok (.istore_n 3, 1) := by decide +kernel
theorem d_Sg_shake_32 : decode M_Sg_shake.2.1 32 = .ok (.aload_n 0, 1) := by decide +kernel
theorem d_Sg_shake_33 : decode M_Sg_shake.2.1 33 = .ok (.getfield 37, 3) := by decide +kernel
theorem d_Sg_shake_36 : decode M_Sg_shake.2.1 36 = .ok (.getfield 133, 3) := by decide +kernel
theorem d_Sg_shake_39 : decode M_Sg_shake.2.1 39 = .ok (.iload_n 1, 1) := by decide +kernel
theorem d_Sg_shake_40 : decode M_Sg_shake.2.1 40 = .ok (.dup2, 1) := by decide +kernel
theorem d_Sg_shake_41 : decode M_Sg_shake.2.1 41 = .ok (.iaload, 1) := by decide +kernel
theorem d_Sg_shake_42 : decode M_Sg_shake.2.1 42 = .ok (.iload_n 3, 1) := by decide +kernel
theorem d_Sg_shake_43 : decode M_Sg_shake.2.1 43 = .ok (.isub, 1) := by decide +kernel
theorem d_Sg_shake_44 : decode M_Sg_shake.2.1 44 = .ok (.iastore, 1) := by decide +kernel
theorem d_Sg_shake_45 : decode M_Sg_shake.2.1 45 = .ok (.aload_n 0, 1) := by decide +kernel
theorem d_Sg_shake_46 : decode M_Sg_shake.2.1 46 = .ok (.getfield 37, 3) := by decide +kernel
theorem d_Sg_shake_49 : decode M_Sg_shake.2.1 49 = .ok (.getfield 129, 3) := by decide +kernel
theorem d_Sg_shake_52 : decode M_Sg_shake.2.1 52 = .ok (.iload_n 1, 1) := by decide +kernel
theorem d_Sg_shake_53 : decode M_Sg_shake.2.1 53 = .ok (.dup2, 1) := by decide +kernel
theorem d_Sg_shake_54 : decode M_Sg_shake.2.1 54 = .ok (.iaload, 1) := by decide +kernel
theorem d_Sg_shake_55 : decode M_Sg_shake.2.1 55 = .ok (.iload_n 3, 1) := by decide +kernel
theorem d_Sg_shake_56 : decode M_Sg_shake.2.1 56 = .ok (.iadd, 1) := by decide +kernel
theorem d_Sg_shake_57 : decode M_Sg_shake.2.1 57 = .ok (.iastore, 1) := by decide +kernel
theorem d_Sg_shake_58 : decode M_Sg_shake.2.1 58 = .ok (.iload_n 3, 1) := by decide +kernel
theorem d_Sg_shake_59 : decode M_Sg_shake.2.1 59 = .ok (.ireturn, 1) := by decide +kernel
theorem d_Sg_dry_0 : decode M_Sg_dry.2.1 0 = .ok (.aload_n 0, 1) := by decide +kernel
theorem d_Sg_dry_1 : decode M_Sg_dry.2.1 1 = .ok (.iload_n 1, 1) := by decide +kernel
theorem d_Sg_dry_2 : decode M_Sg_dry.2.1 2 = .ok (.invokevirtual 126, 3) := by decide +kernel
theorem d_Sg_dry_5 : decode M_Sg_dry.2.1 5 = .ok (.ifCond .ne 5, 3) := by decide +kernel
theorem d_Sg_dry_8 : decode M_Sg_dry.2.1 8 = .ok (.iconst 0, 1) := by decide +kernel
theorem d_Sg_dry_9 : decode M_Sg_dry.2.1 9 = .ok (.ireturn, 1) := by decide +kernel
theorem d_Sg_dry_10 : decode M_Sg_dry.2.1 10 = .ok (.aload_n 0, 1) := by decide +kernel
theorem d_Sg_dry_11 : decode M_Sg_dry.2.1 11 = .ok (.invokevirtual 177, 3) := by decide +kernel
theorem d_Sg_dry_14 : decode M_Sg_dry.2.1 14 = .ok (.aload_n 0, 1) := by decide +kernel
theorem d_Sg_dry_15 : decode M_Sg_dry.2.1 15 = .ok (.getfield 37, 3) := by decide +kernel
theorem d_Sg_dry_18 : decode M_Sg_dry.2.1 18 = .ok (.getfield 139, 3) := by decide +kernel
theorem d_Sg_dry_21 : decode M_Sg_dry.2.1 21 = .ok (.iload_n 1, 1) := by decide +kernel
theorem d_Sg_dry_22 : decode M_Sg_dry.2.1 22 = .ok (.iload_n 2, 1) := by decide +kernel
theorem d_Sg_dry_23 : decode M_Sg_dry.2.1 23 = .ok (.bastore, 1) := by decide +kernel
theorem d_Sg_dry_24 : decode M_Sg_dry.2.1 24 = .ok (.iconst 1, 1) := by decide +kernel
theorem d_Sg_dry_25 : decode M_Sg_dry.2.1 25 = .ok (.ireturn, 1) := by decide +kernel
theorem d_Sg_pinch_0 : decode M_Sg_pinch.2.1 0 = .ok (.aload_n 0, 1) := by decide +kernel
theorem d_Sg_pinch_1 : decode M_Sg_pinch.2.1 1 = .ok (.iload_n 1, 1) := by decide +kernel
theorem d_Sg_pinch_2 : decode M_Sg_pinch.2.1 2 = .ok (.invokevirtual 126, 3) := by decide +kernel
theorem d_Sg_pinch_5 : decode M_Sg_pinch.2.1 5 = .ok (.ifCond .ne 5, 3) := by decide +kernel
theorem d_Sg_pinch_8 : decode M_Sg_pinch.2.1 8 = .ok (.iconst (-1), 1) := by decide +kernel
theorem d_Sg_pinch_9 : decode M_Sg_pinch.2.1 9 = .ok (.ireturn, 1) := by decide +kernel
theorem d_Sg_pinch_10 : decode M_Sg_pinch.2.1 10 = .ok (.aload_n 0, 1) := by decide +kernel
theorem d_Sg_pinch_11 : decode M_Sg_pinch.2.1 11 = .ok (.getfield 37, 3) := by decide +kernel
theorem d_Sg_pinch_14 : decode M_Sg_pinch.2.1 14 = .ok (.getfield 129, 3) := by decide +kernel
theorem d_Sg_pinch_17 : decode M_Sg_pinch.2.1 17 = .ok (.iload_n 1, 1) := by decide +kernel
theorem d_Sg_pinch_18 : decode M_Sg_pinch.2.1 18 = .ok (.iaload, 1) := by decide +kernel
theorem d_Sg_pinch_19 : decode M_Sg_pinch.2.1 19 = .ok (.i2l, 1) := by decide +kernel
theorem d_Sg_pinch_20 : decode M_Sg_pinch.2.1 20 = .ok (.iload_n 2, 1) := by decide +kernel
theorem d_Sg_pinch_21 : decode M_Sg_pinch.2.1 21 = .ok (.i2l, 1) := by decide +kernel
theorem d_Sg_pinch_22 : decode M_Sg_pinch.2.1 22 = .ok (.ladd, 1) := by decide +kernel
theorem d_Sg_pinch_23 : decode M_Sg_pinch.2.1 23 = .ok (.lstore_n 3, 1) := by decide +kernel
theorem d_Sg_pinch_24 : decode M_Sg_pinch.2.1 24 = .ok (.lload_n 3, 1) := by decide +kernel
theorem d_Sg_pinch_25 : decode M_Sg_pinch.2.1 25 = .ok (.lconst 0, 1) := by decide +kernel
theorem d_Sg_pinch_26 : decode M_Sg_pinch.2.1 26 = .ok (.lcmp, 1) := by decide +kernel
theorem d_Sg_pinch_27 : decode M_Sg_pinch.2.1 27 = .ok (.ifCond .lt 11, 3) := by decide +kernel
theorem d_Sg_pinch_30 : decode M_Sg_pinch.2.1 30 = .ok (.lload_n 3, 1) := by decide +kernel
theorem d_Sg_pinch_31 : decode M_Sg_pinch.2.1 31 = .ok (.ldc2_w 193, 3) := by decide +kernel
theorem d_Sg_pinch_34 : decode M_Sg_pinch.2.1 34 = .ok (.lcmp, 1) := by decide +kernel
theorem d_Sg_pinch_35 : decode M_Sg_pinch.2.1 35 = .ok (.ifCond .le 5, 3) := by decide +kernel
theorem d_Sg_pinch_38 : decode M_Sg_pinch.2.1 38 = .ok (.iconst (-1), 1) := by decide +kernel
theorem d_Sg_pinch_39 : decode M_Sg_pinch.2.1 39 = .ok (.ireturn, 1) := by decide +kernel
theorem d_Sg_pinch_40 : decode M_Sg_pinch.2.1 40 = .ok (.aload_n 0, 1) := by decide +kernel
theorem d_Sg_pinch_41 : decode M_Sg_pinch.2.1 41 = .ok (.invokevirtual 177, 3) := by decide +kernel
theorem d_Sg_pinch_44 : decode M_Sg_pinch.2.1 44 = .ok (.aload_n 0, 1) := by decide +kernel
theorem d_Sg_pinch_45 : decode M_Sg_pinch.2.1 45 = .ok (.getfield 37, 3) := by decide +kernel
theorem d_Sg_pinch_48 : decode M_Sg_pinch.2.1 48 = .ok (.getfield 129, 3) := by decide +kernel
theorem d_Sg_pinch_51 : decode M_Sg_pinch.2.1 51 = .ok (.iload_n 1, 1) := by decide +kernel
theorem d_Sg_pinch_52 : decode M_Sg_pinch.2.1 52 = .ok (.dup2, 1) := by decide +kernel
theorem d_Sg_pinch_53 : decode M_Sg_pinch.2.1 53 = .ok (.iaload, 1) := by decide +kernel
theorem d_Sg_pinch_54 : decode M_Sg_pinch.2.1 54 = .ok (.iload_n 2, 1) := by decide +kernel
theorem d_Sg_pinch_55 : decode M_Sg_pinch.2.1 55 = .ok (.iadd, 1) := by decide +kernel
theorem d_Sg_pinch_56 : decode M_Sg_pinch.2.1 56 = .ok (.iastore, 1) := by decide +kernel
theorem d_Sg_pinch_57 : decode M_Sg_pinch.2.1 57 = .ok (.aload_n 0, 1) := by decide +kernel
theorem d_Sg_pinch_58 : decode M_Sg_pinch.2.1 58 = .ok (.getfield 37, 3) := by decide +kernel
theorem d_Sg_pinch_61 : decode M_Sg_pinch.2.1 61 = .ok (.getfield 156, 3) := by decide +kernel
theorem d_Sg_pinch_64 : decode M_Sg_pinch.2.1 64 = .ok (.iload_n 1, 1) := by decide +kernel
theorem d_Sg_pinch_65 : decode M_Sg_pinch.2.1 65 = .ok (.dup2, 1) := by decide +kernel
theorem d_Sg_pinch_66 : decode M_Sg_pinch.2.1 66 = .ok (.iaload, 1) := by decide +kernel
theorem d_Sg_pinch_67 : decode M_Sg_pinch.2.1 67 = .ok (.iload_n 2, 1) := by decide +kernel
theorem d_Sg_pinch_68 : decode M_Sg_pinch.2.1 68 = .ok (.iadd, 1) := by decide +kernel
theorem d_Sg_pinch_69 : decode M_Sg_pinch.2.1 69 = .ok (.iastore, 1) := by decide +kernel
theorem d_Sg_pinch_70 : decode M_Sg_pinch.2.1 70 = .ok (.aload_n 0, 1) := by decide +kernel
theorem d_Sg_pinch_71 : decode M_Sg_pinch.2.1 71 = .ok (.getfield 37, 3) := by decide +kernel
theorem d_Sg_pinch_74 : decode M_Sg_pinch.2.1 74 = .ok (.getfield 129, 3) := by decide +kernel
theorem d_Sg_pinch_77 : decode M_Sg_pinch.2.1 77 = .ok (.iload_n 1, 1) := by decide +kernel
theorem d_Sg_pinch_78 : decode M_Sg_pinch.2.1 78 = .ok (.iaload, 1) := by decide +kernel
theorem d_Sg_pinch_79 : decode M_Sg_pinch.2.1 79 = .ok (.ireturn, 1) := by decide +kernel
theorem d_Sg_send_0 : decode M_Sg_send.2.1 0 = .ok (.aload_n 0, 1) := by decide +kernel
theorem d_Sg_send_1 : decode M_Sg_send.2.1 1 = .ok (.iload_n 1, 1) := by decide +kernel
theorem d_Sg_send_2 : decode M_Sg_send.2.1 2 = .ok (.invokevirtual 159, 3) := by decide +kernel
theorem d_Sg_send_5 : decode M_Sg_send.2.1 5 = .ok (.ifCond .eq 11, 3) := by decide +kernel
theorem d_Sg_send_8 : decode M_Sg_send.2.1 8 = .ok (.aload_n 0, 1) := by decide +kernel
theorem d_Sg_send_9 : decode M_Sg_send.2.1 9 = .ok (.iload_n 2, 1) := by decide +kernel
theorem d_Sg_send_10 : decode M_Sg_send.2.1 10 = .ok (.invokevirtual 126, 3) := by decide +kernel
theorem d_Sg_send_13 : decode M_Sg_send.2.1 13 = .ok (.ifCond .ne 5, 3) := by decide +kernel
theorem d_Sg_send_16 : decode M_Sg_send.2.1 16 = .ok (.iconst 0, 1) := by decide +kernel
theorem d_Sg_send_17 : decode M_Sg_send.2.1 17 = .ok (.ireturn, 1) := by decide +kernel
theorem d_Sg_send_18 : decode M_Sg_send.2.1 18 = .ok (.aload_n 0, 1) := by decide +kernel
theorem d_Sg_send_19 : decode M_Sg_send.2.1 19 = .ok (.getfield 37, 3) := by decide +kernel
theorem d_Sg_send_22 : decode M_Sg_send.2.1 22 = .ok (.getfield 162, 3) := by decide +kernel
theorem d_Sg_send_25 : decode M_Sg_send.2.1 25 = .ok (.iload_n 1, 1) := by decide +kernel
theorem d_Sg_send_26 : decode M_Sg_send.2.1 26 = .ok (.iaload, 1) := by decide +kernel
theorem d_Sg_send_27 : decode M_Sg_send.2.1 27 = .ok (.bipush (-2), 2) := by decide +kernel
theorem d_Sg_send_29 : decode M_Sg_send.2.1 29 = .ok (.if_icmp .ne 17, 3) := by decide +kernel
theorem d_Sg_send_32 : decode M_Sg_send.2.1 32 = .ok (.aload_n 0, 1) := by decide +kernel
theorem d_Sg_send_33 : decode M_Sg_send.2.1 33 = .ok (.getfield 37, 3) := by decide +kernel
theorem d_Sg_send_36 : decode M_Sg_send.2.1 36 = .ok (.getfield 136, 3) := by decide +kernel
theorem d_Sg_send_39 : decode M_Sg_send.2.1 39 = .ok (.iload_n 2, 1) := by decide +kernel
theorem d_Sg_send_40 : decode M_Sg_send.2.1 40 = .ok (.iaload, 1) := by decide +kernel
theorem d_Sg_send_41 : decode M_Sg_send.2.1 41 = .ok (.bipush (-2), 2) := by decide +kernel
theorem d_Sg_send_43 : decode M_Sg_send.2.1 43 = .ok (.if_icmp .eq 5, 3) := by decide +kernel
theorem d_Sg_send_46 : decode M_Sg_send.2.1 46 = .ok (.iconst 0, 1) := by decide +kernel
theorem d_Sg_send_47 : decode M_Sg_send.2.1 47 = .ok (.ireturn, 1) := by decide +kernel
theorem d_Sg_send_48 : decode M_Sg_send.2.1 48 = .ok (.aload_n 0, 1) := by decide +kernel
theorem d_Sg_send_49 : decode M_Sg_send.2.1 49 = .ok (.invokevirtual 177, 3) := by decide +kernel
theorem d_Sg_send_52 : decode M_Sg_send.2.1 52 = .ok (.aload_n 0, 1) := by decide +kernel
theorem d_Sg_send_53 : decode M_Sg_send.2.1 53 = .ok (.getfield 37, 3) := by decide +kernel
theorem d_Sg_send_56 : decode M_Sg_send.2.1 56 = .ok (.aload_n 0, 1) := by decide +kernel
theorem d_Sg_send_57 : decode M_Sg_send.2.1 57 = .ok (.getfield 37, 3) := by decide +kernel
theorem d_Sg_send_60 : decode M_Sg_send.2.1 60 = .ok (.iload_n 1, 1) := by decide +kernel
theorem d_Sg_send_61 : decode M_Sg_send.2.1 61 = .ok (.invokevirtual 171, 3) := by decide +kernel
theorem d_Sg_send_64 : decode M_Sg_send.2.1 64 = .ok (.invokevirtual 195, 3) := by decide +kernel
theorem d_Sg_send_67 : decode M_Sg_send.2.1 67 = .ok (.pop, 1) := by decide +kernel
theorem d_Sg_send_68 : decode M_Sg_send.2.1 68 = .ok (.aload_n 0, 1) := by decide +kernel
theorem d_Sg_send_69 : decode M_Sg_send.2.1 69 = .ok (.getfield 37, 3) := by decide +kernel
theorem d_Sg_send_72 : decode M_Sg_send.2.1 72 = .ok (.iload_n 1, 1) := by decide +kernel
theorem d_Sg_send_73 : decode M_Sg_send.2.1 73 = .ok (.iload_n 2, 1) := by decide +kernel
theorem d_Sg_send_74 : decode M_Sg_send.2.1 74 = .ok (.invokevirtual 198, 3) := by decide +kernel
theorem d_Sg_send_77 : decode M_Sg_send.2.1 77 = .ok (.iconst 1, 1) := by decide +kernel
theorem d_Sg_send_78 : decode M_Sg_send.2.1 78 = .ok (.ireturn, 1) := by decide +kernel
theorem d_Sg_undo_0 : decode M_Sg_undo.2.1 0 = .ok (.aload_n 0, 1) := by decide +kernel
theorem d_Sg_undo_1 : decode M_Sg_undo.2.1 1 = .ok (.getfield 43, 3) := by decide +kernel
theorem d_Sg_undo_4 : decode M_Sg_undo.2.1 4 = .ok (.aload_n 0, 1) := by decide +kernel
theorem d_Sg_undo_5 : decode M_Sg_undo.2.1 5 = .ok (.getfield 37, 3) := by decide +kernel
theorem d_Sg_undo_8 : decode M_Sg_undo.2.1 8 = .ok (.invokevirtual 202, 3) := by decide +kernel
theorem d_Sg_undo_11 : decode M_Sg_undo.2.1 11 = .ok (.ifCond .ne 5, 3) := by decide +kernel
theorem d_Sg_undo_14 : decode M_Sg_undo.2.1 14 = .ok (.iconst 0, 1) := by decide +kernel
theorem d_Sg_undo_15 : decode M_Sg_undo.2.1 15 = .ok (.ireturn, 1) := by decide +kernel
theorem d_Sg_undo_16 : decode M_Sg_undo.2.1 16 = .ok (.aload_n 0, 1) := by decide +kernel
theorem d_Sg_undo_17 : decode M_Sg_undo.2.1 17 = .ok (.invokevirtual 123, 3) := by decide +kernel
theorem d_Sg_undo_20 : decode M_Sg_undo.2.1 20 = .ok (.iconst 1, 1) := by decide +kernel
theorem d_Sg_undo_21 : decode M_Sg_undo.2.1 21 = .ok (.ireturn, 1) := by decide +kernel
theorem d_Sg_out_0 : decode M_Sg_out.2.1 0 = .ok (.aload_n 0, 1) := by decide +kernel
theorem d_Sg_out_1 : decode M_Sg_out.2.1 1 = .ok (.iload_n 1, 1) := by decide +kernel
theorem d_Sg_out_2 : decode M_Sg_out.2.1 2 = .ok (.invokevirtual 126, 3) := by decide +kernel
theorem d_Sg_out_5 : decode M_Sg_out.2.1 5 = .ok (.ifCond .ne 5, 3) := by decide +kernel
theorem d_Sg_out_8 : decode M_Sg_out.2.1 8 = .ok (.iconst (-1), 1) := by decide +kernel
theorem d_Sg_out_9 : decode M_Sg_out.2.1 9 = .ok (.ireturn, 1) := by decide +kernel
theorem d_Sg_out_10 : decode M_Sg_out.2.1 10 = .ok (.aload_n 0, 1) := by decide +kernel
theorem d_Sg_out_11 : decode M_Sg_out.2.1 11 = .ok (.getfield 58, 3) := by decide +kernel
theorem d_Sg_out_14 : decode M_Sg_out.2.1 14 = .ok (.getfield 206, 3) := by decide +kernel
theorem d_Sg_out_17 : decode M_Sg_out.2.1 17 = .ok (.aload_n 0, 1) := by decide +kernel
theorem d_Sg_out_18 : decode M_Sg_out.2.1 18 = .ok (.getfield 37, 3) := by decide +kernel
theorem d_Sg_out_21 : decode M_Sg_out.2.1 21 = .ok (.invokevirtual 116, 3) := by decide +kernel
theorem d_Sg_out_24 : decode M_Sg_out.2.1 24 = .ok (.aload_n 0, 1) := by decide +kernel
theorem d_Sg_out_25 : decode M_Sg_out.2.1 25 = .ok (.getfield 58, 3) := by decide +kernel
theorem d_Sg_out_28 : decode M_Sg_out.2.1 28 = .ok (.aload_n 0, 1) := by decide +kernel
theorem d_Sg_out_29 : decode M_Sg_out.2.1 29 = .ok (.getfield 26, 3) := by decide +kernel
theorem d_Sg_out_32 : decode M_Sg_out.2.1 32 = .ok (.iload_n 1, 1) := by decide +kernel
theorem d_Sg_out_33 : decode M_Sg_out.2.1 33 = .ok (.sipush 2000, 3) := by decide +kernel
theorem d_Sg_out_36 : decode M_Sg_out.2.1 36 = .ok (.invokevirtual 209, 3) := by decide +kernel
theorem d_Sg_out_39 : decode M_Sg_out.2.1 39 = .ok (.ireturn, 1) := by decide +kernel
theorem d_Sg_slept_0 : decode M_Sg_slept.2.1 0 = .ok (.aload_n 0, 1) := by decide +kernel
theorem d_Sg_slept_1 : decode M_Sg_slept.2.1 1 = .ok (.getfield 65, 3) := by decide +kernel
theorem d_Sg_slept_4 : decode M_Sg_slept.2.1 4 = .ok (.aload_n 0, 1) := by decide +kernel
theorem d_Sg_slept_5 : decode M_Sg_slept.2.1 5 = .ok (.getfield 26, 3) := by decide +kernel
theorem d_Sg_slept_8 : decode M_Sg_slept.2.1 8 = .ok (.aload_n 0, 1) := by decide +kernel
theorem d_Sg_slept_9 : decode M_Sg_slept.2.1 9 = .ok (.getfield 37, 3) := by decide +kernel
theorem d_Sg_slept_12 : decode M_Sg_slept.2.1 12 = .ok (.invokevirtual 213, 3) := by decide +kernel
theorem d_Sg_slept_15 : decode M_Sg_slept.2.1 15 = .ok (.ireturn, 1) := by decide +kernel
theorem d_Sg_dryFirst_0 : decode M_Sg_dryFirst.2.1 0 = .ok (.iload_n 1, 1) := by decide +kernel
theorem d_Sg_dryFirst_1 : decode M_Sg_dryFirst.2.1 1 = .ok (.ifCond .eq 10, 3) := by decide +kernel
theorem d_Sg_dryFirst_4 : decode M_Sg_dryFirst.2.1 4 = .ok (.iload_n 1, 1) := by decide +kernel
theorem d_Sg_dryFirst_5 : decode M_Sg_dryFirst.2.1 5 = .ok (.iconst 1, 1) := by decide +kernel
theorem d_Sg_dryFirst_6 : decode M_Sg_dryFirst.2.1 6 = .ok (.if_icmp .eq 5, 3) := by decide +kernel
theorem d_Sg_dryFirst_9 : decode M_Sg_dryFirst.2.1 9 = .ok (.iconst (-1), 1) := by decide +kernel
theorem d_Sg_dryFirst_10 : decode M_Sg_dryFirst.2.1 10 = .ok (.ireturn, 1) := by decide +kernel
theorem d_Sg_dryFirst_11 : decode M_Sg_dryFirst.2.1 11 = .ok (.aload_n 0, 1) := by decide +kernel
theorem d_Sg_dryFirst_12 : decode M_Sg_dryFirst.2.1 12 = .ok (.getfield 65, 3) := by decide +kernel
theorem d_Sg_dryFirst_15 : decode M_Sg_dryFirst.2.1 15 = .ok (.aload_n 0, 1) := by decide +kernel
theorem d_Sg_dryFirst_16 : decode M_Sg_dryFirst.2.1 16 = .ok (.getfield 26, 3) := by decide +kernel
theorem d_Sg_dryFirst_19 : decode M_Sg_dryFirst.2.1 19 = .ok (.aload_n 0, 1) := by decide +kernel
theorem d_Sg_dryFirst_20 : decode M_Sg_dryFirst.2.1 20 = .ok (.getfield 37, 3) := by decide +kernel
theorem d_Sg_dryFirst_23 : decode M_Sg_dryFirst.2.1 23 = .ok (.aload_n 0, 1) := by decide +kernel
theorem d_Sg_dryFirst_24 : decode M_Sg_dryFirst.2.1 24 = .ok (.getfield 65, 3) := by decide +kernel
theorem d_Sg_dryFirst_27 : decode M_Sg_dryFirst.2.1 27 = .ok (.aload_n 0, 1) := by decide +kernel
theorem d_Sg_dryFirst_28 : decode M_Sg_dryFirst.2.1 28 = .ok (.getfield 26, 3) := by decide +kernel
theorem d_Sg_dryFirst_31 : decode M_Sg_dryFirst.2.1 31 = .ok (.aload_n 0, 1) := by decide +kernel
theorem d_Sg_dryFirst_32 : decode M_Sg_dryFirst.2.1 32 = .ok (.getfield 37, 3) := by decide +kernel
theorem d_Sg_dryFirst_35 : decode M_Sg_dryFirst.2.1 35 = .ok (.invokevirtual 213, 3) := by decide +kernel
theorem d_Sg_dryFirst_38 : decode M_Sg_dryFirst.2.1 38 = .ok (.invokevirtual 217, 3) := by decide +kernel
theorem d_Sg_dryFirst_41 : decode M_Sg_dryFirst.2.1 41 = .ok (.iload_n 1, 1) := by decide +kernel
theorem d_Sg_dryFirst_42 : decode M_Sg_dryFirst.2.1 42 = .ok (.ifCond .ne 13, 3) := by decide +kernel
theorem d_Sg_dryFirst_45 : decode M_Sg_dryFirst.2.1 45 = .ok (.aload_n 0, 1) := by decide +kernel
theorem d_Sg_dryFirst_46 : decode M_Sg_dryFirst.2.1 46 = .ok (.getfield 65, 3) := by decide +kernel
theorem d_Sg_dryFirst_49 : decode M_Sg_dryFirst.2.1 49 = .ok (.getfield 221, 3) := by decide +kernel
theorem d_Sg_dryFirst_52 : decode M_Sg_dryFirst.2.1 52 = .ok (.goto 10, 3) := by decide +kernel
theorem d_Sg_dryFirst_55 : decode M_Sg_dryFirst.2.1 55 = .ok (.aload_n 0, 1) := by decide +kernel
theorem d_Sg_dryFirst_56 : decode M_Sg_dryFirst.2.1 56 = .ok (.getfield 65, 3) := by decide +kernel
theorem d_Sg_dryFirst_59 : decode M_Sg_dryFirst.2.1 59 = .ok (.getfield 224, 3) := by decide +kernel
theorem d_Sg_dryFirst_62 : decode M_Sg_dryFirst.2.1 62 = .ok (.ireturn, 1) := by decide +kernel
theorem d_Sg_dryTwo_0 : decode M_Sg_dryTwo.2.1 0 = .ok (.iload_n 1, 1) := by decide +kernel
theorem d_Sg_dryTwo_1 : decode M_Sg_dryTwo.2.1 1 = .ok (.ifCond .eq 10, 3) := by decide +kernel
theorem d_Sg_dryTwo_4 : decode M_Sg_dryTwo.2.1 4 = .ok (.iload_n 1, 1) := by decide +kernel
theorem d_Sg_dryTwo_5 : decode M_Sg_dryTwo.2.1 5 = .ok (.iconst 1, 1) := by decide +kernel
theorem d_Sg_dryTwo_6 : decode M_Sg_dryTwo.2.1 6 = .ok (.if_icmp .eq 5, 3) := by decide +kernel
theorem d_Sg_dryTwo_9 : decode M_Sg_dryTwo.2.1 9 = .ok (.iconst (-1), 1) := by decide +kernel
theorem d_Sg_dryTwo_10 : decode M_Sg_dryTwo.2.1 10 = .ok (.ireturn, 1) := by decide +kernel
theorem d_Sg_dryTwo_11 : decode M_Sg_dryTwo.2.1 11 = .ok (.aload_n 0, 1) := by decide +kernel
theorem d_Sg_dryTwo_12 : decode M_Sg_dryTwo.2.1 12 = .ok (.getfield 65, 3) := by decide +kernel
theorem d_Sg_dryTwo_15 : decode M_Sg_dryTwo.2.1 15 = .ok (.aload_n 0, 1) := by decide +kernel
theorem d_Sg_dryTwo_16 : decode M_Sg_dryTwo.2.1 16 = .ok (.getfield 26, 3) := by decide +kernel
theorem d_Sg_dryTwo_19 : decode M_Sg_dryTwo.2.1 19 = .ok (.aload_n 0, 1) := by decide +kernel
theorem d_Sg_dryTwo_20 : decode M_Sg_dryTwo.2.1 20 = .ok (.getfield 37, 3) := by decide +kernel
theorem d_Sg_dryTwo_23 : decode M_Sg_dryTwo.2.1 23 = .ok (.invokevirtual 227, 3) := by decide +kernel
theorem d_Sg_dryTwo_26 : decode M_Sg_dryTwo.2.1 26 = .ok (.iload_n 1, 1) := by decide +kernel
theorem d_Sg_dryTwo_27 : decode M_Sg_dryTwo.2.1 27 = .ok (.ifCond .ne 13, 3) := by decide +kernel
theorem d_Sg_dryTwo_30 : decode M_Sg_dryTwo.2.1 30 = .ok (.aload_n 0, 1) := by decide +kernel
theorem d_Sg_dryTwo_31 : decode M_Sg_dryTwo.2.1 31 = .ok (.getfield 65, 3) := by decide +kernel
theorem d_Sg_dryTwo_34 : decode M_Sg_dryTwo.2.1 34 = .ok (.getfield 231, 3) := by decide +kernel
theorem d_Sg_dryTwo_37 : decode M_Sg_dryTwo.2.1 37 = .ok (.goto 10, 3) := by decide +kernel
theorem d_Sg_dryTwo_40 : decode M_Sg_dryTwo.2.1 40 = .ok (.aload_n 0, 1) := by decide +kernel
theorem d_Sg_dryTwo_41 : decode M_Sg_dryTwo.2.1 41 = .ok (.getfield 65, 3) := by decide +kernel
theorem d_Sg_dryTwo_44 : decode M_Sg_dryTwo.2.1 44 = .ok (.getfield 234, 3) := by decide +kernel
theorem d_Sg_dryTwo_47 : decode M_Sg_dryTwo.2.1 47 = .ok (.ireturn, 1) := by decide +kernel
theorem d_Sg_bribe_0 : decode M_Sg_bribe.2.1 0 = .ok (.aload_n 0, 1) := by decide +kernel
theorem d_Sg_bribe_1 : decode M_Sg_bribe.2.1 1 = .ok (.iload_n 1, 1) := by decide +kernel
theorem d_Sg_bribe_2 : decode M_Sg_bribe.2.1 2 = .ok (.invokevirtual 159, 3) := by decide +kernel
theorem d_Sg_bribe_5 : decode M_Sg_bribe.2.1 5 = .ok (.ifCond .eq 29, 3) := by decide +kernel
theorem d_Sg_bribe_8 : decode M_Sg_bribe.2.1 8 = .ok (.iload_n 2, 1) := by decide +kernel
theorem d_Sg_bribe_9 : decode M_Sg_bribe.2.1 9 = .ok (.iconst 1, 1) := by decide +kernel
theorem d_Sg_bribe_10 : decode M_Sg_bribe.2.1 10 = .ok (.if_icmp .lt 24, 3) := by decide +kernel
theorem d_Sg_bribe_13 : decode M_Sg_bribe.2.1 13 = .ok (.iload_n 2, 1) := by decide +kernel
theorem d_Sg_bribe_14 : decode M_Sg_bribe.2.1 14 = .ok (.sipush 1000, 3) := by decide +kernel
theorem d_Sg_bribe_17 : decode M_Sg_bribe.2.1 17 = .ok (.if_icmp .gt 17, 3) := by decide +kernel
theorem d_Sg_bribe_20 : decode M_Sg_bribe.2.1 20 = .ok (.aload_n 0, 1) := by decide +kernel
theorem d_Sg_bribe_21 : decode M_Sg_bribe.2.1 21 = .ok (.getfield 37, 3) := by decide +kernel
theorem d_Sg_bribe_24 : decode M_Sg_bribe.2.1 24 = .ok (.getfield 162, 3) := by decide +kernel
theorem d_Sg_bribe_27 : decode M_Sg_bribe.2.1 27 = .ok (.iload_n 1, 1) := by decide +kernel
theorem d_Sg_bribe_28 : decode M_Sg_bribe.2.1 28 = .ok (.iaload, 1) := by decide +kernel
theorem d_Sg_bribe_29 : decode M_Sg_bribe.2.1 29 = .ok (.bipush (-2), 2) := by decide +kernel
theorem d_Sg_bribe_31 : decode M_Sg_bribe.2.1 31 = .ok (.if_icmp .ne 5, 3) := by decide +kernel
theorem d_Sg_bribe_34 : decode M_Sg_bribe.2.1 34 = .ok (.iconst (-1), 1) := by decide +kernel
theorem d_Sg_bribe_35 : decode M_Sg_bribe.2.1 35 = .ok (.ireturn, 1) := by decide +kernel
theorem d_Sg_bribe_36 : decode M_Sg_bribe.2.1 36 = .ok (.aload_n 0, 1) := by decide +kernel
theorem d_Sg_bribe_37 : decode M_Sg_bribe.2.1 37 = .ok (.getfield 58, 3) := by decide +kernel
theorem d_Sg_bribe_40 : decode M_Sg_bribe.2.1 40 = .ok (.aload_n 0, 1) := by decide +kernel
theorem d_Sg_bribe_41 : decode M_Sg_bribe.2.1 41 = .ok (.getfield 26, 3) := by decide +kernel
theorem d_Sg_bribe_44 : decode M_Sg_bribe.2.1 44 = .ok (.aload_n 0, 1) := by decide +kernel
theorem d_Sg_bribe_45 : decode M_Sg_bribe.2.1 45 = .ok (.getfield 37, 3) := by decide +kernel
theorem d_Sg_bribe_48 : decode M_Sg_bribe.2.1 48 = .ok (.iload_n 1, 1) := by decide +kernel
theorem d_Sg_bribe_49 : decode M_Sg_bribe.2.1 49 = .ok (.iload_n 2, 1) := by decide +kernel
theorem d_Sg_bribe_50 : decode M_Sg_bribe.2.1 50 = .ok (.invokevirtual 237, 3) := by decide +kernel
theorem d_Sg_bribe_53 : decode M_Sg_bribe.2.1 53 = .ok (.ireturn, 1) := by decide +kernel
theorem d_Sg_weak_0 : decode M_Sg_weak.2.1 0 = .ok (.iload_n 1, 1) := by decide +kernel
theorem d_Sg_weak_1 : decode M_Sg_weak.2.1 1 = .ok (.iconst 1, 1) := by decide +kernel
theorem d_Sg_weak_2 : decode M_Sg_weak.2.1 2 = .ok (.if_icmp .lt 19, 3) := by decide +kernel
theorem d_Sg_weak_5 : decode M_Sg_weak.2.1 5 = .ok (.iload_n 1, 1) := by decide +kernel
theorem d_Sg_weak_6 : decode M_Sg_weak.2.1 6 = .ok (.sipush 2000, 3) := by decide +kernel
theorem d_Sg_weak_9 : decode M_Sg_weak.2.1 9 = .ok (.if_icmp .gt 12, 3) := by decide +kernel
theorem d_Sg_weak_12 : decode M_Sg_weak.2.1 12 = .ok (.iload_n 2, 1) := by decide +kernel
theorem d_Sg_weak_13 : decode M_Sg_weak.2.1 13 = .ok (.ifCond .lt 8, 3) := by decide +kernel
theorem d_Sg_weak_16 : decode M_Sg_weak.2.1 16 = .ok (.iload_n 2, 1) := by decide +kernel
theorem d_Sg_weak_17 : decode M_Sg_weak.2.1 17 = .ok (.iconst 1, 1) := by decide +kernel
theorem d_Sg_weak_18 : decode M_Sg_weak.2.1 18 = .ok (.if_icmp .le 5, 3) := by decide +kernel
theorem d_Sg_weak_21 : decode M_Sg_weak.2.1 21 = .ok (.iconst (-1), 1) := by decide +kernel
theorem d_Sg_weak_22 : decode M_Sg_weak.2.1 22 = .ok (.ireturn, 1) := by decide +kernel
theorem d_Sg_weak_23 : decode M_Sg_weak.2.1 23 = .ok (.aload_n 0, 1) := by decide +kernel
theorem d_Sg_weak_24 : decode M_Sg_weak.2.1 24 = .ok (.getfield 26, 3) := by decide +kernel
theorem d_Sg_weak_27 : decode M_Sg_weak.2.1 27 = .ok (.getfield 241, 3) := by decide +kernel
theorem d_Sg_weak_30 : decode M_Sg_weak.2.1 30 = .ok (.aload_n 0, 1) := by decide +kernel
theorem d_Sg_weak_31 : decode M_Sg_weak.2.1 31 = .ok (.getfield 26, 3) := by decide +kernel
theorem d_Sg_weak_34 : decode M_Sg_weak.2.1 34 = .ok (.getfield 244, 3) := by decide +kernel
theorem d_Sg_weak_37 : decode M_Sg_weak.2.1 37 = .ok (.if_icmp .ge 7, 3) := by decide +kernel
theorem d_Sg_weak_40 : decode M_Sg_weak.2.1 40 = .ok (.iconst 1, 1) := by decide +kernel
theorem d_Sg_weak_41 : decode M_Sg_weak.2.1 41 = .ok (.goto 4, 3) := by decide +kernel
theorem d_Sg_weak_44 : decode M_Sg_weak.2.1 44 = .ok (.iconst 0, 1) := by decide +kernel
theorem d_Sg_weak_45 : decode M_Sg_weak.2.1 45 = .ok (.istore_n 3, 1) := by decide +kernel
theorem d_Sg_weak_46 : decode M_Sg_weak.2.1 46 = .ok (.iload_n 2, 1) := by decide +kernel
theorem d_Sg_weak_47 : decode M_Sg_weak.2.1 47 = .ok (.ifCond .ne 13, 3) := by decide +kernel
theorem d_Sg_weak_50 : decode M_Sg_weak.2.1 50 = .ok (.iload_n 3, 1) := by decide +kernel
theorem d_Sg_weak_51 : decode M_Sg_weak.2.1 51 = .ok (.ifCond .eq 7, 3) := by decide +kernel
theorem d_Sg_weak_54 : decode M_Sg_weak.2.1 54 = .ok (.iload_n 1, 1) := by decide +kernel
theorem d_Sg_weak_55 : decode M_Sg_weak.2.1 55 = .ok (.goto 4, 3) := by decide +kernel
theorem d_Sg_weak_58 : decode M_Sg_weak.2.1 58 = .ok (.iconst 0, 1) := by decide +kernel
theorem d_Sg_weak_59 : decode M_Sg_weak.2.1 59 = .ok (.ireturn, 1) := by decide +kernel
theorem d_Sg_weak_60 : decode M_Sg_weak.2.1 60 = .ok (.iload_n 3, 1) := by decide +kernel
theorem d_Sg_weak_61 : decode M_Sg_weak.2.1 61 = .ok (.ifCond .eq 7, 3) := by decide +kernel
theorem d_Sg_weak_64 : decode M_Sg_weak.2.1 64 = .ok (.iconst 0, 1) := by decide +kernel
theorem d_Sg_weak_65 : decode M_Sg_weak.2.1 65 = .ok (.goto 5, 3) := by decide +kernel
theorem d_Sg_weak_68 : decode M_Sg_weak.2.1 68 = .ok (.bipush (-2), 2) := by decide +kernel
theorem d_Sg_weak_70 : decode M_Sg_weak.2.1 70 = .ok (.ireturn, 1) := by decide +kernel
theorem d_Sg_never_0 : decode M_Sg_never.2.1 0 = .ok (.iload_n 1, 1) := by decide +kernel
theorem d_Sg_never_1 : decode M_Sg_never.2.1 1 = .ok (.iconst 1, 1) := by decide +kernel
theorem d_Sg_never_2 : decode M_Sg_never.2.1 2 = .ok (.if_icmp .lt 10, 3) := by decide +kernel
theorem d_Sg_never_5 : decode M_Sg_never.2.1 5 = .ok (.iload_n 1, 1) := by decide +kernel
theorem d_Sg_never_6 : decode M_Sg_never.2.1 6 = .ok (.sipush 2000, 3) := by decide +kernel
theorem d_Sg_never_9 : decode M_Sg_never.2.1 9 = .ok (.if_icmp .le 5, 3) := by decide +kernel
theorem d_Sg_never_12 : decode M_Sg_never.2.1 12 = .ok (.iconst (-1), 1) := by decide +kernel
theorem d_Sg_never_13 : decode M_Sg_never.2.1 13 = .ok (.ireturn, 1) := by decide +kernel
theorem d_Sg_never_14 : decode M_Sg_never.2.1 14 = .ok (.aload_n 0, 1) := by decide +kernel
theorem d_Sg_never_15 : decode M_Sg_never.2.1 15 = .ok (.getfield 58, 3) := by decide +kernel
theorem d_Sg_never_18 : decode M_Sg_never.2.1 18 = .ok (.aload_n 0, 1) := by decide +kernel
theorem d_Sg_never_19 : decode M_Sg_never.2.1 19 = .ok (.getfield 26, 3) := by decide +kernel
theorem d_Sg_never_22 : decode M_Sg_never.2.1 22 = .ok (.aload_n 0, 1) := by decide +kernel
theorem d_Sg_never_23 : decode M_Sg_never.2.1 23 = .ok (.getfield 37, 3) := by decide +kernel
theorem d_Sg_never_26 : decode M_Sg_never.2.1 26 = .ok (.iload_n 1, 1) := by decide +kernel
theorem d_Sg_never_27 : decode M_Sg_never.2.1 27 = .ok (.invokevirtual 247, 3) := by decide +kernel
theorem d_Sg_never_30 : decode M_Sg_never.2.1 30 = .ok (.aload_n 0, 1) := by decide +kernel
theorem d_Sg_never_31 : decode M_Sg_never.2.1 31 = .ok (.getfield 58, 3) := by decide +kernel
theorem d_Sg_never_34 : decode M_Sg_never.2.1 34 = .ok (.aload_n 0, 1) := by decide +kernel
theorem d_Sg_never_35 : decode M_Sg_never.2.1 35 = .ok (.getfield 26, 3) := by decide +kernel
theorem d_Sg_never_38 : decode M_Sg_never.2.1 38 = .ok (.aload_n 0, 1) := by decide +kernel
theorem d_Sg_never_39 : decode M_Sg_never.2.1 39 = .ok (.getfield 37, 3) := by decide +kernel
theorem d_Sg_never_42 : decode M_Sg_never.2.1 42 = .ok (.invokevirtual 250, 3) := by decide +kernel
theorem d_Sg_never_45 : decode M_Sg_never.2.1 45 = .ok (.ireturn, 1) := by decide +kernel
theorem d_Sg_spread_0 : decode M_Sg_spread.2.1 0 = .ok (.iload_n 1, 1) := by decide +kernel
theorem d_Sg_spread_1 : decode M_Sg_spread.2.1 1 = .ok (.ifCond .lt 10, 3) := by decide +kernel
theorem d_Sg_spread_4 : decode M_Sg_spread.2.1 4 = .ok (.iload_n 1, 1) := by decide +kernel
theorem d_Sg_spread_5 : decode M_Sg_spread.2.1 5 = .ok (.sipush 2000, 3) := by decide +kernel
theorem d_Sg_spread_8 : decode M_Sg_spread.2.1 8 = .ok (.if_icmp .le 5, 3) := by decide +kernel
theorem d_Sg_spread_11 : decode M_Sg_spread.2.1 11 = .ok (.iconst (-1), 1) := by decide +kernel
theorem d_Sg_spread_12 : decode M_Sg_spread.2.1 12 = .ok (.ireturn, 1) := by decide +kernel
theorem d_Sg_spread_13 : decode M_Sg_spread.2.1 13 = .ok (.aload_n 0, 1) := by decide +kernel
theorem d_Sg_spread_14 : decode M_Sg_spread.2.1 14 = .ok (.getfield 58, 3) := by decide +kernel
theorem d_Sg_spread_17 : decode M_Sg_spread.2.1 17 = .ok (.aload_n 0, 1) := by decide +kernel
theorem d_Sg_spread_18 : decode M_Sg_spread.2.1 18 = .ok (.getfield 26, 3) := by decide +kernel
theorem d_Sg_spread_21 : decode M_Sg_spread.2.1 21 = .ok (.aload_n 0, 1) := by decide +kernel
theorem d_Sg_spread_22 : decode M_Sg_spread.2.1 22 = .ok (.getfield 37, 3) := by decide +kernel
theorem d_Sg_spread_25 : decode M_Sg_spread.2.1 25 = .ok (.iload_n 1, 1) := by decide +kernel
theorem d_Sg_spread_26 : decode M_Sg_spread.2.1 26 = .ok (.invokevirtual 247, 3) := by decide +kernel
theorem d_Sg_spread_29 : decode M_Sg_spread.2.1 29 = .ok (.aload_n 0, 1) := by decide +kernel
theorem d_Sg_spread_30 : decode M_Sg_spread.2.1 30 = .ok (.getfield 58, 3) := by decide +kernel
theorem d_Sg_spread_33 : decode M_Sg_spread.2.1 33 = .ok (.aload_n 0, 1) := by decide +kernel
theorem d_Sg_spread_34 : decode M_Sg_spread.2.1 34 = .ok (.getfield 26, 3) := by decide +kernel
theorem d_Sg_spread_37 : decode M_Sg_spread.2.1 37 = .ok (.invokevirtual 253, 3) := by decide +kernel
theorem d_Sg_spread_40 : decode M_Sg_spread.2.1 40 = .ok (.ireturn, 1) := by decide +kernel
theorem d_Sg_shakeWorst_0 : decode M_Sg_shakeWorst.2.1 0 = .ok (.iload_n 1, 1) := by decide +kernel
theorem d_Sg_shakeWorst_1 : decode M_Sg_shakeWorst.2.1 1 = .ok (.iconst 1, 1) := by decide +kernel
theorem d_Sg_shakeWorst_2 : decode M_Sg_shakeWorst.2.1 2 = .ok (.if_icmp .lt 19, 3) := by decide +kernel
theorem d_Sg_shakeWorst_5 : decode M_Sg_shakeWorst.2.1 5 = .ok (.iload_n 1, 1) := by decide +kernel
theorem d_Sg_shakeWorst_6 : decode M_Sg_shakeWorst.2.1 6 = .ok (.sipush 1000, 3) := by decide +kernel
theorem d_Sg_shakeWorst_9 : decode M_Sg_shakeWorst.2.1 9 = .ok (.if_icmp .gt 12, 3) := by decide +kernel
theorem d_Sg_shakeWorst_12 : decode M_Sg_shakeWorst.2.1 12 = .ok (.iload_n 2, 1) := by decide +kernel
theorem d_Sg_shakeWorst_13 : decode M_Sg_shakeWorst.2.1 13 = .ok (.ifCond .lt 8, 3) := by decide +kernel
theorem d_Sg_shakeWorst_16 : decode M_Sg_shakeWorst.2.1 16 = .ok (.iload_n 2, 1) := by decide +kernel
theorem d_Sg_shakeWorst_17 : decode M_Sg_shakeWorst.2.1 17 = .ok (.iconst 1, 1) := by decide +kernel
theorem d_Sg_shakeWorst_18 : decode M_Sg_shakeWorst.2.1 18 = .ok (.if_icmp .le 5, 3) := by decide +kernel
theorem d_Sg_shakeWorst_21 : decode M_Sg_shakeWorst.2.1 21 = .ok (.iconst (-1), 1) := by decide +kernel
theorem d_Sg_shakeWorst_22 : decode M_Sg_shakeWorst.2.1 22 = .ok (.ireturn, 1) := by decide +kernel
theorem d_Sg_shakeWorst_23 : decode M_Sg_shakeWorst.2.1 23 = .ok (.aload_n 0, 1) := by decide +kernel
theorem d_Sg_shakeWorst_24 : decode M_Sg_shakeWorst.2.1 24 = .ok (.getfield 58, 3) := by decide +kernel
theorem d_Sg_shakeWorst_27 : decode M_Sg_shakeWorst.2.1 27 = .ok (.aload_n 0, 1) := by decide +kernel
theorem d_Sg_shakeWorst_28 : decode M_Sg_shakeWorst.2.1 28 = .ok (.getfield 26, 3) := by decide +kernel
theorem d_Sg_shakeWorst_31 : decode M_Sg_shakeWorst.2.1 31 = .ok (.aload_n 0, 1) := by decide +kernel
theorem d_Sg_shakeWorst_32 : decode M_Sg_shakeWorst.2.1 32 = .ok (.getfield 37, 3) := by decide +kernel
theorem d_Sg_shakeWorst_35 : decode M_Sg_shakeWorst.2.1 35 = .ok (.iload_n 1, 1) := by decide +kernel
theorem d_Sg_shakeWorst_36 : decode M_Sg_shakeWorst.2.1 36 = .ok (.invokevirtual 257, 3) := by decide +kernel
theorem d_Sg_shakeWorst_39 : decode M_Sg_shakeWorst.2.1 39 = .ok (.iload_n 2, 1) := by decide +kernel
theorem d_Sg_shakeWorst_40 : decode M_Sg_shakeWorst.2.1 40 = .ok (.ifCond .ne 13, 3) := by decide +kernel
theorem d_Sg_shakeWorst_43 : decode M_Sg_shakeWorst.2.1 43 = .ok (.aload_n 0, 1) := by decide +kernel
theorem d_Sg_shakeWorst_44 : decode M_Sg_shakeWorst.2.1 44 = .ok (.getfield 58, 3) := by decide +kernel
theorem d_Sg_shakeWorst_47 : decode M_Sg_shakeWorst.2.1 47 = .ok (.getfield 260, 3) := by decide +kernel
theorem d_Sg_shakeWorst_50 : decode M_Sg_shakeWorst.2.1 50 = .ok (.goto 10, 3) := by decide +kernel
theorem d_Sg_shakeWorst_53 : decode M_Sg_shakeWorst.2.1 53 = .ok (.aload_n 0, 1) := by decide +kernel
theorem d_Sg_shakeWorst_54 : decode M_Sg_shakeWorst.2.1 54 = .ok (.getfield 58, 3) := by decide +kernel
theorem d_Sg_shakeWorst_57 : decode M_Sg_shakeWorst.2.1 57 = .ok (.getfield 263, 3) := by decide +kernel
theorem d_Sg_shakeWorst_60 : decode M_Sg_shakeWorst.2.1 60 = .ok (.ireturn, 1) := by decide +kernel
theorem d_Sg_longest_0 : decode M_Sg_longest.2.1 0 = .ok (.iload_n 1, 1) := by decide +kernel
theorem d_Sg_longest_1 : decode M_Sg_longest.2.1 1 = .ok (.ifCond .eq 10, 3) := by decide +kernel
theorem d_Sg_longest_4 : decode M_Sg_longest.2.1 4 = .ok (.iload_n 1, 1) := by decide +kernel
theorem d_Sg_longest_5 : decode M_Sg_longest.2.1 5 = .ok (.iconst 1, 1) := by decide +kernel
theorem d_Sg_longest_6 : decode M_Sg_longest.2.1 6 = .ok (.if_icmp .eq 5, 3) := by decide +kernel
theorem d_Sg_longest_9 : decode M_Sg_longest.2.1 9 = .ok (.iconst (-1), 1) := by decide +kernel
theorem d_Sg_longest_10 : decode M_Sg_longest.2.1 10 = .ok (.ireturn, 1) := by decide +kernel
theorem d_Sg_longest_11 : decode M_Sg_longest.2.1 11 = .ok (.aload_n 0, 1) := by decide +kernel
theorem d_Sg_longest_12 : decode M_Sg_longest.2.1 12 = .ok (.getfield 37, 3) := by decide +kernel
theorem d_Sg_longest_15 : decode M_Sg_longest.2.1 15 = .ok (.aload_n 0, 1) := by decide +kernel
theorem d_Sg_longest_16 : decode M_Sg_longest.2.1 16 = .ok (.getfield 26, 3) := by decide +kernel
theorem d_Sg_longest_19 : decode M_Sg_longest.2.1 19 = .ok (.getfield 241, 3) := by decide +kernel
theorem d_Sg_longest_22 : decode M_Sg_longest.2.1 22 = .ok (.invokevirtual 266, 3) := by decide +kernel
theorem d_Sg_longest_25 : decode M_Sg_longest.2.1 25 = .ok (.istore_n 2, 1) := by decide +kernel
theorem d_Sg_longest_26 : decode M_Sg_longest.2.1 26 = .ok (.iload_n 1, 1) := by decide +kernel
theorem d_Sg_longest_27 : decode M_Sg_longest.2.1 27 = .ok (.ifCond .eq 9, 3) := by decide +kernel
theorem d_Sg_longest_30 : decode M_Sg_longest.2.1 30 = .ok (.iload_n 2, 1) := by decide +kernel
theorem d_Sg_longest_31 : decode M_Sg_longest.2.1 31 = .ok (.bipush (-2), 2) := by decide +kernel
theorem d_Sg_longest_33 : decode M_Sg_longest.2.1 33 = .ok (.if_icmp .ne 5, 3) := by decide +kernel
theorem d_Sg_longest_36 : decode M_Sg_longest.2.1 36 = .ok (.iload_n 2, 1) := by decide +kernel
theorem d_Sg_longest_37 : decode M_Sg_longest.2.1 37 = .ok (.ireturn, 1) := by decide +kernel
theorem d_Sg_longest_38 : decode M_Sg_longest.2.1 38 = .ok (.aload_n 0, 1) := by decide +kernel
theorem d_Sg_longest_39 : decode M_Sg_longest.2.1 39 = .ok (.getfield 58, 3) := by decide +kernel
theorem d_Sg_longest_42 : decode M_Sg_longest.2.1 42 = .ok (.getfield 206, 3) := by decide +kernel
theorem d_Sg_longest_45 : decode M_Sg_longest.2.1 45 = .ok (.aload_n 0, 1) := by decide +kernel
theorem d_Sg_longest_46 : decode M_Sg_longest.2.1 46 = .ok (.getfield 37, 3) := by decide +kernel
theorem d_Sg_longest_49 : decode M_Sg_longest.2.1 49 = .ok (.invokevirtual 116, 3) := by decide +kernel
theorem d_Sg_longest_52 : decode M_Sg_longest.2.1 52 = .ok (.aload_n 0, 1) := by decide +kernel
theorem d_Sg_longest_53 : decode M_Sg_longest.2.1 53 = .ok (.getfield 58, 3) := by decide +kernel
theorem d_Sg_longest_56 : decode M_Sg_longest.2.1 56 = .ok (.aload_n 0, 1) := by decide +kernel
theorem d_Sg_longest_57 : decode M_Sg_longest.2.1 57 = .ok (.getfield 26, 3) := by decide +kernel
theorem d_Sg_longest_60 : decode M_Sg_longest.2.1 60 = .ok (.iload_n 2, 1) := by decide +kernel
theorem d_Sg_longest_61 : decode M_Sg_longest.2.1 61 = .ok (.sipush 2000, 3) := by decide +kernel
theorem d_Sg_longest_64 : decode M_Sg_longest.2.1 64 = .ok (.invokevirtual 269, 3) := by decide +kernel
theorem d_Sg_longest_67 : decode M_Sg_longest.2.1 67 = .ok (.ireturn, 1) := by decide +kernel
theorem d_Sg_rests_0 : decode M_Sg_rests.2.1 0 = .ok (.iload_n 1, 1) := by decide +kernel
theorem d_Sg_rests_1 : decode M_Sg_rests.2.1 1 = .ok (.iconst 1, 1) := by decide +kernel
theorem d_Sg_rests_2 : decode M_Sg_rests.2.1 2 = .ok (.if_icmp .lt 26, 3) := by decide +kernel
theorem d_Sg_rests_5 : decode M_Sg_rests.2.1 5 = .ok (.iload_n 1, 1) := by decide +kernel
theorem d_Sg_rests_6 : decode M_Sg_rests.2.1 6 = .ok (.bipush 99, 2) := by decide +kernel
theorem d_Sg_rests_8 : decode M_Sg_rests.2.1 8 = .ok (.if_icmp .gt 20, 3) := by decide +kernel
theorem d_Sg_rests_11 : decode M_Sg_rests.2.1 11 = .ok (.iload_n 2, 1) := by decide +kernel
theorem d_Sg_rests_12 : decode M_Sg_rests.2.1 12 = .ok (.iconst 1, 1) := by decide +kernel
theorem d_Sg_rests_13 : decode M_Sg_rests.2.1 13 = .ok (.if_icmp .lt 15, 3) := by decide +kernel
theorem d_Sg_rests_16 : decode M_Sg_rests.2.1 16 = .ok (.iload_n 2, 1) := by decide +kernel
theorem d_Sg_rests_17 : decode M_Sg_rests.2.1 17 = .ok (.sipush 300, 3) := by decide +kernel
theorem d_Sg_rests_20 : decode M_Sg_rests.2.1 20 = .ok (.if_icmp .gt 8, 3) := by decide +kernel
theorem d_Sg_rests_23 : decode M_Sg_rests.2.1 23 = .ok (.iload_n 3, 1) := by decide +kernel
theorem d_Sg_rests_24 : decode M_Sg_rests.2.1 24 = .ok (.iconst (-1), 1) := by decide +kernel
theorem d_Sg_rests_25 : decode M_Sg_rests.2.1 25 = .ok (.if_icmp .ge 5, 3) := by decide +kernel
theorem d_Sg_rests_28 : decode M_Sg_rests.2.1 28 = .ok (.iconst (-1), 1) := by decide +kernel
theorem d_Sg_rests_29 : decode M_Sg_rests.2.1 29 = .ok (.ireturn, 1) := by decide +kernel
theorem d_Sg_rests_30 : decode M_Sg_rests.2.1 30 = .ok (.aload_n 0, 1) := by decide +kernel
theorem d_Sg_rests_31 : decode M_Sg_rests.2.1 31 = .ok (.getfield 72, 3) := by decide +kernel
theorem d_Sg_rests_34 : decode M_Sg_rests.2.1 34 = .ok (.aload_n 0, 1) := by decide +kernel
theorem d_Sg_rests_35 : decode M_Sg_rests.2.1 35 = .ok (.getfield 26, 3) := by decide +kernel
theorem d_Sg_rests_38 : decode M_Sg_rests.2.1 38 = .ok (.aload_n 0, 1) := by decide +kernel
theorem d_Sg_rests_39 : decode M_Sg_rests.2.1 39 = .ok (.getfield 37, 3) := by decide +kernel
theorem d_Sg_rests_42 : decode M_Sg_rests.2.1 42 = .ok (.iload_n 1, 1) := by decide +kernel
theorem d_Sg_rests_43 : decode M_Sg_rests.2.1 43 = .ok (.iload_n 2, 1) := by decide +kernel
theorem d_Sg_rests_44 : decode M_Sg_rests.2.1 44 = .ok (.invokevirtual 272, 3) := by decide +kernel
theorem d_Sg_rests_47 : decode M_Sg_rests.2.1 47 = .ok (.iload_n 3, 1) := by decide +kernel
theorem d_Sg_rests_48 : decode M_Sg_rests.2.1 48 = .ok (.iconst (-1), 1) := by decide +kernel
theorem d_Sg_rests_49 : decode M_Sg_rests.2.1 49 = .ok (.if_icmp .ne 11, 3) := by decide +kernel
theorem d_Sg_rests_52 : decode M_Sg_rests.2.1 52 = .ok (.aload_n 0, 1) := by decide +kernel
theorem d_Sg_rests_53 : decode M_Sg_rests.2.1 53 = .ok (.getfield 72, 3) := by decide +kernel
theorem d_Sg_rests_56 : decode M_Sg_rests.2.1 56 = .ok (.getfield 276, 3) := by decide +kernel
theorem d_Sg_rests_59 : decode M_Sg_rests.2.1 59 = .ok (.ireturn, 1) := by decide +kernel
theorem d_Sg_rests_60 : decode M_Sg_rests.2.1 60 = .ok (.iload_n 3, 1) := by decide +kernel
theorem d_Sg_rests_61 : decode M_Sg_rests.2.1 61 = .ok (.aload_n 0, 1) := by decide +kernel
theorem d_Sg_rests_62 : decode M_Sg_rests.2.1 62 = .ok (.getfield 72, 3) := by decide +kernel
theorem d_Sg_rests_65 : decode M_Sg_rests.2.1 65 = .ok (.getfield 276, 3) := by decide +kernel
theorem d_Sg_rests_68 : decode M_Sg_rests.2.1 68 = .ok (.if_icmp .ge 15, 3) := by decide +kernel
theorem d_Sg_rests_71 : decode M_Sg_rests.2.1 71 = .ok (.aload_n 0, 1) := by decide +kernel
theorem d_Sg_rests_72 : decode M_Sg_rests.2.1 72 = .ok (.getfield 72, 3) := by decide +kernel
theorem d_Sg_rests_75 : decode M_Sg_rests.2.1 75 = .ok (.getfield 277, 3) := by decide +kernel
theorem d_Sg_rests_78 : decode M_Sg_rests.2.1 78 = .ok (.iload_n 3, 1) := by decide +kernel
theorem d_Sg_rests_79 : decode M_Sg_rests.2.1 79 = .ok (.iaload, 1) := by decide +kernel
theorem d_Sg_rests_80 : decode M_Sg_rests.2.1 80 = .ok (.goto 4, 3) := by decide +kernel
theorem d_Sg_rests_83 : decode M_Sg_rests.2.1 83 = .ok (.iconst (-1), 1) := by decide +kernel
theorem d_Sg_rests_84 : decode M_Sg_rests.2.1 84 = .ok (.ireturn, 1) := by decide +kernel
theorem d_Sg_where_0 : decode M_Sg_where.2.1 0 = .ok (.aload_n 0, 1) := by decide +kernel
theorem d_Sg_where_1 : decode M_Sg_where.2.1 1 = .ok (.iload_n 1, 1) := by decide +kernel
theorem d_Sg_where_2 : decode M_Sg_where.2.1 2 = .ok (.invokevirtual 159, 3) := by decide +kernel
theorem d_Sg_where_5 : decode M_Sg_where.2.1 5 = .ok (.ifCond .eq 14, 3) := by decide +kernel
theorem d_Sg_where_8 : decode M_Sg_where.2.1 8 = .ok (.iload_n 2, 1) := by decide +kernel
theorem d_Sg_where_9 : decode M_Sg_where.2.1 9 = .ok (.ifCond .lt 10, 3) := by decide +kernel
theorem d_Sg_where_12 : decode M_Sg_where.2.1 12 = .ok (.iload_n 2, 1) := by decide +kernel
theorem d_Sg_where_13 : decode M_Sg_where.2.1 13 = .ok (.sipush 2000, 3) := by decide +kernel
theorem d_Sg_where_16 : decode M_Sg_where.2.1 16 = .ok (.if_icmp .le 5, 3) := by decide +kernel
theorem d_Sg_where_19 : decode M_Sg_where.2.1 19 = .ok (.iconst (-1), 1) := by decide +kernel
theorem d_Sg_where_20 : decode M_Sg_where.2.1 20 = .ok (.ireturn, 1) := by decide +kernel
theorem d_Sg_where_21 : decode M_Sg_where.2.1 21 = .ok (.aload_n 0, 1) := by decide +kernel
theorem d_Sg_where_22 : decode M_Sg_where.2.1 22 = .ok (.getfield 58, 3) := by decide +kernel
theorem d_Sg_where_25 : decode M_Sg_where.2.1 25 = .ok (.aload_n 0, 1) := by decide +kernel
theorem d_Sg_where_26 : decode M_Sg_where.2.1 26 = .ok (.getfield 26, 3) := by decide +kernel
theorem d_Sg_where_29 : decode M_Sg_where.2.1 29 = .ok (.aload_n 0, 1) := by decide +kernel
theorem d_Sg_where_30 : decode M_Sg_where.2.1 30 = .ok (.getfield 37, 3) := by decide +kernel
theorem d_Sg_where_33 : decode M_Sg_where.2.1 33 = .ok (.iload_n 2, 1) := by decide +kernel
theorem d_Sg_where_34 : decode M_Sg_where.2.1 34 = .ok (.invokevirtual 247, 3) := by decide +kernel
theorem d_Sg_where_37 : decode M_Sg_where.2.1 37 = .ok (.aload_n 0, 1) := by decide +kernel
theorem d_Sg_where_38 : decode M_Sg_where.2.1 38 = .ok (.getfield 58, 3) := by decide +kernel
theorem d_Sg_where_41 : decode M_Sg_where.2.1 41 = .ok (.getfield 206, 3) := by decide +kernel
theorem d_Sg_where_44 : decode M_Sg_where.2.1 44 = .ok (.getfield 162, 3) := by decide +kernel
theorem d_Sg_where_47 : decode M_Sg_where.2.1 47 = .ok (.iload_n 1, 1) := by decide +kernel
theorem d_Sg_where_48 : decode M_Sg_where.2.1 48 = .ok (.iaload, 1) := by decide +kernel
theorem d_Sg_where_49 : decode M_Sg_where.2.1 49 = .ok (.ireturn, 1) := by decide +kernel
theorem d_Sg_tell_0 : decode M_Sg_tell.2.1 0 = .ok (.aload_n 0, 1) := by decide +kernel
theorem d_Sg_tell_1 : decode M_Sg_tell.2.1 1 = .ok (.iload_n 1, 1) := by decide +kernel
theorem d_Sg_tell_2 : decode M_Sg_tell.2.1 2 = .ok (.invokevirtual 126, 3) := by decide +kernel
theorem d_Sg_tell_5 : decode M_Sg_tell.2.1 5 = .ok (.ifCond .eq 14, 3) := by decide +kernel
theorem d_Sg_tell_8 : decode M_Sg_tell.2.1 8 = .ok (.iload_n 2, 1) := by decide +kernel
theorem d_Sg_tell_9 : decode M_Sg_tell.2.1 9 = .ok (.ifCond .lt 10, 3) := by decide +kernel
theorem d_Sg_tell_12 : decode M_Sg_tell.2.1 12 = .ok (.iload_n 2, 1) := by decide +kernel
theorem d_Sg_tell_13 : decode M_Sg_tell.2.1 13 = .ok (.sipush 2000, 3) := by decide +kernel
theorem d_Sg_tell_16 : decode M_Sg_tell.2.1 16 = .ok (.if_icmp .le 5, 3) := by decide +kernel
theorem d_Sg_tell_19 : decode M_Sg_tell.2.1 19 = .ok (.iconst (-1), 1) := by decide +kernel
theorem d_Sg_tell_20 : decode M_Sg_tell.2.1 20 = .ok (.ireturn, 1) := by decide +kernel
theorem d_Sg_tell_21 : decode M_Sg_tell.2.1 21 = .ok (.aload_n 0, 1) := by decide +kernel
theorem d_Sg_tell_22 : decode M_Sg_tell.2.1 22 = .ok (.getfield 79, 3) := by decide +kernel
theorem d_Sg_tell_25 : decode M_Sg_tell.2.1 25 = .ok (.iload_n 1, 1) := by decide +kernel
theorem d_Sg_tell_26 : decode M_Sg_tell.2.1 26 = .ok (.iload_n 2, 1) := by decide +kernel
theorem d_Sg_tell_27 : decode M_Sg_tell.2.1 27 = .ok (.invokevirtual 280, 3) := by decide +kernel
theorem d_Sg_tell_30 : decode M_Sg_tell.2.1 30 = .ok (.ireturn, 1) := by decide +kernel
theorem d_Sg_forget_0 : decode M_Sg_forget.2.1 0 = .ok (.aload_n 0, 1) := by decide +kernel
theorem d_Sg_forget_1 : decode M_Sg_forget.2.1 1 = .ok (.getfield 79, 3) := by decide +kernel
theorem d_Sg_forget_4 : decode M_Sg_forget.2.1 4 = .ok (.getfield 283, 3) := by decide +kernel
theorem d_Sg_forget_7 : decode M_Sg_forget.2.1 7 = .ok (.istore_n 1, 1) := by decide +kernel
theorem d_Sg_forget_8 : decode M_Sg_forget.2.1 8 = .ok (.aload_n 0, 1) := by decide +kernel
theorem d_Sg_forget_9 : decode M_Sg_forget.2.1 9 = .ok (.getfield 79, 3) := by decide +kernel
theorem d_Sg_forget_12 : decode M_Sg_forget.2.1 12 = .ok (.invokevirtual 120, 3) := by decide +kernel
theorem d_Sg_forget_15 : decode M_Sg_forget.2.1 15 = .ok (.iload_n 1, 1) := by decide +kernel
theorem d_Sg_forget_16 : decode M_Sg_forget.2.1 16 = .ok (.ireturn, 1) := by decide +kernel
theorem d_Sg_tampered_0 : decode M_Sg_tampered.2.1 0 = .ok (.iload_n 1, 1) := by decide +kernel
theorem d_Sg_tampered_1 : decode M_Sg_tampered.2.1 1 = .ok (.iconst 1, 1) := by decide +kernel
theorem d_Sg_tampered_2 : decode M_Sg_tampered.2.1 2 = .ok (.if_icmp .lt 30, 3) := by decide +kernel
theorem d_Sg_tampered_5 : decode M_Sg_tampered.2.1 5 = .ok (.iload_n 1, 1) := by decide +kernel
theorem d_Sg_tampered_6 : decode M_Sg_tampered.2.1 6 = .ok (.sipush 200, 3) := by decide +kernel
theorem d_Sg_tampered_9 : decode M_Sg_tampered.2.1 9 = .ok (.if_icmp .gt 23, 3) := by decide +kernel
theorem d_Sg_tampered_12 : decode M_Sg_tampered.2.1 12 = .ok (.iload_n 2, 1) := by decide +kernel
theorem d_Sg_tampered_13 : decode M_Sg_tampered.2.1 13 = .ok (.ifCond .lt 19, 3) := by decide +kernel
theorem d_Sg_tampered_16 : decode M_Sg_tampered.2.1 16 = .ok (.iload_n 2, 1) := by decide +kernel
theorem d_Sg_tampered_17 : decode M_Sg_tampered.2.1 17 = .ok (.aload_n 0, 1) := by decide +kernel
theorem d_Sg_tampered_18 : decode M_Sg_tampered.2.1 18 = .ok (.getfield 79, 3) := by decide +kernel
theorem d_Sg_tampered_21 : decode M_Sg_tampered.2.1 21 = .ok (.getfield 283, 3) := by decide +kernel
theorem d_Sg_tampered_24 : decode M_Sg_tampered.2.1 24 = .ok (.if_icmp .gt 8, 3) := by decide +kernel
theorem d_Sg_tampered_27 : decode M_Sg_tampered.2.1 27 = .ok (.iload_n 3, 1) := by decide +kernel
theorem d_Sg_tampered_28 : decode M_Sg_tampered.2.1 28 = .ok (.iconst (-1), 1) := by decide +kernel
theorem d_Sg_tampered_29 : decode M_Sg_tampered.2.1 29 = .ok (.if_icmp .ge 5, 3) := by decide +kernel
theorem d_Sg_tampered_32 : decode M_Sg_tampered.2.1 32 = .ok (.iconst (-1), 1) := by decide +kernel
theorem d_Sg_tampered_33 : decode M_Sg_tampered.2.1 33 = .ok (.ireturn, 1) := by decide +kernel
theorem d_Sg_tampered_34 : decode M_Sg_tampered.2.1 34 = .ok (.aload_n 0, 1) := by decide +kernel
theorem d_Sg_tampered_35 : decode M_Sg_tampered.2.1 35 = .ok (.getfield 79, 3) := by decide +kernel
theorem d_Sg_tampered_38 : decode M_Sg_tampered.2.1 38 = .ok (.aload_n 0, 1) := by decide +kernel
theorem d_Sg_tampered_39 : decode M_Sg_tampered.2.1 39 = .ok (.getfield 26, 3) := by decide +kernel
theorem d_Sg_tampered_42 : decode M_Sg_tampered.2.1 42 = .ok (.aload_n 0, 1) := by decide +kernel
theorem d_Sg_tampered_43 : decode M_Sg_tampered.2.1 43 = .ok (.getfield 33, 3) := by decide +kernel
theorem d_Sg_tampered_46 : decode M_Sg_tampered.2.1 46 = .ok (.iload_n 1, 1) := by decide +kernel
theorem d_Sg_tampered_47 : decode M_Sg_tampered.2.1 47 = .ok (.iload_n 2, 1) := by decide +kernel
theorem d_Sg_tampered_48 : decode M_Sg_tampered.2.1 48 = .ok (.invokevirtual 286, 3) := by decide +kernel
theorem d_Sg_tampered_51 : decode M_Sg_tampered.2.1 51 = .ok (.iload_n 3, 1) := by decide +kernel
theorem d_Sg_tampered_52 : decode M_Sg_tampered.2.1 52 = .ok (.iconst (-1), 1) := by decide +kernel
theorem d_Sg_tampered_53 : decode M_Sg_tampered.2.1 53 = .ok (.if_icmp .ne 11, 3) := by decide +kernel
theorem d_Sg_tampered_56 : decode M_Sg_tampered.2.1 56 = .ok (.aload_n 0, 1) := by decide +kernel
theorem d_Sg_tampered_57 : decode M_Sg_tampered.2.1 57 = .ok (.getfield 79, 3) := by decide +kernel
theorem d_Sg_tampered_60 : decode M_Sg_tampered.2.1 60 = .ok (.getfield 289, 3) := by decide +kernel
theorem d_Sg_tampered_63 : decode M_Sg_tampered.2.1 63 = .ok (.ireturn, 1) := by decide +kernel
theorem d_Sg_tampered_64 : decode M_Sg_tampered.2.1 64 = .ok (.iload_n 3, 1) := by decide +kernel
theorem d_Sg_tampered_65 : decode M_Sg_tampered.2.1 65 = .ok (.aload_n 0, 1) := by decide +kernel
theorem d_Sg_tampered_66 : decode M_Sg_tampered.2.1 66 = .ok (.getfield 79, 3) := by decide +kernel
theorem d_Sg_tampered_69 : decode M_Sg_tampered.2.1 69 = .ok (.getfield 289, 3) := by decide +kernel
theorem d_Sg_tampered_72 : decode M_Sg_tampered.2.1 72 = .ok (.if_icmp .ge 15, 3) := by decide +kernel
theorem d_Sg_tampered_75 : decode M_Sg_tampered.2.1 75 = .ok (.aload_n 0, 1) := by decide +kernel
theorem d_Sg_tampered_76 : decode M_Sg_tampered.2.1 76 = .ok (.getfield 79, 3) := by decide +kernel
theorem d_Sg_tampered_79 : decode M_Sg_tampered.2.1 79 = .ok (.getfield 290, 3) := by decide +kernel
theorem d_Sg_tampered_82 : decode M_Sg_tampered.2.1 82 = .ok (.iload_n 3, 1) := by decide +kernel
theorem d_Sg_tampered_83 : decode M_Sg_tampered.2.1 83 = .ok (.iaload, 1) := by decide +kernel
theorem d_Sg_tampered_84 : decode M_Sg_tampered.2.1 84 = .ok (.goto 4, 3) := by decide +kernel
theorem d_Sg_tampered_87 : decode M_Sg_tampered.2.1 87 = .ok (.iconst (-1), 1) := by decide +kernel
theorem d_Sg_tampered_88 : decode M_Sg_tampered.2.1 88 = .ok (.ireturn, 1) := by decide +kernel
theorem d_Sg_hold_0 : decode M_Sg_hold.2.1 0 = .ok (.iload_n 1, 1) := by decide +kernel
theorem d_Sg_hold_1 : decode M_Sg_hold.2.1 1 = .ok (.ifCond .lt 8, 3) := by decide +kernel
theorem d_Sg_hold_4 : decode M_Sg_hold.2.1 4 = .ok (.iload_n 1, 1) := by decide +kernel
theorem d_Sg_hold_5 : decode M_Sg_hold.2.1 5 = .ok (.iconst 3, 1) := by decide +kernel
theorem d_Sg_hold_6 : decode M_Sg_hold.2.1 6 = .ok (.if_icmp .lt 5, 3) := by decide +kernel
theorem d_Sg_hold_9 : decode M_Sg_hold.2.1 9 = .ok (.iconst 0, 1) := by decide +kernel
theorem d_Sg_hold_10 : decode M_Sg_hold.2.1 10 = .ok (.ireturn, 1) := by decide +kernel
theorem d_Sg_hold_11 : decode M_Sg_hold.2.1 11 = .ok (.aload_n 0, 1) := by decide +kernel
theorem d_Sg_hold_12 : decode M_Sg_hold.2.1 12 = .ok (.getfield 47, 3) := by decide +kernel
theorem d_Sg_hold_15 : decode M_Sg_hold.2.1 15 = .ok (.iload_n 1, 1) := by decide +kernel
theorem d_Sg_hold_16 : decode M_Sg_hold.2.1 16 = .ok (.aaload, 1) := by decide +kernel
theorem d_Sg_hold_17 : decode M_Sg_hold.2.1 17 = .ok (.aload_n 0, 1) := by decide +kernel
theorem d_Sg_hold_18 : decode M_Sg_hold.2.1 18 = .ok (.getfield 37, 3) := by decide +kernel
theorem d_Sg_hold_21 : decode M_Sg_hold.2.1 21 = .ok (.invokevirtual 116, 3) := by decide +kernel
theorem d_Sg_hold_24 : decode M_Sg_hold.2.1 24 = .ok (.aload_n 0, 1) := by decide +kernel
theorem d_Sg_hold_25 : decode M_Sg_hold.2.1 25 = .ok (.getfield 51, 3) := by decide +kernel
theorem d_Sg_hold_28 : decode M_Sg_hold.2.1 28 = .ok (.iload_n 1, 1) := by decide +kernel
theorem d_Sg_hold_29 : decode M_Sg_hold.2.1 29 = .ok (.iconst 1, 1) := by decide +kernel
theorem d_Sg_hold_30 : decode M_Sg_hold.2.1 30 = .ok (.bastore, 1) := by decide +kernel
theorem d_Sg_hold_31 : decode M_Sg_hold.2.1 31 = .ok (.iconst 1, 1) := by decide +kernel
theorem d_Sg_hold_32 : decode M_Sg_hold.2.1 32 = .ok (.ireturn, 1) := by decide +kernel
theorem d_Sg_restore_0 : decode M_Sg_restore.2.1 0 = .ok (.iload_n 1, 1) := by decide +kernel
theorem d_Sg_restore_1 : decode M_Sg_restore.2.1 1 = .ok (.ifCond .lt 17, 3) := by decide +kernel
theorem d_Sg_restore_4 : decode M_Sg_restore.2.1 4 = .ok (.iload_n 1, 1) := by decide +kernel
theorem d_Sg_restore_5 : decode M_Sg_restore.2.1 5 = .ok (.iconst 3, 1) := by decide +kernel
theorem d_Sg_restore_6 : decode M_Sg_restore.2.1 6 = .ok (.if_icmp .ge 12, 3) := by decide +kernel
theorem d_Sg_restore_9 : decode M_Sg_restore.2.1 9 = .ok (.aload_n 0, 1) := by decide +kernel
theorem d_Sg_restore_10 : decode M_Sg_restore.2.1 10 = .ok (.getfield 51, 3) := by decide +kernel
theorem d_Sg_restore_13 : decode M_Sg_restore.2.1 13 = .ok (.iload_n 1, 1) := by decide +kernel
theorem d_Sg_restore_14 : decode M_Sg_restore.2.1 14 = .ok (.baload, 1) := by decide +kernel
theorem d_Sg_restore_15 : decode M_Sg_restore.2.1 15 = .ok (.ifCond .ne 5, 3) := by decide +kernel
theorem d_Sg_restore_18 : decode M_Sg_restore.2.1 18 = .ok (.iconst 0, 1) := by decide +kernel
theorem d_Sg_restore_19 : decode M_Sg_restore.2.1 19 = .ok (.ireturn, 1) := by decide +kernel
theorem d_Sg_restore_20 : decode M_Sg_restore.2.1 20 = .ok (.aload_n 0, 1) := by decide +kernel
theorem d_Sg_restore_21 : decode M_Sg_restore.2.1 21 = .ok (.getfield 37, 3) := by decide +kernel
theorem d_Sg_restore_24 : decode M_Sg_restore.2.1 24 = .ok (.aload_n 0, 1) := by decide +kernel
theorem d_Sg_restore_25 : decode M_Sg_restore.2.1 25 = .ok (.getfield 47, 3) := by decide +kernel
theorem d_Sg_restore_28 : decode M_Sg_restore.2.1 28 = .ok (.iload_n 1, 1) := by decide +kernel
theorem d_Sg_restore_29 : decode M_Sg_restore.2.1 29 = .ok (.aaload, 1) := by decide +kernel
theorem d_Sg_restore_30 : decode M_Sg_restore.2.1 30 = .ok (.invokevirtual 116, 3) := by decide +kernel
theorem d_Sg_restore_33 : decode M_Sg_restore.2.1 33 = .ok (.aload_n 0, 1) := by decide +kernel
theorem d_Sg_restore_34 : decode M_Sg_restore.2.1 34 = .ok (.getfield 43, 3) := by decide +kernel
theorem d_Sg_restore_37 : decode M_Sg_restore.2.1 37 = .ok (.iconst 0, 1) := by decide +kernel
theorem d_Sg_restore_38 : decode M_Sg_restore.2.1 38 = .ok (.putfield 119, 3) := by decide +kernel
theorem d_Sg_restore_41 : decode M_Sg_restore.2.1 41 = .ok (.aload_n 0, 1) := by decide +kernel
theorem d_Sg_restore_42 : decode M_Sg_restore.2.1 42 = .ok (.invokevirtual 123, 3) := by decide +kernel
theorem d_Sg_restore_45 : decode M_Sg_restore.2.1 45 = .ok (.iconst 1, 1) := by decide +kernel
theorem d_Sg_restore_46 : decode M_Sg_restore.2.1 46 = .ok (.ireturn, 1) := by decide +kernel
theorem d_Sg_count_0 : decode M_Sg_count.2.1 0 = .ok (.iload_n 1, 1) := by decide +kernel
theorem d_Sg_count_1 : decode M_Sg_count.2.1 1 = .ok (.tableswitch 186 0 12 #[67, 75, 83, 91, 99, 114, 122, 130, 145, 153, 161, 169, 174], 67) := by decide +kernel
theorem d_Sg_count_68 : decode M_Sg_count.2.1 68 = .ok (.aload_n 0, 1) := by decide +kernel
theorem d_Sg_count_69 : decode M_Sg_count.2.1 69 = .ok (.getfield 26, 3) := by decide +kernel
theorem d_Sg_count_72 : decode M_Sg_count.2.1 72 = .ok (.getfield 244, 3) := by decide +kernel
theorem d_Sg_count_75 : decode M_Sg_count.2.1 75 = .ok (.ireturn, 1) := by decide +kernel
theorem d_Sg_count_76 : decode M_Sg_count.2.1 76 = .ok (.aload_n 0, 1) := by decide +kernel
theorem d_Sg_count_77 : decode M_Sg_count.2.1 77 = .ok (.getfield 26, 3) := by decide +kernel
theorem d_Sg_count_80 : decode M_Sg_count.2.1 80 = .ok (.getfield 241, 3) := by decide +kernel
theorem d_Sg_count_83 : decode M_Sg_count.2.1 83 = .ok (.ireturn, 1) := by decide +kernel
theorem d_Sg_count_84 : decode M_Sg_count.2.1 84 = .ok (.aload_n 0, 1) := by decide +kernel
theorem d_Sg_count_85 : decode M_Sg_count.2.1 85 = .ok (.getfield 37, 3) := by decide +kernel
theorem d_Sg_count_88 : decode M_Sg_count.2.1 88 = .ok (.getfield 145, 3) := by decide +kernel
theorem d_Sg_count_91 : decode M_Sg_count.2.1 91 = .ok (.ireturn, 1) := by decide +kernel
theorem d_Sg_count_92 : decode M_Sg_count.2.1 92 = .ok (.aload_n 0, 1) := by decide +kernel
theorem d_Sg_count_93 : decode M_Sg_count.2.1 93 = .ok (.getfield 37, 3) := by decide +kernel
theorem d_Sg_count_96 : decode M_Sg_count.2.1 96 = .ok (.getfield 293, 3) := by decide +kernel
theorem d_Sg_count_99 : decode M_Sg_count.2.1 99 = .ok (.ireturn, 1) := by decide +kernel
theorem d_Sg_count_100 : decode M_Sg_count.2.1 100 = .ok (.aload_n 0, 1) := by decide +kernel
theorem d_Sg_count_101 : decode M_Sg_count.2.1 101 = .ok (.getfield 37, 3) := by decide +kernel
theorem d_Sg_count_104 : decode M_Sg_count.2.1 104 = .ok (.aload_n 0, 1) := by decide +kernel
theorem d_Sg_count_105 : decode M_Sg_count.2.1 105 = .ok (.getfield 26, 3) := by decide +kernel
theorem d_Sg_count_108 : decode M_Sg_count.2.1 108 = .ok (.getfield 244, 3) := by decide +kernel
theorem d_Sg_count_111 : decode M_Sg_count.2.1 111 = .ok (.invokevirtual 296, 3) := by decide +kernel
theorem d_Sg_count_114 : decode M_Sg_count.2.1 114 = .ok (.ireturn, 1) := by decide +kernel
theorem d_Sg_count_115 : decode M_Sg_count.2.1 115 = .ok (.aload_n 0, 1) := by decide +kernel
theorem d_Sg_count_116 : decode M_Sg_count.2.1 116 = .ok (.getfield 26, 3) := by decide +kernel
theorem d_Sg_count_119 : decode M_Sg_count.2.1 119 = .ok (.getfield 299, 3) := by decide +kernel
theorem d_Sg_count_122 : decode M_Sg_count.2.1 122 = .ok (.ireturn, 1) := by decide +kernel
theorem d_Sg_count_123 : decode M_Sg_count.2.1 123 = .ok (.aload_n 0, 1) := by decide +kernel
theorem d_Sg_count_124 : decode M_Sg_count.2.1 124 = .ok (.getfield 26, 3) := by decide +kernel
theorem d_Sg_count_127 : decode M_Sg_count.2.1 127 = .ok (.getfield 302, 3) := by decide +kernel
theorem d_Sg_count_130 : decode M_Sg_count.2.1 130 = .ok (.ireturn, 1) := by decide +kernel
theorem d_Sg_count_131 : decode M_Sg_count.2.1 131 = .ok (.aload_n 0, 1) := by decide +kernel
theorem d_Sg_count_132 : decode M_Sg_count.2.1 132 = .ok (.getfield 37, 3) := by decide +kernel
theorem d_Sg_count_135 : decode M_Sg_count.2.1 135 = .ok (.aload_n 0, 1) := by decide +kernel
theorem d_Sg_count_136 : decode M_Sg_count.2.1 136 = .ok (.getfield 26, 3) := by decide +kernel
theorem d_Sg_count_139 : decode M_Sg_count.2.1 139 = .ok (.getfield 244, 3) := by decide +kernel
theorem d_Sg_count_142 : decode M_Sg_count.2.1 142 = .ok (.invokevirtual 305, 3) := by decide +kernel
theorem d_Sg_count_145 : decode M_Sg_count.2.1 145 = .ok (.ireturn, 1) := by decide +kernel
theorem d_Sg_count_146 : decode M_Sg_count.2.1 146 = .ok (.aload_n 0, 1) := by decide +kernel
theorem d_Sg_count_147 : decode M_Sg_count.2.1 147 = .ok (.getfield 10, 3) := by decide +kernel
theorem d_Sg_count_150 : decode M_Sg_count.2.1 150 = .ok (.getfield 95, 3) := by decide +kernel
theorem d_Sg_count_153 : decode M_Sg_count.2.1 153 = .ok (.ireturn, 1) := by decide +kernel
theorem d_Sg_count_154 : decode M_Sg_count.2.1 154 = .ok (.aload_n 0, 1) := by decide +kernel
theorem d_Sg_count_155 : decode M_Sg_count.2.1 155 = .ok (.getfield 43, 3) := by decide +kernel
theorem d_Sg_count_158 : decode M_Sg_count.2.1 158 = .ok (.getfield 119, 3) := by decide +kernel
theorem d_Sg_count_161 : decode M_Sg_count.2.1 161 = .ok (.ireturn, 1) := by decide +kernel
theorem d_Sg_count_162 : decode M_Sg_count.2.1 162 = .ok (.aload_n 0, 1) := by decide +kernel
theorem d_Sg_count_163 : decode M_Sg_count.2.1 163 = .ok (.getfield 79, 3) := by decide +kernel
theorem d_Sg_count_166 : decode M_Sg_count.2.1 166 = .ok (.getfield 283, 3) := by decide +kernel
theorem d_Sg_count_169 : decode M_Sg_count.2.1 169 = .ok (.ireturn, 1) := by decide +kernel
theorem d_Sg_count_170 : decode M_Sg_count.2.1 170 = .ok (.aload_n 0, 1) := by decide +kernel
theorem d_Sg_count_171 : decode M_Sg_count.2.1 171 = .ok (.invokevirtual 308, 3) := by decide +kernel
theorem d_Sg_count_174 : decode M_Sg_count.2.1 174 = .ok (.ireturn, 1) := by decide +kernel
theorem d_Sg_count_175 : decode M_Sg_count.2.1 175 = .ok (.aload_n 0, 1) := by decide +kernel
theorem d_Sg_count_176 : decode M_Sg_count.2.1 176 = .ok (.getfield 37, 3) := by decide +kernel
theorem d_Sg_count_179 : decode M_Sg_count.2.1 179 = .ok (.aload_n 0, 1) := by decide +kernel
theorem d_Sg_count_180 : decode M_Sg_count.2.1 180 = .ok (.getfield 26, 3) := by decide +kernel
theorem d_Sg_count_183 : decode M_Sg_count.2.1 183 = .ok (.invokevirtual 312, 3) := by decide +kernel
theorem d_Sg_count_186 : decode M_Sg_count.2.1 186 = .ok (.ireturn, 1) := by decide +kernel
theorem d_Sg_count_187 : decode M_Sg_count.2.1 187 = .ok (.iconst (-1), 1) := by decide +kernel
theorem d_Sg_count_188 : decode M_Sg_count.2.1 188 = .ok (.ireturn, 1) := by decide +kernel
theorem d_Sg_slotsHeld_0 : decode M_Sg_slotsHeld.2.1 0 = .ok (.iconst 0, 1) := by decide +kernel
theorem d_Sg_slotsHeld_1 : decode M_Sg_slotsHeld.2.1 1 = .ok (.istore_n 1, 1) := by decide +kernel
theorem d_Sg_slotsHeld_2 : decode M_Sg_slotsHeld.2.1 2 = .ok (.iconst 0, 1) := by decide +kernel
theorem d_Sg_slotsHeld_3 : decode M_Sg_slotsHeld.2.1 3 = .ok (.istore_n 2, 1) := by decide +kernel
theorem d_Sg_slotsHeld_4 : decode M_Sg_slotsHeld.2.1 4 = .ok (.iload_n 2, 1) := by decide +kernel
theorem d_Sg_slotsHeld_5 : decode M_Sg_slotsHeld.2.1 5 = .ok (.iconst 3, 1) := by decide +kernel
theorem d_Sg_slotsHeld_6 : decode M_Sg_slotsHeld.2.1 6 = .ok (.if_icmp .ge 26, 3) := by decide +kernel
theorem d_Sg_slotsHeld_9 : decode M_Sg_slotsHeld.2.1 9 = .ok (.iload_n 1, 1) := by decide +kernel
theorem d_Sg_slotsHeld_10 : decode M_Sg_slotsHeld.2.1 10 = .ok (.aload_n 0, 1) := by decide +kernel
theorem d_Sg_slotsHeld_11 : decode M_Sg_slotsHeld.2.1 11 = .ok (.getfield 51, 3) := by decide +kernel
theorem d_Sg_slotsHeld_14 : decode M_Sg_slotsHeld.2.1 14 = .ok (.iload_n 2, 1) := by decide +kernel
theorem d_Sg_slotsHeld_15 : decode M_Sg_slotsHeld.2.1 15 = .ok (.baload, 1) := by decide +kernel
theorem d_Sg_slotsHeld_16 : decode M_Sg_slotsHeld.2.1 16 = .ok (.ifCond .eq 7, 3) := by decide +kernel
theorem d_Sg_slotsHeld_19 : decode M_Sg_slotsHeld.2.1 19 = .ok (.iconst 1, 1) := by decide +kernel
theorem d_Sg_slotsHeld_20 : decode M_Sg_slotsHeld.2.1 20 = .ok (.goto 4, 3) := by decide +kernel
theorem d_Sg_slotsHeld_23 : decode M_Sg_slotsHeld.2.1 23 = .ok (.iconst 0, 1) := by decide +kernel
theorem d_Sg_slotsHeld_24 : decode M_Sg_slotsHeld.2.1 24 = .ok (.iadd, 1) := by decide +kernel
theorem d_Sg_slotsHeld_25 : decode M_Sg_slotsHeld.2.1 25 = .ok (.istore_n 1, 1) := by decide +kernel
theorem d_Sg_slotsHeld_26 : decode M_Sg_slotsHeld.2.1 26 = .ok (.iinc 2 1, 3) := by decide +kernel
theorem d_Sg_slotsHeld_29 : decode M_Sg_slotsHeld.2.1 29 = .ok (.goto (-25), 3) := by decide +kernel
theorem d_Sg_slotsHeld_32 : decode M_Sg_slotsHeld.2.1 32 = .ok (.iload_n 1, 1) := by decide +kernel
theorem d_Sg_slotsHeld_33 : decode M_Sg_slotsHeld.2.1 33 = .ok (.ireturn, 1) := by decide +kernel
theorem d_Sg_isPost_0 : decode M_Sg_isPost.2.1 0 = .ok (.iload_n 1, 1) := by decide +kernel
theorem d_Sg_isPost_1 : decode M_Sg_isPost.2.1 1 = .ok (.ifCond .lt 18, 3) := by decide +kernel
theorem d_Sg_isPost_4 : decode M_Sg_isPost.2.1 4 = .ok (.iload_n 1, 1) := by decide +kernel
theorem d_Sg_isPost_5 : decode M_Sg_isPost.2.1 5 = .ok (.aload_n 0, 1) := by decide +kernel
theorem d_Sg_isPost_6 : decode M_Sg_isPost.2.1 6 = .ok (.getfield 26, 3) := by decide +kernel
theorem d_Sg_isPost_9 : decode M_Sg_isPost.2.1 9 = .ok (.getfield 244, 3) := by decide +kernel
theorem d_Sg_isPost_12 : decode M_Sg_isPost.2.1 12 = .ok (.if_icmp .ge 7, 3) := by decide +kernel
theorem d_Sg_isPost_15 : decode M_Sg_isPost.2.1 15 = .ok (.iconst 1, 1) := by decide +kernel
theorem d_Sg_isPost_16 : decode M_Sg_isPost.2.1 16 = .ok (.goto 4, 3) := by decide +kernel
theorem d_Sg_isPost_19 : decode M_Sg_isPost.2.1 19 = .ok (.iconst 0, 1) := by decide +kernel
theorem d_Sg_isPost_20 : decode M_Sg_isPost.2.1 20 = .ok (.ireturn, 1) := by decide +kernel
theorem d_Sg_isGuard_0 : decode M_Sg_isGuard.2.1 0 = .ok (.iload_n 1, 1) := by decide +kernel
theorem d_Sg_isGuard_1 : decode M_Sg_isGuard.2.1 1 = .ok (.ifCond .lt 18, 3) := by decide +kernel
theorem d_Sg_isGuard_4 : decode M_Sg_isGuard.2.1 4 = .ok (.iload_n 1, 1) := by decide +kernel
theorem d_Sg_isGuard_5 : decode M_Sg_isGuard.2.1 5 = .ok (.aload_n 0, 1) := by decide +kernel
theorem d_Sg_isGuard_6 : decode M_Sg_isGuard.2.1 6 = .ok (.getfield 26, 3) := by decide +kernel
theorem d_Sg_isGuard_9 : decode M_Sg_isGuard.2.1 9 = .ok (.getfield 241, 3) := by decide +kernel
theorem d_Sg_isGuard_12 : decode M_Sg_isGuard.2.1 12 = .ok (.if_icmp .ge 7, 3) := by decide +kernel
theorem d_Sg_isGuard_15 : decode M_Sg_isGuard.2.1 15 = .ok (.iconst 1, 1) := by decide +kernel
theorem d_Sg_isGuard_16 : decode M_Sg_isGuard.2.1 16 = .ok (.goto 4, 3) := by decide +kernel
theorem d_Sg_isGuard_19 : decode M_Sg_isGuard.2.1 19 = .ok (.iconst 0, 1) := by decide +kernel
theorem d_Sg_isGuard_20 : decode M_Sg_isGuard.2.1 20 = .ok (.ireturn, 1) := by decide +kernel
theorem d_Sg_beginThing_0 : decode M_Sg_beginThing.2.1 0 = .ok (.aload_n 0, 1) := by decide +kernel
theorem d_Sg_beginThing_1 : decode M_Sg_beginThing.2.1 1 = .ok (.getfield 43, 3) := by decide +kernel
theorem d_Sg_beginThing_4 : decode M_Sg_beginThing.2.1 4 = .ok (.aload_n 0, 1) := by decide +kernel
theorem d_Sg_beginThing_5 : decode M_Sg_beginThing.2.1 5 = .ok (.getfield 37, 3) := by decide +kernel
theorem d_Sg_beginThing_8 : decode M_Sg_beginThing.2.1 8 = .ok (.invokevirtual 315, 3) := by decide +kernel
theorem d_Sg_beginThing_11 : decode M_Sg_beginThing.2.1 11 = .ok (.aload_n 0, 1) := by decide +kernel
theorem d_Sg_beginThing_12 : decode M_Sg_beginThing.2.1 12 = .ok (.invokevirtual 123, 3) := by decide +kernel
theorem d_Sg_beginThing_15 : decode M_Sg_beginThing.2.1 15 = .ok (.return_, 1) := by decide +kernel
theorem d_Sg_noteChange_0 : decode M_Sg_noteChange.2.1 0 = .ok (.aload_n 0, 1) := by decide +kernel
theorem d_Sg_noteChange_1 : decode M_Sg_noteChange.2.1 1 = .ok (.getfield 65, 3) := by decide +kernel
theorem d_Sg_noteChange_4 : decode M_Sg_noteChange.2.1 4 = .ok (.invokevirtual 318, 3) := by decide +kernel
theorem d_Sg_noteChange_7 : decode M_Sg_noteChange.2.1 7 = .ok (.aload_n 0, 1) := by decide +kernel
theorem d_Sg_noteChange_8 : decode M_Sg_noteChange.2.1 8 = .ok (.getfield 72, 3) := by decide +kernel
theorem d_Sg_noteChange_11 : decode M_Sg_noteChange.2.1 11 = .ok (.iconst 0, 1) := by decide +kernel
theorem d_Sg_noteChange_12 : decode M_Sg_noteChange.2.1 12 = .ok (.putfield 321, 3) := by decide +kernel
theorem d_Sg_noteChange_15 : decode M_Sg_noteChange.2.1 15 = .ok (.return_, 1) := by decide +kernel
