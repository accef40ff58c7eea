/-! what stands at each place of the code (written by wip/gen/gen10.py) -/
theorem d_Ca_init_0 : decode M_Ca_init.2.1 0 = .ok (.aload_n 0, 1) := by decide +kernel
theorem d_Ca_init_1 : decode M_Ca_init.2.1 1 = .ok (.invokespecial 3, 3) := by decide +kernel
theorem d_Ca_init_4 : decode M_Ca_init.2.1 4 = .ok (.aload_n 0, 1) := by decide +kernel
theorem d_Ca_init_5 : decode M_Ca_init.2.1 5 = .ok (.bipush 8, 2) := by decide +kernel
theorem d_Ca_init_7 : decode M_Ca_init.2.1 7 = .ok (.newarray .int, 2) := by decide +kernel
theorem d_Ca_init_9 : decode M_Ca_init.2.1 9 = .ok (.putfield 9, 3) := by decide +kernel
theorem d_Ca_init_12 : decode M_Ca_init.2.1 12 = .ok (.aload_n 0, 1) := by decide +kernel
theorem d_Ca_init_13 : decode M_Ca_init.2.1 13 = .ok (.bipush 8, 2) := by decide +kernel
theorem d_Ca_init_15 : decode M_Ca_init.2.1 15 = .ok (.newarray .int, 2) := by decide +kernel
theorem d_Ca_init_17 : decode M_Ca_init.2.1 17 = .ok (.putfield 15, 3) := by decide +kernel
theorem d_Ca_init_20 : decode M_Ca_init.2.1 20 = .ok (.aload_n 0, 1) := by decide +kernel
theorem d_Ca_init_21 : decode M_Ca_init.2.1 21 = .ok (.bipush 8, 2) := by decide +kernel
theorem d_Ca_init_23 : decode M_Ca_init.2.1 23 = .ok (.newarray .int, 2) := by decide +kernel
theorem d_Ca_init_25 : decode M_Ca_init.2.1 25 = .ok (.putfield 18, 3) := by decide +kernel
theorem d_Ca_init_28 : decode M_Ca_init.2.1 28 = .ok (.aload_n 0, 1) := by decide +kernel
theorem d_Ca_init_29 : decode M_Ca_init.2.1 29 = .ok (.bipush 8, 2) := by decide +kernel
theorem d_Ca_init_31 : decode M_Ca_init.2.1 31 = .ok (.newarray .boolean, 2) := by decide +kernel
theorem d_Ca_init_33 : decode M_Ca_init.2.1 33 = .ok (.putfield 21, 3) := by decide +kernel
theorem d_Ca_init_36 : decode M_Ca_init.2.1 36 = .ok (.aload_n 0, 1) := by decide +kernel
theorem d_Ca_init_37 : decode M_Ca_init.2.1 37 = .ok (.bipush 8, 2) := by decide +kernel
theorem d_Ca_init_39 : decode M_Ca_init.2.1 39 = .ok (.newarray .int, 2) := by decide +kernel
theorem d_Ca_init_41 : decode M_Ca_init.2.1 41 = .ok (.putfield 25, 3) := by decide +kernel
theorem d_Ca_init_44 : decode M_Ca_init.2.1 44 = .ok (.aload_n 0, 1) := by decide +kernel
theorem d_Ca_init_45 : decode M_Ca_init.2.1 45 = .ok (.bipush 8, 2) := by decide +kernel
theorem d_Ca_init_47 : decode M_Ca_init.2.1 47 = .ok (.newarray .int, 2) := by decide +kernel
theorem d_Ca_init_49 : decode M_Ca_init.2.1 49 = .ok (.putfield 28, 3) := by decide +kernel
theorem d_Ca_init_52 : decode M_Ca_init.2.1 52 = .ok (.aload_n 0, 1) := by decide +kernel
theorem d_Ca_init_53 : decode M_Ca_init.2.1 53 = .ok (.bipush 12, 2) := by decide +kernel
theorem d_Ca_init_55 : decode M_Ca_init.2.1 55 = .ok (.newarray .int, 2) := by decide +kernel
theorem d_Ca_init_57 : decode M_Ca_init.2.1 57 = .ok (.putfield 31, 3) := by decide +kernel
theorem d_Ca_init_60 : decode M_Ca_init.2.1 60 = .ok (.aload_n 0, 1) := by decide +kernel
theorem d_Ca_init_61 : decode M_Ca_init.2.1 61 = .ok (.bipush 12, 2) := by decide +kernel
theorem d_Ca_init_63 : decode M_Ca_init.2.1 63 = .ok (.newarray .int, 2) := by decide +kernel
theorem d_Ca_init_65 : decode M_Ca_init.2.1 65 = .ok (.putfield 34, 3) := by decide +kernel
theorem d_Ca_init_68 : decode M_Ca_init.2.1 68 = .ok (.aload_n 0, 1) := by decide +kernel
theorem d_Ca_init_69 : decode M_Ca_init.2.1 69 = .ok (.bipush 12, 2) := by decide +kernel
theorem d_Ca_init_71 : decode M_Ca_init.2.1 71 = .ok (.newarray .int, 2) := by decide +kernel
theorem d_Ca_init_73 : decode M_Ca_init.2.1 73 = .ok (.putfield 37, 3) := by decide +kernel
theorem d_Ca_init_76 : decode M_Ca_init.2.1 76 = .ok (.aload_n 0, 1) := by decide +kernel
theorem d_Ca_init_77 : decode M_Ca_init.2.1 77 = .ok (.bipush 12, 2) := by decide +kernel
theorem d_Ca_init_79 : decode M_Ca_init.2.1 79 = .ok (.newarray .int, 2) := by decide +kernel
theorem d_Ca_init_81 : decode M_Ca_init.2.1 81 = .ok (.putfield 40, 3) := by decide +kernel
theorem d_Ca_init_84 : decode M_Ca_init.2.1 84 = .ok (.aload_n 0, 1) := by decide +kernel
theorem d_Ca_init_85 : decode M_Ca_init.2.1 85 = .ok (.bipush 12, 2) := by decide +kernel
theorem d_Ca_init_87 : decode M_Ca_init.2.1 87 = .ok (.newarray .int, 2) := by decide +kernel
theorem d_Ca_init_89 : decode M_Ca_init.2.1 89 = .ok (.putfield 43, 3) := by decide +kernel
theorem d_Ca_init_92 : decode M_Ca_init.2.1 92 = .ok (.aload_n 0, 1) := by decide +kernel
theorem d_Ca_init_93 : decode M_Ca_init.2.1 93 = .ok (.bipush 8, 2) := by decide +kernel
theorem d_Ca_init_95 : decode M_Ca_init.2.1 95 = .ok (.newarray .int, 2) := by decide +kernel
theorem d_Ca_init_97 : decode M_Ca_init.2.1 97 = .ok (.putfield 46, 3) := by decide +kernel
theorem d_Ca_init_100 : decode M_Ca_init.2.1 100 = .ok (.aload_n 0, 1) := by decide +kernel
theorem d_Ca_init_101 : decode M_Ca_init.2.1 101 = .ok (.invokevirtual 49, 3) := by decide +kernel
theorem d_Ca_init_104 : decode M_Ca_init.2.1 104 = .ok (.return_, 1) := by decide +kernel
theorem d_Ca_leaveAll_0 : decode M_Ca_leaveAll.2.1 0 = .ok (.iconst 0, 1) := by decide +kernel
theorem d_Ca_leaveAll_1 : decode M_Ca_leaveAll.2.1 1 = .ok (.istore_n 1, 1) := by decide +kernel
theorem d_Ca_leaveAll_2 : decode M_Ca_leaveAll.2.1 2 = .ok (.iload_n 1, 1) := by decide +kernel
theorem d_Ca_leaveAll_3 : decode M_Ca_leaveAll.2.1 3 = .ok (.bipush 8, 2) := by decide +kernel
theorem d_Ca_leaveAll_5 : decode M_Ca_leaveAll.2.1 5 = .ok (.if_icmp .ge 17, 3) := by decide +kernel
theorem d_Ca_leaveAll_8 : decode M_Ca_leaveAll.2.1 8 = .ok (.aload_n 0, 1) := by decide +kernel
theorem d_Ca_leaveAll_9 : decode M_Ca_leaveAll.2.1 9 = .ok (.getfield 18, 3) := by decide +kernel
theorem d_Ca_leaveAll_12 : decode M_Ca_leaveAll.2.1 12 = .ok (.iload_n 1, 1) := by decide +kernel
theorem d_Ca_leaveAll_13 : decode M_Ca_leaveAll.2.1 13 = .ok (.bipush (-2), 2) := by decide +kernel
theorem d_Ca_leaveAll_15 : decode M_Ca_leaveAll.2.1 15 = .ok (.iastore, 1) := by decide +kernel
theorem d_Ca_leaveAll_16 : decode M_Ca_leaveAll.2.1 16 = .ok (.iinc 1 1, 3) := by decide +kernel
theorem d_Ca_leaveAll_19 : decode M_Ca_leaveAll.2.1 19 = .ok (.goto (-17), 3) := by decide +kernel
theorem d_Ca_leaveAll_22 : decode M_Ca_leaveAll.2.1 22 = .ok (.iconst 0, 1) := by decide +kernel
theorem d_Ca_leaveAll_23 : decode M_Ca_leaveAll.2.1 23 = .ok (.istore_n 1, 1) := by decide +kernel
theorem d_Ca_leaveAll_24 : decode M_Ca_leaveAll.2.1 24 = .ok (.iload_n 1, 1) := by decide +kernel
theorem d_Ca_leaveAll_25 : decode M_Ca_leaveAll.2.1 25 = .ok (.bipush 12, 2) := by decide +kernel
theorem d_Ca_leaveAll_27 : decode M_Ca_leaveAll.2.1 27 = .ok (.if_icmp .ge 17, 3) := by decide +kernel
theorem d_Ca_leaveAll_30 : decode M_Ca_leaveAll.2.1 30 = .ok (.aload_n 0, 1) := by decide +kernel
theorem d_Ca_leaveAll_31 : decode M_Ca_leaveAll.2.1 31 = .ok (.getfield 31, 3) := by decide +kernel
theorem d_Ca_leaveAll_34 : decode M_Ca_leaveAll.2.1 34 = .ok (.iload_n 1, 1) := by decide +kernel
theorem d_Ca_leaveAll_35 : decode M_Ca_leaveAll.2.1 35 = .ok (.bipush (-2), 2) := by decide +kernel
theorem d_Ca_leaveAll_37 : decode M_Ca_leaveAll.2.1 37 = .ok (.iastore, 1) := by decide +kernel
theorem d_Ca_leaveAll_38 : decode M_Ca_leaveAll.2.1 38 = .ok (.iinc 1 1, 3) := by decide +kernel
theorem d_Ca_leaveAll_41 : decode M_Ca_leaveAll.2.1 41 = .ok (.goto (-17), 3) := by decide +kernel
theorem d_Ca_leaveAll_44 : decode M_Ca_leaveAll.2.1 44 = .ok (.aload_n 0, 1) := by decide +kernel
theorem d_Ca_leaveAll_45 : decode M_Ca_leaveAll.2.1 45 = .ok (.iconst 0, 1) := by decide +kernel
theorem d_Ca_leaveAll_46 : decode M_Ca_leaveAll.2.1 46 = .ok (.putfield 52, 3) := by decide +kernel
theorem d_Ca_leaveAll_49 : decode M_Ca_leaveAll.2.1 49 = .ok (.return_, 1) := by decide +kernel
theorem d_Ca_copyFrom_0 : decode M_Ca_copyFrom.2.1 0 = .ok (.aload_n 1, 1) := by decide +kernel
theorem d_Ca_copyFrom_1 : decode M_Ca_copyFrom.2.1 1 = .ok (.getfield 9, 3) := by decide +kernel
theorem d_Ca_copyFrom_4 : decode M_Ca_copyFrom.2.1 4 = .ok (.iconst 0, 1) := by decide +kernel
theorem d_Ca_copyFrom_5 : decode M_Ca_copyFrom.2.1 5 = .ok (.aload_n 0, 1) := by decide +kernel
theorem d_Ca_copyFrom_6 : decode M_Ca_copyFrom.2.1 6 = .ok (.getfield 9, 3) := by decide +kernel
theorem d_Ca_copyFrom_9 : decode M_Ca_copyFrom.2.1 9 = .ok (.iconst 0, 1) := by decide +kernel
theorem d_Ca_copyFrom_10 : decode M_Ca_copyFrom.2.1 10 = .ok (.bipush 8, 2) := by decide +kernel
theorem d_Ca_copyFrom_12 : decode M_Ca_copyFrom.2.1 12 = .ok (.invokestatic 56, 3) := by decide +kernel
theorem d_Ca_copyFrom_15 : decode M_Ca_copyFrom.2.1 15 = .ok (.aload_n 1, 1) := by decide +kernel
theorem d_Ca_copyFrom_16 : decode M_Ca_copyFrom.2.1 16 = .ok (.getfield 15, 3) := by decide +kernel
theorem d_Ca_copyFrom_19 : decode M_Ca_copyFrom.2.1 19 = .ok (.iconst 0, 1) := by decide +kernel
theorem d_Ca_copyFrom_20 : decode M_Ca_copyFrom.2.1 20 = .ok (.aload_n 0, 1) := by decide +kernel
theorem d_Ca_copyFrom_21 : decode M_Ca_copyFrom.2.1 21 = .ok (.getfield 15, 3) := by decide +kernel
theorem d_Ca_copyFrom_24 : decode M_Ca_copyFrom.2.1 24 = .ok (.iconst 0, 1) := by decide +kernel
theorem d_Ca_copyFrom_25 : decode M_Ca_copyFrom.2.1 25 = .ok (.bipush 8, 2) := by decide +kernel
theorem d_Ca_copyFrom_27 : decode M_Ca_copyFrom.2.1 27 = .ok (.invokestatic 56, 3) := by decide +kernel
theorem d_Ca_copyFrom_30 : decode M_Ca_copyFrom.2.1 30 = .ok (.aload_n 1, 1) := by decide +kernel
theorem d_Ca_copyFrom_31 : decode M_Ca_copyFrom.2.1 31 = .ok (.getfield 18, 3) := by decide +kernel
theorem d_Ca_copyFrom_34 : decode M_Ca_copyFrom.2.1 34 = .ok (.iconst 0, 1) := by decide +kernel
theorem d_Ca_copyFrom_35 : decode M_Ca_copyFrom.2.1 35 = .ok (.aload_n 0, 1) := by decide +kernel
theorem d_Ca_copyFrom_36 : decode M_Ca_copyFrom.2.1 36 = .ok (.getfield 18, 3) := by decide +kernel
theorem d_Ca_copyFrom_39 : decode M_Ca_copyFrom.2.1 39 = .ok (.iconst 0, 1) := by decide +kernel
theorem d_Ca_copyFrom_40 : decode M_Ca_copyFrom.2.1 40 = .ok (.bipush 8, 2) := by decide +kernel
theorem d_Ca_copyFrom_42 : decode M_Ca_copyFrom.2.1 42 = .ok (.invokestatic 56, 3) := by decide +kernel
theorem d_Ca_copyFrom_45 : decode M_Ca_copyFrom.2.1 45 = .ok (.aload_n 1, 1) := by decide +kernel
theorem d_Ca_copyFrom_46 : decode M_Ca_copyFrom.2.1 46 = .ok (.getfield 21, 3) := by decide +kernel
theorem d_Ca_copyFrom_49 : decode M_Ca_copyFrom.2.1 49 = .ok (.iconst 0, 1) := by decide +kernel
theorem d_Ca_copyFrom_50 : decode M_Ca_copyFrom.2.1 50 = .ok (.aload_n 0, 1) := by decide +kernel
theorem d_Ca_copyFrom_51 : decode M_Ca_copyFrom.2.1 51 = .ok (.getfield 21, 3) := by decide +kernel
theorem d_Ca_copyFrom_54 : decode M_Ca_copyFrom.2.1 54 = .ok (.iconst 0, 1) := by decide +kernel
theorem d_Ca_copyFrom_55 : decode M_Ca_copyFrom.2.1 55 = .ok (.bipush 8, 2) := by decide +kernel
theorem d_Ca_copyFrom_57 : decode M_Ca_copyFrom.2.1 57 = .ok (.invokestatic 56, 3) := by decide +kernel
theorem d_Ca_copyFrom_60 : decode M_Ca_copyFrom.2.1 60 = .ok (.aload_n 1, 1) := by decide +kernel
theorem d_Ca_copyFrom_61 : decode M_Ca_copyFrom.2.1 61 = .ok (.getfield 25, 3) := by decide +kernel
theorem d_Ca_copyFrom_64 : decode M_Ca_copyFrom.2.1 64 = .ok (.iconst 0, 1) := by decide +kernel
theorem d_Ca_copyFrom_65 : decode M_Ca_copyFrom.2.1 65 = .ok (.aload_n 0, 1) := by decide +kernel
theorem d_Ca_copyFrom_66 : decode M_Ca_copyFrom.2.1 66 = .ok (.getfield 25, 3) := by decide +kernel
theorem d_Ca_copyFrom_69 : decode M_Ca_copyFrom.2.1 69 = .ok (.iconst 0, 1) := by decide +kernel
theorem d_Ca_copyFrom_70 : decode M_Ca_copyFrom.2.1 70 = .ok (.bipush 8, 2) := by decide +kernel
theorem d_Ca_copyFrom_72 : decode M_Ca_copyFrom.2.1 72 = .ok (.invokestatic 56, 3) := by decide +kernel
theorem d_Ca_copyFrom_75 : decode M_Ca_copyFrom.2.1 75 = .ok (.aload_n 1, 1) := by decide +kernel
theorem d_Ca_copyFrom_76 : decode M_Ca_copyFrom.2.1 76 = .ok (.getfield 28, 3) := by decide +kernel
theorem d_Ca_copyFrom_79 : decode M_Ca_copyFrom.2.1 79 = .ok (.iconst 0, 1) := by decide +kernel
theorem d_Ca_copyFrom_80 : decode M_Ca_copyFrom.2.1 80 = .ok (.aload_n 0, 1) := by decide +kernel
theorem d_Ca_copyFrom_81 : decode M_Ca_copyFrom.2.1 81 = .ok (.getfield 28, 3) := by decide +kernel
theorem d_Ca_copyFrom_84 : decode M_Ca_copyFrom.2.1 84 = .ok (.iconst 0, 1) := by decide +kernel
theorem d_Ca_copyFrom_85 : decode M_Ca_copyFrom.2.1 85 = .ok (.bipush 8, 2) := by decide +kernel
theorem d_Ca_copyFrom_87 : decode M_Ca_copyFrom.2.1 87 = .ok (.invokestatic 56, 3) := by decide +kernel
theorem d_Ca_copyFrom_90 : decode M_Ca_copyFrom.2.1 90 = .ok (.aload_n 1, 1) := by decide +kernel
theorem d_Ca_copyFrom_91 : decode M_Ca_copyFrom.2.1 91 = .ok (.getfield 31, 3) := by decide +kernel
theorem d_Ca_copyFrom_94 : decode M_Ca_copyFrom.2.1 94 = .ok (.iconst 0, 1) := by decide +kernel
theorem d_Ca_copyFrom_95 : decode M_Ca_copyFrom.2.1 95 = .ok (.aload_n 0, 1) := by decide +kernel
theorem d_Ca_copyFrom_96 : decode M_Ca_copyFrom.2.1 96 = .ok (.getfield 31, 3) := by decide +kernel
theorem d_Ca_copyFrom_99 : decode M_Ca_copyFrom.2.1 99 = .ok (.iconst 0, 1) := by decide +kernel
theorem d_Ca_copyFrom_100 : decode M_Ca_copyFrom.2.1 100 = .ok (.bipush 12, 2) := by decide +kernel
theorem d_Ca_copyFrom_102 : decode M_Ca_copyFrom.2.1 102 = .ok (.invokestatic 56, 3) := by decide +kernel
theorem d_Ca_copyFrom_105 : decode M_Ca_copyFrom.2.1 105 = .ok (.aload_n 1, 1) := by decide +kernel
theorem d_Ca_copyFrom_106 : decode M_Ca_copyFrom.2.1 106 = .ok (.getfield 34, 3) := by decide +kernel
theorem d_Ca_copyFrom_109 : decode M_Ca_copyFrom.2.1 109 = .ok (.iconst 0, 1) := by decide +kernel
theorem d_Ca_copyFrom_110 : decode M_Ca_copyFrom.2.1 110 = .ok (.aload_n 0, 1) := by decide +kernel
theorem d_Ca_copyFrom_111 : decode M_Ca_copyFrom.2.1 111 = .ok (.getfield 34, 3) := by decide +kernel
theorem d_Ca_copyFrom_114 : decode M_Ca_copyFrom.2.1 114 = .ok (.iconst 0, 1) := by decide +kernel
theorem d_Ca_copyFrom_115 : decode M_Ca_copyFrom.2.1 115 = .ok (.bipush 12, 2) := by decide +kernel
theorem d_Ca_copyFrom_117 : decode M_Ca_copyFrom.2.1 117 = .ok (.invokestatic 56, 3) := by decide +kernel
theorem d_Ca_copyFrom_120 : decode M_Ca_copyFrom.2.1 120 = .ok (.aload_n 1, 1) := by decide +kernel
theorem d_Ca_copyFrom_121 : decode M_Ca_copyFrom.2.1 121 = .ok (.getfield 37, 3) := by decide +kernel
theorem d_Ca_copyFrom_124 : decode M_Ca_copyFrom.2.1 124 = .ok (.iconst 0, 1) := by decide +kernel
theorem d_Ca_copyFrom_125 : decode M_Ca_copyFrom.2.1 125 = .ok (.aload_n 0, 1) := by decide +kernel
theorem d_Ca_copyFrom_126 : decode M_Ca_copyFrom.2.1 126 = .ok (.getfield 37, 3) := by decide +kernel
theorem d_Ca_copyFrom_129 : decode M_Ca_copyFrom.2.1 129 = .ok (.iconst 0, 1) := by decide +kernel
theorem d_Ca_copyFrom_130 : decode M_Ca_copyFrom.2.1 130 = .ok (.bipush 12, 2) := by decide +kernel
theorem d_Ca_copyFrom_132 : decode M_Ca_copyFrom.2.1 132 = .ok (.invokestatic 56, 3) := by decide +kernel
theorem d_Ca_copyFrom_135 : decode M_Ca_copyFrom.2.1 135 = .ok (.aload_n 1, 1) := by decide +kernel
theorem d_Ca_copyFrom_136 : decode M_Ca_copyFrom.2.1 136 = .ok (.getfield 40, 3) := by decide +kernel
theorem d_Ca_copyFrom_139 : decode M_Ca_copyFrom.2.1 139 = .ok (.iconst 0, 1) := by decide +kernel
theorem d_Ca_copyFrom_140 : decode M_Ca_copyFrom.2.1 140 = .ok (.aload_n 0, 1) := by decide +kernel
theorem d_Ca_copyFrom_141 : decode M_Ca_copyFrom.2.1 141 = .ok (.getfield 40, 3) := by decide +kernel
theorem d_Ca_copyFrom_144 : decode M_Ca_copyFrom.2.1 144 = .ok (.iconst 0, 1) := by decide +kernel
theorem d_Ca_copyFrom_145 : decode M_Ca_copyFrom.2.1 145 = .ok (.bipush 12, 2) := by decide +kernel
theorem d_Ca_copyFrom_147 : decode M_Ca_copyFrom.2.1 147 = .ok (.invokestatic 56, 3) := by decide +kernel
theorem d_Ca_copyFrom_150 : decode M_Ca_copyFrom.2.1 150 = .ok (.aload_n 1, 1) := by decide +kernel
theorem d_Ca_copyFrom_151 : decode M_Ca_copyFrom.2.1 151 = .ok (.getfield 43, 3) := by decide +kernel
theorem d_Ca_copyFrom_154 : decode M_Ca_copyFrom.2.1 154 = .ok (.iconst 0, 1) := by decide +kernel
theorem d_Ca_copyFrom_155 : decode M_Ca_copyFrom.2.1 155 = .ok (.aload_n 0, 1) := by decide +kernel
theorem d_Ca_copyFrom_156 : decode M_Ca_copyFrom.2.1 156 = .ok (.getfield 43, 3) := by decide +kernel
theorem d_Ca_copyFrom_159 : decode M_Ca_copyFrom.2.1 159 = .ok (.iconst 0, 1) := by decide +kernel
theorem d_Ca_copyFrom_160 : decode M_Ca_copyFrom.2.1 160 = .ok (.bipush 12, 2) := by decide +kernel
theorem d_Ca_copyFrom_162 : decode M_Ca_copyFrom.2.1 162 = .ok (.invokestatic 56, 3) := by decide +kernel
theorem d_Ca_copyFrom_165 : decode M_Ca_copyFrom.2.1 165 = .ok (.aload_n 0, 1) := by decide +kernel
theorem d_Ca_copyFrom_166 : decode M_Ca_copyFrom.2.1 166 = .ok (.aload_n 1, 1) := by decide +kernel
theorem d_Ca_copyFrom_167 : decode M_Ca_copyFrom.2.1 167 = .ok (.getfield 52, 3) := by decide +kernel
theorem d_Ca_copyFrom_170 : decode M_Ca_copyFrom.2.1 170 = .ok (.putfield 52, 3) := by decide +kernel
theorem d_Ca_copyFrom_173 : decode M_Ca_copyFrom.2.1 173 = .ok (.aload_n 0, 1) := by decide +kernel
theorem d_Ca_copyFrom_174 : decode M_Ca_copyFrom.2.1 174 = .ok (.aload_n 1, 1) := by decide +kernel
theorem d_Ca_copyFrom_175 : decode M_Ca_copyFrom.2.1 175 = .ok (.getfield 62, 3) := by decide +kernel
theorem d_Ca_copyFrom_178 : decode M_Ca_copyFrom.2.1 178 = .ok (.putfield 62, 3) := by decide +kernel
theorem d_Ca_copyFrom_181 : decode M_Ca_copyFrom.2.1 181 = .ok (.return_, 1) := by decide +kernel
theorem d_Ca_passMany_0 : decode M_Ca_passMany.2.1 0 = .ok (.iconst 0, 1) := by decide +kernel
theorem d_Ca_passMany_1 : decode M_Ca_passMany.2.1 1 = .ok (.istore_n 3, 1) := by decide +kernel
theorem d_Ca_passMany_2 : decode M_Ca_passMany.2.1 2 = .ok (.iload_n 3, 1) := by decide +kernel
theorem d_Ca_passMany_3 : decode M_Ca_passMany.2.1 3 = .ok (.iload_n 2, 1) := by decide +kernel
theorem d_Ca_passMany_4 : decode M_Ca_passMany.2.1 4 = .ok (.if_icmp .ge 21, 3) := by decide +kernel
theorem d_Ca_passMany_7 : decode M_Ca_passMany.2.1 7 = .ok (.iload_n 3, 1) := by decide +kernel
theorem d_Ca_passMany_8 : decode M_Ca_passMany.2.1 8 = .ok (.iconst 1, 1) := by decide +kernel
theorem d_Ca_passMany_9 : decode M_Ca_passMany.2.1 9 = .ok (.aload_n 0, 1) := by decide +kernel
theorem d_Ca_passMany_10 : decode M_Ca_passMany.2.1 10 = .ok (.aload_n 1, 1) := by decide +kernel
theorem d_Ca_passMany_11 : decode M_Ca_passMany.2.1 11 = .ok (.iload_n 2, 1) := by decide +kernel
theorem d_Ca_passMany_12 : decode M_Ca_passMany.2.1 12 = .ok (.iload_n 3, 1) := by decide +kernel
theorem d_Ca_passMany_13 : decode M_Ca_passMany.2.1 13 = .ok (.isub, 1) := by decide +kernel
theorem d_Ca_passMany_14 : decode M_Ca_passMany.2.1 14 = .ok (.invokevirtual 65, 3) := by decide +kernel
theorem d_Ca_passMany_17 : decode M_Ca_passMany.2.1 17 = .ok (.invokestatic 69, 3) := by decide +kernel
theorem d_Ca_passMany_20 : decode M_Ca_passMany.2.1 20 = .ok (.iadd, 1) := by decide +kernel
theorem d_Ca_passMany_21 : decode M_Ca_passMany.2.1 21 = .ok (.istore_n 3, 1) := by decide +kernel
theorem d_Ca_passMany_22 : decode M_Ca_passMany.2.1 22 = .ok (.goto (-20), 3) := by decide +kernel
theorem d_Ca_passMany_25 : decode M_Ca_passMany.2.1 25 = .ok (.return_, 1) := by decide +kernel
theorem d_Ca_passSome_0 : decode M_Ca_passSome.2.1 0 = .ok (.aload_n 1, 1) := by decide +kernel
theorem d_Ca_passSome_1 : decode M_Ca_passSome.2.1 1 = .ok (.getfield 75, 3) := by decide +kernel
theorem d_Ca_passSome_4 : decode M_Ca_passSome.2.1 4 = .ok (.iconst 1, 1) := by decide +kernel
theorem d_Ca_passSome_5 : decode M_Ca_passSome.2.1 5 = .ok (.if_icmp .le 20, 3) := by decide +kernel
theorem d_Ca_passSome_8 : decode M_Ca_passSome.2.1 8 = .ok (.iload_n 2, 1) := by decide +kernel
theorem d_Ca_passSome_9 : decode M_Ca_passSome.2.1 9 = .ok (.bipush 60, 2) := by decide +kernel
theorem d_Ca_passSome_11 : decode M_Ca_passSome.2.1 11 = .ok (.aload_n 0, 1) := by decide +kernel
theorem d_Ca_passSome_12 : decode M_Ca_passSome.2.1 12 = .ok (.getfield 62, 3) := by decide +kernel
theorem d_Ca_passSome_15 : decode M_Ca_passSome.2.1 15 = .ok (.bipush 60, 2) := by decide +kernel
theorem d_Ca_passSome_17 : decode M_Ca_passSome.2.1 17 = .ok (.irem, 1) := by decide +kernel
theorem d_Ca_passSome_18 : decode M_Ca_passSome.2.1 18 = .ok (.isub, 1) := by decide +kernel
theorem d_Ca_passSome_19 : decode M_Ca_passSome.2.1 19 = .ok (.invokestatic 80, 3) := by decide +kernel
theorem d_Ca_passSome_22 : decode M_Ca_passSome.2.1 22 = .ok (.goto 4, 3) := by decide +kernel
theorem d_Ca_passSome_25 : decode M_Ca_passSome.2.1 25 = .ok (.iload_n 2, 1) := by decide +kernel
theorem d_Ca_passSome_26 : decode M_Ca_passSome.2.1 26 = .ok (.istore_n 3, 1) := by decide +kernel
theorem d_Ca_passSome_27 : decode M_Ca_passSome.2.1 27 = .ok (.aload_n 0, 1) := by decide +kernel
theorem d_Ca_passSome_28 : decode M_Ca_passSome.2.1 28 = .ok (.aload_n 1, 1) := by decide +kernel
theorem d_Ca_passSome_29 : decode M_Ca_passSome.2.1 29 = .ok (.iload_n 3, 1) := by decide +kernel
theorem d_Ca_passSome_30 : decode M_Ca_passSome.2.1 30 = .ok (.invokevirtual 83, 3) := by decide +kernel
theorem d_Ca_passSome_33 : decode M_Ca_passSome.2.1 33 = .ok (.istore 4, 2) := by decide +kernel
theorem d_Ca_passSome_35 : decode M_Ca_passSome.2.1 35 = .ok (.iload 4, 2) := by decide +kernel
theorem d_Ca_passSome_37 : decode M_Ca_passSome.2.1 37 = .ok (.iconst 1, 1) := by decide +kernel
theorem d_Ca_passSome_38 : decode M_Ca_passSome.2.1 38 = .ok (.iadd, 1) := by decide +kernel
theorem d_Ca_passSome_39 : decode M_Ca_passSome.2.1 39 = .ok (.iload_n 3, 1) := by decide +kernel
theorem d_Ca_passSome_40 : decode M_Ca_passSome.2.1 40 = .ok (.invokestatic 80, 3) := by decide +kernel
theorem d_Ca_passSome_43 : decode M_Ca_passSome.2.1 43 = .ok (.istore 5, 2) := by decide +kernel
theorem d_Ca_passSome_45 : decode M_Ca_passSome.2.1 45 = .ok (.iconst 0, 1) := by decide +kernel
theorem d_Ca_passSome_46 : decode M_Ca_passSome.2.1 46 = .ok (.istore 6, 2) := by decide +kernel
theorem d_Ca_passSome_48 : decode M_Ca_passSome.2.1 48 = .ok (.iload 6, 2) := by decide +kernel
theorem d_Ca_passSome_50 : decode M_Ca_passSome.2.1 50 = .ok (.aload_n 1, 1) := by decide +kernel
theorem d_Ca_passSome_51 : decode M_Ca_passSome.2.1 51 = .ok (.getfield 86, 3) := by decide +kernel
theorem d_Ca_passSome_54 : decode M_Ca_passSome.2.1 54 = .ok (.if_icmp .ge 53, 3) := by decide +kernel
theorem d_Ca_passSome_57 : decode M_Ca_passSome.2.1 57 = .ok (.aload_n 0, 1) := by decide +kernel
theorem d_Ca_passSome_58 : decode M_Ca_passSome.2.1 58 = .ok (.getfield 46, 3) := by decide +kernel
theorem d_Ca_passSome_61 : decode M_Ca_passSome.2.1 61 = .ok (.iload 6, 2) := by decide +kernel
theorem d_Ca_passSome_63 : decode M_Ca_passSome.2.1 63 = .ok (.iaload, 1) := by decide +kernel
theorem d_Ca_passSome_64 : decode M_Ca_passSome.2.1 64 = .ok (.ifCond .le 37, 3) := by decide +kernel
theorem d_Ca_passSome_67 : decode M_Ca_passSome.2.1 67 = .ok (.aload_n 0, 1) := by decide +kernel
theorem d_Ca_passSome_68 : decode M_Ca_passSome.2.1 68 = .ok (.getfield 46, 3) := by decide +kernel
theorem d_Ca_passSome_71 : decode M_Ca_passSome.2.1 71 = .ok (.iload 6, 2) := by decide +kernel
theorem d_Ca_passSome_73 : decode M_Ca_passSome.2.1 73 = .ok (.iaload, 1) := by decide +kernel
theorem d_Ca_passSome_74 : decode M_Ca_passSome.2.1 74 = .ok (.i2l, 1) := by decide +kernel
theorem d_Ca_passSome_75 : decode M_Ca_passSome.2.1 75 = .ok (.iload 5, 2) := by decide +kernel
theorem d_Ca_passSome_77 : decode M_Ca_passSome.2.1 77 = .ok (.i2l, 1) := by decide +kernel
theorem d_Ca_passSome_78 : decode M_Ca_passSome.2.1 78 = .ok (.lmul, 1) := by decide +kernel
theorem d_Ca_passSome_79 : decode M_Ca_passSome.2.1 79 = .ok (.lstore 7, 2) := by decide +kernel
theorem d_Ca_passSome_81 : decode M_Ca_passSome.2.1 81 = .ok (.aload_n 0, 1) := by decide +kernel
theorem d_Ca_passSome_82 : decode M_Ca_passSome.2.1 82 = .ok (.iload 6, 2) := by decide +kernel
theorem d_Ca_passSome_84 : decode M_Ca_passSome.2.1 84 = .ok (.lload 7, 2) := by decide +kernel
theorem d_Ca_passSome_86 : decode M_Ca_passSome.2.1 86 = .ok (.aload_n 0, 1) := by decide +kernel
theorem d_Ca_passSome_87 : decode M_Ca_passSome.2.1 87 = .ok (.getfield 9, 3) := by decide +kernel
theorem d_Ca_passSome_90 : decode M_Ca_passSome.2.1 90 = .ok (.iload 6, 2) := by decide +kernel
theorem d_Ca_passSome_92 : decode M_Ca_passSome.2.1 92 = .ok (.iaload, 1) := by decide +kernel
theorem d_Ca_passSome_93 : decode M_Ca_passSome.2.1 93 = .ok (.i2l, 1) := by decide +kernel
theorem d_Ca_passSome_94 : decode M_Ca_passSome.2.1 94 = .ok (.invokestatic 89, 3) := by decide +kernel
theorem d_Ca_passSome_97 : decode M_Ca_passSome.2.1 97 = .ok (.l2i, 1) := by decide +kernel
theorem d_Ca_passSome_98 : decode M_Ca_passSome.2.1 98 = .ok (.invokevirtual 92, 3) := by decide +kernel
theorem d_Ca_passSome_101 : decode M_Ca_passSome.2.1 101 = .ok (.iinc 6 1, 3) := by decide +kernel
theorem d_Ca_passSome_104 : decode M_Ca_passSome.2.1 104 = .ok (.goto (-56), 3) := by decide +kernel
theorem d_Ca_passSome_107 : decode M_Ca_passSome.2.1 107 = .ok (.aload_n 0, 1) := by decide +kernel
theorem d_Ca_passSome_108 : decode M_Ca_passSome.2.1 108 = .ok (.iconst 0, 1) := by decide +kernel
theorem d_Ca_passSome_109 : decode M_Ca_passSome.2.1 109 = .ok (.putfield 96, 3) := by decide +kernel
theorem d_Ca_passSome_112 : decode M_Ca_passSome.2.1 112 = .ok (.iload 4, 2) := by decide +kernel
theorem d_Ca_passSome_114 : decode M_Ca_passSome.2.1 114 = .ok (.ifCond .le 13, 3) := by decide +kernel
theorem d_Ca_passSome_117 : decode M_Ca_passSome.2.1 117 = .ok (.aload_n 0, 1) := by decide +kernel
theorem d_Ca_passSome_118 : decode M_Ca_passSome.2.1 118 = .ok (.aload_n 1, 1) := by decide +kernel
theorem d_Ca_passSome_119 : decode M_Ca_passSome.2.1 119 = .ok (.getfield 99, 3) := by decide +kernel
theorem d_Ca_passSome_122 : decode M_Ca_passSome.2.1 122 = .ok (.iload 4, 2) := by decide +kernel
theorem d_Ca_passSome_124 : decode M_Ca_passSome.2.1 124 = .ok (.invokevirtual 102, 3) := by decide +kernel
theorem d_Ca_passSome_127 : decode M_Ca_passSome.2.1 127 = .ok (.iload 5, 2) := by decide +kernel
theorem d_Ca_passSome_129 : decode M_Ca_passSome.2.1 129 = .ok (.iload 4, 2) := by decide +kernel
theorem d_Ca_passSome_131 : decode M_Ca_passSome.2.1 131 = .ok (.if_icmp .le 28, 3) := by decide +kernel
theorem d_Ca_passSome_134 : decode M_Ca_passSome.2.1 134 = .ok (.aload_n 0, 1) := by decide +kernel
theorem d_Ca_passSome_135 : decode M_Ca_passSome.2.1 135 = .ok (.aload_n 1, 1) := by decide +kernel
theorem d_Ca_passSome_136 : decode M_Ca_passSome.2.1 136 = .ok (.getfield 86, 3) := by decide +kernel
theorem d_Ca_passSome_139 : decode M_Ca_passSome.2.1 139 = .ok (.invokevirtual 105, 3) := by decide +kernel
theorem d_Ca_passSome_142 : decode M_Ca_passSome.2.1 142 = .ok (.aload_n 0, 1) := by decide +kernel
theorem d_Ca_passSome_143 : decode M_Ca_passSome.2.1 143 = .ok (.aload_n 1, 1) := by decide +kernel
theorem d_Ca_passSome_144 : decode M_Ca_passSome.2.1 144 = .ok (.getfield 86, 3) := by decide +kernel
theorem d_Ca_passSome_147 : decode M_Ca_passSome.2.1 147 = .ok (.invokevirtual 109, 3) := by decide +kernel
theorem d_Ca_passSome_150 : decode M_Ca_passSome.2.1 150 = .ok (.aload_n 0, 1) := by decide +kernel
theorem d_Ca_passSome_151 : decode M_Ca_passSome.2.1 151 = .ok (.aload_n 1, 1) := by decide +kernel
theorem d_Ca_passSome_152 : decode M_Ca_passSome.2.1 152 = .ok (.getfield 99, 3) := by decide +kernel
theorem d_Ca_passSome_155 : decode M_Ca_passSome.2.1 155 = .ok (.iconst 1, 1) := by decide +kernel
theorem d_Ca_passSome_156 : decode M_Ca_passSome.2.1 156 = .ok (.invokevirtual 102, 3) := by decide +kernel
theorem d_Ca_passSome_159 : decode M_Ca_passSome.2.1 159 = .ok (.iload 5, 2) := by decide +kernel
theorem d_Ca_passSome_161 : decode M_Ca_passSome.2.1 161 = .ok (.ireturn, 1) := by decide +kernel
theorem d_Ca_lookAhead_0 : decode M_Ca_lookAhead.2.1 0 = .ok (.iload_n 2, 1) := by decide +kernel
theorem d_Ca_lookAhead_1 : decode M_Ca_lookAhead.2.1 1 = .ok (.istore_n 3, 1) := by decide +kernel
theorem d_Ca_lookAhead_2 : decode M_Ca_lookAhead.2.1 2 = .ok (.aload_n 1, 1) := by decide +kernel
theorem d_Ca_lookAhead_3 : decode M_Ca_lookAhead.2.1 3 = .ok (.aload_n 0, 1) := by decide +kernel
theorem d_Ca_lookAhead_4 : decode M_Ca_lookAhead.2.1 4 = .ok (.getfield 62, 3) := by decide +kernel
theorem d_Ca_lookAhead_7 : decode M_Ca_lookAhead.2.1 7 = .ok (.invokevirtual 112, 3) := by decide +kernel
theorem d_Ca_lookAhead_10 : decode M_Ca_lookAhead.2.1 10 = .ok (.istore 4, 2) := by decide +kernel
theorem d_Ca_lookAhead_12 : decode M_Ca_lookAhead.2.1 12 = .ok (.aload_n 1, 1) := by decide +kernel
theorem d_Ca_lookAhead_13 : decode M_Ca_lookAhead.2.1 13 = .ok (.getfield 86, 3) := by decide +kernel
theorem d_Ca_lookAhead_16 : decode M_Ca_lookAhead.2.1 16 = .ok (.iconst 1, 1) := by decide +kernel
theorem d_Ca_lookAhead_17 : decode M_Ca_lookAhead.2.1 17 = .ok (.isub, 1) := by decide +kernel
theorem d_Ca_lookAhead_18 : decode M_Ca_lookAhead.2.1 18 = .ok (.istore 5, 2) := by decide +kernel
theorem d_Ca_lookAhead_20 : decode M_Ca_lookAhead.2.1 20 = .ok (.iconst 0, 1) := by decide +kernel
theorem d_Ca_lookAhead_21 : decode M_Ca_lookAhead.2.1 21 = .ok (.istore 6, 2) := by decide +kernel
theorem d_Ca_lookAhead_23 : decode M_Ca_lookAhead.2.1 23 = .ok (.iload 6, 2) := by decide +kernel
theorem d_Ca_lookAhead_25 : decode M_Ca_lookAhead.2.1 25 = .ok (.aload_n 1, 1) := by decide +kernel
theorem d_Ca_lookAhead_26 : decode M_Ca_lookAhead.2.1 26 = .ok (.getfield 86, 3) := by decide +kernel
theorem d_Ca_lookAhead_29 : decode M_Ca_lookAhead.2.1 29 = .ok (.if_icmp .ge 53, 3) := by decide +kernel
theorem d_Ca_lookAhead_32 : decode M_Ca_lookAhead.2.1 32 = .ok (.aload_n 0, 1) := by decide +kernel
theorem d_Ca_lookAhead_33 : decode M_Ca_lookAhead.2.1 33 = .ok (.getfield 46, 3) := by decide +kernel
theorem d_Ca_lookAhead_36 : decode M_Ca_lookAhead.2.1 36 = .ok (.iload 6, 2) := by decide +kernel
theorem d_Ca_lookAhead_38 : decode M_Ca_lookAhead.2.1 38 = .ok (.aload_n 1, 1) := by decide +kernel
theorem d_Ca_lookAhead_39 : decode M_Ca_lookAhead.2.1 39 = .ok (.aload_n 0, 1) := by decide +kernel
theorem d_Ca_lookAhead_40 : decode M_Ca_lookAhead.2.1 40 = .ok (.iload 6, 2) := by decide +kernel
theorem d_Ca_lookAhead_42 : decode M_Ca_lookAhead.2.1 42 = .ok (.iload 4, 2) := by decide +kernel
theorem d_Ca_lookAhead_44 : decode M_Ca_lookAhead.2.1 44 = .ok (.invokevirtual 116, 3) := by decide +kernel
theorem d_Ca_lookAhead_47 : decode M_Ca_lookAhead.2.1 47 = .ok (.iastore, 1) := by decide +kernel
theorem d_Ca_lookAhead_48 : decode M_Ca_lookAhead.2.1 48 = .ok (.iload_n 3, 1) := by decide +kernel
theorem d_Ca_lookAhead_49 : decode M_Ca_lookAhead.2.1 49 = .ok (.ifCond .le 23, 3) := by decide +kernel
theorem d_Ca_lookAhead_52 : decode M_Ca_lookAhead.2.1 52 = .ok (.iload_n 3, 1) := by decide +kernel
theorem d_Ca_lookAhead_53 : decode M_Ca_lookAhead.2.1 53 = .ok (.aload_n 0, 1) := by decide +kernel
theorem d_Ca_lookAhead_54 : decode M_Ca_lookAhead.2.1 54 = .ok (.iload 6, 2) := by decide +kernel
theorem d_Ca_lookAhead_56 : decode M_Ca_lookAhead.2.1 56 = .ok (.iload 5, 2) := by decide +kernel
theorem d_Ca_lookAhead_58 : decode M_Ca_lookAhead.2.1 58 = .ok (.aload_n 1, 1) := by decide +kernel
theorem d_Ca_lookAhead_59 : decode M_Ca_lookAhead.2.1 59 = .ok (.getfield 120, 3) := by decide +kernel
theorem d_Ca_lookAhead_62 : decode M_Ca_lookAhead.2.1 62 = .ok (.getfield 124, 3) := by decide +kernel
theorem d_Ca_lookAhead_65 : decode M_Ca_lookAhead.2.1 65 = .ok (.invokevirtual 130, 3) := by decide +kernel
theorem d_Ca_lookAhead_68 : decode M_Ca_lookAhead.2.1 68 = .ok (.invokestatic 80, 3) := by decide +kernel
theorem d_Ca_lookAhead_71 : decode M_Ca_lookAhead.2.1 71 = .ok (.istore_n 3, 1) := by decide +kernel
theorem d_Ca_lookAhead_72 : decode M_Ca_lookAhead.2.1 72 = .ok (.iload 6, 2) := by decide +kernel
theorem d_Ca_lookAhead_74 : decode M_Ca_lookAhead.2.1 74 = .ok (.istore 5, 2) := by decide +kernel
theorem d_Ca_lookAhead_76 : decode M_Ca_lookAhead.2.1 76 = .ok (.iinc 6 1, 3) := by decide +kernel
theorem d_Ca_lookAhead_79 : decode M_Ca_lookAhead.2.1 79 = .ok (.goto (-56), 3) := by decide +kernel
theorem d_Ca_lookAhead_82 : decode M_Ca_lookAhead.2.1 82 = .ok (.iload_n 3, 1) := by decide +kernel
theorem d_Ca_lookAhead_83 : decode M_Ca_lookAhead.2.1 83 = .ok (.ireturn, 1) := by decide +kernel
theorem d_Ca_quietAt_0 : decode M_Ca_quietAt.2.1 0 = .ok (.aload_n 0, 1) := by decide +kernel
theorem d_Ca_quietAt_1 : decode M_Ca_quietAt.2.1 1 = .ok (.getfield 9, 3) := by decide +kernel
theorem d_Ca_quietAt_4 : decode M_Ca_quietAt.2.1 4 = .ok (.iload_n 1, 1) := by decide +kernel
theorem d_Ca_quietAt_5 : decode M_Ca_quietAt.2.1 5 = .ok (.iaload, 1) := by decide +kernel
theorem d_Ca_quietAt_6 : decode M_Ca_quietAt.2.1 6 = .ok (.ifCond .le 7, 3) := by decide +kernel
theorem d_Ca_quietAt_9 : decode M_Ca_quietAt.2.1 9 = .ok (.iload_n 3, 1) := by decide +kernel
theorem d_Ca_quietAt_10 : decode M_Ca_quietAt.2.1 10 = .ok (.ifCond .eq 21, 3) := by decide +kernel
theorem d_Ca_quietAt_13 : decode M_Ca_quietAt.2.1 13 = .ok (.aload_n 0, 1) := by decide +kernel
theorem d_Ca_quietAt_14 : decode M_Ca_quietAt.2.1 14 = .ok (.getfield 18, 3) := by decide +kernel
theorem d_Ca_quietAt_17 : decode M_Ca_quietAt.2.1 17 = .ok (.iload_n 1, 1) := by decide +kernel
theorem d_Ca_quietAt_18 : decode M_Ca_quietAt.2.1 18 = .ok (.iaload, 1) := by decide +kernel
theorem d_Ca_quietAt_19 : decode M_Ca_quietAt.2.1 19 = .ok (.bipush (-2), 2) := by decide +kernel
theorem d_Ca_quietAt_21 : decode M_Ca_quietAt.2.1 21 = .ok (.if_icmp .ne 12, 3) := by decide +kernel
theorem d_Ca_quietAt_24 : decode M_Ca_quietAt.2.1 24 = .ok (.aload_n 0, 1) := by decide +kernel
theorem d_Ca_quietAt_25 : decode M_Ca_quietAt.2.1 25 = .ok (.getfield 52, 3) := by decide +kernel
theorem d_Ca_quietAt_28 : decode M_Ca_quietAt.2.1 28 = .ok (.ifCond .le 5, 3) := by decide +kernel
theorem d_Ca_quietAt_31 : decode M_Ca_quietAt.2.1 31 = .ok (.iconst 0, 1) := by decide +kernel
theorem d_Ca_quietAt_32 : decode M_Ca_quietAt.2.1 32 = .ok (.ireturn, 1) := by decide +kernel
theorem d_Ca_quietAt_33 : decode M_Ca_quietAt.2.1 33 = .ok (.aload_n 0, 1) := by decide +kernel
theorem d_Ca_quietAt_34 : decode M_Ca_quietAt.2.1 34 = .ok (.iload_n 1, 1) := by decide +kernel
theorem d_Ca_quietAt_35 : decode M_Ca_quietAt.2.1 35 = .ok (.iload_n 2, 1) := by decide +kernel
theorem d_Ca_quietAt_36 : decode M_Ca_quietAt.2.1 36 = .ok (.invokevirtual 134, 3) := by decide +kernel
theorem d_Ca_quietAt_39 : decode M_Ca_quietAt.2.1 39 = .ok (.bipush (-2), 2) := by decide +kernel
theorem d_Ca_quietAt_41 : decode M_Ca_quietAt.2.1 41 = .ok (.if_icmp .ne 6, 3) := by decide +kernel
theorem d_Ca_quietAt_44 : decode M_Ca_quietAt.2.1 44 = .ok (.ldc 139, 2) := by decide +kernel
theorem d_Ca_quietAt_46 : decode M_Ca_quietAt.2.1 46 = .ok (.ireturn, 1) := by decide +kernel
theorem d_Ca_quietAt_47 : decode M_Ca_quietAt.2.1 47 = .ok (.aload_n 0, 1) := by decide +kernel
theorem d_Ca_quietAt_48 : decode M_Ca_quietAt.2.1 48 = .ok (.getfield 46, 3) := by decide +kernel
theorem d_Ca_quietAt_51 : decode M_Ca_quietAt.2.1 51 = .ok (.iload_n 1, 1) := by decide +kernel
theorem d_Ca_quietAt_52 : decode M_Ca_quietAt.2.1 52 = .ok (.iaload, 1) := by decide +kernel
theorem d_Ca_quietAt_53 : decode M_Ca_quietAt.2.1 53 = .ok (.ifCond .ne 19, 3) := by decide +kernel
theorem d_Ca_quietAt_56 : decode M_Ca_quietAt.2.1 56 = .ok (.aload_n 0, 1) := by decide +kernel
theorem d_Ca_quietAt_57 : decode M_Ca_quietAt.2.1 57 = .ok (.getfield 9, 3) := by decide +kernel
theorem d_Ca_quietAt_60 : decode M_Ca_quietAt.2.1 60 = .ok (.iload_n 1, 1) := by decide +kernel
theorem d_Ca_quietAt_61 : decode M_Ca_quietAt.2.1 61 = .ok (.iaload, 1) := by decide +kernel
theorem d_Ca_quietAt_62 : decode M_Ca_quietAt.2.1 62 = .ok (.ifCond .ne 7, 3) := by decide +kernel
theorem d_Ca_quietAt_65 : decode M_Ca_quietAt.2.1 65 = .ok (.iconst 0, 1) := by decide +kernel
theorem d_Ca_quietAt_66 : decode M_Ca_quietAt.2.1 66 = .ok (.goto 5, 3) := by decide +kernel
theorem d_Ca_quietAt_69 : decode M_Ca_quietAt.2.1 69 = .ok (.ldc 139, 2) := by decide +kernel
theorem d_Ca_quietAt_71 : decode M_Ca_quietAt.2.1 71 = .ok (.ireturn, 1) := by decide +kernel
theorem d_Ca_quietAt_72 : decode M_Ca_quietAt.2.1 72 = .ok (.aload_n 0, 1) := by decide +kernel
theorem d_Ca_quietAt_73 : decode M_Ca_quietAt.2.1 73 = .ok (.getfield 9, 3) := by decide +kernel
theorem d_Ca_quietAt_76 : decode M_Ca_quietAt.2.1 76 = .ok (.iload_n 1, 1) := by decide +kernel
theorem d_Ca_quietAt_77 : decode M_Ca_quietAt.2.1 77 = .ok (.iaload, 1) := by decide +kernel
theorem d_Ca_quietAt_78 : decode M_Ca_quietAt.2.1 78 = .ok (.iconst 1, 1) := by decide +kernel
theorem d_Ca_quietAt_79 : decode M_Ca_quietAt.2.1 79 = .ok (.isub, 1) := by decide +kernel
theorem d_Ca_quietAt_80 : decode M_Ca_quietAt.2.1 80 = .ok (.aload_n 0, 1) := by decide +kernel
theorem d_Ca_quietAt_81 : decode M_Ca_quietAt.2.1 81 = .ok (.getfield 46, 3) := by decide +kernel
theorem d_Ca_quietAt_84 : decode M_Ca_quietAt.2.1 84 = .ok (.iload_n 1, 1) := by decide +kernel
theorem d_Ca_quietAt_85 : decode M_Ca_quietAt.2.1 85 = .ok (.iaload, 1) := by decide +kernel
theorem d_Ca_quietAt_86 : decode M_Ca_quietAt.2.1 86 = .ok (.idiv, 1) := by decide +kernel
theorem d_Ca_quietAt_87 : decode M_Ca_quietAt.2.1 87 = .ok (.ireturn, 1) := by decide +kernel
theorem d_Ca_relieveAll_0 : decode M_Ca_relieveAll.2.1 0 = .ok (.iload_n 1, 1) := by decide +kernel
theorem d_Ca_relieveAll_1 : decode M_Ca_relieveAll.2.1 1 = .ok (.iconst 1, 1) := by decide +kernel
theorem d_Ca_relieveAll_2 : decode M_Ca_relieveAll.2.1 2 = .ok (.isub, 1) := by decide +kernel
theorem d_Ca_relieveAll_3 : decode M_Ca_relieveAll.2.1 3 = .ok (.istore_n 2, 1) := by decide +kernel
theorem d_Ca_relieveAll_4 : decode M_Ca_relieveAll.2.1 4 = .ok (.iconst 0, 1) := by decide +kernel
theorem d_Ca_relieveAll_5 : decode M_Ca_relieveAll.2.1 5 = .ok (.istore_n 3, 1) := by decide +kernel
theorem d_Ca_relieveAll_6 : decode M_Ca_relieveAll.2.1 6 = .ok (.iload_n 3, 1) := by decide +kernel
theorem d_Ca_relieveAll_7 : decode M_Ca_relieveAll.2.1 7 = .ok (.iload_n 1, 1) := by decide +kernel
theorem d_Ca_relieveAll_8 : decode M_Ca_relieveAll.2.1 8 = .ok (.if_icmp .ge 26, 3) := by decide +kernel
theorem d_Ca_relieveAll_11 : decode M_Ca_relieveAll.2.1 11 = .ok (.aload_n 0, 1) := by decide +kernel
theorem d_Ca_relieveAll_12 : decode M_Ca_relieveAll.2.1 12 = .ok (.getfield 9, 3) := by decide +kernel
theorem d_Ca_relieveAll_15 : decode M_Ca_relieveAll.2.1 15 = .ok (.iload_n 3, 1) := by decide +kernel
theorem d_Ca_relieveAll_16 : decode M_Ca_relieveAll.2.1 16 = .ok (.iaload, 1) := by decide +kernel
theorem d_Ca_relieveAll_17 : decode M_Ca_relieveAll.2.1 17 = .ok (.ifCond .ne 9, 3) := by decide +kernel
theorem d_Ca_relieveAll_20 : decode M_Ca_relieveAll.2.1 20 = .ok (.aload_n 0, 1) := by decide +kernel
theorem d_Ca_relieveAll_21 : decode M_Ca_relieveAll.2.1 21 = .ok (.iload_n 3, 1) := by decide +kernel
theorem d_Ca_relieveAll_22 : decode M_Ca_relieveAll.2.1 22 = .ok (.iload_n 2, 1) := by decide +kernel
theorem d_Ca_relieveAll_23 : decode M_Ca_relieveAll.2.1 23 = .ok (.invokevirtual 140, 3) := by decide +kernel
theorem d_Ca_relieveAll_26 : decode M_Ca_relieveAll.2.1 26 = .ok (.iload_n 3, 1) := by decide +kernel
theorem d_Ca_relieveAll_27 : decode M_Ca_relieveAll.2.1 27 = .ok (.istore_n 2, 1) := by decide +kernel
theorem d_Ca_relieveAll_28 : decode M_Ca_relieveAll.2.1 28 = .ok (.iinc 3 1, 3) := by decide +kernel
theorem d_Ca_relieveAll_31 : decode M_Ca_relieveAll.2.1 31 = .ok (.goto (-25), 3) := by decide +kernel
theorem d_Ca_relieveAll_34 : decode M_Ca_relieveAll.2.1 34 = .ok (.return_, 1) := by decide +kernel
theorem d_Ca_fillAll_0 : decode M_Ca_fillAll.2.1 0 = .ok (.iconst 0, 1) := by decide +kernel
theorem d_Ca_fillAll_1 : decode M_Ca_fillAll.2.1 1 = .ok (.istore_n 2, 1) := by decide +kernel
theorem d_Ca_fillAll_2 : decode M_Ca_fillAll.2.1 2 = .ok (.iload_n 2, 1) := by decide +kernel
theorem d_Ca_fillAll_3 : decode M_Ca_fillAll.2.1 3 = .ok (.iload_n 1, 1) := by decide +kernel
theorem d_Ca_fillAll_4 : decode M_Ca_fillAll.2.1 4 = .ok (.if_icmp .ge 37, 3) := by decide +kernel
theorem d_Ca_fillAll_7 : decode M_Ca_fillAll.2.1 7 = .ok (.aload_n 0, 1) := by decide +kernel
theorem d_Ca_fillAll_8 : decode M_Ca_fillAll.2.1 8 = .ok (.getfield 52, 3) := by decide +kernel
theorem d_Ca_fillAll_11 : decode M_Ca_fillAll.2.1 11 = .ok (.ifCond .le 30, 3) := by decide +kernel
theorem d_Ca_fillAll_14 : decode M_Ca_fillAll.2.1 14 = .ok (.aload_n 0, 1) := by decide +kernel
theorem d_Ca_fillAll_15 : decode M_Ca_fillAll.2.1 15 = .ok (.getfield 18, 3) := by decide +kernel
theorem d_Ca_fillAll_18 : decode M_Ca_fillAll.2.1 18 = .ok (.iload_n 2, 1) := by decide +kernel
theorem d_Ca_fillAll_19 : decode M_Ca_fillAll.2.1 19 = .ok (.iaload, 1) := by decide +kernel
theorem d_Ca_fillAll_20 : decode M_Ca_fillAll.2.1 20 = .ok (.bipush (-2), 2) := by decide +kernel
theorem d_Ca_fillAll_22 : decode M_Ca_fillAll.2.1 22 = .ok (.if_icmp .ne 13, 3) := by decide +kernel
theorem d_Ca_fillAll_25 : decode M_Ca_fillAll.2.1 25 = .ok (.aload_n 0, 1) := by decide +kernel
theorem d_Ca_fillAll_26 : decode M_Ca_fillAll.2.1 26 = .ok (.aload_n 0, 1) := by decide +kernel
theorem d_Ca_fillAll_27 : decode M_Ca_fillAll.2.1 27 = .ok (.iconst 0, 1) := by decide +kernel
theorem d_Ca_fillAll_28 : decode M_Ca_fillAll.2.1 28 = .ok (.invokevirtual 143, 3) := by decide +kernel
theorem d_Ca_fillAll_31 : decode M_Ca_fillAll.2.1 31 = .ok (.iload_n 2, 1) := by decide +kernel
theorem d_Ca_fillAll_32 : decode M_Ca_fillAll.2.1 32 = .ok (.invokevirtual 146, 3) := by decide +kernel
theorem d_Ca_fillAll_35 : decode M_Ca_fillAll.2.1 35 = .ok (.iinc 2 1, 3) := by decide +kernel
theorem d_Ca_fillAll_38 : decode M_Ca_fillAll.2.1 38 = .ok (.goto (-36), 3) := by decide +kernel
theorem d_Ca_fillAll_41 : decode M_Ca_fillAll.2.1 41 = .ok (.return_, 1) := by decide +kernel
theorem d_Ca_runDown_0 : decode M_Ca_runDown.2.1 0 = .ok (.aload_n 0, 1) := by decide +kernel
theorem d_Ca_runDown_1 : decode M_Ca_runDown.2.1 1 = .ok (.getfield 9, 3) := by decide +kernel
theorem d_Ca_runDown_4 : decode M_Ca_runDown.2.1 4 = .ok (.iload_n 1, 1) := by decide +kernel
theorem d_Ca_runDown_5 : decode M_Ca_runDown.2.1 5 = .ok (.dup2, 1) := by decide +kernel
theorem d_Ca_runDown_6 : decode M_Ca_runDown.2.1 6 = .ok (.iaload, 1) := by decide +kernel
theorem d_Ca_runDown_7 : decode M_Ca_runDown.2.1 7 = .ok (.iload_n 2, 1) := by decide +kernel
theorem d_Ca_runDown_8 : decode M_Ca_runDown.2.1 8 = .ok (.isub, 1) := by decide +kernel
theorem d_Ca_runDown_9 : decode M_Ca_runDown.2.1 9 = .ok (.iastore, 1) := by decide +kernel
theorem d_Ca_runDown_10 : decode M_Ca_runDown.2.1 10 = .ok (.aload_n 0, 1) := by decide +kernel
theorem d_Ca_runDown_11 : decode M_Ca_runDown.2.1 11 = .ok (.getfield 15, 3) := by decide +kernel
theorem d_Ca_runDown_14 : decode M_Ca_runDown.2.1 14 = .ok (.iload_n 1, 1) := by decide +kernel
theorem d_Ca_runDown_15 : decode M_Ca_runDown.2.1 15 = .ok (.dup2, 1) := by decide +kernel
theorem d_Ca_runDown_16 : decode M_Ca_runDown.2.1 16 = .ok (.iaload, 1) := by decide +kernel
theorem d_Ca_runDown_17 : decode M_Ca_runDown.2.1 17 = .ok (.iload_n 2, 1) := by decide +kernel
theorem d_Ca_runDown_18 : decode M_Ca_runDown.2.1 18 = .ok (.iadd, 1) := by decide +kernel
theorem d_Ca_runDown_19 : decode M_Ca_runDown.2.1 19 = .ok (.iastore, 1) := by decide +kernel
theorem d_Ca_runDown_20 : decode M_Ca_runDown.2.1 20 = .ok (.return_, 1) := by decide +kernel
theorem d_Ca_countMinutes_0 : decode M_Ca_countMinutes.2.1 0 = .ok (.iconst 0, 1) := by decide +kernel
theorem d_Ca_countMinutes_1 : decode M_Ca_countMinutes.2.1 1 = .ok (.istore_n 3, 1) := by decide +kernel
theorem d_Ca_countMinutes_2 : decode M_Ca_countMinutes.2.1 2 = .ok (.iload_n 3, 1) := by decide +kernel
theorem d_Ca_countMinutes_3 : decode M_Ca_countMinutes.2.1 3 = .ok (.iload_n 1, 1) := by decide +kernel
theorem d_Ca_countMinutes_4 : decode M_Ca_countMinutes.2.1 4 = .ok (.if_icmp .ge 43, 3) := by decide +kernel
theorem d_Ca_countMinutes_7 : decode M_Ca_countMinutes.2.1 7 = .ok (.aload_n 0, 1) := by decide +kernel
theorem d_Ca_countMinutes_8 : decode M_Ca_countMinutes.2.1 8 = .ok (.getfield 31, 3) := by decide +kernel
theorem d_Ca_countMinutes_11 : decode M_Ca_countMinutes.2.1 11 = .ok (.iload_n 3, 1) := by decide +kernel
theorem d_Ca_countMinutes_12 : decode M_Ca_countMinutes.2.1 12 = .ok (.iaload, 1) := by decide +kernel
theorem d_Ca_countMinutes_13 : decode M_Ca_countMinutes.2.1 13 = .ok (.bipush (-2), 2) := by decide +kernel
theorem d_Ca_countMinutes_15 : decode M_Ca_countMinutes.2.1 15 = .ok (.if_icmp .ne 16, 3) := by decide +kernel
theorem d_Ca_countMinutes_18 : decode M_Ca_countMinutes.2.1 18 = .ok (.aload_n 0, 1) := by decide +kernel
theorem d_Ca_countMinutes_19 : decode M_Ca_countMinutes.2.1 19 = .ok (.getfield 34, 3) := by decide +kernel
theorem d_Ca_countMinutes_22 : decode M_Ca_countMinutes.2.1 22 = .ok (.iload_n 3, 1) := by decide +kernel
theorem d_Ca_countMinutes_23 : decode M_Ca_countMinutes.2.1 23 = .ok (.dup2, 1) := by decide +kernel
theorem d_Ca_countMinutes_24 : decode M_Ca_countMinutes.2.1 24 = .ok (.iaload, 1) := by decide +kernel
theorem d_Ca_countMinutes_25 : decode M_Ca_countMinutes.2.1 25 = .ok (.iload_n 2, 1) := by decide +kernel
theorem d_Ca_countMinutes_26 : decode M_Ca_countMinutes.2.1 26 = .ok (.iadd, 1) := by decide +kernel
theorem d_Ca_countMinutes_27 : decode M_Ca_countMinutes.2.1 27 = .ok (.iastore, 1) := by decide +kernel
theorem d_Ca_countMinutes_28 : decode M_Ca_countMinutes.2.1 28 = .ok (.goto 13, 3) := by decide +kernel
theorem d_Ca_countMinutes_31 : decode M_Ca_countMinutes.2.1 31 = .ok (.aload_n 0, 1) := by decide +kernel
theorem d_Ca_countMinutes_32 : decode M_Ca_countMinutes.2.1 32 = .ok (.getfield 37, 3) := by decide +kernel
theorem d_Ca_countMinutes_35 : decode M_Ca_countMinutes.2.1 35 = .ok (.iload_n 3, 1) := by decide +kernel
theorem d_Ca_countMinutes_36 : decode M_Ca_countMinutes.2.1 36 = .ok (.dup2, 1) := by decide +kernel
theorem d_Ca_countMinutes_37 : decode M_Ca_countMinutes.2.1 37 = .ok (.iaload, 1) := by decide +kernel
theorem d_Ca_countMinutes_38 : decode M_Ca_countMinutes.2.1 38 = .ok (.iload_n 2, 1) := by decide +kernel
theorem d_Ca_countMinutes_39 : decode M_Ca_countMinutes.2.1 39 = .ok (.iadd, 1) := by decide +kernel
theorem d_Ca_countMinutes_40 : decode M_Ca_countMinutes.2.1 40 = .ok (.iastore, 1) := by decide +kernel
theorem d_Ca_countMinutes_41 : decode M_Ca_countMinutes.2.1 41 = .ok (.iinc 3 1, 3) := by decide +kernel
theorem d_Ca_countMinutes_44 : decode M_Ca_countMinutes.2.1 44 = .ok (.goto (-42), 3) := by decide +kernel
theorem d_Ca_countMinutes_47 : decode M_Ca_countMinutes.2.1 47 = .ok (.aload_n 0, 1) := by decide +kernel
theorem d_Ca_countMinutes_48 : decode M_Ca_countMinutes.2.1 48 = .ok (.dup, 1) := by decide +kernel
theorem d_Ca_countMinutes_49 : decode M_Ca_countMinutes.2.1 49 = .ok (.getfield 62, 3) := by decide +kernel
theorem d_Ca_countMinutes_52 : decode M_Ca_countMinutes.2.1 52 = .ok (.iload_n 2, 1) := by decide +kernel
theorem d_Ca_countMinutes_53 : decode M_Ca_countMinutes.2.1 53 = .ok (.iadd, 1) := by decide +kernel
theorem d_Ca_countMinutes_54 : decode M_Ca_countMinutes.2.1 54 = .ok (.putfield 62, 3) := by decide +kernel
theorem d_Ca_countMinutes_57 : decode M_Ca_countMinutes.2.1 57 = .ok (.return_, 1) := by decide +kernel
theorem d_Ca_comer_0 : decode M_Ca_comer.2.1 0 = .ok (.aload_n 0, 1) := by decide +kernel
theorem d_Ca_comer_1 : decode M_Ca_comer.2.1 1 = .ok (.getfield 18, 3) := by decide +kernel
theorem d_Ca_comer_4 : decode M_Ca_comer.2.1 4 = .ok (.iload_n 1, 1) := by decide +kernel
theorem d_Ca_comer_5 : decode M_Ca_comer.2.1 5 = .ok (.iaload, 1) := by decide +kernel
theorem d_Ca_comer_6 : decode M_Ca_comer.2.1 6 = .ok (.istore_n 3, 1) := by decide +kernel
theorem d_Ca_comer_7 : decode M_Ca_comer.2.1 7 = .ok (.iload_n 3, 1) := by decide +kernel
theorem d_Ca_comer_8 : decode M_Ca_comer.2.1 8 = .ok (.bipush (-2), 2) := by decide +kernel
theorem d_Ca_comer_10 : decode M_Ca_comer.2.1 10 = .ok (.if_icmp .eq 13, 3) := by decide +kernel
theorem d_Ca_comer_13 : decode M_Ca_comer.2.1 13 = .ok (.aload_n 0, 1) := by decide +kernel
theorem d_Ca_comer_14 : decode M_Ca_comer.2.1 14 = .ok (.getfield 18, 3) := by decide +kernel
theorem d_Ca_comer_17 : decode M_Ca_comer.2.1 17 = .ok (.iload_n 2, 1) := by decide +kernel
theorem d_Ca_comer_18 : decode M_Ca_comer.2.1 18 = .ok (.iaload, 1) := by decide +kernel
theorem d_Ca_comer_19 : decode M_Ca_comer.2.1 19 = .ok (.iload_n 3, 1) := by decide +kernel
theorem d_Ca_comer_20 : decode M_Ca_comer.2.1 20 = .ok (.if_icmp .ne 8, 3) := by decide +kernel
theorem d_Ca_comer_23 : decode M_Ca_comer.2.1 23 = .ok (.bipush (-2), 2) := by decide +kernel
theorem d_Ca_comer_25 : decode M_Ca_comer.2.1 25 = .ok (.goto 9, 3) := by decide +kernel
theorem d_Ca_comer_28 : decode M_Ca_comer.2.1 28 = .ok (.aload_n 0, 1) := by decide +kernel
theorem d_Ca_comer_29 : decode M_Ca_comer.2.1 29 = .ok (.getfield 18, 3) := by decide +kernel
theorem d_Ca_comer_32 : decode M_Ca_comer.2.1 32 = .ok (.iload_n 2, 1) := by decide +kernel
theorem d_Ca_comer_33 : decode M_Ca_comer.2.1 33 = .ok (.iaload, 1) := by decide +kernel
theorem d_Ca_comer_34 : decode M_Ca_comer.2.1 34 = .ok (.ireturn, 1) := by decide +kernel
theorem d_Ca_relieve_0 : decode M_Ca_relieve.2.1 0 = .ok (.aload_n 0, 1) := by decide +kernel
theorem d_Ca_relieve_1 : decode M_Ca_relieve.2.1 1 = .ok (.iload_n 1, 1) := by decide +kernel
theorem d_Ca_relieve_2 : decode M_Ca_relieve.2.1 2 = .ok (.iload_n 2, 1) := by decide +kernel
theorem d_Ca_relieve_3 : decode M_Ca_relieve.2.1 3 = .ok (.invokevirtual 134, 3) := by decide +kernel
theorem d_Ca_relieve_6 : decode M_Ca_relieve.2.1 6 = .ok (.istore_n 3, 1) := by decide +kernel
theorem d_Ca_relieve_7 : decode M_Ca_relieve.2.1 7 = .ok (.iload_n 3, 1) := by decide +kernel
theorem d_Ca_relieve_8 : decode M_Ca_relieve.2.1 8 = .ok (.bipush (-2), 2) := by decide +kernel
theorem d_Ca_relieve_10 : decode M_Ca_relieve.2.1 10 = .ok (.if_icmp .ne 4, 3) := by decide +kernel
theorem d_Ca_relieve_13 : decode M_Ca_relieve.2.1 13 = .ok (.return_, 1) := by decide +kernel
theorem d_Ca_relieve_14 : decode M_Ca_relieve.2.1 14 = .ok (.aload_n 0, 1) := by decide +kernel
theorem d_Ca_relieve_15 : decode M_Ca_relieve.2.1 15 = .ok (.getfield 18, 3) := by decide +kernel
theorem d_Ca_relieve_18 : decode M_Ca_relieve.2.1 18 = .ok (.iload_n 1, 1) := by decide +kernel
theorem d_Ca_relieve_19 : decode M_Ca_relieve.2.1 19 = .ok (.iaload, 1) := by decide +kernel
theorem d_Ca_relieve_20 : decode M_Ca_relieve.2.1 20 = .ok (.istore 4, 2) := by decide +kernel
theorem d_Ca_relieve_22 : decode M_Ca_relieve.2.1 22 = .ok (.aload_n 0, 1) := by decide +kernel
theorem d_Ca_relieve_23 : decode M_Ca_relieve.2.1 23 = .ok (.getfield 9, 3) := by decide +kernel
theorem d_Ca_relieve_26 : decode M_Ca_relieve.2.1 26 = .ok (.iload_n 1, 1) := by decide +kernel
theorem d_Ca_relieve_27 : decode M_Ca_relieve.2.1 27 = .ok (.aload_n 0, 1) := by decide +kernel
theorem d_Ca_relieve_28 : decode M_Ca_relieve.2.1 28 = .ok (.getfield 15, 3) := by decide +kernel
theorem d_Ca_relieve_31 : decode M_Ca_relieve.2.1 31 = .ok (.iload_n 1, 1) := by decide +kernel
theorem d_Ca_relieve_32 : decode M_Ca_relieve.2.1 32 = .ok (.iaload, 1) := by decide +kernel
theorem d_Ca_relieve_33 : decode M_Ca_relieve.2.1 33 = .ok (.iastore, 1) := by decide +kernel
theorem d_Ca_relieve_34 : decode M_Ca_relieve.2.1 34 = .ok (.aload_n 0, 1) := by decide +kernel
theorem d_Ca_relieve_35 : decode M_Ca_relieve.2.1 35 = .ok (.getfield 15, 3) := by decide +kernel
theorem d_Ca_relieve_38 : decode M_Ca_relieve.2.1 38 = .ok (.iload_n 1, 1) := by decide +kernel
theorem d_Ca_relieve_39 : decode M_Ca_relieve.2.1 39 = .ok (.iconst 0, 1) := by decide +kernel
theorem d_Ca_relieve_40 : decode M_Ca_relieve.2.1 40 = .ok (.iastore, 1) := by decide +kernel
theorem d_Ca_relieve_41 : decode M_Ca_relieve.2.1 41 = .ok (.aload_n 0, 1) := by decide +kernel
theorem d_Ca_relieve_42 : decode M_Ca_relieve.2.1 42 = .ok (.getfield 25, 3) := by decide +kernel
theorem d_Ca_relieve_45 : decode M_Ca_relieve.2.1 45 = .ok (.iload_n 1, 1) := by decide +kernel
theorem d_Ca_relieve_46 : decode M_Ca_relieve.2.1 46 = .ok (.dup2, 1) := by decide +kernel
theorem d_Ca_relieve_47 : decode M_Ca_relieve.2.1 47 = .ok (.iaload, 1) := by decide +kernel
theorem d_Ca_relieve_48 : decode M_Ca_relieve.2.1 48 = .ok (.iconst 1, 1) := by decide +kernel
theorem d_Ca_relieve_49 : decode M_Ca_relieve.2.1 49 = .ok (.iadd, 1) := by decide +kernel
theorem d_Ca_relieve_50 : decode M_Ca_relieve.2.1 50 = .ok (.iastore, 1) := by decide +kernel
theorem d_Ca_relieve_51 : decode M_Ca_relieve.2.1 51 = .ok (.aload_n 0, 1) := by decide +kernel
theorem d_Ca_relieve_52 : decode M_Ca_relieve.2.1 52 = .ok (.dup, 1) := by decide +kernel
theorem d_Ca_relieve_53 : decode M_Ca_relieve.2.1 53 = .ok (.getfield 96, 3) := by decide +kernel
theorem d_Ca_relieve_56 : decode M_Ca_relieve.2.1 56 = .ok (.iconst 1, 1) := by decide +kernel
theorem d_Ca_relieve_57 : decode M_Ca_relieve.2.1 57 = .ok (.iload_n 1, 1) := by decide +kernel
theorem d_Ca_relieve_58 : decode M_Ca_relieve.2.1 58 = .ok (.ishl, 1) := by decide +kernel
theorem d_Ca_relieve_59 : decode M_Ca_relieve.2.1 59 = .ok (.ior, 1) := by decide +kernel
theorem d_Ca_relieve_60 : decode M_Ca_relieve.2.1 60 = .ok (.putfield 96, 3) := by decide +kernel
theorem d_Ca_relieve_63 : decode M_Ca_relieve.2.1 63 = .ok (.aload_n 0, 1) := by decide +kernel
theorem d_Ca_relieve_64 : decode M_Ca_relieve.2.1 64 = .ok (.getfield 18, 3) := by decide +kernel
theorem d_Ca_relieve_67 : decode M_Ca_relieve.2.1 67 = .ok (.iload_n 2, 1) := by decide +kernel
theorem d_Ca_relieve_68 : decode M_Ca_relieve.2.1 68 = .ok (.bipush (-2), 2) := by decide +kernel
theorem d_Ca_relieve_70 : decode M_Ca_relieve.2.1 70 = .ok (.iastore, 1) := by decide +kernel
theorem d_Ca_relieve_71 : decode M_Ca_relieve.2.1 71 = .ok (.aload_n 0, 1) := by decide +kernel
theorem d_Ca_relieve_72 : decode M_Ca_relieve.2.1 72 = .ok (.iload_n 3, 1) := by decide +kernel
theorem d_Ca_relieve_73 : decode M_Ca_relieve.2.1 73 = .ok (.iload_n 1, 1) := by decide +kernel
theorem d_Ca_relieve_74 : decode M_Ca_relieve.2.1 74 = .ok (.invokevirtual 146, 3) := by decide +kernel
theorem d_Ca_relieve_77 : decode M_Ca_relieve.2.1 77 = .ok (.aload_n 0, 1) := by decide +kernel
theorem d_Ca_relieve_78 : decode M_Ca_relieve.2.1 78 = .ok (.getfield 52, 3) := by decide +kernel
theorem d_Ca_relieve_81 : decode M_Ca_relieve.2.1 81 = .ok (.ifCond .le 13, 3) := by decide +kernel
theorem d_Ca_relieve_84 : decode M_Ca_relieve.2.1 84 = .ok (.aload_n 0, 1) := by decide +kernel
theorem d_Ca_relieve_85 : decode M_Ca_relieve.2.1 85 = .ok (.aload_n 0, 1) := by decide +kernel
theorem d_Ca_relieve_86 : decode M_Ca_relieve.2.1 86 = .ok (.iconst 0, 1) := by decide +kernel
theorem d_Ca_relieve_87 : decode M_Ca_relieve.2.1 87 = .ok (.invokevirtual 143, 3) := by decide +kernel
theorem d_Ca_relieve_90 : decode M_Ca_relieve.2.1 90 = .ok (.iload_n 2, 1) := by decide +kernel
theorem d_Ca_relieve_91 : decode M_Ca_relieve.2.1 91 = .ok (.invokevirtual 146, 3) := by decide +kernel
theorem d_Ca_relieve_94 : decode M_Ca_relieve.2.1 94 = .ok (.aload_n 0, 1) := by decide +kernel
theorem d_Ca_relieve_95 : decode M_Ca_relieve.2.1 95 = .ok (.getfield 40, 3) := by decide +kernel
theorem d_Ca_relieve_98 : decode M_Ca_relieve.2.1 98 = .ok (.iload 4, 2) := by decide +kernel
theorem d_Ca_relieve_100 : decode M_Ca_relieve.2.1 100 = .ok (.dup2, 1) := by decide +kernel
theorem d_Ca_relieve_101 : decode M_Ca_relieve.2.1 101 = .ok (.iaload, 1) := by decide +kernel
theorem d_Ca_relieve_102 : decode M_Ca_relieve.2.1 102 = .ok (.iconst 1, 1) := by decide +kernel
theorem d_Ca_relieve_103 : decode M_Ca_relieve.2.1 103 = .ok (.iadd, 1) := by decide +kernel
theorem d_Ca_relieve_104 : decode M_Ca_relieve.2.1 104 = .ok (.iastore, 1) := by decide +kernel
theorem d_Ca_relieve_105 : decode M_Ca_relieve.2.1 105 = .ok (.aload_n 0, 1) := by decide +kernel
theorem d_Ca_relieve_106 : decode M_Ca_relieve.2.1 106 = .ok (.iload 4, 2) := by decide +kernel
theorem d_Ca_relieve_108 : decode M_Ca_relieve.2.1 108 = .ok (.invokevirtual 149, 3) := by decide +kernel
theorem d_Ca_relieve_111 : decode M_Ca_relieve.2.1 111 = .ok (.return_, 1) := by decide +kernel
theorem d_Ca_stand_0 : decode M_Ca_stand.2.1 0 = .ok (.aload_n 0, 1) := by decide +kernel
theorem d_Ca_stand_1 : decode M_Ca_stand.2.1 1 = .ok (.getfield 18, 3) := by decide +kernel
theorem d_Ca_stand_4 : decode M_Ca_stand.2.1 4 = .ok (.iload_n 2, 1) := by decide +kernel
theorem d_Ca_stand_5 : decode M_Ca_stand.2.1 5 = .ok (.iload_n 1, 1) := by decide +kernel
theorem d_Ca_stand_6 : decode M_Ca_stand.2.1 6 = .ok (.iastore, 1) := by decide +kernel
theorem d_Ca_stand_7 : decode M_Ca_stand.2.1 7 = .ok (.aload_n 0, 1) := by decide +kernel
theorem d_Ca_stand_8 : decode M_Ca_stand.2.1 8 = .ok (.getfield 31, 3) := by decide +kernel
theorem d_Ca_stand_11 : decode M_Ca_stand.2.1 11 = .ok (.iload_n 1, 1) := by decide +kernel
theorem d_Ca_stand_12 : decode M_Ca_stand.2.1 12 = .ok (.iload_n 2, 1) := by decide +kernel
theorem d_Ca_stand_13 : decode M_Ca_stand.2.1 13 = .ok (.iastore, 1) := by decide +kernel
theorem d_Ca_stand_14 : decode M_Ca_stand.2.1 14 = .ok (.aload_n 0, 1) := by decide +kernel
theorem d_Ca_stand_15 : decode M_Ca_stand.2.1 15 = .ok (.getfield 37, 3) := by decide +kernel
theorem d_Ca_stand_18 : decode M_Ca_stand.2.1 18 = .ok (.iload_n 1, 1) := by decide +kernel
theorem d_Ca_stand_19 : decode M_Ca_stand.2.1 19 = .ok (.iconst 0, 1) := by decide +kernel
theorem d_Ca_stand_20 : decode M_Ca_stand.2.1 20 = .ok (.iastore, 1) := by decide +kernel
theorem d_Ca_stand_21 : decode M_Ca_stand.2.1 21 = .ok (.return_, 1) := by decide +kernel
theorem d_Ca_lieBehindAll_0 : decode M_Ca_lieBehindAll.2.1 0 = .ok (.aload_n 0, 1) := by decide +kernel
theorem d_Ca_lieBehindAll_1 : decode M_Ca_lieBehindAll.2.1 1 = .ok (.getfield 31, 3) := by decide +kernel
theorem d_Ca_lieBehindAll_4 : decode M_Ca_lieBehindAll.2.1 4 = .ok (.iload_n 1, 1) := by decide +kernel
theorem d_Ca_lieBehindAll_5 : decode M_Ca_lieBehindAll.2.1 5 = .ok (.bipush (-2), 2) := by decide +kernel
theorem d_Ca_lieBehindAll_7 : decode M_Ca_lieBehindAll.2.1 7 = .ok (.iastore, 1) := by decide +kernel
theorem d_Ca_lieBehindAll_8 : decode M_Ca_lieBehindAll.2.1 8 = .ok (.aload_n 0, 1) := by decide +kernel
theorem d_Ca_lieBehindAll_9 : decode M_Ca_lieBehindAll.2.1 9 = .ok (.getfield 37, 3) := by decide +kernel
theorem d_Ca_lieBehindAll_12 : decode M_Ca_lieBehindAll.2.1 12 = .ok (.iload_n 1, 1) := by decide +kernel
theorem d_Ca_lieBehindAll_13 : decode M_Ca_lieBehindAll.2.1 13 = .ok (.iconst 0, 1) := by decide +kernel
theorem d_Ca_lieBehindAll_14 : decode M_Ca_lieBehindAll.2.1 14 = .ok (.iastore, 1) := by decide +kernel
theorem d_Ca_lieBehindAll_15 : decode M_Ca_lieBehindAll.2.1 15 = .ok (.aload_n 0, 1) := by decide +kernel
theorem d_Ca_lieBehindAll_16 : decode M_Ca_lieBehindAll.2.1 16 = .ok (.getfield 52, 3) := by decide +kernel
theorem d_Ca_lieBehindAll_19 : decode M_Ca_lieBehindAll.2.1 19 = .ok (.bipush 12, 2) := by decide +kernel
theorem d_Ca_lieBehindAll_21 : decode M_Ca_lieBehindAll.2.1 21 = .ok (.if_icmp .ge 20, 3) := by decide +kernel
theorem d_Ca_lieBehindAll_24 : decode M_Ca_lieBehindAll.2.1 24 = .ok (.aload_n 0, 1) := by decide +kernel
theorem d_Ca_lieBehindAll_25 : decode M_Ca_lieBehindAll.2.1 25 = .ok (.getfield 43, 3) := by decide +kernel
theorem d_Ca_lieBehindAll_28 : decode M_Ca_lieBehindAll.2.1 28 = .ok (.aload_n 0, 1) := by decide +kernel
theorem d_Ca_lieBehindAll_29 : decode M_Ca_lieBehindAll.2.1 29 = .ok (.dup, 1) := by decide +kernel
theorem d_Ca_lieBehindAll_30 : decode M_Ca_lieBehindAll.2.1 30 = .ok (.getfield 52, 3) := by decide +kernel
theorem d_Ca_lieBehindAll_33 : decode M_Ca_lieBehindAll.2.1 33 = .ok (.dup_x1, 1) := by decide +kernel
theorem d_Ca_lieBehindAll_34 : decode M_Ca_lieBehindAll.2.1 34 = .ok (.iconst 1, 1) := by decide +kernel
theorem d_Ca_lieBehindAll_35 : decode M_Ca_lieBehindAll.2.1 35 = .ok (.iadd, 1) := by decide +kernel
theorem d_Ca_lieBehindAll_36 : decode M_Ca_lieBehindAll.2.1 36 = .ok (.putfield 52, 3) := by decide +kernel
theorem d_Ca_lieBehindAll_39 : decode M_Ca_lieBehindAll.2.1 39 = .ok (.iload_n 1, 1) := by decide +kernel
theorem d_Ca_lieBehindAll_40 : decode M_Ca_lieBehindAll.2.1 40 = .ok (.iastore, 1) := by decide +kernel
theorem d_Ca_lieBehindAll_41 : decode M_Ca_lieBehindAll.2.1 41 = .ok (.return_, 1) := by decide +kernel
theorem d_Ca_leaveBed_0 : decode M_Ca_leaveBed.2.1 0 = .ok (.iload_n 1, 1) := by decide +kernel
theorem d_Ca_leaveBed_1 : decode M_Ca_leaveBed.2.1 1 = .ok (.ifCond .lt 11, 3) := by decide +kernel
theorem d_Ca_leaveBed_4 : decode M_Ca_leaveBed.2.1 4 = .ok (.iload_n 1, 1) := by decide +kernel
theorem d_Ca_leaveBed_5 : decode M_Ca_leaveBed.2.1 5 = .ok (.aload_n 0, 1) := by decide +kernel
theorem d_Ca_leaveBed_6 : decode M_Ca_leaveBed.2.1 6 = .ok (.getfield 52, 3) := by decide +kernel
theorem d_Ca_leaveBed_9 : decode M_Ca_leaveBed.2.1 9 = .ok (.if_icmp .lt 5, 3) := by decide +kernel
theorem d_Ca_leaveBed_12 : decode M_Ca_leaveBed.2.1 12 = .ok (.iconst 0, 1) := by decide +kernel
theorem d_Ca_leaveBed_13 : decode M_Ca_leaveBed.2.1 13 = .ok (.ireturn, 1) := by decide +kernel
theorem d_Ca_leaveBed_14 : decode M_Ca_leaveBed.2.1 14 = .ok (.aload_n 0, 1) := by decide +kernel
theorem d_Ca_leaveBed_15 : decode M_Ca_leaveBed.2.1 15 = .ok (.getfield 43, 3) := by decide +kernel
theorem d_Ca_leaveBed_18 : decode M_Ca_leaveBed.2.1 18 = .ok (.iload_n 1, 1) := by decide +kernel
theorem d_Ca_leaveBed_19 : decode M_Ca_leaveBed.2.1 19 = .ok (.iaload, 1) := by decide +kernel
theorem d_Ca_leaveBed_20 : decode M_Ca_leaveBed.2.1 20 = .ok (.istore_n 2, 1) := by decide +kernel
theorem d_Ca_leaveBed_21 : decode M_Ca_leaveBed.2.1 21 = .ok (.aload_n 0, 1) := by decide +kernel
theorem d_Ca_leaveBed_22 : decode M_Ca_leaveBed.2.1 22 = .ok (.dup, 1) := by decide +kernel
theorem d_Ca_leaveBed_23 : decode M_Ca_leaveBed.2.1 23 = .ok (.getfield 52, 3) := by decide +kernel
theorem d_Ca_leaveBed_26 : decode M_Ca_leaveBed.2.1 26 = .ok (.iconst 1, 1) := by decide +kernel
theorem d_Ca_leaveBed_27 : decode M_Ca_leaveBed.2.1 27 = .ok (.isub, 1) := by decide +kernel
theorem d_Ca_leaveBed_28 : decode M_Ca_leaveBed.2.1 28 = .ok (.putfield 52, 3) := by decide +kernel
theorem d_Ca_leaveBed_31 : decode M_Ca_leaveBed.2.1 31 = .ok (.iload_n 1, 1) := by decide +kernel
theorem d_Ca_leaveBed_32 : decode M_Ca_leaveBed.2.1 32 = .ok (.istore_n 3, 1) := by decide +kernel
theorem d_Ca_leaveBed_33 : decode M_Ca_leaveBed.2.1 33 = .ok (.iload_n 3, 1) := by decide +kernel
theorem d_Ca_leaveBed_34 : decode M_Ca_leaveBed.2.1 34 = .ok (.aload_n 0, 1) := by decide +kernel
theorem d_Ca_leaveBed_35 : decode M_Ca_leaveBed.2.1 35 = .ok (.getfield 52, 3) := by decide +kernel
theorem d_Ca_leaveBed_38 : decode M_Ca_leaveBed.2.1 38 = .ok (.if_icmp .ge 23, 3) := by decide +kernel
theorem d_Ca_leaveBed_41 : decode M_Ca_leaveBed.2.1 41 = .ok (.aload_n 0, 1) := by decide +kernel
theorem d_Ca_leaveBed_42 : decode M_Ca_leaveBed.2.1 42 = .ok (.getfield 43, 3) := by decide +kernel
theorem d_Ca_leaveBed_45 : decode M_Ca_leaveBed.2.1 45 = .ok (.iload_n 3, 1) := by decide +kernel
theorem d_Ca_leaveBed_46 : decode M_Ca_leaveBed.2.1 46 = .ok (.aload_n 0, 1) := by decide +kernel
theorem d_Ca_leaveBed_47 : decode M_Ca_leaveBed.2.1 47 = .ok (.getfield 43, 3) := by decide +kernel
theorem d_Ca_leaveBed_50 : decode M_Ca_leaveBed.2.1 50 = .ok (.iload_n 3, 1) := by decide +kernel
theorem d_Ca_leaveBed_51 : decode M_Ca_leaveBed.2.1 51 = .ok (.iconst 1, 1) := by decide +kernel
theorem d_Ca_leaveBed_52 : decode M_Ca_leaveBed.2.1 52 = .ok (.iadd, 1) := by decide +kernel
theorem d_Ca_leaveBed_53 : decode M_Ca_leaveBed.2.1 53 = .ok (.iaload, 1) := by decide +kernel
theorem d_Ca_leaveBed_54 : decode M_Ca_leaveBed.2.1 54 = .ok (.iastore, 1) := by decide +kernel
theorem d_Ca_leaveBed_55 : decode M_Ca_leaveBed.2.1 55 = .ok (.iinc 3 1, 3) := by decide +kernel
theorem d_Ca_leaveBed_58 : decode M_Ca_leaveBed.2.1 58 = .ok (.goto (-25), 3) := by decide +kernel
theorem d_Ca_leaveBed_61 : decode M_Ca_leaveBed.2.1 61 = .ok (.iload_n 2, 1) := by decide +kernel
theorem d_Ca_leaveBed_62 : decode M_Ca_leaveBed.2.1 62 = .ok (.ireturn, 1) := by decide +kernel
theorem d_Ca_placeInBed_0 : decode M_Ca_placeInBed.2.1 0 = .ok (.iconst 0, 1) := by decide +kernel
theorem d_Ca_placeInBed_1 : decode M_Ca_placeInBed.2.1 1 = .ok (.istore_n 2, 1) := by decide +kernel
theorem d_Ca_placeInBed_2 : decode M_Ca_placeInBed.2.1 2 = .ok (.iload_n 2, 1) := by decide +kernel
theorem d_Ca_placeInBed_3 : decode M_Ca_placeInBed.2.1 3 = .ok (.aload_n 0, 1) := by decide +kernel
theorem d_Ca_placeInBed_4 : decode M_Ca_placeInBed.2.1 4 = .ok (.getfield 52, 3) := by decide +kernel
theorem d_Ca_placeInBed_7 : decode M_Ca_placeInBed.2.1 7 = .ok (.if_icmp .ge 21, 3) := by decide +kernel
theorem d_Ca_placeInBed_10 : decode M_Ca_placeInBed.2.1 10 = .ok (.aload_n 0, 1) := by decide +kernel
theorem d_Ca_placeInBed_11 : decode M_Ca_placeInBed.2.1 11 = .ok (.getfield 43, 3) := by decide +kernel
theorem d_Ca_placeInBed_14 : decode M_Ca_placeInBed.2.1 14 = .ok (.iload_n 2, 1) := by decide +kernel
theorem d_Ca_placeInBed_15 : decode M_Ca_placeInBed.2.1 15 = .ok (.iaload, 1) := by decide +kernel
theorem d_Ca_placeInBed_16 : decode M_Ca_placeInBed.2.1 16 = .ok (.iload_n 1, 1) := by decide +kernel
theorem d_Ca_placeInBed_17 : decode M_Ca_placeInBed.2.1 17 = .ok (.if_icmp .ne 5, 3) := by decide +kernel
theorem d_Ca_placeInBed_20 : decode M_Ca_placeInBed.2.1 20 = .ok (.iload_n 2, 1) := by decide +kernel
theorem d_Ca_placeInBed_21 : decode M_Ca_placeInBed.2.1 21 = .ok (.ireturn, 1) := by decide +kernel
theorem d_Ca_placeInBed_22 : decode M_Ca_placeInBed.2.1 22 = .ok (.iinc 2 1, 3) := by decide +kernel
theorem d_Ca_placeInBed_25 : decode M_Ca_placeInBed.2.1 25 = .ok (.goto (-23), 3) := by decide +kernel
theorem d_Ca_placeInBed_28 : decode M_Ca_placeInBed.2.1 28 = .ok (.bipush (-2), 2) := by decide +kernel
theorem d_Ca_placeInBed_30 : decode M_Ca_placeInBed.2.1 30 = .ok (.ireturn, 1) := by decide +kernel
theorem d_Ca_exchange_0 : decode M_Ca_exchange.2.1 0 = .ok (.aload_n 0, 1) := by decide +kernel
theorem d_Ca_exchange_1 : decode M_Ca_exchange.2.1 1 = .ok (.getfield 15, 3) := by decide +kernel
theorem d_Ca_exchange_4 : decode M_Ca_exchange.2.1 4 = .ok (.iload_n 1, 1) := by decide +kernel
theorem d_Ca_exchange_5 : decode M_Ca_exchange.2.1 5 = .ok (.iaload, 1) := by decide +kernel
theorem d_Ca_exchange_6 : decode M_Ca_exchange.2.1 6 = .ok (.istore_n 2, 1) := by decide +kernel
theorem d_Ca_exchange_7 : decode M_Ca_exchange.2.1 7 = .ok (.aload_n 0, 1) := by decide +kernel
theorem d_Ca_exchange_8 : decode M_Ca_exchange.2.1 8 = .ok (.getfield 15, 3) := by decide +kernel
theorem d_Ca_exchange_11 : decode M_Ca_exchange.2.1 11 = .ok (.iload_n 1, 1) := by decide +kernel
theorem d_Ca_exchange_12 : decode M_Ca_exchange.2.1 12 = .ok (.aload_n 0, 1) := by decide +kernel
theorem d_Ca_exchange_13 : decode M_Ca_exchange.2.1 13 = .ok (.getfield 9, 3) := by decide +kernel
theorem d_Ca_exchange_16 : decode M_Ca_exchange.2.1 16 = .ok (.iload_n 1, 1) := by decide +kernel
theorem d_Ca_exchange_17 : decode M_Ca_exchange.2.1 17 = .ok (.iaload, 1) := by decide +kernel
theorem d_Ca_exchange_18 : decode M_Ca_exchange.2.1 18 = .ok (.iastore, 1) := by decide +kernel
theorem d_Ca_exchange_19 : decode M_Ca_exchange.2.1 19 = .ok (.aload_n 0, 1) := by decide +kernel
theorem d_Ca_exchange_20 : decode M_Ca_exchange.2.1 20 = .ok (.getfield 9, 3) := by decide +kernel
theorem d_Ca_exchange_23 : decode M_Ca_exchange.2.1 23 = .ok (.iload_n 1, 1) := by decide +kernel
theorem d_Ca_exchange_24 : decode M_Ca_exchange.2.1 24 = .ok (.iload_n 2, 1) := by decide +kernel
theorem d_Ca_exchange_25 : decode M_Ca_exchange.2.1 25 = .ok (.iastore, 1) := by decide +kernel
theorem d_Ca_exchange_26 : decode M_Ca_exchange.2.1 26 = .ok (.return_, 1) := by decide +kernel
theorem d_Ca_emptyPosts_0 : decode M_Ca_emptyPosts.2.1 0 = .ok (.iconst 0, 1) := by decide +kernel
theorem d_Ca_emptyPosts_1 : decode M_Ca_emptyPosts.2.1 1 = .ok (.istore_n 2, 1) := by decide +kernel
theorem d_Ca_emptyPosts_2 : decode M_Ca_emptyPosts.2.1 2 = .ok (.iconst 0, 1) := by decide +kernel
theorem d_Ca_emptyPosts_3 : decode M_Ca_emptyPosts.2.1 3 = .ok (.istore_n 3, 1) := by decide +kernel
theorem d_Ca_emptyPosts_4 : decode M_Ca_emptyPosts.2.1 4 = .ok (.iload_n 3, 1) := by decide +kernel
theorem d_Ca_emptyPosts_5 : decode M_Ca_emptyPosts.2.1 5 = .ok (.iload_n 1, 1) := by decide +kernel
theorem d_Ca_emptyPosts_6 : decode M_Ca_emptyPosts.2.1 6 = .ok (.if_icmp .ge 28, 3) := by decide +kernel
theorem d_Ca_emptyPosts_9 : decode M_Ca_emptyPosts.2.1 9 = .ok (.iload_n 2, 1) := by decide +kernel
theorem d_Ca_emptyPosts_10 : decode M_Ca_emptyPosts.2.1 10 = .ok (.aload_n 0, 1) := by decide +kernel
theorem d_Ca_emptyPosts_11 : decode M_Ca_emptyPosts.2.1 11 = .ok (.getfield 18, 3) := by decide +kernel
theorem d_Ca_emptyPosts_14 : decode M_Ca_emptyPosts.2.1 14 = .ok (.iload_n 3, 1) := by decide +kernel
theorem d_Ca_emptyPosts_15 : decode M_Ca_emptyPosts.2.1 15 = .ok (.iaload, 1) := by decide +kernel
theorem d_Ca_emptyPosts_16 : decode M_Ca_emptyPosts.2.1 16 = .ok (.bipush (-2), 2) := by decide +kernel
theorem d_Ca_emptyPosts_18 : decode M_Ca_emptyPosts.2.1 18 = .ok (.if_icmp .ne 7, 3) := by decide +kernel
theorem d_Ca_emptyPosts_21 : decode M_Ca_emptyPosts.2.1 21 = .ok (.iconst 1, 1) := by decide +kernel
theorem d_Ca_emptyPosts_22 : decode M_Ca_emptyPosts.2.1 22 = .ok (.goto 4, 3) := by decide +kernel
theorem d_Ca_emptyPosts_25 : decode M_Ca_emptyPosts.2.1 25 = .ok (.iconst 0, 1) := by decide +kernel
theorem d_Ca_emptyPosts_26 : decode M_Ca_emptyPosts.2.1 26 = .ok (.iadd, 1) := by decide +kernel
theorem d_Ca_emptyPosts_27 : decode M_Ca_emptyPosts.2.1 27 = .ok (.istore_n 2, 1) := by decide +kernel
theorem d_Ca_emptyPosts_28 : decode M_Ca_emptyPosts.2.1 28 = .ok (.iinc 3 1, 3) := by decide +kernel
theorem d_Ca_emptyPosts_31 : decode M_Ca_emptyPosts.2.1 31 = .ok (.goto (-27), 3) := by decide +kernel
theorem d_Ca_emptyPosts_34 : decode M_Ca_emptyPosts.2.1 34 = .ok (.iload_n 2, 1) := by decide +kernel
theorem d_Ca_emptyPosts_35 : decode M_Ca_emptyPosts.2.1 35 = .ok (.ireturn, 1) := by decide +kernel
theorem d_Ca_grains_0 : decode M_Ca_grains.2.1 0 = .ok (.iconst 0, 1) := by decide +kernel
theorem d_Ca_grains_1 : decode M_Ca_grains.2.1 1 = .ok (.istore_n 2, 1) := by decide +kernel
theorem d_Ca_grains_2 : decode M_Ca_grains.2.1 2 = .ok (.iconst 0, 1) := by decide +kernel
theorem d_Ca_grains_3 : decode M_Ca_grains.2.1 3 = .ok (.istore_n 3, 1) := by decide +kernel
theorem d_Ca_grains_4 : decode M_Ca_grains.2.1 4 = .ok (.iload_n 3, 1) := by decide +kernel
theorem d_Ca_grains_5 : decode M_Ca_grains.2.1 5 = .ok (.iload_n 1, 1) := by decide +kernel
theorem d_Ca_grains_6 : decode M_Ca_grains.2.1 6 = .ok (.if_icmp .ge 25, 3) := by decide +kernel
theorem d_Ca_grains_9 : decode M_Ca_grains.2.1 9 = .ok (.iload_n 2, 1) := by decide +kernel
theorem d_Ca_grains_10 : decode M_Ca_grains.2.1 10 = .ok (.aload_n 0, 1) := by decide +kernel
theorem d_Ca_grains_11 : decode M_Ca_grains.2.1 11 = .ok (.getfield 9, 3) := by decide +kernel
theorem d_Ca_grains_14 : decode M_Ca_grains.2.1 14 = .ok (.iload_n 3, 1) := by decide +kernel
theorem d_Ca_grains_15 : decode M_Ca_grains.2.1 15 = .ok (.iaload, 1) := by decide +kernel
theorem d_Ca_grains_16 : decode M_Ca_grains.2.1 16 = .ok (.aload_n 0, 1) := by decide +kernel
theorem d_Ca_grains_17 : decode M_Ca_grains.2.1 17 = .ok (.getfield 15, 3) := by decide +kernel
theorem d_Ca_grains_20 : decode M_Ca_grains.2.1 20 = .ok (.iload_n 3, 1) := by decide +kernel
theorem d_Ca_grains_21 : decode M_Ca_grains.2.1 21 = .ok (.iaload, 1) := by decide +kernel
theorem d_Ca_grains_22 : decode M_Ca_grains.2.1 22 = .ok (.iadd, 1) := by decide +kernel
theorem d_Ca_grains_23 : decode M_Ca_grains.2.1 23 = .ok (.iadd, 1) := by decide +kernel
theorem d_Ca_grains_24 : decode M_Ca_grains.2.1 24 = .ok (.istore_n 2, 1) := by decide +kernel
theorem d_Ca_grains_25 : decode M_Ca_grains.2.1 25 = .ok (.iinc 3 1, 3) := by decide +kernel
theorem d_Ca_grains_28 : decode M_Ca_grains.2.1 28 = .ok (.goto (-24), 3) := by decide +kernel
theorem d_Ca_grains_31 : decode M_Ca_grains.2.1 31 = .ok (.iload_n 2, 1) := by decide +kernel
theorem d_Ca_grains_32 : decode M_Ca_grains.2.1 32 = .ok (.ireturn, 1) := by decide +kernel
theorem d_Ca_guardsWhoSlept_0 : decode M_Ca_guardsWhoSlept.2.1 0 = .ok (.iconst 0, 1) := by decide +kernel
theorem d_Ca_guardsWhoSlept_1 : decode M_Ca_guardsWhoSlept.2.1 1 = .ok (.istore_n 2, 1) := by decide +kernel
theorem d_Ca_guardsWhoSlept_2 : decode M_Ca_guardsWhoSlept.2.1 2 = .ok (.iconst 0, 1) := by decide +kernel
theorem d_Ca_guardsWhoSlept_3 : decode M_Ca_guardsWhoSlept.2.1 3 = .ok (.istore_n 3, 1) := by decide +kernel
theorem d_Ca_guardsWhoSlept_4 : decode M_Ca_guardsWhoSlept.2.1 4 = .ok (.iload_n 3, 1) := by decide +kernel
theorem d_Ca_guardsWhoSlept_5 : decode M_Ca_guardsWhoSlept.2.1 5 = .ok (.aload_n 1, 1) := by decide +kernel
theorem d_Ca_guardsWhoSlept_6 : decode M_Ca_guardsWhoSlept.2.1 6 = .ok (.getfield 99, 3) := by decide +kernel
theorem d_Ca_guardsWhoSlept_9 : decode M_Ca_guardsWhoSlept.2.1 9 = .ok (.if_icmp .ge 30, 3) := by decide +kernel
theorem d_Ca_guardsWhoSlept_12 : decode M_Ca_guardsWhoSlept.2.1 12 = .ok (.iload_n 2, 1) := by decide +kernel
theorem d_Ca_guardsWhoSlept_13 : decode M_Ca_guardsWhoSlept.2.1 13 = .ok (.aload_n 0, 1) := by decide +kernel
theorem d_Ca_guardsWhoSlept_14 : decode M_Ca_guardsWhoSlept.2.1 14 = .ok (.getfield 34, 3) := by decide +kernel
theorem d_Ca_guardsWhoSlept_17 : decode M_Ca_guardsWhoSlept.2.1 17 = .ok (.iload_n 3, 1) := by decide +kernel
theorem d_Ca_guardsWhoSlept_18 : decode M_Ca_guardsWhoSlept.2.1 18 = .ok (.iaload, 1) := by decide +kernel
theorem d_Ca_guardsWhoSlept_19 : decode M_Ca_guardsWhoSlept.2.1 19 = .ok (.aload_n 1, 1) := by decide +kernel
theorem d_Ca_guardsWhoSlept_20 : decode M_Ca_guardsWhoSlept.2.1 20 = .ok (.getfield 152, 3) := by decide +kernel
theorem d_Ca_guardsWhoSlept_23 : decode M_Ca_guardsWhoSlept.2.1 23 = .ok (.if_icmp .lt 7, 3) := by decide +kernel
theorem d_Ca_guardsWhoSlept_26 : decode M_Ca_guardsWhoSlept.2.1 26 = .ok (.iconst 1, 1) := by decide +kernel
theorem d_Ca_guardsWhoSlept_27 : decode M_Ca_guardsWhoSlept.2.1 27 = .ok (.goto 4, 3) := by decide +kernel
theorem d_Ca_guardsWhoSlept_30 : decode M_Ca_guardsWhoSlept.2.1 30 = .ok (.iconst 0, 1) := by decide +kernel
theorem d_Ca_guardsWhoSlept_31 : decode M_Ca_guardsWhoSlept.2.1 31 = .ok (.iadd, 1) := by decide +kernel
theorem d_Ca_guardsWhoSlept_32 : decode M_Ca_guardsWhoSlept.2.1 32 = .ok (.istore_n 2, 1) := by decide +kernel
theorem d_Ca_guardsWhoSlept_33 : decode M_Ca_guardsWhoSlept.2.1 33 = .ok (.iinc 3 1, 3) := by decide +kernel
theorem d_Ca_guardsWhoSlept_36 : decode M_Ca_guardsWhoSlept.2.1 36 = .ok (.goto (-32), 3) := by decide +kernel
theorem d_Ca_guardsWhoSlept_39 : decode M_Ca_guardsWhoSlept.2.1 39 = .ok (.iload_n 2, 1) := by decide +kernel
theorem d_Ca_guardsWhoSlept_40 : decode M_Ca_guardsWhoSlept.2.1 40 = .ok (.ireturn, 1) := by decide +kernel
theorem d_Ca_sleepWanted_0 : decode M_Ca_sleepWanted.2.1 0 = .ok (.iconst 0, 1) := by decide +kernel
theorem d_Ca_sleepWanted_1 : decode M_Ca_sleepWanted.2.1 1 = .ok (.istore_n 2, 1) := by decide +kernel
theorem d_Ca_sleepWanted_2 : decode M_Ca_sleepWanted.2.1 2 = .ok (.iconst 0, 1) := by decide +kernel
theorem d_Ca_sleepWanted_3 : decode M_Ca_sleepWanted.2.1 3 = .ok (.istore_n 3, 1) := by decide +kernel
theorem d_Ca_sleepWanted_4 : decode M_Ca_sleepWanted.2.1 4 = .ok (.iload_n 3, 1) := by decide +kernel
theorem d_Ca_sleepWanted_5 : decode M_Ca_sleepWanted.2.1 5 = .ok (.aload_n 1, 1) := by decide +kernel
theorem d_Ca_sleepWanted_6 : decode M_Ca_sleepWanted.2.1 6 = .ok (.getfield 99, 3) := by decide +kernel
theorem d_Ca_sleepWanted_9 : decode M_Ca_sleepWanted.2.1 9 = .ok (.if_icmp .ge 25, 3) := by decide +kernel
theorem d_Ca_sleepWanted_12 : decode M_Ca_sleepWanted.2.1 12 = .ok (.iload_n 2, 1) := by decide +kernel
theorem d_Ca_sleepWanted_13 : decode M_Ca_sleepWanted.2.1 13 = .ok (.aload_n 1, 1) := by decide +kernel
theorem d_Ca_sleepWanted_14 : decode M_Ca_sleepWanted.2.1 14 = .ok (.getfield 152, 3) := by decide +kernel
theorem d_Ca_sleepWanted_17 : decode M_Ca_sleepWanted.2.1 17 = .ok (.aload_n 0, 1) := by decide +kernel
theorem d_Ca_sleepWanted_18 : decode M_Ca_sleepWanted.2.1 18 = .ok (.getfield 34, 3) := by decide +kernel
theorem d_Ca_sleepWanted_21 : decode M_Ca_sleepWanted.2.1 21 = .ok (.iload_n 3, 1) := by decide +kernel
theorem d_Ca_sleepWanted_22 : decode M_Ca_sleepWanted.2.1 22 = .ok (.iaload, 1) := by decide +kernel
theorem d_Ca_sleepWanted_23 : decode M_Ca_sleepWanted.2.1 23 = .ok (.isub, 1) := by decide +kernel
theorem d_Ca_sleepWanted_24 : decode M_Ca_sleepWanted.2.1 24 = .ok (.invokestatic 69, 3) := by decide +kernel
theorem d_Ca_sleepWanted_27 : decode M_Ca_sleepWanted.2.1 27 = .ok (.istore_n 2, 1) := by decide +kernel
theorem d_Ca_sleepWanted_28 : decode M_Ca_sleepWanted.2.1 28 = .ok (.iinc 3 1, 3) := by decide +kernel
theorem d_Ca_sleepWanted_31 : decode M_Ca_sleepWanted.2.1 31 = .ok (.goto (-27), 3) := by decide +kernel
theorem d_Ca_sleepWanted_34 : decode M_Ca_sleepWanted.2.1 34 = .ok (.iload_n 2, 1) := by decide +kernel
theorem d_Ca_sleepWanted_35 : decode M_Ca_sleepWanted.2.1 35 = .ok (.ireturn, 1) := by decide +kernel
theorem d_Ca_longestOnWatch_0 : decode M_Ca_longestOnWatch.2.1 0 = .ok (.bipush (-2), 2) := by decide +kernel
theorem d_Ca_longestOnWatch_2 : decode M_Ca_longestOnWatch.2.1 2 = .ok (.istore_n 2, 1) := by decide +kernel
theorem d_Ca_longestOnWatch_3 : decode M_Ca_longestOnWatch.2.1 3 = .ok (.iconst 0, 1) := by decide +kernel
theorem d_Ca_longestOnWatch_4 : decode M_Ca_longestOnWatch.2.1 4 = .ok (.istore_n 3, 1) := by decide +kernel
theorem d_Ca_longestOnWatch_5 : decode M_Ca_longestOnWatch.2.1 5 = .ok (.iload_n 3, 1) := by decide +kernel
theorem d_Ca_longestOnWatch_6 : decode M_Ca_longestOnWatch.2.1 6 = .ok (.iload_n 1, 1) := by decide +kernel
theorem d_Ca_longestOnWatch_7 : decode M_Ca_longestOnWatch.2.1 7 = .ok (.if_icmp .ge 43, 3) := by decide +kernel
theorem d_Ca_longestOnWatch_10 : decode M_Ca_longestOnWatch.2.1 10 = .ok (.aload_n 0, 1) := by decide +kernel
theorem d_Ca_longestOnWatch_11 : decode M_Ca_longestOnWatch.2.1 11 = .ok (.getfield 31, 3) := by decide +kernel
theorem d_Ca_longestOnWatch_14 : decode M_Ca_longestOnWatch.2.1 14 = .ok (.iload_n 3, 1) := by decide +kernel
theorem d_Ca_longestOnWatch_15 : decode M_Ca_longestOnWatch.2.1 15 = .ok (.iaload, 1) := by decide +kernel
theorem d_Ca_longestOnWatch_16 : decode M_Ca_longestOnWatch.2.1 16 = .ok (.bipush (-2), 2) := by decide +kernel
theorem d_Ca_longestOnWatch_18 : decode M_Ca_longestOnWatch.2.1 18 = .ok (.if_icmp .eq 26, 3) := by decide +kernel
theorem d_Ca_longestOnWatch_21 : decode M_Ca_longestOnWatch.2.1 21 = .ok (.iload_n 2, 1) := by decide +kernel
theorem d_Ca_longestOnWatch_22 : decode M_Ca_longestOnWatch.2.1 22 = .ok (.bipush (-2), 2) := by decide +kernel
theorem d_Ca_longestOnWatch_24 : decode M_Ca_longestOnWatch.2.1 24 = .ok (.if_icmp .eq 18, 3) := by decide +kernel
theorem d_Ca_longestOnWatch_27 : decode M_Ca_longestOnWatch.2.1 27 = .ok (.aload_n 0, 1) := by decide +kernel
theorem d_Ca_longestOnWatch_28 : decode M_Ca_longestOnWatch.2.1 28 = .ok (.getfield 37, 3) := by decide +kernel
theorem d_Ca_longestOnWatch_31 : decode M_Ca_longestOnWatch.2.1 31 = .ok (.iload_n 3, 1) := by decide +kernel
theorem d_Ca_longestOnWatch_32 : decode M_Ca_longestOnWatch.2.1 32 = .ok (.iaload, 1) := by decide +kernel
theorem d_Ca_longestOnWatch_33 : decode M_Ca_longestOnWatch.2.1 33 = .ok (.aload_n 0, 1) := by decide +kernel
theorem d_Ca_longestOnWatch_34 : decode M_Ca_longestOnWatch.2.1 34 = .ok (.getfield 37, 3) := by decide +kernel
theorem d_Ca_longestOnWatch_37 : decode M_Ca_longestOnWatch.2.1 37 = .ok (.iload_n 2, 1) := by decide +kernel
theorem d_Ca_longestOnWatch_38 : decode M_Ca_longestOnWatch.2.1 38 = .ok (.iaload, 1) := by decide +kernel
theorem d_Ca_longestOnWatch_39 : decode M_Ca_longestOnWatch.2.1 39 = .ok (.if_icmp .le 5, 3) := by decide +kernel
theorem d_Ca_longestOnWatch_42 : decode M_Ca_longestOnWatch.2.1 42 = .ok (.iload_n 3, 1) := by decide +kernel
theorem d_Ca_longestOnWatch_43 : decode M_Ca_longestOnWatch.2.1 43 = .ok (.istore_n 2, 1) := by decide +kernel
theorem d_Ca_longestOnWatch_44 : decode M_Ca_longestOnWatch.2.1 44 = .ok (.iinc 3 1, 3) := by decide +kernel
theorem d_Ca_longestOnWatch_47 : decode M_Ca_longestOnWatch.2.1 47 = .ok (.goto (-42), 3) := by decide +kernel
theorem d_Ca_longestOnWatch_50 : decode M_Ca_longestOnWatch.2.1 50 = .ok (.iload_n 2, 1) := by decide +kernel
theorem d_Ca_longestOnWatch_51 : decode M_Ca_longestOnWatch.2.1 51 = .ok (.ireturn, 1) := by decide +kernel
theorem d_Dr_init_0 : decode M_Dr_init.2.1 0 = .ok (.aload_n 0, 1) := by decide +kernel
theorem d_Dr_init_1 : decode M_Dr_init.2.1 1 = .ok (.invokespecial 3, 3) := by decide +kernel
theorem d_Dr_init_4 : decode M_Dr_init.2.1 4 = .ok (.aload_n 0, 1) := by decide +kernel
theorem d_Dr_init_5 : decode M_Dr_init.2.1 5 = .ok (.new 9, 3) := by decide +kernel
theorem d_Dr_init_8 : decode M_Dr_init.2.1 8 = .ok (.dup, 1) := by decide +kernel
theorem d_Dr_init_9 : decode M_Dr_init.2.1 9 = .ok (.invokespecial 11, 3) := by decide +kernel
theorem d_Dr_init_12 : decode M_Dr_init.2.1 12 = .ok (.putfield 12, 3) := by decide +kernel
theorem d_Dr_init_15 : decode M_Dr_init.2.1 15 = .ok (.return_, 1) := by decide +kernel
theorem d_Dr_forgetFound_0 : decode M_Dr_forgetFound.2.1 0 = .ok (.aload_n 0, 1) := by decide +kernel
theorem d_Dr_forgetFound_1 : decode M_Dr_forgetFound.2.1 1 = .ok (.iconst 0, 1) := by decide +kernel
theorem d_Dr_forgetFound_2 : decode M_Dr_forgetFound.2.1 2 = .ok (.putfield 18, 3) := by decide +kernel
theorem d_Dr_forgetFound_5 : decode M_Dr_forgetFound.2.1 5 = .ok (.aload_n 0, 1) := by decide +kernel
theorem d_Dr_forgetFound_6 : decode M_Dr_forgetFound.2.1 6 = .ok (.iconst 0, 1) := by decide +kernel
theorem d_Dr_forgetFound_7 : decode M_Dr_forgetFound.2.1 7 = .ok (.putfield 22, 3) := by decide +kernel
theorem d_Dr_forgetFound_10 : decode M_Dr_forgetFound.2.1 10 = .ok (.aload_n 0, 1) := by decide +kernel
theorem d_Dr_forgetFound_11 : decode M_Dr_forgetFound.2.1 11 = .ok (.iconst 0, 1) := by decide +kernel
theorem d_Dr_forgetFound_12 : decode M_Dr_forgetFound.2.1 12 = .ok (.putfield 25, 3) := by decide +kernel
theorem d_Dr_forgetFound_15 : decode M_Dr_forgetFound.2.1 15 = .ok (.return_, 1) := by decide +kernel
theorem d_Dr_asItIs_0 : decode M_Dr_asItIs.2.1 0 = .ok (.aload_n 0, 1) := by decide +kernel
theorem d_Dr_asItIs_1 : decode M_Dr_asItIs.2.1 1 = .ok (.getfield 18, 3) := by decide +kernel
theorem d_Dr_asItIs_4 : decode M_Dr_asItIs.2.1 4 = .ok (.ifCond .ne 28, 3) := by decide +kernel
theorem d_Dr_asItIs_7 : decode M_Dr_asItIs.2.1 7 = .ok (.aload_n 0, 1) := by decide +kernel
theorem d_Dr_asItIs_8 : decode M_Dr_asItIs.2.1 8 = .ok (.getfield 12, 3) := by decide +kernel
theorem d_Dr_asItIs_11 : decode M_Dr_asItIs.2.1 11 = .ok (.aload_n 2, 1) := by decide +kernel
theorem d_Dr_asItIs_12 : decode M_Dr_asItIs.2.1 12 = .ok (.invokevirtual 28, 3) := by decide +kernel
theorem d_Dr_asItIs_15 : decode M_Dr_asItIs.2.1 15 = .ok (.aload_n 0, 1) := by decide +kernel
theorem d_Dr_asItIs_16 : decode M_Dr_asItIs.2.1 16 = .ok (.aload_n 0, 1) := by decide +kernel
theorem d_Dr_asItIs_17 : decode M_Dr_asItIs.2.1 17 = .ok (.aload_n 1, 1) := by decide +kernel
theorem d_Dr_asItIs_18 : decode M_Dr_asItIs.2.1 18 = .ok (.sipush 3000, 3) := by decide +kernel
theorem d_Dr_asItIs_21 : decode M_Dr_asItIs.2.1 21 = .ok (.invokevirtual 32, 3) := by decide +kernel
theorem d_Dr_asItIs_24 : decode M_Dr_asItIs.2.1 24 = .ok (.putfield 36, 3) := by decide +kernel
theorem d_Dr_asItIs_27 : decode M_Dr_asItIs.2.1 27 = .ok (.aload_n 0, 1) := by decide +kernel
theorem d_Dr_asItIs_28 : decode M_Dr_asItIs.2.1 28 = .ok (.iconst 1, 1) := by decide +kernel
theorem d_Dr_asItIs_29 : decode M_Dr_asItIs.2.1 29 = .ok (.putfield 18, 3) := by decide +kernel
theorem d_Dr_asItIs_32 : decode M_Dr_asItIs.2.1 32 = .ok (.aload_n 0, 1) := by decide +kernel
theorem d_Dr_asItIs_33 : decode M_Dr_asItIs.2.1 33 = .ok (.getfield 36, 3) := by decide +kernel
theorem d_Dr_asItIs_36 : decode M_Dr_asItIs.2.1 36 = .ok (.ireturn, 1) := by decide +kernel
theorem d_Dr_findFirst_0 : decode M_Dr_findFirst.2.1 0 = .ok (.aload_n 0, 1) := by decide +kernel
theorem d_Dr_findFirst_1 : decode M_Dr_findFirst.2.1 1 = .ok (.getfield 22, 3) := by decide +kernel
theorem d_Dr_findFirst_4 : decode M_Dr_findFirst.2.1 4 = .ok (.ifCond .eq 4, 3) := by decide +kernel
theorem d_Dr_findFirst_7 : decode M_Dr_findFirst.2.1 7 = .ok (.return_, 1) := by decide +kernel
theorem d_Dr_findFirst_8 : decode M_Dr_findFirst.2.1 8 = .ok (.aload_n 0, 1) := by decide +kernel
theorem d_Dr_findFirst_9 : decode M_Dr_findFirst.2.1 9 = .ok (.bipush (-2), 2) := by decide +kernel
theorem d_Dr_findFirst_11 : decode M_Dr_findFirst.2.1 11 = .ok (.putfield 40, 3) := by decide +kernel
theorem d_Dr_findFirst_14 : decode M_Dr_findFirst.2.1 14 = .ok (.aload_n 0, 1) := by decide +kernel
theorem d_Dr_findFirst_15 : decode M_Dr_findFirst.2.1 15 = .ok (.iload_n 3, 1) := by decide +kernel
theorem d_Dr_findFirst_16 : decode M_Dr_findFirst.2.1 16 = .ok (.putfield 43, 3) := by decide +kernel
theorem d_Dr_findFirst_19 : decode M_Dr_findFirst.2.1 19 = .ok (.iconst 0, 1) := by decide +kernel
theorem d_Dr_findFirst_20 : decode M_Dr_findFirst.2.1 20 = .ok (.istore 4, 2) := by decide +kernel
theorem d_Dr_findFirst_22 : decode M_Dr_findFirst.2.1 22 = .ok (.iload 4, 2) := by decide +kernel
theorem d_Dr_findFirst_24 : decode M_Dr_findFirst.2.1 24 = .ok (.aload_n 1, 1) := by decide +kernel
theorem d_Dr_findFirst_25 : decode M_Dr_findFirst.2.1 25 = .ok (.getfield 46, 3) := by decide +kernel
theorem d_Dr_findFirst_28 : decode M_Dr_findFirst.2.1 28 = .ok (.if_icmp .ge 34, 3) := by decide +kernel
theorem d_Dr_findFirst_31 : decode M_Dr_findFirst.2.1 31 = .ok (.aload_n 1, 1) := by decide +kernel
theorem d_Dr_findFirst_32 : decode M_Dr_findFirst.2.1 32 = .ok (.getfield 51, 3) := by decide +kernel
theorem d_Dr_findFirst_35 : decode M_Dr_findFirst.2.1 35 = .ok (.ifCond .eq 27, 3) := by decide +kernel
theorem d_Dr_findFirst_38 : decode M_Dr_findFirst.2.1 38 = .ok (.aload_n 2, 1) := by decide +kernel
theorem d_Dr_findFirst_39 : decode M_Dr_findFirst.2.1 39 = .ok (.getfield 54, 3) := by decide +kernel
theorem d_Dr_findFirst_42 : decode M_Dr_findFirst.2.1 42 = .ok (.iload 4, 2) := by decide +kernel
theorem d_Dr_findFirst_44 : decode M_Dr_findFirst.2.1 44 = .ok (.baload, 1) := by decide +kernel
theorem d_Dr_findFirst_45 : decode M_Dr_findFirst.2.1 45 = .ok (.ifCond .ne 11, 3) := by decide +kernel
theorem d_Dr_findFirst_48 : decode M_Dr_findFirst.2.1 48 = .ok (.aload_n 0, 1) := by decide +kernel
theorem d_Dr_findFirst_49 : decode M_Dr_findFirst.2.1 49 = .ok (.aload_n 1, 1) := by decide +kernel
theorem d_Dr_findFirst_50 : decode M_Dr_findFirst.2.1 50 = .ok (.aload_n 2, 1) := by decide +kernel
theorem d_Dr_findFirst_51 : decode M_Dr_findFirst.2.1 51 = .ok (.iload 4, 2) := by decide +kernel
theorem d_Dr_findFirst_53 : decode M_Dr_findFirst.2.1 53 = .ok (.invokevirtual 58, 3) := by decide +kernel
theorem d_Dr_findFirst_56 : decode M_Dr_findFirst.2.1 56 = .ok (.iinc 4 1, 3) := by decide +kernel
theorem d_Dr_findFirst_59 : decode M_Dr_findFirst.2.1 59 = .ok (.goto (-37), 3) := by decide +kernel
theorem d_Dr_findFirst_62 : decode M_Dr_findFirst.2.1 62 = .ok (.aload_n 0, 1) := by decide +kernel
theorem d_Dr_findFirst_63 : decode M_Dr_findFirst.2.1 63 = .ok (.iconst 1, 1) := by decide +kernel
theorem d_Dr_findFirst_64 : decode M_Dr_findFirst.2.1 64 = .ok (.putfield 22, 3) := by decide +kernel
theorem d_Dr_findFirst_67 : decode M_Dr_findFirst.2.1 67 = .ok (.return_, 1) := by decide +kernel
theorem d_Dr_tryOne_0 : decode M_Dr_tryOne.2.1 0 = .ok (.aload_n 0, 1) := by decide +kernel
theorem d_Dr_tryOne_1 : decode M_Dr_tryOne.2.1 1 = .ok (.getfield 12, 3) := by decide +kernel
theorem d_Dr_tryOne_4 : decode M_Dr_tryOne.2.1 4 = .ok (.aload_n 2, 1) := by decide +kernel
theorem d_Dr_tryOne_5 : decode M_Dr_tryOne.2.1 5 = .ok (.invokevirtual 28, 3) := by decide +kernel
theorem d_Dr_tryOne_8 : decode M_Dr_tryOne.2.1 8 = .ok (.aload_n 0, 1) := by decide +kernel
theorem d_Dr_tryOne_9 : decode M_Dr_tryOne.2.1 9 = .ok (.getfield 12, 3) := by decide +kernel
theorem d_Dr_tryOne_12 : decode M_Dr_tryOne.2.1 12 = .ok (.getfield 54, 3) := by decide +kernel
theorem d_Dr_tryOne_15 : decode M_Dr_tryOne.2.1 15 = .ok (.iload_n 3, 1) := by decide +kernel
theorem d_Dr_tryOne_16 : decode M_Dr_tryOne.2.1 16 = .ok (.iconst 1, 1) := by decide +kernel
theorem d_Dr_tryOne_17 : decode M_Dr_tryOne.2.1 17 = .ok (.bastore, 1) := by decide +kernel
theorem d_Dr_tryOne_18 : decode M_Dr_tryOne.2.1 18 = .ok (.aload_n 0, 1) := by decide +kernel
theorem d_Dr_tryOne_19 : decode M_Dr_tryOne.2.1 19 = .ok (.aload_n 1, 1) := by decide +kernel
theorem d_Dr_tryOne_20 : decode M_Dr_tryOne.2.1 20 = .ok (.aload_n 0, 1) := by decide +kernel
theorem d_Dr_tryOne_21 : decode M_Dr_tryOne.2.1 21 = .ok (.getfield 43, 3) := by decide +kernel
theorem d_Dr_tryOne_24 : decode M_Dr_tryOne.2.1 24 = .ok (.invokestatic 62, 3) := by decide +kernel
theorem d_Dr_tryOne_27 : decode M_Dr_tryOne.2.1 27 = .ok (.invokevirtual 32, 3) := by decide +kernel
theorem d_Dr_tryOne_30 : decode M_Dr_tryOne.2.1 30 = .ok (.istore 4, 2) := by decide +kernel
theorem d_Dr_tryOne_32 : decode M_Dr_tryOne.2.1 32 = .ok (.iload 4, 2) := by decide +kernel
theorem d_Dr_tryOne_34 : decode M_Dr_tryOne.2.1 34 = .ok (.bipush (-2), 2) := by decide +kernel
theorem d_Dr_tryOne_36 : decode M_Dr_tryOne.2.1 36 = .ok (.if_icmp .eq 14, 3) := by decide +kernel
theorem d_Dr_tryOne_39 : decode M_Dr_tryOne.2.1 39 = .ok (.aload_n 0, 1) := by decide +kernel
theorem d_Dr_tryOne_40 : decode M_Dr_tryOne.2.1 40 = .ok (.iload_n 3, 1) := by decide +kernel
theorem d_Dr_tryOne_41 : decode M_Dr_tryOne.2.1 41 = .ok (.putfield 40, 3) := by decide +kernel
theorem d_Dr_tryOne_44 : decode M_Dr_tryOne.2.1 44 = .ok (.aload_n 0, 1) := by decide +kernel
theorem d_Dr_tryOne_45 : decode M_Dr_tryOne.2.1 45 = .ok (.iload 4, 2) := by decide +kernel
theorem d_Dr_tryOne_47 : decode M_Dr_tryOne.2.1 47 = .ok (.putfield 43, 3) := by decide +kernel
theorem d_Dr_tryOne_50 : decode M_Dr_tryOne.2.1 50 = .ok (.return_, 1) := by decide +kernel
theorem d_Dr_findTwo_0 : decode M_Dr_findTwo.2.1 0 = .ok (.aload_n 0, 1) := by decide +kernel
theorem d_Dr_findTwo_1 : decode M_Dr_findTwo.2.1 1 = .ok (.getfield 25, 3) := by decide +kernel
theorem d_Dr_findTwo_4 : decode M_Dr_findTwo.2.1 4 = .ok (.ifCond .eq 4, 3) := by decide +kernel
theorem d_Dr_findTwo_7 : decode M_Dr_findTwo.2.1 7 = .ok (.return_, 1) := by decide +kernel
theorem d_Dr_findTwo_8 : decode M_Dr_findTwo.2.1 8 = .ok (.aload_n 0, 1) := by decide +kernel
theorem d_Dr_findTwo_9 : decode M_Dr_findTwo.2.1 9 = .ok (.bipush (-2), 2) := by decide +kernel
theorem d_Dr_findTwo_11 : decode M_Dr_findTwo.2.1 11 = .ok (.putfield 66, 3) := by decide +kernel
theorem d_Dr_findTwo_14 : decode M_Dr_findTwo.2.1 14 = .ok (.aload_n 0, 1) := by decide +kernel
theorem d_Dr_findTwo_15 : decode M_Dr_findTwo.2.1 15 = .ok (.bipush (-2), 2) := by decide +kernel
theorem d_Dr_findTwo_17 : decode M_Dr_findTwo.2.1 17 = .ok (.putfield 69, 3) := by decide +kernel
theorem d_Dr_findTwo_20 : decode M_Dr_findTwo.2.1 20 = .ok (.iconst 0, 1) := by decide +kernel
theorem d_Dr_findTwo_21 : decode M_Dr_findTwo.2.1 21 = .ok (.istore_n 3, 1) := by decide +kernel
theorem d_Dr_findTwo_22 : decode M_Dr_findTwo.2.1 22 = .ok (.iconst 0, 1) := by decide +kernel
theorem d_Dr_findTwo_23 : decode M_Dr_findTwo.2.1 23 = .ok (.istore 4, 2) := by decide +kernel
theorem d_Dr_findTwo_25 : decode M_Dr_findTwo.2.1 25 = .ok (.iload 4, 2) := by decide +kernel
theorem d_Dr_findTwo_27 : decode M_Dr_findTwo.2.1 27 = .ok (.aload_n 1, 1) := by decide +kernel
theorem d_Dr_findTwo_28 : decode M_Dr_findTwo.2.1 28 = .ok (.getfield 46, 3) := by decide +kernel
theorem d_Dr_findTwo_31 : decode M_Dr_findTwo.2.1 31 = .ok (.if_icmp .ge 74, 3) := by decide +kernel
theorem d_Dr_findTwo_34 : decode M_Dr_findTwo.2.1 34 = .ok (.iload 4, 2) := by decide +kernel
theorem d_Dr_findTwo_36 : decode M_Dr_findTwo.2.1 36 = .ok (.iconst 1, 1) := by decide +kernel
theorem d_Dr_findTwo_37 : decode M_Dr_findTwo.2.1 37 = .ok (.iadd, 1) := by decide +kernel
theorem d_Dr_findTwo_38 : decode M_Dr_findTwo.2.1 38 = .ok (.istore 5, 2) := by decide +kernel
theorem d_Dr_findTwo_40 : decode M_Dr_findTwo.2.1 40 = .ok (.iload 5, 2) := by decide +kernel
theorem d_Dr_findTwo_42 : decode M_Dr_findTwo.2.1 42 = .ok (.aload_n 1, 1) := by decide +kernel
theorem d_Dr_findTwo_43 : decode M_Dr_findTwo.2.1 43 = .ok (.getfield 46, 3) := by decide +kernel
theorem d_Dr_findTwo_46 : decode M_Dr_findTwo.2.1 46 = .ok (.if_icmp .ge 53, 3) := by decide +kernel
theorem d_Dr_findTwo_49 : decode M_Dr_findTwo.2.1 49 = .ok (.aload_n 2, 1) := by decide +kernel
theorem d_Dr_findTwo_50 : decode M_Dr_findTwo.2.1 50 = .ok (.getfield 54, 3) := by decide +kernel
theorem d_Dr_findTwo_53 : decode M_Dr_findTwo.2.1 53 = .ok (.iload 4, 2) := by decide +kernel
theorem d_Dr_findTwo_55 : decode M_Dr_findTwo.2.1 55 = .ok (.baload, 1) := by decide +kernel
theorem d_Dr_findTwo_56 : decode M_Dr_findTwo.2.1 56 = .ok (.ifCond .ne 37, 3) := by decide +kernel
theorem d_Dr_findTwo_59 : decode M_Dr_findTwo.2.1 59 = .ok (.aload_n 2, 1) := by decide +kernel
theorem d_Dr_findTwo_60 : decode M_Dr_findTwo.2.1 60 = .ok (.getfield 54, 3) := by decide +kernel
theorem d_Dr_findTwo_63 : decode M_Dr_findTwo.2.1 63 = .ok (.iload 5, 2) := by decide +kernel
theorem d_Dr_findTwo_65 : decode M_Dr_findTwo.2.1 65 = .ok (.baload, 1) := by decide +kernel
theorem d_Dr_findTwo_66 : decode M_Dr_findTwo.2.1 66 = .ok (.ifCond .ne 27, 3) := by decide +kernel
theorem d_Dr_findTwo_69 : decode M_Dr_findTwo.2.1 69 = .ok (.iload_n 3, 1) := by decide +kernel
theorem d_Dr_findTwo_70 : decode M_Dr_findTwo.2.1 70 = .ok (.ifCond .eq 10, 3) := by decide +kernel
theorem d_Dr_findTwo_73 : decode M_Dr_findTwo.2.1 73 = .ok (.aload_n 1, 1) := by decide +kernel
theorem d_Dr_findTwo_74 : decode M_Dr_findTwo.2.1 74 = .ok (.getfield 51, 3) := by decide +kernel
theorem d_Dr_findTwo_77 : decode M_Dr_findTwo.2.1 77 = .ok (.ifCond .eq 16, 3) := by decide +kernel
theorem d_Dr_findTwo_80 : decode M_Dr_findTwo.2.1 80 = .ok (.aload_n 0, 1) := by decide +kernel
theorem d_Dr_findTwo_81 : decode M_Dr_findTwo.2.1 81 = .ok (.aload_n 1, 1) := by decide +kernel
theorem d_Dr_findTwo_82 : decode M_Dr_findTwo.2.1 82 = .ok (.aload_n 2, 1) := by decide +kernel
theorem d_Dr_findTwo_83 : decode M_Dr_findTwo.2.1 83 = .ok (.iload 4, 2) := by decide +kernel
theorem d_Dr_findTwo_85 : decode M_Dr_findTwo.2.1 85 = .ok (.iload 5, 2) := by decide +kernel
theorem d_Dr_findTwo_87 : decode M_Dr_findTwo.2.1 87 = .ok (.invokevirtual 72, 3) := by decide +kernel
theorem d_Dr_findTwo_90 : decode M_Dr_findTwo.2.1 90 = .ok (.iinc 3 1, 3) := by decide +kernel
theorem d_Dr_findTwo_93 : decode M_Dr_findTwo.2.1 93 = .ok (.iinc 5 1, 3) := by decide +kernel
theorem d_Dr_findTwo_96 : decode M_Dr_findTwo.2.1 96 = .ok (.goto (-56), 3) := by decide +kernel
theorem d_Dr_findTwo_99 : decode M_Dr_findTwo.2.1 99 = .ok (.iinc 4 1, 3) := by decide +kernel
theorem d_Dr_findTwo_102 : decode M_Dr_findTwo.2.1 102 = .ok (.goto (-77), 3) := by decide +kernel
theorem d_Dr_findTwo_105 : decode M_Dr_findTwo.2.1 105 = .ok (.aload_n 0, 1) := by decide +kernel
theorem d_Dr_findTwo_106 : decode M_Dr_findTwo.2.1 106 = .ok (.iconst 1, 1) := by decide +kernel
theorem d_Dr_findTwo_107 : decode M_Dr_findTwo.2.1 107 = .ok (.putfield 25, 3) := by decide +kernel
theorem d_Dr_findTwo_110 : decode M_Dr_findTwo.2.1 110 = .ok (.return_, 1) := by decide +kernel
theorem d_Dr_tryTwo_0 : decode M_Dr_tryTwo.2.1 0 = .ok (.aload_n 0, 1) := by decide +kernel
theorem d_Dr_tryTwo_1 : decode M_Dr_tryTwo.2.1 1 = .ok (.getfield 12, 3) := by decide +kernel
theorem d_Dr_tryTwo_4 : decode M_Dr_tryTwo.2.1 4 = .ok (.aload_n 2, 1) := by decide +kernel
theorem d_Dr_tryTwo_5 : decode M_Dr_tryTwo.2.1 5 = .ok (.invokevirtual 28, 3) := by decide +kernel
theorem d_Dr_tryTwo_8 : decode M_Dr_tryTwo.2.1 8 = .ok (.aload_n 0, 1) := by decide +kernel
theorem d_Dr_tryTwo_9 : decode M_Dr_tryTwo.2.1 9 = .ok (.getfield 12, 3) := by decide +kernel
theorem d_Dr_tryTwo_12 : decode M_Dr_tryTwo.2.1 12 = .ok (.getfield 54, 3) := by decide +kernel
theorem d_Dr_tryTwo_15 : decode M_Dr_tryTwo.2.1 15 = .ok (.iload_n 3, 1) := by decide +kernel
theorem d_Dr_tryTwo_16 : decode M_Dr_tryTwo.2.1 16 = .ok (.iconst 1, 1) := by decide +kernel
theorem d_Dr_tryTwo_17 : decode M_Dr_tryTwo.2.1 17 = .ok (.bastore, 1) := by decide +kernel
theorem d_Dr_tryTwo_18 : decode M_Dr_tryTwo.2.1 18 = .ok (.aload_n 0, 1) := by decide +kernel
theorem d_Dr_tryTwo_19 : decode M_Dr_tryTwo.2.1 19 = .ok (.getfield 12, 3) := by decide +kernel
theorem d_Dr_tryTwo_22 : decode M_Dr_tryTwo.2.1 22 = .ok (.getfield 54, 3) := by decide +kernel
theorem d_Dr_tryTwo_25 : decode M_Dr_tryTwo.2.1 25 = .ok (.iload 4, 2) := by decide +kernel
theorem d_Dr_tryTwo_27 : decode M_Dr_tryTwo.2.1 27 = .ok (.iconst 1, 1) := by decide +kernel
theorem d_Dr_tryTwo_28 : decode M_Dr_tryTwo.2.1 28 = .ok (.bastore, 1) := by decide +kernel
theorem d_Dr_tryTwo_29 : decode M_Dr_tryTwo.2.1 29 = .ok (.aload_n 0, 1) := by decide +kernel
theorem d_Dr_tryTwo_30 : decode M_Dr_tryTwo.2.1 30 = .ok (.aload_n 1, 1) := by decide +kernel
theorem d_Dr_tryTwo_31 : decode M_Dr_tryTwo.2.1 31 = .ok (.aload_n 0, 1) := by decide +kernel
theorem d_Dr_tryTwo_32 : decode M_Dr_tryTwo.2.1 32 = .ok (.getfield 69, 3) := by decide +kernel
theorem d_Dr_tryTwo_35 : decode M_Dr_tryTwo.2.1 35 = .ok (.invokestatic 62, 3) := by decide +kernel
theorem d_Dr_tryTwo_38 : decode M_Dr_tryTwo.2.1 38 = .ok (.invokevirtual 32, 3) := by decide +kernel
theorem d_Dr_tryTwo_41 : decode M_Dr_tryTwo.2.1 41 = .ok (.istore 5, 2) := by decide +kernel
theorem d_Dr_tryTwo_43 : decode M_Dr_tryTwo.2.1 43 = .ok (.iload 5, 2) := by decide +kernel
theorem d_Dr_tryTwo_45 : decode M_Dr_tryTwo.2.1 45 = .ok (.bipush (-2), 2) := by decide +kernel
theorem d_Dr_tryTwo_47 : decode M_Dr_tryTwo.2.1 47 = .ok (.if_icmp .eq 20, 3) := by decide +kernel
theorem d_Dr_tryTwo_50 : decode M_Dr_tryTwo.2.1 50 = .ok (.aload_n 0, 1) := by decide +kernel
theorem d_Dr_tryTwo_51 : decode M_Dr_tryTwo.2.1 51 = .ok (.bipush 10, 2) := by decide +kernel
theorem d_Dr_tryTwo_53 : decode M_Dr_tryTwo.2.1 53 = .ok (.iload_n 3, 1) := by decide +kernel
theorem d_Dr_tryTwo_54 : decode M_Dr_tryTwo.2.1 54 = .ok (.imul, 1) := by decide +kernel
theorem d_Dr_tryTwo_55 : decode M_Dr_tryTwo.2.1 55 = .ok (.iload 4, 2) := by decide +kernel
theorem d_Dr_tryTwo_57 : decode M_Dr_tryTwo.2.1 57 = .ok (.iadd, 1) := by decide +kernel
theorem d_Dr_tryTwo_58 : decode M_Dr_tryTwo.2.1 58 = .ok (.putfield 66, 3) := by decide +kernel
theorem d_Dr_tryTwo_61 : decode M_Dr_tryTwo.2.1 61 = .ok (.aload_n 0, 1) := by decide +kernel
theorem d_Dr_tryTwo_62 : decode M_Dr_tryTwo.2.1 62 = .ok (.iload 5, 2) := by decide +kernel
theorem d_Dr_tryTwo_64 : decode M_Dr_tryTwo.2.1 64 = .ok (.putfield 69, 3) := by decide +kernel
theorem d_Dr_tryTwo_67 : decode M_Dr_tryTwo.2.1 67 = .ok (.return_, 1) := by decide +kernel
theorem d_Dr_mostThatIsSooner_0 : decode M_Dr_mostThatIsSooner.2.1 0 = .ok (.iload_n 0, 1) := by decide +kernel
theorem d_Dr_mostThatIsSooner_1 : decode M_Dr_mostThatIsSooner.2.1 1 = .ok (.bipush (-2), 2) := by decide +kernel
theorem d_Dr_mostThatIsSooner_3 : decode M_Dr_mostThatIsSooner.2.1 3 = .ok (.if_icmp .ne 9, 3) := by decide +kernel
theorem d_Dr_mostThatIsSooner_6 : decode M_Dr_mostThatIsSooner.2.1 6 = .ok (.sipush 3000, 3) := by decide +kernel
theorem d_Dr_mostThatIsSooner_9 : decode M_Dr_mostThatIsSooner.2.1 9 = .ok (.goto 6, 3) := by decide +kernel
theorem d_Dr_mostThatIsSooner_12 : decode M_Dr_mostThatIsSooner.2.1 12 = .ok (.iload_n 0, 1) := by decide +kernel
theorem d_Dr_mostThatIsSooner_13 : decode M_Dr_mostThatIsSooner.2.1 13 = .ok (.iconst 1, 1) := by decide +kernel
theorem d_Dr_mostThatIsSooner_14 : decode M_Dr_mostThatIsSooner.2.1 14 = .ok (.isub, 1) := by decide +kernel
theorem d_Dr_mostThatIsSooner_15 : decode M_Dr_mostThatIsSooner.2.1 15 = .ok (.ireturn, 1) := by decide +kernel
theorem d_Dr_soonest_0 : decode M_Dr_soonest.2.1 0 = .ok (.iconst 0, 1) := by decide +kernel
theorem d_Dr_soonest_1 : decode M_Dr_soonest.2.1 1 = .ok (.istore_n 3, 1) := by decide +kernel
theorem d_Dr_soonest_2 : decode M_Dr_soonest.2.1 2 = .ok (.iload_n 3, 1) := by decide +kernel
theorem d_Dr_soonest_3 : decode M_Dr_soonest.2.1 3 = .ok (.iload_n 2, 1) := by decide +kernel
theorem d_Dr_soonest_4 : decode M_Dr_soonest.2.1 4 = .ok (.if_icmp .gt 51, 3) := by decide +kernel
theorem d_Dr_soonest_7 : decode M_Dr_soonest.2.1 7 = .ok (.aload_n 0, 1) := by decide +kernel
theorem d_Dr_soonest_8 : decode M_Dr_soonest.2.1 8 = .ok (.getfield 12, 3) := by decide +kernel
theorem d_Dr_soonest_11 : decode M_Dr_soonest.2.1 11 = .ok (.aload_n 1, 1) := by decide +kernel
theorem d_Dr_soonest_12 : decode M_Dr_soonest.2.1 12 = .ok (.invokevirtual 76, 3) := by decide +kernel
theorem d_Dr_soonest_15 : decode M_Dr_soonest.2.1 15 = .ok (.istore 4, 2) := by decide +kernel
theorem d_Dr_soonest_17 : decode M_Dr_soonest.2.1 17 = .ok (.iload 4, 2) := by decide +kernel
theorem d_Dr_soonest_19 : decode M_Dr_soonest.2.1 19 = .ok (.ifCond .ne 5, 3) := by decide +kernel
theorem d_Dr_soonest_22 : decode M_Dr_soonest.2.1 22 = .ok (.iload_n 3, 1) := by decide +kernel
theorem d_Dr_soonest_23 : decode M_Dr_soonest.2.1 23 = .ok (.ireturn, 1) := by decide +kernel
theorem d_Dr_soonest_24 : decode M_Dr_soonest.2.1 24 = .ok (.iload 4, 2) := by decide +kernel
theorem d_Dr_soonest_26 : decode M_Dr_soonest.2.1 26 = .ok (.iload_n 2, 1) := by decide +kernel
theorem d_Dr_soonest_27 : decode M_Dr_soonest.2.1 27 = .ok (.iload_n 3, 1) := by decide +kernel
theorem d_Dr_soonest_28 : decode M_Dr_soonest.2.1 28 = .ok (.isub, 1) := by decide +kernel
theorem d_Dr_soonest_29 : decode M_Dr_soonest.2.1 29 = .ok (.if_icmp .le 6, 3) := by decide +kernel
theorem d_Dr_soonest_32 : decode M_Dr_soonest.2.1 32 = .ok (.bipush (-2), 2) := by decide +kernel
theorem d_Dr_soonest_34 : decode M_Dr_soonest.2.1 34 = .ok (.ireturn, 1) := by decide +kernel
theorem d_Dr_soonest_35 : decode M_Dr_soonest.2.1 35 = .ok (.iload_n 3, 1) := by decide +kernel
theorem d_Dr_soonest_36 : decode M_Dr_soonest.2.1 36 = .ok (.iconst 1, 1) := by decide +kernel
theorem d_Dr_soonest_37 : decode M_Dr_soonest.2.1 37 = .ok (.aload_n 0, 1) := by decide +kernel
theorem d_Dr_soonest_38 : decode M_Dr_soonest.2.1 38 = .ok (.getfield 12, 3) := by decide +kernel
theorem d_Dr_soonest_41 : decode M_Dr_soonest.2.1 41 = .ok (.aload_n 1, 1) := by decide +kernel
theorem d_Dr_soonest_42 : decode M_Dr_soonest.2.1 42 = .ok (.iload 4, 2) := by decide +kernel
theorem d_Dr_soonest_44 : decode M_Dr_soonest.2.1 44 = .ok (.invokevirtual 80, 3) := by decide +kernel
theorem d_Dr_soonest_47 : decode M_Dr_soonest.2.1 47 = .ok (.invokestatic 83, 3) := by decide +kernel
theorem d_Dr_soonest_50 : decode M_Dr_soonest.2.1 50 = .ok (.iadd, 1) := by decide +kernel
theorem d_Dr_soonest_51 : decode M_Dr_soonest.2.1 51 = .ok (.istore_n 3, 1) := by decide +kernel
theorem d_Dr_soonest_52 : decode M_Dr_soonest.2.1 52 = .ok (.goto (-50), 3) := by decide +kernel
theorem d_Dr_soonest_55 : decode M_Dr_soonest.2.1 55 = .ok (.bipush (-2), 2) := by decide +kernel
theorem d_Dr_soonest_57 : decode M_Dr_soonest.2.1 57 = .ok (.ireturn, 1) := by decide +kernel
theorem d_Ga_init_0 : decode M_Ga_init.2.1 0 = .ok (.aload_n 0, 1) := by decide +kernel
theorem d_Ga_init_1 : decode M_Ga_init.2.1 1 = .ok (.invokespecial 3, 3) := by decide +kernel
theorem d_Ga_init_4 : decode M_Ga_init.2.1 4 = .ok (.aload_n 0, 1) := by decide +kernel
theorem d_Ga_init_5 : decode M_Ga_init.2.1 5 = .ok (.sipush 256, 3) := by decide +kernel
theorem d_Ga_init_8 : decode M_Ga_init.2.1 8 = .ok (.newarray .int, 2) := by decide +kernel
theorem d_Ga_init_10 : decode M_Ga_init.2.1 10 = .ok (.putfield 11, 3) := by decide +kernel
theorem d_Ga_init_13 : decode M_Ga_init.2.1 13 = .ok (.aload_n 0, 1) := by decide +kernel
theorem d_Ga_init_14 : decode M_Ga_init.2.1 14 = .ok (.new 15, 3) := by decide +kernel
theorem d_Ga_init_17 : decode M_Ga_init.2.1 17 = .ok (.dup, 1) := by decide +kernel
theorem d_Ga_init_18 : decode M_Ga_init.2.1 18 = .ok (.invokespecial 17, 3) := by decide +kernel
theorem d_Ga_init_21 : decode M_Ga_init.2.1 21 = .ok (.putfield 18, 3) := by decide +kernel
theorem d_Ga_init_24 : decode M_Ga_init.2.1 24 = .ok (.aload_n 0, 1) := by decide +kernel
theorem d_Ga_init_25 : decode M_Ga_init.2.1 25 = .ok (.sipush 2048, 3) := by decide +kernel
theorem d_Ga_init_28 : decode M_Ga_init.2.1 28 = .ok (.newarray .int, 2) := by decide +kernel
theorem d_Ga_init_30 : decode M_Ga_init.2.1 30 = .ok (.putfield 22, 3) := by decide +kernel
theorem d_Ga_init_33 : decode M_Ga_init.2.1 33 = .ok (.return_, 1) := by decide +kernel
theorem d_Ga_findRests_0 : decode M_Ga_findRests.2.1 0 = .ok (.aload_n 0, 1) := by decide +kernel
theorem d_Ga_findRests_1 : decode M_Ga_findRests.2.1 1 = .ok (.getfield 25, 3) := by decide +kernel
theorem d_Ga_findRests_4 : decode M_Ga_findRests.2.1 4 = .ok (.ifCond .eq 21, 3) := by decide +kernel
theorem d_Ga_findRests_7 : decode M_Ga_findRests.2.1 7 = .ok (.aload_n 0, 1) := by decide +kernel
theorem d_Ga_findRests_8 : decode M_Ga_findRests.2.1 8 = .ok (.getfield 29, 3) := by decide +kernel
theorem d_Ga_findRests_11 : decode M_Ga_findRests.2.1 11 = .ok (.iload_n 3, 1) := by decide +kernel
theorem d_Ga_findRests_12 : decode M_Ga_findRests.2.1 12 = .ok (.if_icmp .ne 13, 3) := by decide +kernel
theorem d_Ga_findRests_15 : decode M_Ga_findRests.2.1 15 = .ok (.aload_n 0, 1) := by decide +kernel
theorem d_Ga_findRests_16 : decode M_Ga_findRests.2.1 16 = .ok (.getfield 33, 3) := by decide +kernel
theorem d_Ga_findRests_19 : decode M_Ga_findRests.2.1 19 = .ok (.iload 4, 2) := by decide +kernel
theorem d_Ga_findRests_21 : decode M_Ga_findRests.2.1 21 = .ok (.if_icmp .ne 4, 3) := by decide +kernel
theorem d_Ga_findRests_24 : decode M_Ga_findRests.2.1 24 = .ok (.return_, 1) := by decide +kernel
theorem d_Ga_findRests_25 : decode M_Ga_findRests.2.1 25 = .ok (.aload_n 1, 1) := by decide +kernel
theorem d_Ga_findRests_26 : decode M_Ga_findRests.2.1 26 = .ok (.aload_n 2, 1) := by decide +kernel
theorem d_Ga_findRests_27 : decode M_Ga_findRests.2.1 27 = .ok (.invokestatic 36, 3) := by decide +kernel
theorem d_Ga_findRests_30 : decode M_Ga_findRests.2.1 30 = .ok (.istore 5, 2) := by decide +kernel
theorem d_Ga_findRests_32 : decode M_Ga_findRests.2.1 32 = .ok (.iconst 0, 1) := by decide +kernel
theorem d_Ga_findRests_33 : decode M_Ga_findRests.2.1 33 = .ok (.istore 6, 2) := by decide +kernel
theorem d_Ga_findRests_35 : decode M_Ga_findRests.2.1 35 = .ok (.iload 6, 2) := by decide +kernel
theorem d_Ga_findRests_37 : decode M_Ga_findRests.2.1 37 = .ok (.iconst 1, 1) := by decide +kernel
theorem d_Ga_findRests_38 : decode M_Ga_findRests.2.1 38 = .ok (.aload_n 1, 1) := by decide +kernel
theorem d_Ga_findRests_39 : decode M_Ga_findRests.2.1 39 = .ok (.getfield 40, 3) := by decide +kernel
theorem d_Ga_findRests_42 : decode M_Ga_findRests.2.1 42 = .ok (.ishl, 1) := by decide +kernel
theorem d_Ga_findRests_43 : decode M_Ga_findRests.2.1 43 = .ok (.if_icmp .ge 59, 3) := by decide +kernel
theorem d_Ga_findRests_46 : decode M_Ga_findRests.2.1 46 = .ok (.iload 6, 2) := by decide +kernel
theorem d_Ga_findRests_48 : decode M_Ga_findRests.2.1 48 = .ok (.iload 5, 2) := by decide +kernel
theorem d_Ga_findRests_50 : decode M_Ga_findRests.2.1 50 = .ok (.iconst (-1), 1) := by decide +kernel
theorem d_Ga_findRests_51 : decode M_Ga_findRests.2.1 51 = .ok (.ixor, 1) := by decide +kernel
theorem d_Ga_findRests_52 : decode M_Ga_findRests.2.1 52 = .ok (.iand, 1) := by decide +kernel
theorem d_Ga_findRests_53 : decode M_Ga_findRests.2.1 53 = .ok (.ifCond .ne 43, 3) := by decide +kernel
theorem d_Ga_findRests_56 : decode M_Ga_findRests.2.1 56 = .ok (.aload_n 0, 1) := by decide +kernel
theorem d_Ga_findRests_57 : decode M_Ga_findRests.2.1 57 = .ok (.getfield 18, 3) := by decide +kernel
theorem d_Ga_findRests_60 : decode M_Ga_findRests.2.1 60 = .ok (.aload_n 2, 1) := by decide +kernel
theorem d_Ga_findRests_61 : decode M_Ga_findRests.2.1 61 = .ok (.invokevirtual 45, 3) := by decide +kernel
theorem d_Ga_findRests_64 : decode M_Ga_findRests.2.1 64 = .ok (.aload_n 0, 1) := by decide +kernel
theorem d_Ga_findRests_65 : decode M_Ga_findRests.2.1 65 = .ok (.aload_n 1, 1) := by decide +kernel
theorem d_Ga_findRests_66 : decode M_Ga_findRests.2.1 66 = .ok (.getfield 40, 3) := by decide +kernel
theorem d_Ga_findRests_69 : decode M_Ga_findRests.2.1 69 = .ok (.iload 6, 2) := by decide +kernel
theorem d_Ga_findRests_71 : decode M_Ga_findRests.2.1 71 = .ok (.iload_n 3, 1) := by decide +kernel
theorem d_Ga_findRests_72 : decode M_Ga_findRests.2.1 72 = .ok (.invokevirtual 49, 3) := by decide +kernel
theorem d_Ga_findRests_75 : decode M_Ga_findRests.2.1 75 = .ok (.aload_n 0, 1) := by decide +kernel
theorem d_Ga_findRests_76 : decode M_Ga_findRests.2.1 76 = .ok (.getfield 18, 3) := by decide +kernel
theorem d_Ga_findRests_79 : decode M_Ga_findRests.2.1 79 = .ok (.aload_n 1, 1) := by decide +kernel
theorem d_Ga_findRests_80 : decode M_Ga_findRests.2.1 80 = .ok (.iload 4, 2) := by decide +kernel
theorem d_Ga_findRests_82 : decode M_Ga_findRests.2.1 82 = .ok (.invokevirtual 53, 3) := by decide +kernel
theorem d_Ga_findRests_85 : decode M_Ga_findRests.2.1 85 = .ok (.aload_n 0, 1) := by decide +kernel
theorem d_Ga_findRests_86 : decode M_Ga_findRests.2.1 86 = .ok (.aload_n 1, 1) := by decide +kernel
theorem d_Ga_findRests_87 : decode M_Ga_findRests.2.1 87 = .ok (.getfield 40, 3) := by decide +kernel
theorem d_Ga_findRests_90 : decode M_Ga_findRests.2.1 90 = .ok (.aload_n 2, 1) := by decide +kernel
theorem d_Ga_findRests_91 : decode M_Ga_findRests.2.1 91 = .ok (.iload 6, 2) := by decide +kernel
theorem d_Ga_findRests_93 : decode M_Ga_findRests.2.1 93 = .ok (.invokevirtual 57, 3) := by decide +kernel
theorem d_Ga_findRests_96 : decode M_Ga_findRests.2.1 96 = .ok (.iinc 6 1, 3) := by decide +kernel
theorem d_Ga_findRests_99 : decode M_Ga_findRests.2.1 99 = .ok (.goto (-64), 3) := by decide +kernel
theorem d_Ga_findRests_102 : decode M_Ga_findRests.2.1 102 = .ok (.aload_n 0, 1) := by decide +kernel
theorem d_Ga_findRests_103 : decode M_Ga_findRests.2.1 103 = .ok (.iconst 0, 1) := by decide +kernel
theorem d_Ga_findRests_104 : decode M_Ga_findRests.2.1 104 = .ok (.putfield 61, 3) := by decide +kernel
theorem d_Ga_findRests_107 : decode M_Ga_findRests.2.1 107 = .ok (.iconst 0, 1) := by decide +kernel
theorem d_Ga_findRests_108 : decode M_Ga_findRests.2.1 108 = .ok (.istore 6, 2) := by decide +kernel
theorem d_Ga_findRests_110 : decode M_Ga_findRests.2.1 110 = .ok (.iload 6, 2) := by decide +kernel
theorem d_Ga_findRests_112 : decode M_Ga_findRests.2.1 112 = .ok (.iconst 1, 1) := by decide +kernel
theorem d_Ga_findRests_113 : decode M_Ga_findRests.2.1 113 = .ok (.aload_n 1, 1) := by decide +kernel
theorem d_Ga_findRests_114 : decode M_Ga_findRests.2.1 114 = .ok (.getfield 40, 3) := by decide +kernel
theorem d_Ga_findRests_117 : decode M_Ga_findRests.2.1 117 = .ok (.ishl, 1) := by decide +kernel
theorem d_Ga_findRests_118 : decode M_Ga_findRests.2.1 118 = .ok (.if_icmp .ge 52, 3) := by decide +kernel
theorem d_Ga_findRests_121 : decode M_Ga_findRests.2.1 121 = .ok (.iload 6, 2) := by decide +kernel
theorem d_Ga_findRests_123 : decode M_Ga_findRests.2.1 123 = .ok (.iload 5, 2) := by decide +kernel
theorem d_Ga_findRests_125 : decode M_Ga_findRests.2.1 125 = .ok (.iconst (-1), 1) := by decide +kernel
theorem d_Ga_findRests_126 : decode M_Ga_findRests.2.1 126 = .ok (.ixor, 1) := by decide +kernel
theorem d_Ga_findRests_127 : decode M_Ga_findRests.2.1 127 = .ok (.iand, 1) := by decide +kernel
theorem d_Ga_findRests_128 : decode M_Ga_findRests.2.1 128 = .ok (.ifCond .ne 36, 3) := by decide +kernel
theorem d_Ga_findRests_131 : decode M_Ga_findRests.2.1 131 = .ok (.aload_n 0, 1) := by decide +kernel
theorem d_Ga_findRests_132 : decode M_Ga_findRests.2.1 132 = .ok (.aload_n 1, 1) := by decide +kernel
theorem d_Ga_findRests_133 : decode M_Ga_findRests.2.1 133 = .ok (.getfield 40, 3) := by decide +kernel
theorem d_Ga_findRests_136 : decode M_Ga_findRests.2.1 136 = .ok (.iload 5, 2) := by decide +kernel
theorem d_Ga_findRests_138 : decode M_Ga_findRests.2.1 138 = .ok (.iload 6, 2) := by decide +kernel
theorem d_Ga_findRests_140 : decode M_Ga_findRests.2.1 140 = .ok (.invokevirtual 64, 3) := by decide +kernel
theorem d_Ga_findRests_143 : decode M_Ga_findRests.2.1 143 = .ok (.ifCond .eq 21, 3) := by decide +kernel
theorem d_Ga_findRests_146 : decode M_Ga_findRests.2.1 146 = .ok (.aload_n 0, 1) := by decide +kernel
theorem d_Ga_findRests_147 : decode M_Ga_findRests.2.1 147 = .ok (.getfield 11, 3) := by decide +kernel
theorem d_Ga_findRests_150 : decode M_Ga_findRests.2.1 150 = .ok (.aload_n 0, 1) := by decide +kernel
theorem d_Ga_findRests_151 : decode M_Ga_findRests.2.1 151 = .ok (.dup, 1) := by decide +kernel
theorem d_Ga_findRests_152 : decode M_Ga_findRests.2.1 152 = .ok (.getfield 61, 3) := by decide +kernel
theorem d_Ga_findRests_155 : decode M_Ga_findRests.2.1 155 = .ok (.dup_x1, 1) := by decide +kernel
theorem d_Ga_findRests_156 : decode M_Ga_findRests.2.1 156 = .ok (.iconst 1, 1) := by decide +kernel
theorem d_Ga_findRests_157 : decode M_Ga_findRests.2.1 157 = .ok (.iadd, 1) := by decide +kernel
theorem d_Ga_findRests_158 : decode M_Ga_findRests.2.1 158 = .ok (.putfield 61, 3) := by decide +kernel
theorem d_Ga_findRests_161 : decode M_Ga_findRests.2.1 161 = .ok (.iload 6, 2) := by decide +kernel
theorem d_Ga_findRests_163 : decode M_Ga_findRests.2.1 163 = .ok (.iastore, 1) := by decide +kernel
theorem d_Ga_findRests_164 : decode M_Ga_findRests.2.1 164 = .ok (.iinc 6 1, 3) := by decide +kernel
theorem d_Ga_findRests_167 : decode M_Ga_findRests.2.1 167 = .ok (.goto (-57), 3) := by decide +kernel
theorem d_Ga_findRests_170 : decode M_Ga_findRests.2.1 170 = .ok (.aload_n 0, 1) := by decide +kernel
theorem d_Ga_findRests_171 : decode M_Ga_findRests.2.1 171 = .ok (.iconst 1, 1) := by decide +kernel
theorem d_Ga_findRests_172 : decode M_Ga_findRests.2.1 172 = .ok (.putfield 25, 3) := by decide +kernel
theorem d_Ga_findRests_175 : decode M_Ga_findRests.2.1 175 = .ok (.aload_n 0, 1) := by decide +kernel
theorem d_Ga_findRests_176 : decode M_Ga_findRests.2.1 176 = .ok (.iload_n 3, 1) := by decide +kernel
theorem d_Ga_findRests_177 : decode M_Ga_findRests.2.1 177 = .ok (.putfield 29, 3) := by decide +kernel
theorem d_Ga_findRests_180 : decode M_Ga_findRests.2.1 180 = .ok (.aload_n 0, 1) := by decide +kernel
theorem d_Ga_findRests_181 : decode M_Ga_findRests.2.1 181 = .ok (.iload 4, 2) := by decide +kernel
theorem d_Ga_findRests_183 : decode M_Ga_findRests.2.1 183 = .ok (.putfield 33, 3) := by decide +kernel
theorem d_Ga_findRests_186 : decode M_Ga_findRests.2.1 186 = .ok (.return_, 1) := by decide +kernel
theorem d_Ga_players_0 : decode M_Ga_players.2.1 0 = .ok (.iconst 0, 1) := by decide +kernel
theorem d_Ga_players_1 : decode M_Ga_players.2.1 1 = .ok (.istore_n 2, 1) := by decide +kernel
theorem d_Ga_players_2 : decode M_Ga_players.2.1 2 = .ok (.iconst 0, 1) := by decide +kernel
theorem d_Ga_players_3 : decode M_Ga_players.2.1 3 = .ok (.istore_n 3, 1) := by decide +kernel
theorem d_Ga_players_4 : decode M_Ga_players.2.1 4 = .ok (.iload_n 3, 1) := by decide +kernel
theorem d_Ga_players_5 : decode M_Ga_players.2.1 5 = .ok (.aload_n 0, 1) := by decide +kernel
theorem d_Ga_players_6 : decode M_Ga_players.2.1 6 = .ok (.getfield 40, 3) := by decide +kernel
theorem d_Ga_players_9 : decode M_Ga_players.2.1 9 = .ok (.if_icmp .ge 30, 3) := by decide +kernel
theorem d_Ga_players_12 : decode M_Ga_players.2.1 12 = .ok (.iload_n 2, 1) := by decide +kernel
theorem d_Ga_players_13 : decode M_Ga_players.2.1 13 = .ok (.aload_n 1, 1) := by decide +kernel
theorem d_Ga_players_14 : decode M_Ga_players.2.1 14 = .ok (.getfield 68, 3) := by decide +kernel
theorem d_Ga_players_17 : decode M_Ga_players.2.1 17 = .ok (.iload_n 3, 1) := by decide +kernel
theorem d_Ga_players_18 : decode M_Ga_players.2.1 18 = .ok (.iaload, 1) := by decide +kernel
theorem d_Ga_players_19 : decode M_Ga_players.2.1 19 = .ok (.bipush (-2), 2) := by decide +kernel
theorem d_Ga_players_21 : decode M_Ga_players.2.1 21 = .ok (.if_icmp .ne 7, 3) := by decide +kernel
theorem d_Ga_players_24 : decode M_Ga_players.2.1 24 = .ok (.iconst 0, 1) := by decide +kernel
theorem d_Ga_players_25 : decode M_Ga_players.2.1 25 = .ok (.goto 6, 3) := by decide +kernel
theorem d_Ga_players_28 : decode M_Ga_players.2.1 28 = .ok (.iconst 1, 1) := by decide +kernel
theorem d_Ga_players_29 : decode M_Ga_players.2.1 29 = .ok (.iload_n 3, 1) := by decide +kernel
theorem d_Ga_players_30 : decode M_Ga_players.2.1 30 = .ok (.ishl, 1) := by decide +kernel
theorem d_Ga_players_31 : decode M_Ga_players.2.1 31 = .ok (.ior, 1) := by decide +kernel
theorem d_Ga_players_32 : decode M_Ga_players.2.1 32 = .ok (.istore_n 2, 1) := by decide +kernel
theorem d_Ga_players_33 : decode M_Ga_players.2.1 33 = .ok (.iinc 3 1, 3) := by decide +kernel
theorem d_Ga_players_36 : decode M_Ga_players.2.1 36 = .ok (.goto (-32), 3) := by decide +kernel
theorem d_Ga_players_39 : decode M_Ga_players.2.1 39 = .ok (.iload_n 2, 1) := by decide +kernel
theorem d_Ga_players_40 : decode M_Ga_players.2.1 40 = .ok (.ireturn, 1) := by decide +kernel
theorem d_Ga_putPinches_0 : decode M_Ga_putPinches.2.1 0 = .ok (.iconst 0, 1) := by decide +kernel
theorem d_Ga_putPinches_1 : decode M_Ga_putPinches.2.1 1 = .ok (.istore 4, 2) := by decide +kernel
theorem d_Ga_putPinches_3 : decode M_Ga_putPinches.2.1 3 = .ok (.iload 4, 2) := by decide +kernel
theorem d_Ga_putPinches_5 : decode M_Ga_putPinches.2.1 5 = .ok (.iload_n 1, 1) := by decide +kernel
theorem d_Ga_putPinches_6 : decode M_Ga_putPinches.2.1 6 = .ok (.if_icmp .ge 74, 3) := by decide +kernel
theorem d_Ga_putPinches_9 : decode M_Ga_putPinches.2.1 9 = .ok (.iload_n 2, 1) := by decide +kernel
theorem d_Ga_putPinches_10 : decode M_Ga_putPinches.2.1 10 = .ok (.iload 4, 2) := by decide +kernel
theorem d_Ga_putPinches_12 : decode M_Ga_putPinches.2.1 12 = .ok (.ishr, 1) := by decide +kernel
theorem d_Ga_putPinches_13 : decode M_Ga_putPinches.2.1 13 = .ok (.iconst 1, 1) := by decide +kernel
theorem d_Ga_putPinches_14 : decode M_Ga_putPinches.2.1 14 = .ok (.iand, 1) := by decide +kernel
theorem d_Ga_putPinches_15 : decode M_Ga_putPinches.2.1 15 = .ok (.iconst 1, 1) := by decide +kernel
theorem d_Ga_putPinches_16 : decode M_Ga_putPinches.2.1 16 = .ok (.if_icmp .ne 58, 3) := by decide +kernel
theorem d_Ga_putPinches_19 : decode M_Ga_putPinches.2.1 19 = .ok (.iload 4, 2) := by decide +kernel
theorem d_Ga_putPinches_21 : decode M_Ga_putPinches.2.1 21 = .ok (.iconst 1, 1) := by decide +kernel
theorem d_Ga_putPinches_22 : decode M_Ga_putPinches.2.1 22 = .ok (.iadd, 1) := by decide +kernel
theorem d_Ga_putPinches_23 : decode M_Ga_putPinches.2.1 23 = .ok (.iload_n 1, 1) := by decide +kernel
theorem d_Ga_putPinches_24 : decode M_Ga_putPinches.2.1 24 = .ok (.if_icmp .ne 7, 3) := by decide +kernel
theorem d_Ga_putPinches_27 : decode M_Ga_putPinches.2.1 27 = .ok (.iconst 0, 1) := by decide +kernel
theorem d_Ga_putPinches_28 : decode M_Ga_putPinches.2.1 28 = .ok (.goto 7, 3) := by decide +kernel
theorem d_Ga_putPinches_31 : decode M_Ga_putPinches.2.1 31 = .ok (.iload 4, 2) := by decide +kernel
theorem d_Ga_putPinches_33 : decode M_Ga_putPinches.2.1 33 = .ok (.iconst 1, 1) := by decide +kernel
theorem d_Ga_putPinches_34 : decode M_Ga_putPinches.2.1 34 = .ok (.iadd, 1) := by decide +kernel
theorem d_Ga_putPinches_35 : decode M_Ga_putPinches.2.1 35 = .ok (.istore 5, 2) := by decide +kernel
theorem d_Ga_putPinches_37 : decode M_Ga_putPinches.2.1 37 = .ok (.aload_n 0, 1) := by decide +kernel
theorem d_Ga_putPinches_38 : decode M_Ga_putPinches.2.1 38 = .ok (.getfield 18, 3) := by decide +kernel
theorem d_Ga_putPinches_41 : decode M_Ga_putPinches.2.1 41 = .ok (.getfield 71, 3) := by decide +kernel
theorem d_Ga_putPinches_44 : decode M_Ga_putPinches.2.1 44 = .ok (.iload 5, 2) := by decide +kernel
theorem d_Ga_putPinches_46 : decode M_Ga_putPinches.2.1 46 = .ok (.iaload, 1) := by decide +kernel
theorem d_Ga_putPinches_47 : decode M_Ga_putPinches.2.1 47 = .ok (.istore 6, 2) := by decide +kernel
theorem d_Ga_putPinches_49 : decode M_Ga_putPinches.2.1 49 = .ok (.aload_n 0, 1) := by decide +kernel
theorem d_Ga_putPinches_50 : decode M_Ga_putPinches.2.1 50 = .ok (.getfield 18, 3) := by decide +kernel
theorem d_Ga_putPinches_53 : decode M_Ga_putPinches.2.1 53 = .ok (.getfield 71, 3) := by decide +kernel
theorem d_Ga_putPinches_56 : decode M_Ga_putPinches.2.1 56 = .ok (.iload 5, 2) := by decide +kernel
theorem d_Ga_putPinches_58 : decode M_Ga_putPinches.2.1 58 = .ok (.iload 6, 2) := by decide +kernel
theorem d_Ga_putPinches_60 : decode M_Ga_putPinches.2.1 60 = .ok (.iload 6, 2) := by decide +kernel
theorem d_Ga_putPinches_62 : decode M_Ga_putPinches.2.1 62 = .ok (.iload_n 3, 1) := by decide +kernel
theorem d_Ga_putPinches_63 : decode M_Ga_putPinches.2.1 63 = .ok (.iadd, 1) := by decide +kernel
theorem d_Ga_putPinches_64 : decode M_Ga_putPinches.2.1 64 = .ok (.sipush 9999, 3) := by decide +kernel
theorem d_Ga_putPinches_67 : decode M_Ga_putPinches.2.1 67 = .ok (.invokestatic 74, 3) := by decide +kernel
theorem d_Ga_putPinches_70 : decode M_Ga_putPinches.2.1 70 = .ok (.invokestatic 80, 3) := by decide +kernel
theorem d_Ga_putPinches_73 : decode M_Ga_putPinches.2.1 73 = .ok (.iastore, 1) := by decide +kernel
theorem d_Ga_putPinches_74 : decode M_Ga_putPinches.2.1 74 = .ok (.iinc 4 1, 3) := by decide +kernel
theorem d_Ga_putPinches_77 : decode M_Ga_putPinches.2.1 77 = .ok (.goto (-74), 3) := by decide +kernel
theorem d_Ga_putPinches_80 : decode M_Ga_putPinches.2.1 80 = .ok (.return_, 1) := by decide +kernel
theorem d_Ga_noteSleeps_0 : decode M_Ga_noteSleeps.2.1 0 = .ok (.iconst 0, 1) := by decide +kernel
theorem d_Ga_noteSleeps_1 : decode M_Ga_noteSleeps.2.1 1 = .ok (.istore 4, 2) := by decide +kernel
theorem d_Ga_noteSleeps_3 : decode M_Ga_noteSleeps.2.1 3 = .ok (.iload 4, 2) := by decide +kernel
theorem d_Ga_noteSleeps_5 : decode M_Ga_noteSleeps.2.1 5 = .ok (.iload_n 1, 1) := by decide +kernel
theorem d_Ga_noteSleeps_6 : decode M_Ga_noteSleeps.2.1 6 = .ok (.if_icmp .ge 51, 3) := by decide +kernel
theorem d_Ga_noteSleeps_9 : decode M_Ga_noteSleeps.2.1 9 = .ok (.aload_n 2, 1) := by decide +kernel
theorem d_Ga_noteSleeps_10 : decode M_Ga_noteSleeps.2.1 10 = .ok (.getfield 68, 3) := by decide +kernel
theorem d_Ga_noteSleeps_13 : decode M_Ga_noteSleeps.2.1 13 = .ok (.iload 4, 2) := by decide +kernel
theorem d_Ga_noteSleeps_15 : decode M_Ga_noteSleeps.2.1 15 = .ok (.iaload, 1) := by decide +kernel
theorem d_Ga_noteSleeps_16 : decode M_Ga_noteSleeps.2.1 16 = .ok (.istore 5, 2) := by decide +kernel
theorem d_Ga_noteSleeps_18 : decode M_Ga_noteSleeps.2.1 18 = .ok (.aload_n 0, 1) := by decide +kernel
theorem d_Ga_noteSleeps_19 : decode M_Ga_noteSleeps.2.1 19 = .ok (.getfield 22, 3) := by decide +kernel
theorem d_Ga_noteSleeps_22 : decode M_Ga_noteSleeps.2.1 22 = .ok (.iload_n 3, 1) := by decide +kernel
theorem d_Ga_noteSleeps_23 : decode M_Ga_noteSleeps.2.1 23 = .ok (.bipush 8, 2) := by decide +kernel
theorem d_Ga_noteSleeps_25 : decode M_Ga_noteSleeps.2.1 25 = .ok (.imul, 1) := by decide +kernel
theorem d_Ga_noteSleeps_26 : decode M_Ga_noteSleeps.2.1 26 = .ok (.iload 4, 2) := by decide +kernel
theorem d_Ga_noteSleeps_28 : decode M_Ga_noteSleeps.2.1 28 = .ok (.iadd, 1) := by decide +kernel
theorem d_Ga_noteSleeps_29 : decode M_Ga_noteSleeps.2.1 29 = .ok (.iload 5, 2) := by decide +kernel
theorem d_Ga_noteSleeps_31 : decode M_Ga_noteSleeps.2.1 31 = .ok (.bipush (-2), 2) := by decide +kernel
theorem d_Ga_noteSleeps_33 : decode M_Ga_noteSleeps.2.1 33 = .ok (.if_icmp .ne 7, 3) := by decide +kernel
theorem d_Ga_noteSleeps_36 : decode M_Ga_noteSleeps.2.1 36 = .ok (.iconst 0, 1) := by decide +kernel
theorem d_Ga_noteSleeps_37 : decode M_Ga_noteSleeps.2.1 37 = .ok (.goto 13, 3) := by decide +kernel
theorem d_Ga_noteSleeps_40 : decode M_Ga_noteSleeps.2.1 40 = .ok (.aload_n 0, 1) := by decide +kernel
theorem d_Ga_noteSleeps_41 : decode M_Ga_noteSleeps.2.1 41 = .ok (.getfield 18, 3) := by decide +kernel
theorem d_Ga_noteSleeps_44 : decode M_Ga_noteSleeps.2.1 44 = .ok (.getfield 83, 3) := by decide +kernel
theorem d_Ga_noteSleeps_47 : decode M_Ga_noteSleeps.2.1 47 = .ok (.iload 5, 2) := by decide +kernel
theorem d_Ga_noteSleeps_49 : decode M_Ga_noteSleeps.2.1 49 = .ok (.iaload, 1) := by decide +kernel
theorem d_Ga_noteSleeps_50 : decode M_Ga_noteSleeps.2.1 50 = .ok (.iastore, 1) := by decide +kernel
theorem d_Ga_noteSleeps_51 : decode M_Ga_noteSleeps.2.1 51 = .ok (.iinc 4 1, 3) := by decide +kernel
theorem d_Ga_noteSleeps_54 : decode M_Ga_noteSleeps.2.1 54 = .ok (.goto (-51), 3) := by decide +kernel
theorem d_Ga_noteSleeps_57 : decode M_Ga_noteSleeps.2.1 57 = .ok (.return_, 1) := by decide +kernel
theorem d_Ga_isAtRest_0 : decode M_Ga_isAtRest.2.1 0 = .ok (.iconst 0, 1) := by decide +kernel
theorem d_Ga_isAtRest_1 : decode M_Ga_isAtRest.2.1 1 = .ok (.istore 4, 2) := by decide +kernel
theorem d_Ga_isAtRest_3 : decode M_Ga_isAtRest.2.1 3 = .ok (.iload 4, 2) := by decide +kernel
theorem d_Ga_isAtRest_5 : decode M_Ga_isAtRest.2.1 5 = .ok (.iload_n 1, 1) := by decide +kernel
theorem d_Ga_isAtRest_6 : decode M_Ga_isAtRest.2.1 6 = .ok (.if_icmp .ge 57, 3) := by decide +kernel
theorem d_Ga_isAtRest_9 : decode M_Ga_isAtRest.2.1 9 = .ok (.iload_n 3, 1) := by decide +kernel
theorem d_Ga_isAtRest_10 : decode M_Ga_isAtRest.2.1 10 = .ok (.iconst 1, 1) := by decide +kernel
theorem d_Ga_isAtRest_11 : decode M_Ga_isAtRest.2.1 11 = .ok (.iload 4, 2) := by decide +kernel
theorem d_Ga_isAtRest_13 : decode M_Ga_isAtRest.2.1 13 = .ok (.ishl, 1) := by decide +kernel
theorem d_Ga_isAtRest_14 : decode M_Ga_isAtRest.2.1 14 = .ok (.ixor, 1) := by decide +kernel
theorem d_Ga_isAtRest_15 : decode M_Ga_isAtRest.2.1 15 = .ok (.istore 5, 2) := by decide +kernel
theorem d_Ga_isAtRest_17 : decode M_Ga_isAtRest.2.1 17 = .ok (.iload_n 2, 1) := by decide +kernel
theorem d_Ga_isAtRest_18 : decode M_Ga_isAtRest.2.1 18 = .ok (.iload 4, 2) := by decide +kernel
theorem d_Ga_isAtRest_20 : decode M_Ga_isAtRest.2.1 20 = .ok (.ishr, 1) := by decide +kernel
theorem d_Ga_isAtRest_21 : decode M_Ga_isAtRest.2.1 21 = .ok (.iconst 1, 1) := by decide +kernel
theorem d_Ga_isAtRest_22 : decode M_Ga_isAtRest.2.1 22 = .ok (.iand, 1) := by decide +kernel
theorem d_Ga_isAtRest_23 : decode M_Ga_isAtRest.2.1 23 = .ok (.iconst 1, 1) := by decide +kernel
theorem d_Ga_isAtRest_24 : decode M_Ga_isAtRest.2.1 24 = .ok (.if_icmp .ne 33, 3) := by decide +kernel
theorem d_Ga_isAtRest_27 : decode M_Ga_isAtRest.2.1 27 = .ok (.aload_n 0, 1) := by decide +kernel
theorem d_Ga_isAtRest_28 : decode M_Ga_isAtRest.2.1 28 = .ok (.getfield 22, 3) := by decide +kernel
theorem d_Ga_isAtRest_31 : decode M_Ga_isAtRest.2.1 31 = .ok (.iload 5, 2) := by decide +kernel
theorem d_Ga_isAtRest_33 : decode M_Ga_isAtRest.2.1 33 = .ok (.bipush 8, 2) := by decide +kernel
theorem d_Ga_isAtRest_35 : decode M_Ga_isAtRest.2.1 35 = .ok (.imul, 1) := by decide +kernel
theorem d_Ga_isAtRest_36 : decode M_Ga_isAtRest.2.1 36 = .ok (.iload 4, 2) := by decide +kernel
theorem d_Ga_isAtRest_38 : decode M_Ga_isAtRest.2.1 38 = .ok (.iadd, 1) := by decide +kernel
theorem d_Ga_isAtRest_39 : decode M_Ga_isAtRest.2.1 39 = .ok (.iaload, 1) := by decide +kernel
theorem d_Ga_isAtRest_40 : decode M_Ga_isAtRest.2.1 40 = .ok (.aload_n 0, 1) := by decide +kernel
theorem d_Ga_isAtRest_41 : decode M_Ga_isAtRest.2.1 41 = .ok (.getfield 22, 3) := by decide +kernel
theorem d_Ga_isAtRest_44 : decode M_Ga_isAtRest.2.1 44 = .ok (.iload_n 3, 1) := by decide +kernel
theorem d_Ga_isAtRest_45 : decode M_Ga_isAtRest.2.1 45 = .ok (.bipush 8, 2) := by decide +kernel
theorem d_Ga_isAtRest_47 : decode M_Ga_isAtRest.2.1 47 = .ok (.imul, 1) := by decide +kernel
theorem d_Ga_isAtRest_48 : decode M_Ga_isAtRest.2.1 48 = .ok (.iload 4, 2) := by decide +kernel
theorem d_Ga_isAtRest_50 : decode M_Ga_isAtRest.2.1 50 = .ok (.iadd, 1) := by decide +kernel
theorem d_Ga_isAtRest_51 : decode M_Ga_isAtRest.2.1 51 = .ok (.iaload, 1) := by decide +kernel
theorem d_Ga_isAtRest_52 : decode M_Ga_isAtRest.2.1 52 = .ok (.if_icmp .le 5, 3) := by decide +kernel
theorem d_Ga_isAtRest_55 : decode M_Ga_isAtRest.2.1 55 = .ok (.iconst 0, 1) := by decide +kernel
theorem d_Ga_isAtRest_56 : decode M_Ga_isAtRest.2.1 56 = .ok (.ireturn, 1) := by decide +kernel
theorem d_Ga_isAtRest_57 : decode M_Ga_isAtRest.2.1 57 = .ok (.iinc 4 1, 3) := by decide +kernel
theorem d_Ga_isAtRest_60 : decode M_Ga_isAtRest.2.1 60 = .ok (.goto (-57), 3) := by decide +kernel
theorem d_Ga_isAtRest_63 : decode M_Ga_isAtRest.2.1 63 = .ok (.iconst 1, 1) := by decide +kernel
theorem d_Ga_isAtRest_64 : decode M_Ga_isAtRest.2.1 64 = .ok (.ireturn, 1) := by decide +kernel
theorem d_Hi_init_0 : decode M_Hi_init.2.1 0 = .ok (.aload_n 0, 1) := by decide +kernel
theorem d_Hi_init_1 : decode M_Hi_init.2.1 1 = .ok (.invokespecial 1, 3) := by decide +kernel
theorem d_Hi_init_4 : decode M_Hi_init.2.1 4 = .ok (.aload_n 0, 1) := by decide +kernel
theorem d_Hi_init_5 : decode M_Hi_init.2.1 5 = .ok (.bipush 40, 2) := by decide +kernel
theorem d_Hi_init_7 : decode M_Hi_init.2.1 7 = .ok (.anewarray 9, 3) := by decide +kernel
theorem d_Hi_init_10 : decode M_Hi_init.2.1 10 = .ok (.putfield 11, 3) := by decide +kernel
theorem d_Hi_init_13 : decode M_Hi_init.2.1 13 = .ok (.iconst 0, 1) := by decide +kernel
theorem d_Hi_init_14 : decode M_Hi_init.2.1 14 = .ok (.istore_n 1, 1) := by decide +kernel
theorem d_Hi_init_15 : decode M_Hi_init.2.1 15 = .ok (.iload_n 1, 1) := by decide +kernel
theorem d_Hi_init_16 : decode M_Hi_init.2.1 16 = .ok (.bipush 40, 2) := by decide +kernel
theorem d_Hi_init_18 : decode M_Hi_init.2.1 18 = .ok (.if_icmp .ge 22, 3) := by decide +kernel
theorem d_Hi_init_21 : decode M_Hi_init.2.1 21 = .ok (.aload_n 0, 1) := by decide +kernel
theorem d_Hi_init_22 : decode M_Hi_init.2.1 22 = .ok (.getfield 11, 3) := by decide +kernel
theorem d_Hi_init_25 : decode M_Hi_init.2.1 25 = .ok (.iload_n 1, 1) := by decide +kernel
theorem d_Hi_init_26 : decode M_Hi_init.2.1 26 = .ok (.new 9, 3) := by decide +kernel
theorem d_Hi_init_29 : decode M_Hi_init.2.1 29 = .ok (.dup, 1) := by decide +kernel
theorem d_Hi_init_30 : decode M_Hi_init.2.1 30 = .ok (.invokespecial 15, 3) := by decide +kernel
theorem d_Hi_init_33 : decode M_Hi_init.2.1 33 = .ok (.aastore, 1) := by decide +kernel
theorem d_Hi_init_34 : decode M_Hi_init.2.1 34 = .ok (.iinc 1 1, 3) := by decide +kernel
theorem d_Hi_init_37 : decode M_Hi_init.2.1 37 = .ok (.goto (-22), 3) := by decide +kernel
theorem d_Hi_init_40 : decode M_Hi_init.2.1 40 = .ok (.return_, 1) := by decide +kernel
theorem d_Hi_keep_0 : decode M_Hi_keep.2.1 0 = .ok (.aload_n 0, 1) := by decide +kernel
theorem d_Hi_keep_1 : decode M_Hi_keep.2.1 1 = .ok (.getfield 11, 3) := by decide +kernel
theorem d_Hi_keep_4 : decode M_Hi_keep.2.1 4 = .ok (.aload_n 0, 1) := by decide +kernel
theorem d_Hi_keep_5 : decode M_Hi_keep.2.1 5 = .ok (.getfield 16, 3) := by decide +kernel
theorem d_Hi_keep_8 : decode M_Hi_keep.2.1 8 = .ok (.aaload, 1) := by decide +kernel
theorem d_Hi_keep_9 : decode M_Hi_keep.2.1 9 = .ok (.aload_n 1, 1) := by decide +kernel
theorem d_Hi_keep_10 : decode M_Hi_keep.2.1 10 = .ok (.invokevirtual 20, 3) := by decide +kernel
theorem d_Hi_keep_13 : decode M_Hi_keep.2.1 13 = .ok (.aload_n 0, 1) := by decide +kernel
theorem d_Hi_keep_14 : decode M_Hi_keep.2.1 14 = .ok (.aload_n 0, 1) := by decide +kernel
theorem d_Hi_keep_15 : decode M_Hi_keep.2.1 15 = .ok (.getfield 16, 3) := by decide +kernel
theorem d_Hi_keep_18 : decode M_Hi_keep.2.1 18 = .ok (.iconst 1, 1) := by decide +kernel
theorem d_Hi_keep_19 : decode M_Hi_keep.2.1 19 = .ok (.iadd, 1) := by decide +kernel
theorem d_Hi_keep_20 : decode M_Hi_keep.2.1 20 = .ok (.bipush 40, 2) := by decide +kernel
theorem d_Hi_keep_22 : decode M_Hi_keep.2.1 22 = .ok (.irem, 1) := by decide +kernel
theorem d_Hi_keep_23 : decode M_Hi_keep.2.1 23 = .ok (.putfield 16, 3) := by decide +kernel
theorem d_Hi_keep_26 : decode M_Hi_keep.2.1 26 = .ok (.aload_n 0, 1) := by decide +kernel
theorem d_Hi_keep_27 : decode M_Hi_keep.2.1 27 = .ok (.aload_n 0, 1) := by decide +kernel
theorem d_Hi_keep_28 : decode M_Hi_keep.2.1 28 = .ok (.getfield 24, 3) := by decide +kernel
theorem d_Hi_keep_31 : decode M_Hi_keep.2.1 31 = .ok (.iconst 1, 1) := by decide +kernel
theorem d_Hi_keep_32 : decode M_Hi_keep.2.1 32 = .ok (.iadd, 1) := by decide +kernel
theorem d_Hi_keep_33 : decode M_Hi_keep.2.1 33 = .ok (.bipush 40, 2) := by decide +kernel
theorem d_Hi_keep_35 : decode M_Hi_keep.2.1 35 = .ok (.invokestatic 27, 3) := by decide +kernel
theorem d_Hi_keep_38 : decode M_Hi_keep.2.1 38 = .ok (.putfield 24, 3) := by decide +kernel
theorem d_Hi_keep_41 : decode M_Hi_keep.2.1 41 = .ok (.return_, 1) := by decide +kernel
theorem d_Hi_giveBack_0 : decode M_Hi_giveBack.2.1 0 = .ok (.aload_n 0, 1) := by decide +kernel
theorem d_Hi_giveBack_1 : decode M_Hi_giveBack.2.1 1 = .ok (.getfield 24, 3) := by decide +kernel
theorem d_Hi_giveBack_4 : decode M_Hi_giveBack.2.1 4 = .ok (.ifCond .ne 5, 3) := by decide +kernel
theorem d_Hi_giveBack_7 : decode M_Hi_giveBack.2.1 7 = .ok (.iconst 0, 1) := by decide +kernel
theorem d_Hi_giveBack_8 : decode M_Hi_giveBack.2.1 8 = .ok (.ireturn, 1) := by decide +kernel
theorem d_Hi_giveBack_9 : decode M_Hi_giveBack.2.1 9 = .ok (.aload_n 0, 1) := by decide +kernel
theorem d_Hi_giveBack_10 : decode M_Hi_giveBack.2.1 10 = .ok (.dup, 1) := by decide +kernel
theorem d_Hi_giveBack_11 : decode M_Hi_giveBack.2.1 11 = .ok (.getfield 24, 3) := by decide +kernel
theorem d_Hi_giveBack_14 : decode M_Hi_giveBack.2.1 14 = .ok (.iconst 1, 1) := by decide +kernel
theorem d_Hi_giveBack_15 : decode M_Hi_giveBack.2.1 15 = .ok (.isub, 1) := by decide +kernel
theorem d_Hi_giveBack_16 : decode M_Hi_giveBack.2.1 16 = .ok (.putfield 24, 3) := by decide +kernel
theorem d_Hi_giveBack_19 : decode M_Hi_giveBack.2.1 19 = .ok (.aload_n 0, 1) := by decide +kernel
theorem d_Hi_giveBack_20 : decode M_Hi_giveBack.2.1 20 = .ok (.aload_n 0, 1) := by decide +kernel
theorem d_Hi_giveBack_21 : decode M_Hi_giveBack.2.1 21 = .ok (.getfield 16, 3) := by decide +kernel
theorem d_Hi_giveBack_24 : decode M_Hi_giveBack.2.1 24 = .ok (.bipush 40, 2) := by decide +kernel
theorem d_Hi_giveBack_26 : decode M_Hi_giveBack.2.1 26 = .ok (.iadd, 1) := by decide +kernel
theorem d_Hi_giveBack_27 : decode M_Hi_giveBack.2.1 27 = .ok (.iconst 1, 1) := by decide +kernel
theorem d_Hi_giveBack_28 : decode M_Hi_giveBack.2.1 28 = .ok (.isub, 1) := by decide +kernel
theorem d_Hi_giveBack_29 : decode M_Hi_giveBack.2.1 29 = .ok (.bipush 40, 2) := by decide +kernel
theorem d_Hi_giveBack_31 : decode M_Hi_giveBack.2.1 31 = .ok (.irem, 1) := by decide +kernel
theorem d_Hi_giveBack_32 : decode M_Hi_giveBack.2.1 32 = .ok (.putfield 16, 3) := by decide +kernel
theorem d_Hi_giveBack_35 : decode M_Hi_giveBack.2.1 35 = .ok (.aload_n 1, 1) := by decide +kernel
theorem d_Hi_giveBack_36 : decode M_Hi_giveBack.2.1 36 = .ok (.aload_n 0, 1) := by decide +kernel
theorem d_Hi_giveBack_37 : decode M_Hi_giveBack.2.1 37 = .ok (.getfield 11, 3) := by decide +kernel
theorem d_Hi_giveBack_40 : decode M_Hi_giveBack.2.1 40 = .ok (.aload_n 0, 1) := by decide +kernel
theorem d_Hi_giveBack_41 : decode M_Hi_giveBack.2.1 41 = .ok (.getfield 16, 3) := by decide +kernel
theorem d_Hi_giveBack_44 : decode M_Hi_giveBack.2.1 44 = .ok (.aaload, 1) := by decide +kernel
theorem d_Hi_giveBack_45 : decode M_Hi_giveBack.2.1 45 = .ok (.invokevirtual 20, 3) := by decide +kernel
theorem d_Hi_giveBack_48 : decode M_Hi_giveBack.2.1 48 = .ok (.iconst 1, 1) := by decide +kernel
theorem d_Hi_giveBack_49 : decode M_Hi_giveBack.2.1 49 = .ok (.ireturn, 1) := by decide +kernel
theorem d_La_init_0 : decode M_La_init.2.1 0 = .ok (.aload_n 0, 1) := by decide +kernel
theorem d_La_init_1 : decode M_La_init.2.1 1 = .ok (.invokespecial 5, 3) := by decide +kernel
theorem d_La_init_4 : decode M_La_init.2.1 4 = .ok (.aload_n 0, 1) := by decide +kernel
theorem d_La_init_5 : decode M_La_init.2.1 5 = .ok (.sipush 400, 3) := by decide +kernel
theorem d_La_init_8 : decode M_La_init.2.1 8 = .ok (.newarray .int, 2) := by decide +kernel
theorem d_La_init_10 : decode M_La_init.2.1 10 = .ok (.putfield 11, 3) := by decide +kernel
theorem d_La_init_13 : decode M_La_init.2.1 13 = .ok (.aload_n 0, 1) := by decide +kernel
theorem d_La_init_14 : decode M_La_init.2.1 14 = .ok (.sipush 400, 3) := by decide +kernel
theorem d_La_init_17 : decode M_La_init.2.1 17 = .ok (.newarray .int, 2) := by decide +kernel
theorem d_La_init_19 : decode M_La_init.2.1 19 = .ok (.putfield 15, 3) := by decide +kernel
theorem d_La_init_22 : decode M_La_init.2.1 22 = .ok (.aload_n 0, 1) := by decide +kernel
theorem d_La_init_23 : decode M_La_init.2.1 23 = .ok (.sipush 400, 3) := by decide +kernel
theorem d_La_init_26 : decode M_La_init.2.1 26 = .ok (.newarray .int, 2) := by decide +kernel
theorem d_La_init_28 : decode M_La_init.2.1 28 = .ok (.putfield 18, 3) := by decide +kernel
theorem d_La_init_31 : decode M_La_init.2.1 31 = .ok (.aload_n 0, 1) := by decide +kernel
theorem d_La_init_32 : decode M_La_init.2.1 32 = .ok (.sipush 400, 3) := by decide +kernel
theorem d_La_init_35 : decode M_La_init.2.1 35 = .ok (.newarray .int, 2) := by decide +kernel
theorem d_La_init_37 : decode M_La_init.2.1 37 = .ok (.putfield 21, 3) := by decide +kernel
theorem d_La_init_40 : decode M_La_init.2.1 40 = .ok (.aload_n 0, 1) := by decide +kernel
theorem d_La_init_41 : decode M_La_init.2.1 41 = .ok (.sipush 806, 3) := by decide +kernel
theorem d_La_init_44 : decode M_La_init.2.1 44 = .ok (.newarray .int, 2) := by decide +kernel
theorem d_La_init_46 : decode M_La_init.2.1 46 = .ok (.putfield 24, 3) := by decide +kernel
theorem d_La_init_49 : decode M_La_init.2.1 49 = .ok (.return_, 1) := by decide +kernel
theorem d_La_clear_0 : decode M_La_clear.2.1 0 = .ok (.aload_n 0, 1) := by decide +kernel
theorem d_La_clear_1 : decode M_La_clear.2.1 1 = .ok (.iconst 0, 1) := by decide +kernel
theorem d_La_clear_2 : decode M_La_clear.2.1 2 = .ok (.putfield 27, 3) := by decide +kernel
theorem d_La_clear_5 : decode M_La_clear.2.1 5 = .ok (.aload_n 0, 1) := by decide +kernel
theorem d_La_clear_6 : decode M_La_clear.2.1 6 = .ok (.iconst 0, 1) := by decide +kernel
theorem d_La_clear_7 : decode M_La_clear.2.1 7 = .ok (.putfield 31, 3) := by decide +kernel
theorem d_La_clear_10 : decode M_La_clear.2.1 10 = .ok (.aload_n 0, 1) := by decide +kernel
theorem d_La_clear_11 : decode M_La_clear.2.1 11 = .ok (.iconst 1, 1) := by decide +kernel
theorem d_La_clear_12 : decode M_La_clear.2.1 12 = .ok (.putfield 34, 3) := by decide +kernel
theorem d_La_clear_15 : decode M_La_clear.2.1 15 = .ok (.aload_n 0, 1) := by decide +kernel
theorem d_La_clear_16 : decode M_La_clear.2.1 16 = .ok (.iconst 0, 1) := by decide +kernel
theorem d_La_clear_17 : decode M_La_clear.2.1 17 = .ok (.putfield 38, 3) := by decide +kernel
theorem d_La_clear_20 : decode M_La_clear.2.1 20 = .ok (.return_, 1) := by decide +kernel
theorem d_La_useVariable_0 : decode M_La_useVariable.2.1 0 = .ok (.aload_n 0, 1) := by decide +kernel
theorem d_La_useVariable_1 : decode M_La_useVariable.2.1 1 = .ok (.aload_n 0, 1) := by decide +kernel
theorem d_La_useVariable_2 : decode M_La_useVariable.2.1 2 = .ok (.getfield 34, 3) := by decide +kernel
theorem d_La_useVariable_5 : decode M_La_useVariable.2.1 5 = .ok (.ifCond .eq 22, 3) := by decide +kernel
theorem d_La_useVariable_8 : decode M_La_useVariable.2.1 8 = .ok (.iload_n 1, 1) := by decide +kernel
theorem d_La_useVariable_9 : decode M_La_useVariable.2.1 9 = .ok (.iconst 2, 1) := by decide +kernel
theorem d_La_useVariable_10 : decode M_La_useVariable.2.1 10 = .ok (.if_icmp .eq 17, 3) := by decide +kernel
theorem d_La_useVariable_13 : decode M_La_useVariable.2.1 13 = .ok (.iload_n 1, 1) := by decide +kernel
theorem d_La_useVariable_14 : decode M_La_useVariable.2.1 14 = .ok (.iconst 3, 1) := by decide +kernel
theorem d_La_useVariable_15 : decode M_La_useVariable.2.1 15 = .ok (.if_icmp .eq 12, 3) := by decide +kernel
theorem d_La_useVariable_18 : decode M_La_useVariable.2.1 18 = .ok (.iload_n 1, 1) := by decide +kernel
theorem d_La_useVariable_19 : decode M_La_useVariable.2.1 19 = .ok (.iconst 4, 1) := by decide +kernel
theorem d_La_useVariable_20 : decode M_La_useVariable.2.1 20 = .ok (.if_icmp .eq 7, 3) := by decide +kernel
theorem d_La_useVariable_23 : decode M_La_useVariable.2.1 23 = .ok (.iconst 1, 1) := by decide +kernel
theorem d_La_useVariable_24 : decode M_La_useVariable.2.1 24 = .ok (.goto 4, 3) := by decide +kernel
theorem d_La_useVariable_27 : decode M_La_useVariable.2.1 27 = .ok (.iconst 0, 1) := by decide +kernel
theorem d_La_useVariable_28 : decode M_La_useVariable.2.1 28 = .ok (.putfield 34, 3) := by decide +kernel
theorem d_La_useVariable_31 : decode M_La_useVariable.2.1 31 = .ok (.aload_n 0, 1) := by decide +kernel
theorem d_La_useVariable_32 : decode M_La_useVariable.2.1 32 = .ok (.aload_n 0, 1) := by decide +kernel
theorem d_La_useVariable_33 : decode M_La_useVariable.2.1 33 = .ok (.getfield 38, 3) := by decide +kernel
theorem d_La_useVariable_36 : decode M_La_useVariable.2.1 36 = .ok (.ifCond .ne 8, 3) := by decide +kernel
theorem d_La_useVariable_39 : decode M_La_useVariable.2.1 39 = .ok (.iload_n 1, 1) := by decide +kernel
theorem d_La_useVariable_40 : decode M_La_useVariable.2.1 40 = .ok (.iconst 1, 1) := by decide +kernel
theorem d_La_useVariable_41 : decode M_La_useVariable.2.1 41 = .ok (.if_icmp .ne 7, 3) := by decide +kernel
theorem d_La_useVariable_44 : decode M_La_useVariable.2.1 44 = .ok (.iconst 1, 1) := by decide +kernel
theorem d_La_useVariable_45 : decode M_La_useVariable.2.1 45 = .ok (.goto 4, 3) := by decide +kernel
theorem d_La_useVariable_48 : decode M_La_useVariable.2.1 48 = .ok (.iconst 0, 1) := by decide +kernel
theorem d_La_useVariable_49 : decode M_La_useVariable.2.1 49 = .ok (.putfield 38, 3) := by decide +kernel
theorem d_La_useVariable_52 : decode M_La_useVariable.2.1 52 = .ok (.iload_n 1, 1) := by decide +kernel
theorem d_La_useVariable_53 : decode M_La_useVariable.2.1 53 = .ok (.ireturn, 1) := by decide +kernel
theorem d_La_useInt_0 : decode M_La_useInt.2.1 0 = .ok (.aload_n 0, 1) := by decide +kernel
theorem d_La_useInt_1 : decode M_La_useInt.2.1 1 = .ok (.getfield 31, 3) := by decide +kernel
theorem d_La_useInt_4 : decode M_La_useInt.2.1 4 = .ok (.sipush 400, 3) := by decide +kernel
theorem d_La_useInt_7 : decode M_La_useInt.2.1 7 = .ok (.if_icmp .lt 5, 3) := by decide +kernel
theorem d_La_useInt_10 : decode M_La_useInt.2.1 10 = .ok (.iconst 0, 1) := by decide +kernel
theorem d_La_useInt_11 : decode M_La_useInt.2.1 11 = .ok (.ireturn, 1) := by decide +kernel
theorem d_La_useInt_12 : decode M_La_useInt.2.1 12 = .ok (.aload_n 0, 1) := by decide +kernel
theorem d_La_useInt_13 : decode M_La_useInt.2.1 13 = .ok (.getfield 24, 3) := by decide +kernel
theorem d_La_useInt_16 : decode M_La_useInt.2.1 16 = .ok (.bipush 6, 2) := by decide +kernel
theorem d_La_useInt_18 : decode M_La_useInt.2.1 18 = .ok (.aload_n 0, 1) := by decide +kernel
theorem d_La_useInt_19 : decode M_La_useInt.2.1 19 = .ok (.getfield 31, 3) := by decide +kernel
theorem d_La_useInt_22 : decode M_La_useInt.2.1 22 = .ok (.iadd, 1) := by decide +kernel
theorem d_La_useInt_23 : decode M_La_useInt.2.1 23 = .ok (.iload_n 1, 1) := by decide +kernel
theorem d_La_useInt_24 : decode M_La_useInt.2.1 24 = .ok (.iastore, 1) := by decide +kernel
theorem d_La_useInt_25 : decode M_La_useInt.2.1 25 = .ok (.aload_n 0, 1) := by decide +kernel
theorem d_La_useInt_26 : decode M_La_useInt.2.1 26 = .ok (.dup, 1) := by decide +kernel
theorem d_La_useInt_27 : decode M_La_useInt.2.1 27 = .ok (.getfield 31, 3) := by decide +kernel
theorem d_La_useInt_30 : decode M_La_useInt.2.1 30 = .ok (.iconst 1, 1) := by decide +kernel
theorem d_La_useInt_31 : decode M_La_useInt.2.1 31 = .ok (.iadd, 1) := by decide +kernel
theorem d_La_useInt_32 : decode M_La_useInt.2.1 32 = .ok (.putfield 31, 3) := by decide +kernel
theorem d_La_useInt_35 : decode M_La_useInt.2.1 35 = .ok (.bipush 6, 2) := by decide +kernel
theorem d_La_useInt_37 : decode M_La_useInt.2.1 37 = .ok (.aload_n 0, 1) := by decide +kernel
theorem d_La_useInt_38 : decode M_La_useInt.2.1 38 = .ok (.getfield 31, 3) := by decide +kernel
theorem d_La_useInt_41 : decode M_La_useInt.2.1 41 = .ok (.iadd, 1) := by decide +kernel
theorem d_La_useInt_42 : decode M_La_useInt.2.1 42 = .ok (.iconst 1, 1) := by decide +kernel
theorem d_La_useInt_43 : decode M_La_useInt.2.1 43 = .ok (.isub, 1) := by decide +kernel
theorem d_La_useInt_44 : decode M_La_useInt.2.1 44 = .ok (.ireturn, 1) := by decide +kernel
theorem d_La_addStep_0 : decode M_La_addStep.2.1 0 = .ok (.aload_n 0, 1) := by decide +kernel
theorem d_La_addStep_1 : decode M_La_addStep.2.1 1 = .ok (.getfield 27, 3) := by decide +kernel
theorem d_La_addStep_4 : decode M_La_addStep.2.1 4 = .ok (.sipush 400, 3) := by decide +kernel
theorem d_La_addStep_7 : decode M_La_addStep.2.1 7 = .ok (.if_icmp .lt 5, 3) := by decide +kernel
theorem d_La_addStep_10 : decode M_La_addStep.2.1 10 = .ok (.iconst 0, 1) := by decide +kernel
theorem d_La_addStep_11 : decode M_La_addStep.2.1 11 = .ok (.ireturn, 1) := by decide +kernel
theorem d_La_addStep_12 : decode M_La_addStep.2.1 12 = .ok (.aload_n 0, 1) := by decide +kernel
theorem d_La_addStep_13 : decode M_La_addStep.2.1 13 = .ok (.getfield 11, 3) := by decide +kernel
theorem d_La_addStep_16 : decode M_La_addStep.2.1 16 = .ok (.aload_n 0, 1) := by decide +kernel
theorem d_La_addStep_17 : decode M_La_addStep.2.1 17 = .ok (.getfield 27, 3) := by decide +kernel
theorem d_La_addStep_20 : decode M_La_addStep.2.1 20 = .ok (.iload_n 1, 1) := by decide +kernel
theorem d_La_addStep_21 : decode M_La_addStep.2.1 21 = .ok (.iastore, 1) := by decide +kernel
theorem d_La_addStep_22 : decode M_La_addStep.2.1 22 = .ok (.aload_n 0, 1) := by decide +kernel
theorem d_La_addStep_23 : decode M_La_addStep.2.1 23 = .ok (.getfield 15, 3) := by decide +kernel
theorem d_La_addStep_26 : decode M_La_addStep.2.1 26 = .ok (.aload_n 0, 1) := by decide +kernel
theorem d_La_addStep_27 : decode M_La_addStep.2.1 27 = .ok (.getfield 27, 3) := by decide +kernel
theorem d_La_addStep_30 : decode M_La_addStep.2.1 30 = .ok (.iload_n 2, 1) := by decide +kernel
theorem d_La_addStep_31 : decode M_La_addStep.2.1 31 = .ok (.iastore, 1) := by decide +kernel
theorem d_La_addStep_32 : decode M_La_addStep.2.1 32 = .ok (.aload_n 0, 1) := by decide +kernel
theorem d_La_addStep_33 : decode M_La_addStep.2.1 33 = .ok (.getfield 18, 3) := by decide +kernel
theorem d_La_addStep_36 : decode M_La_addStep.2.1 36 = .ok (.aload_n 0, 1) := by decide +kernel
theorem d_La_addStep_37 : decode M_La_addStep.2.1 37 = .ok (.getfield 27, 3) := by decide +kernel
theorem d_La_addStep_40 : decode M_La_addStep.2.1 40 = .ok (.iload_n 3, 1) := by decide +kernel
theorem d_La_addStep_41 : decode M_La_addStep.2.1 41 = .ok (.iastore, 1) := by decide +kernel
theorem d_La_addStep_42 : decode M_La_addStep.2.1 42 = .ok (.aload_n 0, 1) := by decide +kernel
theorem d_La_addStep_43 : decode M_La_addStep.2.1 43 = .ok (.dup, 1) := by decide +kernel
theorem d_La_addStep_44 : decode M_La_addStep.2.1 44 = .ok (.getfield 27, 3) := by decide +kernel
theorem d_La_addStep_47 : decode M_La_addStep.2.1 47 = .ok (.iconst 1, 1) := by decide +kernel
theorem d_La_addStep_48 : decode M_La_addStep.2.1 48 = .ok (.iadd, 1) := by decide +kernel
theorem d_La_addStep_49 : decode M_La_addStep.2.1 49 = .ok (.putfield 27, 3) := by decide +kernel
theorem d_La_addStep_52 : decode M_La_addStep.2.1 52 = .ok (.sipush 406, 3) := by decide +kernel
theorem d_La_addStep_55 : decode M_La_addStep.2.1 55 = .ok (.aload_n 0, 1) := by decide +kernel
theorem d_La_addStep_56 : decode M_La_addStep.2.1 56 = .ok (.getfield 27, 3) := by decide +kernel
theorem d_La_addStep_59 : decode M_La_addStep.2.1 59 = .ok (.iadd, 1) := by decide +kernel
theorem d_La_addStep_60 : decode M_La_addStep.2.1 60 = .ok (.iconst 1, 1) := by decide +kernel
theorem d_La_addStep_61 : decode M_La_addStep.2.1 61 = .ok (.isub, 1) := by decide +kernel
theorem d_La_addStep_62 : decode M_La_addStep.2.1 62 = .ok (.ireturn, 1) := by decide +kernel
theorem d_La_aimHere_0 : decode M_La_aimHere.2.1 0 = .ok (.iload_n 1, 1) := by decide +kernel
theorem d_La_aimHere_1 : decode M_La_aimHere.2.1 1 = .ok (.sipush 406, 3) := by decide +kernel
theorem d_La_aimHere_4 : decode M_La_aimHere.2.1 4 = .ok (.if_icmp .lt 29, 3) := by decide +kernel
theorem d_La_aimHere_7 : decode M_La_aimHere.2.1 7 = .ok (.iload_n 1, 1) := by decide +kernel
theorem d_La_aimHere_8 : decode M_La_aimHere.2.1 8 = .ok (.sipush 406, 3) := by decide +kernel
theorem d_La_aimHere_11 : decode M_La_aimHere.2.1 11 = .ok (.aload_n 0, 1) := by decide +kernel
theorem d_La_aimHere_12 : decode M_La_aimHere.2.1 12 = .ok (.getfield 27, 3) := by decide +kernel
theorem d_La_aimHere_15 : decode M_La_aimHere.2.1 15 = .ok (.iadd, 1) := by decide +kernel
theorem d_La_aimHere_16 : decode M_La_aimHere.2.1 16 = .ok (.if_icmp .ge 17, 3) := by decide +kernel
theorem d_La_aimHere_19 : decode M_La_aimHere.2.1 19 = .ok (.aload_n 0, 1) := by decide +kernel
theorem d_La_aimHere_20 : decode M_La_aimHere.2.1 20 = .ok (.getfield 21, 3) := by decide +kernel
theorem d_La_aimHere_23 : decode M_La_aimHere.2.1 23 = .ok (.iload_n 1, 1) := by decide +kernel
theorem d_La_aimHere_24 : decode M_La_aimHere.2.1 24 = .ok (.sipush 406, 3) := by decide +kernel
theorem d_La_aimHere_27 : decode M_La_aimHere.2.1 27 = .ok (.isub, 1) := by decide +kernel
theorem d_La_aimHere_28 : decode M_La_aimHere.2.1 28 = .ok (.aload_n 0, 1) := by decide +kernel
theorem d_La_aimHere_29 : decode M_La_aimHere.2.1 29 = .ok (.getfield 27, 3) := by decide +kernel
theorem d_La_aimHere_32 : decode M_La_aimHere.2.1 32 = .ok (.iastore, 1) := by decide +kernel
theorem d_La_aimHere_33 : decode M_La_aimHere.2.1 33 = .ok (.return_, 1) := by decide +kernel
theorem d_La_copyFrom_0 : decode M_La_copyFrom.2.1 0 = .ok (.aload_n 1, 1) := by decide +kernel
theorem d_La_copyFrom_1 : decode M_La_copyFrom.2.1 1 = .ok (.getfield 11, 3) := by decide +kernel
theorem d_La_copyFrom_4 : decode M_La_copyFrom.2.1 4 = .ok (.iconst 0, 1) := by decide +kernel
theorem d_La_copyFrom_5 : decode M_La_copyFrom.2.1 5 = .ok (.aload_n 0, 1) := by decide +kernel
theorem d_La_copyFrom_6 : decode M_La_copyFrom.2.1 6 = .ok (.getfield 11, 3) := by decide +kernel
theorem d_La_copyFrom_9 : decode M_La_copyFrom.2.1 9 = .ok (.iconst 0, 1) := by decide +kernel
theorem d_La_copyFrom_10 : decode M_La_copyFrom.2.1 10 = .ok (.aload_n 1, 1) := by decide +kernel
theorem d_La_copyFrom_11 : decode M_La_copyFrom.2.1 11 = .ok (.getfield 27, 3) := by decide +kernel
theorem d_La_copyFrom_14 : decode M_La_copyFrom.2.1 14 = .ok (.invokestatic 41, 3) := by decide +kernel
theorem d_La_copyFrom_17 : decode M_La_copyFrom.2.1 17 = .ok (.aload_n 1, 1) := by decide +kernel
theorem d_La_copyFrom_18 : decode M_La_copyFrom.2.1 18 = .ok (.getfield 15, 3) := by decide +kernel
theorem d_La_copyFrom_21 : decode M_La_copyFrom.2.1 21 = .ok (.iconst 0, 1) := by decide +kernel
theorem d_La_copyFrom_22 : decode M_La_copyFrom.2.1 22 = .ok (.aload_n 0, 1) := by decide +kernel
theorem d_La_copyFrom_23 : decode M_La_copyFrom.2.1 23 = .ok (.getfield 15, 3) := by decide +kernel
theorem d_La_copyFrom_26 : decode M_La_copyFrom.2.1 26 = .ok (.iconst 0, 1) := by decide +kernel
theorem d_La_copyFrom_27 : decode M_La_copyFrom.2.1 27 = .ok (.aload_n 1, 1) := by decide +kernel
theorem d_La_copyFrom_28 : decode M_La_copyFrom.2.1 28 = .ok (.getfield 27, 3) := by decide +kernel
theorem d_La_copyFrom_31 : decode M_La_copyFrom.2.1 31 = .ok (.invokestatic 41, 3) := by decide +kernel
theorem d_La_copyFrom_34 : decode M_La_copyFrom.2.1 34 = .ok (.aload_n 1, 1) := by decide +kernel
theorem d_La_copyFrom_35 : decode M_La_copyFrom.2.1 35 = .ok (.getfield 18, 3) := by decide +kernel
theorem d_La_copyFrom_38 : decode M_La_copyFrom.2.1 38 = .ok (.iconst 0, 1) := by decide +kernel
theorem d_La_copyFrom_39 : decode M_La_copyFrom.2.1 39 = .ok (.aload_n 0, 1) := by decide +kernel
theorem d_La_copyFrom_40 : decode M_La_copyFrom.2.1 40 = .ok (.getfield 18, 3) := by decide +kernel
theorem d_La_copyFrom_43 : decode M_La_copyFrom.2.1 43 = .ok (.iconst 0, 1) := by decide +kernel
theorem d_La_copyFrom_44 : decode M_La_copyFrom.2.1 44 = .ok (.aload_n 1, 1) := by decide +kernel
theorem d_La_copyFrom_45 : decode M_La_copyFrom.2.1 45 = .ok (.getfield 27, 3) := by decide +kernel
theorem d_La_copyFrom_48 : decode M_La_copyFrom.2.1 48 = .ok (.invokestatic 41, 3) := by decide +kernel
theorem d_La_copyFrom_51 : decode M_La_copyFrom.2.1 51 = .ok (.aload_n 1, 1) := by decide +kernel
theorem d_La_copyFrom_52 : decode M_La_copyFrom.2.1 52 = .ok (.getfield 21, 3) := by decide +kernel
theorem d_La_copyFrom_55 : decode M_La_copyFrom.2.1 55 = .ok (.iconst 0, 1) := by decide +kernel
theorem d_La_copyFrom_56 : decode M_La_copyFrom.2.1 56 = .ok (.aload_n 0, 1) := by decide +kernel
theorem d_La_copyFrom_57 : decode M_La_copyFrom.2.1 57 = .ok (.getfield 21, 3) := by decide +kernel
theorem d_La_copyFrom_60 : decode M_La_copyFrom.2.1 60 = .ok (.iconst 0, 1) := by decide +kernel
theorem d_La_copyFrom_61 : decode M_La_copyFrom.2.1 61 = .ok (.aload_n 1, 1) := by decide +kernel
theorem d_La_copyFrom_62 : decode M_La_copyFrom.2.1 62 = .ok (.getfield 27, 3) := by decide +kernel
theorem d_La_copyFrom_65 : decode M_La_copyFrom.2.1 65 = .ok (.invokestatic 41, 3) := by decide +kernel
theorem d_La_copyFrom_68 : decode M_La_copyFrom.2.1 68 = .ok (.aload_n 1, 1) := by decide +kernel
theorem d_La_copyFrom_69 : decode M_La_copyFrom.2.1 69 = .ok (.getfield 24, 3) := by decide +kernel
theorem d_La_copyFrom_72 : decode M_La_copyFrom.2.1 72 = .ok (.iconst 0, 1) := by decide +kernel
theorem d_La_copyFrom_73 : decode M_La_copyFrom.2.1 73 = .ok (.aload_n 0, 1) := by decide +kernel
theorem d_La_copyFrom_74 : decode M_La_copyFrom.2.1 74 = .ok (.getfield 24, 3) := by decide +kernel
theorem d_La_copyFrom_77 : decode M_La_copyFrom.2.1 77 = .ok (.iconst 0, 1) := by decide +kernel
theorem d_La_copyFrom_78 : decode M_La_copyFrom.2.1 78 = .ok (.bipush 6, 2) := by decide +kernel
theorem d_La_copyFrom_80 : decode M_La_copyFrom.2.1 80 = .ok (.aload_n 1, 1) := by decide +kernel
theorem d_La_copyFrom_81 : decode M_La_copyFrom.2.1 81 = .ok (.getfield 31, 3) := by decide +kernel
theorem d_La_copyFrom_84 : decode M_La_copyFrom.2.1 84 = .ok (.iadd, 1) := by decide +kernel
theorem d_La_copyFrom_85 : decode M_La_copyFrom.2.1 85 = .ok (.invokestatic 41, 3) := by decide +kernel
theorem d_La_copyFrom_88 : decode M_La_copyFrom.2.1 88 = .ok (.aload_n 0, 1) := by decide +kernel
theorem d_La_copyFrom_89 : decode M_La_copyFrom.2.1 89 = .ok (.aload_n 1, 1) := by decide +kernel
theorem d_La_copyFrom_90 : decode M_La_copyFrom.2.1 90 = .ok (.getfield 27, 3) := by decide +kernel
theorem d_La_copyFrom_93 : decode M_La_copyFrom.2.1 93 = .ok (.putfield 27, 3) := by decide +kernel
theorem d_La_copyFrom_96 : decode M_La_copyFrom.2.1 96 = .ok (.aload_n 0, 1) := by decide +kernel
theorem d_La_copyFrom_97 : decode M_La_copyFrom.2.1 97 = .ok (.aload_n 1, 1) := by decide +kernel
theorem d_La_copyFrom_98 : decode M_La_copyFrom.2.1 98 = .ok (.getfield 31, 3) := by decide +kernel
theorem d_La_copyFrom_101 : decode M_La_copyFrom.2.1 101 = .ok (.putfield 31, 3) := by decide +kernel
theorem d_La_copyFrom_104 : decode M_La_copyFrom.2.1 104 = .ok (.aload_n 0, 1) := by decide +kernel
theorem d_La_copyFrom_105 : decode M_La_copyFrom.2.1 105 = .ok (.aload_n 1, 1) := by decide +kernel
theorem d_La_copyFrom_106 : decode M_La_copyFrom.2.1 106 = .ok (.getfield 34, 3) := by decide +kernel
theorem d_La_copyFrom_109 : decode M_La_copyFrom.2.1 109 = .ok (.putfield 34, 3) := by decide +kernel
theorem d_La_copyFrom_112 : decode M_La_copyFrom.2.1 112 = .ok (.aload_n 0, 1) := by decide +kernel
theorem d_La_copyFrom_113 : decode M_La_copyFrom.2.1 113 = .ok (.aload_n 1, 1) := by decide +kernel
theorem d_La_copyFrom_114 : decode M_La_copyFrom.2.1 114 = .ok (.getfield 38, 3) := by decide +kernel
theorem d_La_copyFrom_117 : decode M_La_copyFrom.2.1 117 = .ok (.putfield 38, 3) := by decide +kernel
theorem d_La_copyFrom_120 : decode M_La_copyFrom.2.1 120 = .ok (.return_, 1) := by decide +kernel
theorem d_La_value_0 : decode M_La_value.2.1 0 = .ok (.aload_n 0, 1) := by decide +kernel
theorem d_La_value_1 : decode M_La_value.2.1 1 = .ok (.getfield 24, 3) := by decide +kernel
theorem d_La_value_4 : decode M_La_value.2.1 4 = .ok (.astore 7, 2) := by decide +kernel
theorem d_La_value_6 : decode M_La_value.2.1 6 = .ok (.aload 7, 2) := by decide +kernel
theorem d_La_value_8 : decode M_La_value.2.1 8 = .ok (.iconst 0, 1) := by decide +kernel
theorem d_La_value_9 : decode M_La_value.2.1 9 = .ok (.iload_n 1, 1) := by decide +kernel
theorem d_La_value_10 : decode M_La_value.2.1 10 = .ok (.iastore, 1) := by decide +kernel
theorem d_La_value_11 : decode M_La_value.2.1 11 = .ok (.aload 7, 2) := by decide +kernel
theorem d_La_value_13 : decode M_La_value.2.1 13 = .ok (.iconst 1, 1) := by decide +kernel
theorem d_La_value_14 : decode M_La_value.2.1 14 = .ok (.iload_n 2, 1) := by decide +kernel
theorem d_La_value_15 : decode M_La_value.2.1 15 = .ok (.iastore, 1) := by decide +kernel
theorem d_La_value_16 : decode M_La_value.2.1 16 = .ok (.aload 7, 2) := by decide +kernel
theorem d_La_value_18 : decode M_La_value.2.1 18 = .ok (.iconst 2, 1) := by decide +kernel
theorem d_La_value_19 : decode M_La_value.2.1 19 = .ok (.iload_n 3, 1) := by decide +kernel
theorem d_La_value_20 : decode M_La_value.2.1 20 = .ok (.iastore, 1) := by decide +kernel
theorem d_La_value_21 : decode M_La_value.2.1 21 = .ok (.aload 7, 2) := by decide +kernel
theorem d_La_value_23 : decode M_La_value.2.1 23 = .ok (.iconst 3, 1) := by decide +kernel
theorem d_La_value_24 : decode M_La_value.2.1 24 = .ok (.iload 4, 2) := by decide +kernel
theorem d_La_value_26 : decode M_La_value.2.1 26 = .ok (.iastore, 1) := by decide +kernel
theorem d_La_value_27 : decode M_La_value.2.1 27 = .ok (.aload 7, 2) := by decide +kernel
theorem d_La_value_29 : decode M_La_value.2.1 29 = .ok (.iconst 4, 1) := by decide +kernel
theorem d_La_value_30 : decode M_La_value.2.1 30 = .ok (.iload 5, 2) := by decide +kernel
theorem d_La_value_32 : decode M_La_value.2.1 32 = .ok (.iastore, 1) := by decide +kernel
theorem d_La_value_33 : decode M_La_value.2.1 33 = .ok (.aload 7, 2) := by decide +kernel
theorem d_La_value_35 : decode M_La_value.2.1 35 = .ok (.iconst 5, 1) := by decide +kernel
theorem d_La_value_36 : decode M_La_value.2.1 36 = .ok (.iload 6, 2) := by decide +kernel
theorem d_La_value_38 : decode M_La_value.2.1 38 = .ok (.iastore, 1) := by decide +kernel
theorem d_La_value_39 : decode M_La_value.2.1 39 = .ok (.iconst 0, 1) := by decide +kernel
theorem d_La_value_40 : decode M_La_value.2.1 40 = .ok (.istore 8, 2) := by decide +kernel
theorem d_La_value_42 : decode M_La_value.2.1 42 = .ok (.iload 8, 2) := by decide +kernel
theorem d_La_value_44 : decode M_La_value.2.1 44 = .ok (.aload_n 0, 1) := by decide +kernel
theorem d_La_value_45 : decode M_La_value.2.1 45 = .ok (.getfield 27, 3) := by decide +kernel
theorem d_La_value_48 : decode M_La_value.2.1 48 = .ok (.if_icmp .ge 185, 3) := by decide +kernel
theorem d_La_value_51 : decode M_La_value.2.1 51 = .ok (.aload 7, 2) := by decide +kernel
theorem d_La_value_53 : decode M_La_value.2.1 53 = .ok (.aload_n 0, 1) := by decide +kernel
theorem d_La_value_54 : decode M_La_value.2.1 54 = .ok (.getfield 15, 3) := by decide +kernel
theorem d_La_value_57 : decode M_La_value.2.1 57 = .ok (.iload 8, 2) := by decide +kernel
theorem d_La_value_59 : decode M_La_value.2.1 59 = .ok (.iaload, 1) := by decide +kernel
theorem d_La_value_60 : decode M_La_value.2.1 60 = .ok (.iaload, 1) := by decide +kernel
theorem d_La_value_61 : decode M_La_value.2.1 61 = .ok (.istore 9, 2) := by decide +kernel
theorem d_La_value_63 : decode M_La_value.2.1 63 = .ok (.aload 7, 2) := by decide +kernel
theorem d_La_value_65 : decode M_La_value.2.1 65 = .ok (.aload_n 0, 1) := by decide +kernel
theorem d_La_value_66 : decode M_La_value.2.1 66 = .ok (.getfield 18, 3) := by decide +kernel
theorem d_La_value_69 : decode M_La_value.2.1 69 = .ok (.iload 8, 2) := by decide +kernel
theorem d_La_value_71 : decode M_La_value.2.1 71 = .ok (.iaload, 1) := by decide +kernel
theorem d_La_value_72 : decode M_La_value.2.1 72 = .ok (.iaload, 1) := by decide +kernel
theorem d_La_value_73 : decode M_La_value.2.1 73 = .ok (.istore 10, 2) := by decide +kernel
theorem d_La_value_75 : decode M_La_value.2.1 75 = .ok (.aload_n 0, 1) := by decide +kernel
theorem d_La_value_76 : decode M_La_value.2.1 76 = .ok (.getfield 11, 3) := by decide +kernel
theorem d_La_value_79 : decode M_La_value.2.1 79 = .ok (.iload 8, 2) := by decide +kernel
theorem d_La_value_81 : decode M_La_value.2.1 81 = .ok (.iaload, 1) := by decide +kernel
theorem d_La_value_82 : decode M_La_value.2.1 82 = .ok (.tableswitch 142 0 4 #[34, 51, 68, 85, 109], 34) := by decide +kernel
theorem d_La_value_116 : decode M_La_value.2.1 116 = .ok (.aload 7, 2) := by decide +kernel
theorem d_La_value_118 : decode M_La_value.2.1 118 = .ok (.sipush 406, 3) := by decide +kernel
theorem d_La_value_121 : decode M_La_value.2.1 121 = .ok (.iload 8, 2) := by decide +kernel
theorem d_La_value_123 : decode M_La_value.2.1 123 = .ok (.iadd, 1) := by decide +kernel
theorem d_La_value_124 : decode M_La_value.2.1 124 = .ok (.iload 9, 2) := by decide +kernel
theorem d_La_value_126 : decode M_La_value.2.1 126 = .ok (.iload 10, 2) := by decide +kernel
theorem d_La_value_128 : decode M_La_value.2.1 128 = .ok (.iadd, 1) := by decide +kernel
theorem d_La_value_129 : decode M_La_value.2.1 129 = .ok (.iastore, 1) := by decide +kernel
theorem d_La_value_130 : decode M_La_value.2.1 130 = .ok (.goto 97, 3) := by decide +kernel
theorem d_La_value_133 : decode M_La_value.2.1 133 = .ok (.aload 7, 2) := by decide +kernel
theorem d_La_value_135 : decode M_La_value.2.1 135 = .ok (.sipush 406, 3) := by decide +kernel
theorem d_La_value_138 : decode M_La_value.2.1 138 = .ok (.iload 8, 2) := by decide +kernel
theorem d_La_value_140 : decode M_La_value.2.1 140 = .ok (.iadd, 1) := by decide +kernel
theorem d_La_value_141 : decode M_La_value.2.1 141 = .ok (.iload 9, 2) := by decide +kernel
theorem d_La_value_143 : decode M_La_value.2.1 143 = .ok (.iload 10, 2) := by decide +kernel
theorem d_La_value_145 : decode M_La_value.2.1 145 = .ok (.isub, 1) := by decide +kernel
theorem d_La_value_146 : decode M_La_value.2.1 146 = .ok (.iastore, 1) := by decide +kernel
theorem d_La_value_147 : decode M_La_value.2.1 147 = .ok (.goto 80, 3) := by decide +kernel
theorem d_La_value_150 : decode M_La_value.2.1 150 = .ok (.aload 7, 2) := by decide +kernel
theorem d_La_value_152 : decode M_La_value.2.1 152 = .ok (.sipush 406, 3) := by decide +kernel
theorem d_La_value_155 : decode M_La_value.2.1 155 = .ok (.iload 8, 2) := by decide +kernel
theorem d_La_value_157 : decode M_La_value.2.1 157 = .ok (.iadd, 1) := by decide +kernel
theorem d_La_value_158 : decode M_La_value.2.1 158 = .ok (.iload 9, 2) := by decide +kernel
theorem d_La_value_160 : decode M_La_value.2.1 160 = .ok (.iload 10, 2) := by decide +kernel
theorem d_La_value_162 : decode M_La_value.2.1 162 = .ok (.imul, 1) := by decide +kernel
theorem d_La_value_163 : decode M_La_value.2.1 163 = .ok (.iastore, 1) := by decide +kernel
theorem d_La_value_164 : decode M_La_value.2.1 164 = .ok (.goto 63, 3) := by decide +kernel
theorem d_La_value_167 : decode M_La_value.2.1 167 = .ok (.iload 10, 2) := by decide +kernel
theorem d_La_value_169 : decode M_La_value.2.1 169 = .ok (.ifCond .ne 5, 3) := by decide +kernel
theorem d_La_value_172 : decode M_La_value.2.1 172 = .ok (.iconst 0, 1) := by decide +kernel
theorem d_La_value_173 : decode M_La_value.2.1 173 = .ok (.ireturn, 1) := by decide +kernel
theorem d_La_value_174 : decode M_La_value.2.1 174 = .ok (.aload 7, 2) := by decide +kernel
theorem d_La_value_176 : decode M_La_value.2.1 176 = .ok (.sipush 406, 3) := by decide +kernel
theorem d_La_value_179 : decode M_La_value.2.1 179 = .ok (.iload 8, 2) := by decide +kernel
theorem d_La_value_181 : decode M_La_value.2.1 181 = .ok (.iadd, 1) := by decide +kernel
theorem d_La_value_182 : decode M_La_value.2.1 182 = .ok (.iload 9, 2) := by decide +kernel
theorem d_La_value_184 : decode M_La_value.2.1 184 = .ok (.iload 10, 2) := by decide +kernel
theorem d_La_value_186 : decode M_La_value.2.1 186 = .ok (.idiv, 1) := by decide +kernel
theorem d_La_value_187 : decode M_La_value.2.1 187 = .ok (.iastore, 1) := by decide +kernel
theorem d_La_value_188 : decode M_La_value.2.1 188 = .ok (.goto 39, 3) := by decide +kernel
theorem d_La_value_191 : decode M_La_value.2.1 191 = .ok (.iload 9, 2) := by decide +kernel
theorem d_La_value_193 : decode M_La_value.2.1 193 = .ok (.iload 10, 2) := by decide +kernel
theorem d_La_value_195 : decode M_La_value.2.1 195 = .ok (.if_icmp .lt 32, 3) := by decide +kernel
theorem d_La_value_198 : decode M_La_value.2.1 198 = .ok (.aload_n 0, 1) := by decide +kernel
theorem d_La_value_199 : decode M_La_value.2.1 199 = .ok (.getfield 21, 3) := by decide +kernel
theorem d_La_value_202 : decode M_La_value.2.1 202 = .ok (.iload 8, 2) := by decide +kernel
theorem d_La_value_204 : decode M_La_value.2.1 204 = .ok (.iaload, 1) := by decide +kernel
theorem d_La_value_205 : decode M_La_value.2.1 205 = .ok (.iload 8, 2) := by decide +kernel
theorem d_La_value_207 : decode M_La_value.2.1 207 = .ok (.if_icmp .le 20, 3) := by decide +kernel
theorem d_La_value_210 : decode M_La_value.2.1 210 = .ok (.aload_n 0, 1) := by decide +kernel
theorem d_La_value_211 : decode M_La_value.2.1 211 = .ok (.getfield 21, 3) := by decide +kernel
theorem d_La_value_214 : decode M_La_value.2.1 214 = .ok (.iload 8, 2) := by decide +kernel
theorem d_La_value_216 : decode M_La_value.2.1 216 = .ok (.iaload, 1) := by decide +kernel
theorem d_La_value_217 : decode M_La_value.2.1 217 = .ok (.iconst 1, 1) := by decide +kernel
theorem d_La_value_218 : decode M_La_value.2.1 218 = .ok (.isub, 1) := by decide +kernel
theorem d_La_value_219 : decode M_La_value.2.1 219 = .ok (.istore 8, 2) := by decide +kernel
theorem d_La_value_221 : decode M_La_value.2.1 221 = .ok (.goto 6, 3) := by decide +kernel
theorem d_La_value_224 : decode M_La_value.2.1 224 = .ok (.iload 9, 2) := by decide +kernel
theorem d_La_value_226 : decode M_La_value.2.1 226 = .ok (.ireturn, 1) := by decide +kernel
theorem d_La_value_227 : decode M_La_value.2.1 227 = .ok (.iinc 8 1, 3) := by decide +kernel
theorem d_La_value_230 : decode M_La_value.2.1 230 = .ok (.goto (-188), 3) := by decide +kernel
theorem d_La_value_233 : decode M_La_value.2.1 233 = .ok (.iconst 0, 1) := by decide +kernel
theorem d_La_value_234 : decode M_La_value.2.1 234 = .ok (.ireturn, 1) := by decide +kernel
theorem d_Ou_init_0 : decode M_Ou_init.2.1 0 = .ok (.aload_n 0, 1) := by decide +kernel
theorem d_Ou_init_1 : decode M_Ou_init.2.1 1 = .ok (.invokespecial 3, 3) := by decide +kernel
theorem d_Ou_init_4 : decode M_Ou_init.2.1 4 = .ok (.aload_n 0, 1) := by decide +kernel
theorem d_Ou_init_5 : decode M_Ou_init.2.1 5 = .ok (.new 9, 3) := by decide +kernel
theorem d_Ou_init_8 : decode M_Ou_init.2.1 8 = .ok (.dup, 1) := by decide +kernel
theorem d_Ou_init_9 : decode M_Ou_init.2.1 9 = .ok (.invokespecial 11, 3) := by decide +kernel
theorem d_Ou_init_12 : decode M_Ou_init.2.1 12 = .ok (.putfield 12, 3) := by decide +kernel
theorem d_Ou_init_15 : decode M_Ou_init.2.1 15 = .ok (.return_, 1) := by decide +kernel
theorem d_Ou_goThrough_0 : decode M_Ou_goThrough.2.1 0 = .ok (.aload_n 0, 1) := by decide +kernel
theorem d_Ou_goThrough_1 : decode M_Ou_goThrough.2.1 1 = .ok (.getfield 12, 3) := by decide +kernel
theorem d_Ou_goThrough_4 : decode M_Ou_goThrough.2.1 4 = .ok (.aload_n 2, 1) := by decide +kernel
theorem d_Ou_goThrough_5 : decode M_Ou_goThrough.2.1 5 = .ok (.invokevirtual 18, 3) := by decide +kernel
theorem d_Ou_goThrough_8 : decode M_Ou_goThrough.2.1 8 = .ok (.aload_n 0, 1) := by decide +kernel
theorem d_Ou_goThrough_9 : decode M_Ou_goThrough.2.1 9 = .ok (.getfield 12, 3) := by decide +kernel
theorem d_Ou_goThrough_12 : decode M_Ou_goThrough.2.1 12 = .ok (.aload_n 1, 1) := by decide +kernel
theorem d_Ou_goThrough_13 : decode M_Ou_goThrough.2.1 13 = .ok (.iload_n 3, 1) := by decide +kernel
theorem d_Ou_goThrough_14 : decode M_Ou_goThrough.2.1 14 = .ok (.invokevirtual 22, 3) := by decide +kernel
theorem d_Ou_goThrough_17 : decode M_Ou_goThrough.2.1 17 = .ok (.return_, 1) := by decide +kernel
theorem d_Ou_minutesToOut_0 : decode M_Ou_minutesToOut.2.1 0 = .ok (.iconst 0, 1) := by decide +kernel
theorem d_Ou_minutesToOut_1 : decode M_Ou_minutesToOut.2.1 1 = .ok (.istore 4, 2) := by decide +kernel
theorem d_Ou_minutesToOut_3 : decode M_Ou_minutesToOut.2.1 3 = .ok (.iload 4, 2) := by decide +kernel
theorem d_Ou_minutesToOut_5 : decode M_Ou_minutesToOut.2.1 5 = .ok (.iload_n 3, 1) := by decide +kernel
theorem d_Ou_minutesToOut_6 : decode M_Ou_minutesToOut.2.1 6 = .ok (.if_icmp .gt 65, 3) := by decide +kernel
theorem d_Ou_minutesToOut_9 : decode M_Ou_minutesToOut.2.1 9 = .ok (.aload_n 0, 1) := by decide +kernel
theorem d_Ou_minutesToOut_10 : decode M_Ou_minutesToOut.2.1 10 = .ok (.getfield 12, 3) := by decide +kernel
theorem d_Ou_minutesToOut_13 : decode M_Ou_minutesToOut.2.1 13 = .ok (.getfield 26, 3) := by decide +kernel
theorem d_Ou_minutesToOut_16 : decode M_Ou_minutesToOut.2.1 16 = .ok (.iload_n 2, 1) := by decide +kernel
theorem d_Ou_minutesToOut_17 : decode M_Ou_minutesToOut.2.1 17 = .ok (.iaload, 1) := by decide +kernel
theorem d_Ou_minutesToOut_18 : decode M_Ou_minutesToOut.2.1 18 = .ok (.ifCond .ne 6, 3) := by decide +kernel
theorem d_Ou_minutesToOut_21 : decode M_Ou_minutesToOut.2.1 21 = .ok (.iload 4, 2) := by decide +kernel
theorem d_Ou_minutesToOut_23 : decode M_Ou_minutesToOut.2.1 23 = .ok (.ireturn, 1) := by decide +kernel
theorem d_Ou_minutesToOut_24 : decode M_Ou_minutesToOut.2.1 24 = .ok (.aload_n 0, 1) := by decide +kernel
theorem d_Ou_minutesToOut_25 : decode M_Ou_minutesToOut.2.1 25 = .ok (.getfield 12, 3) := by decide +kernel
theorem d_Ou_minutesToOut_28 : decode M_Ou_minutesToOut.2.1 28 = .ok (.iload_n 2, 1) := by decide +kernel
theorem d_Ou_minutesToOut_29 : decode M_Ou_minutesToOut.2.1 29 = .ok (.aload_n 1, 1) := by decide +kernel
theorem d_Ou_minutesToOut_30 : decode M_Ou_minutesToOut.2.1 30 = .ok (.aload_n 0, 1) := by decide +kernel
theorem d_Ou_minutesToOut_31 : decode M_Ou_minutesToOut.2.1 31 = .ok (.getfield 12, 3) := by decide +kernel
theorem d_Ou_minutesToOut_34 : decode M_Ou_minutesToOut.2.1 34 = .ok (.iload_n 2, 1) := by decide +kernel
theorem d_Ou_minutesToOut_35 : decode M_Ou_minutesToOut.2.1 35 = .ok (.aload_n 1, 1) := by decide +kernel
theorem d_Ou_minutesToOut_36 : decode M_Ou_minutesToOut.2.1 36 = .ok (.aload_n 0, 1) := by decide +kernel
theorem d_Ou_minutesToOut_37 : decode M_Ou_minutesToOut.2.1 37 = .ok (.getfield 12, 3) := by decide +kernel
theorem d_Ou_minutesToOut_40 : decode M_Ou_minutesToOut.2.1 40 = .ok (.getfield 30, 3) := by decide +kernel
theorem d_Ou_minutesToOut_43 : decode M_Ou_minutesToOut.2.1 43 = .ok (.invokevirtual 34, 3) := by decide +kernel
theorem d_Ou_minutesToOut_46 : decode M_Ou_minutesToOut.2.1 46 = .ok (.invokevirtual 40, 3) := by decide +kernel
theorem d_Ou_minutesToOut_49 : decode M_Ou_minutesToOut.2.1 49 = .ok (.invokevirtual 44, 3) := by decide +kernel
theorem d_Ou_minutesToOut_52 : decode M_Ou_minutesToOut.2.1 52 = .ok (.aload_n 0, 1) := by decide +kernel
theorem d_Ou_minutesToOut_53 : decode M_Ou_minutesToOut.2.1 53 = .ok (.getfield 12, 3) := by decide +kernel
theorem d_Ou_minutesToOut_56 : decode M_Ou_minutesToOut.2.1 56 = .ok (.dup, 1) := by decide +kernel
theorem d_Ou_minutesToOut_57 : decode M_Ou_minutesToOut.2.1 57 = .ok (.getfield 30, 3) := by decide +kernel
theorem d_Ou_minutesToOut_60 : decode M_Ou_minutesToOut.2.1 60 = .ok (.iconst 1, 1) := by decide +kernel
theorem d_Ou_minutesToOut_61 : decode M_Ou_minutesToOut.2.1 61 = .ok (.iadd, 1) := by decide +kernel
theorem d_Ou_minutesToOut_62 : decode M_Ou_minutesToOut.2.1 62 = .ok (.putfield 30, 3) := by decide +kernel
theorem d_Ou_minutesToOut_65 : decode M_Ou_minutesToOut.2.1 65 = .ok (.iinc 4 1, 3) := by decide +kernel
theorem d_Ou_minutesToOut_68 : decode M_Ou_minutesToOut.2.1 68 = .ok (.goto (-65), 3) := by decide +kernel
theorem d_Ou_minutesToOut_71 : decode M_Ou_minutesToOut.2.1 71 = .ok (.bipush (-2), 2) := by decide +kernel
theorem d_Ou_minutesToOut_73 : decode M_Ou_minutesToOut.2.1 73 = .ok (.ireturn, 1) := by decide +kernel
theorem d_Ou_minutesToBed_0 : decode M_Ou_minutesToBed.2.1 0 = .ok (.aload_n 0, 1) := by decide +kernel
theorem d_Ou_minutesToBed_1 : decode M_Ou_minutesToBed.2.1 1 = .ok (.getfield 12, 3) := by decide +kernel
theorem d_Ou_minutesToBed_4 : decode M_Ou_minutesToBed.2.1 4 = .ok (.getfield 48, 3) := by decide +kernel
theorem d_Ou_minutesToBed_7 : decode M_Ou_minutesToBed.2.1 7 = .ok (.iload_n 2, 1) := by decide +kernel
theorem d_Ou_minutesToBed_8 : decode M_Ou_minutesToBed.2.1 8 = .ok (.iaload, 1) := by decide +kernel
theorem d_Ou_minutesToBed_9 : decode M_Ou_minutesToBed.2.1 9 = .ok (.istore 4, 2) := by decide +kernel
theorem d_Ou_minutesToBed_11 : decode M_Ou_minutesToBed.2.1 11 = .ok (.iconst 0, 1) := by decide +kernel
theorem d_Ou_minutesToBed_12 : decode M_Ou_minutesToBed.2.1 12 = .ok (.istore 5, 2) := by decide +kernel
theorem d_Ou_minutesToBed_14 : decode M_Ou_minutesToBed.2.1 14 = .ok (.iload 5, 2) := by decide +kernel
theorem d_Ou_minutesToBed_16 : decode M_Ou_minutesToBed.2.1 16 = .ok (.iload_n 3, 1) := by decide +kernel
theorem d_Ou_minutesToBed_17 : decode M_Ou_minutesToBed.2.1 17 = .ok (.if_icmp .ge 41, 3) := by decide +kernel
theorem d_Ou_minutesToBed_20 : decode M_Ou_minutesToBed.2.1 20 = .ok (.iload 5, 2) := by decide +kernel
theorem d_Ou_minutesToBed_22 : decode M_Ou_minutesToBed.2.1 22 = .ok (.iconst 1, 1) := by decide +kernel
theorem d_Ou_minutesToBed_23 : decode M_Ou_minutesToBed.2.1 23 = .ok (.aload_n 0, 1) := by decide +kernel
theorem d_Ou_minutesToBed_24 : decode M_Ou_minutesToBed.2.1 24 = .ok (.getfield 12, 3) := by decide +kernel
theorem d_Ou_minutesToBed_27 : decode M_Ou_minutesToBed.2.1 27 = .ok (.aload_n 1, 1) := by decide +kernel
theorem d_Ou_minutesToBed_28 : decode M_Ou_minutesToBed.2.1 28 = .ok (.iload_n 3, 1) := by decide +kernel
theorem d_Ou_minutesToBed_29 : decode M_Ou_minutesToBed.2.1 29 = .ok (.iload 5, 2) := by decide +kernel
theorem d_Ou_minutesToBed_31 : decode M_Ou_minutesToBed.2.1 31 = .ok (.isub, 1) := by decide +kernel
theorem d_Ou_minutesToBed_32 : decode M_Ou_minutesToBed.2.1 32 = .ok (.invokevirtual 51, 3) := by decide +kernel
theorem d_Ou_minutesToBed_35 : decode M_Ou_minutesToBed.2.1 35 = .ok (.invokestatic 55, 3) := by decide +kernel
theorem d_Ou_minutesToBed_38 : decode M_Ou_minutesToBed.2.1 38 = .ok (.iadd, 1) := by decide +kernel
theorem d_Ou_minutesToBed_39 : decode M_Ou_minutesToBed.2.1 39 = .ok (.istore 5, 2) := by decide +kernel
theorem d_Ou_minutesToBed_41 : decode M_Ou_minutesToBed.2.1 41 = .ok (.aload_n 0, 1) := by decide +kernel
theorem d_Ou_minutesToBed_42 : decode M_Ou_minutesToBed.2.1 42 = .ok (.getfield 12, 3) := by decide +kernel
theorem d_Ou_minutesToBed_45 : decode M_Ou_minutesToBed.2.1 45 = .ok (.getfield 48, 3) := by decide +kernel
theorem d_Ou_minutesToBed_48 : decode M_Ou_minutesToBed.2.1 48 = .ok (.iload_n 2, 1) := by decide +kernel
theorem d_Ou_minutesToBed_49 : decode M_Ou_minutesToBed.2.1 49 = .ok (.iaload, 1) := by decide +kernel
theorem d_Ou_minutesToBed_50 : decode M_Ou_minutesToBed.2.1 50 = .ok (.iload 4, 2) := by decide +kernel
theorem d_Ou_minutesToBed_52 : decode M_Ou_minutesToBed.2.1 52 = .ok (.if_icmp .eq (-38), 3) := by decide +kernel
theorem d_Ou_minutesToBed_55 : decode M_Ou_minutesToBed.2.1 55 = .ok (.iload 5, 2) := by decide +kernel
theorem d_Ou_minutesToBed_57 : decode M_Ou_minutesToBed.2.1 57 = .ok (.ireturn, 1) := by decide +kernel
theorem d_Ou_minutesToBed_58 : decode M_Ou_minutesToBed.2.1 58 = .ok (.bipush (-2), 2) := by decide +kernel
theorem d_Ou_minutesToBed_60 : decode M_Ou_minutesToBed.2.1 60 = .ok (.ireturn, 1) := by decide +kernel
theorem d_Ou_fewestGrains_0 : decode M_Ou_fewestGrains.2.1 0 = .ok (.aload_n 2, 1) := by decide +kernel
theorem d_Ou_fewestGrains_1 : decode M_Ou_fewestGrains.2.1 1 = .ok (.getfield 61, 3) := by decide +kernel
theorem d_Ou_fewestGrains_4 : decode M_Ou_fewestGrains.2.1 4 = .ok (.iload_n 3, 1) := by decide +kernel
theorem d_Ou_fewestGrains_5 : decode M_Ou_fewestGrains.2.1 5 = .ok (.iaload, 1) := by decide +kernel
theorem d_Ou_fewestGrains_6 : decode M_Ou_fewestGrains.2.1 6 = .ok (.istore 5, 2) := by decide +kernel
theorem d_Ou_fewestGrains_8 : decode M_Ou_fewestGrains.2.1 8 = .ok (.iload 5, 2) := by decide +kernel
theorem d_Ou_fewestGrains_10 : decode M_Ou_fewestGrains.2.1 10 = .ok (.ifCond .ge 6, 3) := by decide +kernel
theorem d_Ou_fewestGrains_13 : decode M_Ou_fewestGrains.2.1 13 = .ok (.bipush (-2), 2) := by decide +kernel
theorem d_Ou_fewestGrains_15 : decode M_Ou_fewestGrains.2.1 15 = .ok (.ireturn, 1) := by decide +kernel
theorem d_Ou_fewestGrains_16 : decode M_Ou_fewestGrains.2.1 16 = .ok (.iconst 0, 1) := by decide +kernel
theorem d_Ou_fewestGrains_17 : decode M_Ou_fewestGrains.2.1 17 = .ok (.istore 6, 2) := by decide +kernel
theorem d_Ou_fewestGrains_19 : decode M_Ou_fewestGrains.2.1 19 = .ok (.iconst 0, 1) := by decide +kernel
theorem d_Ou_fewestGrains_20 : decode M_Ou_fewestGrains.2.1 20 = .ok (.istore 7, 2) := by decide +kernel
theorem d_Ou_fewestGrains_22 : decode M_Ou_fewestGrains.2.1 22 = .ok (.iload 7, 2) := by decide +kernel
theorem d_Ou_fewestGrains_24 : decode M_Ou_fewestGrains.2.1 24 = .ok (.aload_n 2, 1) := by decide +kernel
theorem d_Ou_fewestGrains_25 : decode M_Ou_fewestGrains.2.1 25 = .ok (.getfield 26, 3) := by decide +kernel
theorem d_Ou_fewestGrains_28 : decode M_Ou_fewestGrains.2.1 28 = .ok (.iload 5, 2) := by decide +kernel
theorem d_Ou_fewestGrains_30 : decode M_Ou_fewestGrains.2.1 30 = .ok (.iaload, 1) := by decide +kernel
theorem d_Ou_fewestGrains_31 : decode M_Ou_fewestGrains.2.1 31 = .ok (.if_icmp .gt 110, 3) := by decide +kernel
theorem d_Ou_fewestGrains_34 : decode M_Ou_fewestGrains.2.1 34 = .ok (.aload_n 1, 1) := by decide +kernel
theorem d_Ou_fewestGrains_35 : decode M_Ou_fewestGrains.2.1 35 = .ok (.getfield 64, 3) := by decide +kernel
theorem d_Ou_fewestGrains_38 : decode M_Ou_fewestGrains.2.1 38 = .ok (.getfield 68, 3) := by decide +kernel
theorem d_Ou_fewestGrains_41 : decode M_Ou_fewestGrains.2.1 41 = .ok (.ifCond .ne 22, 3) := by decide +kernel
theorem d_Ou_fewestGrains_44 : decode M_Ou_fewestGrains.2.1 44 = .ok (.aload_n 0, 1) := by decide +kernel
theorem d_Ou_fewestGrains_45 : decode M_Ou_fewestGrains.2.1 45 = .ok (.aload_n 1, 1) := by decide +kernel
theorem d_Ou_fewestGrains_46 : decode M_Ou_fewestGrains.2.1 46 = .ok (.aload_n 2, 1) := by decide +kernel
theorem d_Ou_fewestGrains_47 : decode M_Ou_fewestGrains.2.1 47 = .ok (.iload 5, 2) := by decide +kernel
theorem d_Ou_fewestGrains_49 : decode M_Ou_fewestGrains.2.1 49 = .ok (.iload 7, 2) := by decide +kernel
theorem d_Ou_fewestGrains_51 : decode M_Ou_fewestGrains.2.1 51 = .ok (.iload 4, 2) := by decide +kernel
theorem d_Ou_fewestGrains_53 : decode M_Ou_fewestGrains.2.1 53 = .ok (.invokevirtual 74, 3) := by decide +kernel
theorem d_Ou_fewestGrains_56 : decode M_Ou_fewestGrains.2.1 56 = .ok (.ifCond .eq 7, 3) := by decide +kernel
theorem d_Ou_fewestGrains_59 : decode M_Ou_fewestGrains.2.1 59 = .ok (.iconst 1, 1) := by decide +kernel
theorem d_Ou_fewestGrains_60 : decode M_Ou_fewestGrains.2.1 60 = .ok (.goto 4, 3) := by decide +kernel
theorem d_Ou_fewestGrains_63 : decode M_Ou_fewestGrains.2.1 63 = .ok (.iconst 0, 1) := by decide +kernel
theorem d_Ou_fewestGrains_64 : decode M_Ou_fewestGrains.2.1 64 = .ok (.istore 8, 2) := by decide +kernel
theorem d_Ou_fewestGrains_66 : decode M_Ou_fewestGrains.2.1 66 = .ok (.iload 8, 2) := by decide +kernel
theorem d_Ou_fewestGrains_68 : decode M_Ou_fewestGrains.2.1 68 = .ok (.ifCond .eq 11, 3) := by decide +kernel
theorem d_Ou_fewestGrains_71 : decode M_Ou_fewestGrains.2.1 71 = .ok (.iload 6, 2) := by decide +kernel
theorem d_Ou_fewestGrains_73 : decode M_Ou_fewestGrains.2.1 73 = .ok (.ifCond .eq 6, 3) := by decide +kernel
theorem d_Ou_fewestGrains_76 : decode M_Ou_fewestGrains.2.1 76 = .ok (.goto 59, 3) := by decide +kernel
theorem d_Ou_fewestGrains_79 : decode M_Ou_fewestGrains.2.1 79 = .ok (.aload_n 0, 1) := by decide +kernel
theorem d_Ou_fewestGrains_80 : decode M_Ou_fewestGrains.2.1 80 = .ok (.getfield 12, 3) := by decide +kernel
theorem d_Ou_fewestGrains_83 : decode M_Ou_fewestGrains.2.1 83 = .ok (.aload_n 2, 1) := by decide +kernel
theorem d_Ou_fewestGrains_84 : decode M_Ou_fewestGrains.2.1 84 = .ok (.invokevirtual 18, 3) := by decide +kernel
theorem d_Ou_fewestGrains_87 : decode M_Ou_fewestGrains.2.1 87 = .ok (.aload_n 0, 1) := by decide +kernel
theorem d_Ou_fewestGrains_88 : decode M_Ou_fewestGrains.2.1 88 = .ok (.getfield 12, 3) := by decide +kernel
theorem d_Ou_fewestGrains_91 : decode M_Ou_fewestGrains.2.1 91 = .ok (.getfield 26, 3) := by decide +kernel
theorem d_Ou_fewestGrains_94 : decode M_Ou_fewestGrains.2.1 94 = .ok (.iload 5, 2) := by decide +kernel
theorem d_Ou_fewestGrains_96 : decode M_Ou_fewestGrains.2.1 96 = .ok (.dup2, 1) := by decide +kernel
theorem d_Ou_fewestGrains_97 : decode M_Ou_fewestGrains.2.1 97 = .ok (.iaload, 1) := by decide +kernel
theorem d_Ou_fewestGrains_98 : decode M_Ou_fewestGrains.2.1 98 = .ok (.iload 7, 2) := by decide +kernel
theorem d_Ou_fewestGrains_100 : decode M_Ou_fewestGrains.2.1 100 = .ok (.isub, 1) := by decide +kernel
theorem d_Ou_fewestGrains_101 : decode M_Ou_fewestGrains.2.1 101 = .ok (.iastore, 1) := by decide +kernel
theorem d_Ou_fewestGrains_102 : decode M_Ou_fewestGrains.2.1 102 = .ok (.aload_n 0, 1) := by decide +kernel
theorem d_Ou_fewestGrains_103 : decode M_Ou_fewestGrains.2.1 103 = .ok (.aload_n 1, 1) := by decide +kernel
theorem d_Ou_fewestGrains_104 : decode M_Ou_fewestGrains.2.1 104 = .ok (.iload_n 3, 1) := by decide +kernel
theorem d_Ou_fewestGrains_105 : decode M_Ou_fewestGrains.2.1 105 = .ok (.iload 4, 2) := by decide +kernel
theorem d_Ou_fewestGrains_107 : decode M_Ou_fewestGrains.2.1 107 = .ok (.invokevirtual 78, 3) := by decide +kernel
theorem d_Ou_fewestGrains_110 : decode M_Ou_fewestGrains.2.1 110 = .ok (.bipush (-2), 2) := by decide +kernel
theorem d_Ou_fewestGrains_112 : decode M_Ou_fewestGrains.2.1 112 = .ok (.if_icmp .eq 6, 3) := by decide +kernel
theorem d_Ou_fewestGrains_115 : decode M_Ou_fewestGrains.2.1 115 = .ok (.iload 7, 2) := by decide +kernel
theorem d_Ou_fewestGrains_117 : decode M_Ou_fewestGrains.2.1 117 = .ok (.ireturn, 1) := by decide +kernel
theorem d_Ou_fewestGrains_118 : decode M_Ou_fewestGrains.2.1 118 = .ok (.iload 6, 2) := by decide +kernel
theorem d_Ou_fewestGrains_120 : decode M_Ou_fewestGrains.2.1 120 = .ok (.ifCond .ne 8, 3) := by decide +kernel
theorem d_Ou_fewestGrains_123 : decode M_Ou_fewestGrains.2.1 123 = .ok (.iload 8, 2) := by decide +kernel
theorem d_Ou_fewestGrains_125 : decode M_Ou_fewestGrains.2.1 125 = .ok (.ifCond .eq 7, 3) := by decide +kernel
theorem d_Ou_fewestGrains_128 : decode M_Ou_fewestGrains.2.1 128 = .ok (.iconst 1, 1) := by decide +kernel
theorem d_Ou_fewestGrains_129 : decode M_Ou_fewestGrains.2.1 129 = .ok (.goto 4, 3) := by decide +kernel
theorem d_Ou_fewestGrains_132 : decode M_Ou_fewestGrains.2.1 132 = .ok (.iconst 0, 1) := by decide +kernel
theorem d_Ou_fewestGrains_133 : decode M_Ou_fewestGrains.2.1 133 = .ok (.istore 6, 2) := by decide +kernel
theorem d_Ou_fewestGrains_135 : decode M_Ou_fewestGrains.2.1 135 = .ok (.iinc 7 1, 3) := by decide +kernel
theorem d_Ou_fewestGrains_138 : decode M_Ou_fewestGrains.2.1 138 = .ok (.goto (-116), 3) := by decide +kernel
theorem d_Ou_fewestGrains_141 : decode M_Ou_fewestGrains.2.1 141 = .ok (.bipush (-2), 2) := by decide +kernel
theorem d_Ou_fewestGrains_143 : decode M_Ou_fewestGrains.2.1 143 = .ok (.ireturn, 1) := by decide +kernel
theorem d_Ou_isNotOut_0 : decode M_Ou_isNotOut.2.1 0 = .ok (.aload_n 0, 1) := by decide +kernel
theorem d_Ou_isNotOut_1 : decode M_Ou_isNotOut.2.1 1 = .ok (.getfield 12, 3) := by decide +kernel
theorem d_Ou_isNotOut_4 : decode M_Ou_isNotOut.2.1 4 = .ok (.aload_n 2, 1) := by decide +kernel
theorem d_Ou_isNotOut_5 : decode M_Ou_isNotOut.2.1 5 = .ok (.invokevirtual 18, 3) := by decide +kernel
theorem d_Ou_isNotOut_8 : decode M_Ou_isNotOut.2.1 8 = .ok (.aload_n 0, 1) := by decide +kernel
theorem d_Ou_isNotOut_9 : decode M_Ou_isNotOut.2.1 9 = .ok (.getfield 12, 3) := by decide +kernel
theorem d_Ou_isNotOut_12 : decode M_Ou_isNotOut.2.1 12 = .ok (.getfield 26, 3) := by decide +kernel
theorem d_Ou_isNotOut_15 : decode M_Ou_isNotOut.2.1 15 = .ok (.iload_n 3, 1) := by decide +kernel
theorem d_Ou_isNotOut_16 : decode M_Ou_isNotOut.2.1 16 = .ok (.dup2, 1) := by decide +kernel
theorem d_Ou_isNotOut_17 : decode M_Ou_isNotOut.2.1 17 = .ok (.iaload, 1) := by decide +kernel
theorem d_Ou_isNotOut_18 : decode M_Ou_isNotOut.2.1 18 = .ok (.iload 4, 2) := by decide +kernel
theorem d_Ou_isNotOut_20 : decode M_Ou_isNotOut.2.1 20 = .ok (.isub, 1) := by decide +kernel
theorem d_Ou_isNotOut_21 : decode M_Ou_isNotOut.2.1 21 = .ok (.iastore, 1) := by decide +kernel
theorem d_Ou_isNotOut_22 : decode M_Ou_isNotOut.2.1 22 = .ok (.aload_n 0, 1) := by decide +kernel
theorem d_Ou_isNotOut_23 : decode M_Ou_isNotOut.2.1 23 = .ok (.aload_n 1, 1) := by decide +kernel
theorem d_Ou_isNotOut_24 : decode M_Ou_isNotOut.2.1 24 = .ok (.iload_n 3, 1) := by decide +kernel
theorem d_Ou_isNotOut_25 : decode M_Ou_isNotOut.2.1 25 = .ok (.iload 5, 2) := by decide +kernel
theorem d_Ou_isNotOut_27 : decode M_Ou_isNotOut.2.1 27 = .ok (.invokevirtual 82, 3) := by decide +kernel
theorem d_Ou_isNotOut_30 : decode M_Ou_isNotOut.2.1 30 = .ok (.bipush (-2), 2) := by decide +kernel
theorem d_Ou_isNotOut_32 : decode M_Ou_isNotOut.2.1 32 = .ok (.if_icmp .ne 7, 3) := by decide +kernel
theorem d_Ou_isNotOut_35 : decode M_Ou_isNotOut.2.1 35 = .ok (.iconst 1, 1) := by decide +kernel
theorem d_Ou_isNotOut_36 : decode M_Ou_isNotOut.2.1 36 = .ok (.goto 4, 3) := by decide +kernel
theorem d_Ou_isNotOut_39 : decode M_Ou_isNotOut.2.1 39 = .ok (.iconst 0, 1) := by decide +kernel
theorem d_Ou_isNotOut_40 : decode M_Ou_isNotOut.2.1 40 = .ok (.ireturn, 1) := by decide +kernel
theorem d_Ou_sleepless_0 : decode M_Ou_sleepless.2.1 0 = .ok (.iconst 0, 1) := by decide +kernel
theorem d_Ou_sleepless_1 : decode M_Ou_sleepless.2.1 1 = .ok (.istore_n 3, 1) := by decide +kernel
theorem d_Ou_sleepless_2 : decode M_Ou_sleepless.2.1 2 = .ok (.iconst 0, 1) := by decide +kernel
theorem d_Ou_sleepless_3 : decode M_Ou_sleepless.2.1 3 = .ok (.istore 4, 2) := by decide +kernel
theorem d_Ou_sleepless_5 : decode M_Ou_sleepless.2.1 5 = .ok (.iload 4, 2) := by decide +kernel
theorem d_Ou_sleepless_7 : decode M_Ou_sleepless.2.1 7 = .ok (.aload_n 1, 1) := by decide +kernel
theorem d_Ou_sleepless_8 : decode M_Ou_sleepless.2.1 8 = .ok (.getfield 85, 3) := by decide +kernel
theorem d_Ou_sleepless_11 : decode M_Ou_sleepless.2.1 11 = .ok (.if_icmp .ge 40, 3) := by decide +kernel
theorem d_Ou_sleepless_14 : decode M_Ou_sleepless.2.1 14 = .ok (.iload_n 3, 1) := by decide +kernel
theorem d_Ou_sleepless_15 : decode M_Ou_sleepless.2.1 15 = .ok (.aload_n 0, 1) := by decide +kernel
theorem d_Ou_sleepless_16 : decode M_Ou_sleepless.2.1 16 = .ok (.getfield 12, 3) := by decide +kernel
theorem d_Ou_sleepless_19 : decode M_Ou_sleepless.2.1 19 = .ok (.getfield 88, 3) := by decide +kernel
theorem d_Ou_sleepless_22 : decode M_Ou_sleepless.2.1 22 = .ok (.iload 4, 2) := by decide +kernel
theorem d_Ou_sleepless_24 : decode M_Ou_sleepless.2.1 24 = .ok (.iaload, 1) := by decide +kernel
theorem d_Ou_sleepless_25 : decode M_Ou_sleepless.2.1 25 = .ok (.aload_n 2, 1) := by decide +kernel
theorem d_Ou_sleepless_26 : decode M_Ou_sleepless.2.1 26 = .ok (.getfield 88, 3) := by decide +kernel
theorem d_Ou_sleepless_29 : decode M_Ou_sleepless.2.1 29 = .ok (.iload 4, 2) := by decide +kernel
theorem d_Ou_sleepless_31 : decode M_Ou_sleepless.2.1 31 = .ok (.iaload, 1) := by decide +kernel
theorem d_Ou_sleepless_32 : decode M_Ou_sleepless.2.1 32 = .ok (.if_icmp .ne 10, 3) := by decide +kernel
theorem d_Ou_sleepless_35 : decode M_Ou_sleepless.2.1 35 = .ok (.iconst 1, 1) := by decide +kernel
theorem d_Ou_sleepless_36 : decode M_Ou_sleepless.2.1 36 = .ok (.iload 4, 2) := by decide +kernel
theorem d_Ou_sleepless_38 : decode M_Ou_sleepless.2.1 38 = .ok (.ishl, 1) := by decide +kernel
theorem d_Ou_sleepless_39 : decode M_Ou_sleepless.2.1 39 = .ok (.goto 4, 3) := by decide +kernel
theorem d_Ou_sleepless_42 : decode M_Ou_sleepless.2.1 42 = .ok (.iconst 0, 1) := by decide +kernel
theorem d_Ou_sleepless_43 : decode M_Ou_sleepless.2.1 43 = .ok (.ior, 1) := by decide +kernel
theorem d_Ou_sleepless_44 : decode M_Ou_sleepless.2.1 44 = .ok (.istore_n 3, 1) := by decide +kernel
theorem d_Ou_sleepless_45 : decode M_Ou_sleepless.2.1 45 = .ok (.iinc 4 1, 3) := by decide +kernel
theorem d_Ou_sleepless_48 : decode M_Ou_sleepless.2.1 48 = .ok (.goto (-43), 3) := by decide +kernel
theorem d_Ou_sleepless_51 : decode M_Ou_sleepless.2.1 51 = .ok (.iload_n 3, 1) := by decide +kernel
theorem d_Ou_sleepless_52 : decode M_Ou_sleepless.2.1 52 = .ok (.ireturn, 1) := by decide +kernel
theorem d_Ou_spreadOfSleep_0 : decode M_Ou_spreadOfSleep.2.1 0 = .ok (.aload_n 1, 1) := by decide +kernel
theorem d_Ou_spreadOfSleep_1 : decode M_Ou_spreadOfSleep.2.1 1 = .ok (.getfield 85, 3) := by decide +kernel
theorem d_Ou_spreadOfSleep_4 : decode M_Ou_spreadOfSleep.2.1 4 = .ok (.ifCond .ne 6, 3) := by decide +kernel
theorem d_Ou_spreadOfSleep_7 : decode M_Ou_spreadOfSleep.2.1 7 = .ok (.bipush (-2), 2) := by decide +kernel
theorem d_Ou_spreadOfSleep_9 : decode M_Ou_spreadOfSleep.2.1 9 = .ok (.ireturn, 1) := by decide +kernel
theorem d_Ou_spreadOfSleep_10 : decode M_Ou_spreadOfSleep.2.1 10 = .ok (.aload_n 0, 1) := by decide +kernel
theorem d_Ou_spreadOfSleep_11 : decode M_Ou_spreadOfSleep.2.1 11 = .ok (.getfield 12, 3) := by decide +kernel
theorem d_Ou_spreadOfSleep_14 : decode M_Ou_spreadOfSleep.2.1 14 = .ok (.getfield 88, 3) := by decide +kernel
theorem d_Ou_spreadOfSleep_17 : decode M_Ou_spreadOfSleep.2.1 17 = .ok (.iconst 0, 1) := by decide +kernel
theorem d_Ou_spreadOfSleep_18 : decode M_Ou_spreadOfSleep.2.1 18 = .ok (.iaload, 1) := by decide +kernel
theorem d_Ou_spreadOfSleep_19 : decode M_Ou_spreadOfSleep.2.1 19 = .ok (.istore_n 2, 1) := by decide +kernel
theorem d_Ou_spreadOfSleep_20 : decode M_Ou_spreadOfSleep.2.1 20 = .ok (.aload_n 0, 1) := by decide +kernel
theorem d_Ou_spreadOfSleep_21 : decode M_Ou_spreadOfSleep.2.1 21 = .ok (.getfield 12, 3) := by decide +kernel
theorem d_Ou_spreadOfSleep_24 : decode M_Ou_spreadOfSleep.2.1 24 = .ok (.getfield 88, 3) := by decide +kernel
theorem d_Ou_spreadOfSleep_27 : decode M_Ou_spreadOfSleep.2.1 27 = .ok (.iconst 0, 1) := by decide +kernel
theorem d_Ou_spreadOfSleep_28 : decode M_Ou_spreadOfSleep.2.1 28 = .ok (.iaload, 1) := by decide +kernel
theorem d_Ou_spreadOfSleep_29 : decode M_Ou_spreadOfSleep.2.1 29 = .ok (.istore_n 3, 1) := by decide +kernel
theorem d_Ou_spreadOfSleep_30 : decode M_Ou_spreadOfSleep.2.1 30 = .ok (.iconst 1, 1) := by decide +kernel
theorem d_Ou_spreadOfSleep_31 : decode M_Ou_spreadOfSleep.2.1 31 = .ok (.istore 4, 2) := by decide +kernel
theorem d_Ou_spreadOfSleep_33 : decode M_Ou_spreadOfSleep.2.1 33 = .ok (.iload 4, 2) := by decide +kernel
theorem d_Ou_spreadOfSleep_35 : decode M_Ou_spreadOfSleep.2.1 35 = .ok (.aload_n 1, 1) := by decide +kernel
theorem d_Ou_spreadOfSleep_36 : decode M_Ou_spreadOfSleep.2.1 36 = .ok (.getfield 85, 3) := by decide +kernel
theorem d_Ou_spreadOfSleep_39 : decode M_Ou_spreadOfSleep.2.1 39 = .ok (.if_icmp .ge 39, 3) := by decide +kernel
theorem d_Ou_spreadOfSleep_42 : decode M_Ou_spreadOfSleep.2.1 42 = .ok (.iload_n 2, 1) := by decide +kernel
theorem d_Ou_spreadOfSleep_43 : decode M_Ou_spreadOfSleep.2.1 43 = .ok (.aload_n 0, 1) := by decide +kernel
theorem d_Ou_spreadOfSleep_44 : decode M_Ou_spreadOfSleep.2.1 44 = .ok (.getfield 12, 3) := by decide +kernel
theorem d_Ou_spreadOfSleep_47 : decode M_Ou_spreadOfSleep.2.1 47 = .ok (.getfield 88, 3) := by decide +kernel
theorem d_Ou_spreadOfSleep_50 : decode M_Ou_spreadOfSleep.2.1 50 = .ok (.iload 4, 2) := by decide +kernel
theorem d_Ou_spreadOfSleep_52 : decode M_Ou_spreadOfSleep.2.1 52 = .ok (.iaload, 1) := by decide +kernel
theorem d_Ou_spreadOfSleep_53 : decode M_Ou_spreadOfSleep.2.1 53 = .ok (.invokestatic 91, 3) := by decide +kernel
theorem d_Ou_spreadOfSleep_56 : decode M_Ou_spreadOfSleep.2.1 56 = .ok (.istore_n 2, 1) := by decide +kernel
theorem d_Ou_spreadOfSleep_57 : decode M_Ou_spreadOfSleep.2.1 57 = .ok (.iload_n 3, 1) := by decide +kernel
theorem d_Ou_spreadOfSleep_58 : decode M_Ou_spreadOfSleep.2.1 58 = .ok (.aload_n 0, 1) := by decide +kernel
theorem d_Ou_spreadOfSleep_59 : decode M_Ou_spreadOfSleep.2.1 59 = .ok (.getfield 12, 3) := by decide +kernel
theorem d_Ou_spreadOfSleep_62 : decode M_Ou_spreadOfSleep.2.1 62 = .ok (.getfield 88, 3) := by decide +kernel
theorem d_Ou_spreadOfSleep_65 : decode M_Ou_spreadOfSleep.2.1 65 = .ok (.iload 4, 2) := by decide +kernel
theorem d_Ou_spreadOfSleep_67 : decode M_Ou_spreadOfSleep.2.1 67 = .ok (.iaload, 1) := by decide +kernel
theorem d_Ou_spreadOfSleep_68 : decode M_Ou_spreadOfSleep.2.1 68 = .ok (.invokestatic 55, 3) := by decide +kernel
theorem d_Ou_spreadOfSleep_71 : decode M_Ou_spreadOfSleep.2.1 71 = .ok (.istore_n 3, 1) := by decide +kernel
theorem d_Ou_spreadOfSleep_72 : decode M_Ou_spreadOfSleep.2.1 72 = .ok (.iinc 4 1, 3) := by decide +kernel
theorem d_Ou_spreadOfSleep_75 : decode M_Ou_spreadOfSleep.2.1 75 = .ok (.goto (-42), 3) := by decide +kernel
theorem d_Ou_spreadOfSleep_78 : decode M_Ou_spreadOfSleep.2.1 78 = .ok (.iload_n 3, 1) := by decide +kernel
theorem d_Ou_spreadOfSleep_79 : decode M_Ou_spreadOfSleep.2.1 79 = .ok (.iload_n 2, 1) := by decide +kernel
theorem d_Ou_spreadOfSleep_80 : decode M_Ou_spreadOfSleep.2.1 80 = .ok (.isub, 1) := by decide +kernel
theorem d_Ou_spreadOfSleep_81 : decode M_Ou_spreadOfSleep.2.1 81 = .ok (.ireturn, 1) := by decide +kernel
theorem d_Ou_findWorst_0 : decode M_Ou_findWorst.2.1 0 = .ok (.aload_n 0, 1) := by decide +kernel
theorem d_Ou_findWorst_1 : decode M_Ou_findWorst.2.1 1 = .ok (.bipush (-2), 2) := by decide +kernel
theorem d_Ou_findWorst_3 : decode M_Ou_findWorst.2.1 3 = .ok (.putfield 94, 3) := by decide +kernel
theorem d_Ou_findWorst_6 : decode M_Ou_findWorst.2.1 6 = .ok (.aload_n 0, 1) := by decide +kernel
theorem d_Ou_findWorst_7 : decode M_Ou_findWorst.2.1 7 = .ok (.bipush (-2), 2) := by decide +kernel
theorem d_Ou_findWorst_9 : decode M_Ou_findWorst.2.1 9 = .ok (.putfield 97, 3) := by decide +kernel
theorem d_Ou_findWorst_12 : decode M_Ou_findWorst.2.1 12 = .ok (.iconst 0, 1) := by decide +kernel
theorem d_Ou_findWorst_13 : decode M_Ou_findWorst.2.1 13 = .ok (.istore 4, 2) := by decide +kernel
theorem d_Ou_findWorst_15 : decode M_Ou_findWorst.2.1 15 = .ok (.iload 4, 2) := by decide +kernel
theorem d_Ou_findWorst_17 : decode M_Ou_findWorst.2.1 17 = .ok (.aload_n 1, 1) := by decide +kernel
theorem d_Ou_findWorst_18 : decode M_Ou_findWorst.2.1 18 = .ok (.getfield 100, 3) := by decide +kernel
theorem d_Ou_findWorst_21 : decode M_Ou_findWorst.2.1 21 = .ok (.if_icmp .ge 75, 3) := by decide +kernel
theorem d_Ou_findWorst_24 : decode M_Ou_findWorst.2.1 24 = .ok (.aload_n 0, 1) := by decide +kernel
theorem d_Ou_findWorst_25 : decode M_Ou_findWorst.2.1 25 = .ok (.getfield 12, 3) := by decide +kernel
theorem d_Ou_findWorst_28 : decode M_Ou_findWorst.2.1 28 = .ok (.aload_n 2, 1) := by decide +kernel
theorem d_Ou_findWorst_29 : decode M_Ou_findWorst.2.1 29 = .ok (.invokevirtual 18, 3) := by decide +kernel
theorem d_Ou_findWorst_32 : decode M_Ou_findWorst.2.1 32 = .ok (.aload_n 0, 1) := by decide +kernel
theorem d_Ou_findWorst_33 : decode M_Ou_findWorst.2.1 33 = .ok (.getfield 12, 3) := by decide +kernel
theorem d_Ou_findWorst_36 : decode M_Ou_findWorst.2.1 36 = .ok (.iload 4, 2) := by decide +kernel
theorem d_Ou_findWorst_38 : decode M_Ou_findWorst.2.1 38 = .ok (.invokevirtual 103, 3) := by decide +kernel
theorem d_Ou_findWorst_41 : decode M_Ou_findWorst.2.1 41 = .ok (.aload_n 0, 1) := by decide +kernel
theorem d_Ou_findWorst_42 : decode M_Ou_findWorst.2.1 42 = .ok (.getfield 12, 3) := by decide +kernel
theorem d_Ou_findWorst_45 : decode M_Ou_findWorst.2.1 45 = .ok (.aload_n 1, 1) := by decide +kernel
theorem d_Ou_findWorst_46 : decode M_Ou_findWorst.2.1 46 = .ok (.iload_n 3, 1) := by decide +kernel
theorem d_Ou_findWorst_47 : decode M_Ou_findWorst.2.1 47 = .ok (.invokevirtual 22, 3) := by decide +kernel
theorem d_Ou_findWorst_50 : decode M_Ou_findWorst.2.1 50 = .ok (.aload_n 0, 1) := by decide +kernel
theorem d_Ou_findWorst_51 : decode M_Ou_findWorst.2.1 51 = .ok (.getfield 12, 3) := by decide +kernel
theorem d_Ou_findWorst_54 : decode M_Ou_findWorst.2.1 54 = .ok (.aload_n 1, 1) := by decide +kernel
theorem d_Ou_findWorst_55 : decode M_Ou_findWorst.2.1 55 = .ok (.invokevirtual 107, 3) := by decide +kernel
theorem d_Ou_findWorst_58 : decode M_Ou_findWorst.2.1 58 = .ok (.istore 5, 2) := by decide +kernel
theorem d_Ou_findWorst_60 : decode M_Ou_findWorst.2.1 60 = .ok (.aload_n 0, 1) := by decide +kernel
theorem d_Ou_findWorst_61 : decode M_Ou_findWorst.2.1 61 = .ok (.getfield 94, 3) := by decide +kernel
theorem d_Ou_findWorst_64 : decode M_Ou_findWorst.2.1 64 = .ok (.bipush (-2), 2) := by decide +kernel
theorem d_Ou_findWorst_66 : decode M_Ou_findWorst.2.1 66 = .ok (.if_icmp .eq 12, 3) := by decide +kernel
theorem d_Ou_findWorst_69 : decode M_Ou_findWorst.2.1 69 = .ok (.iload 5, 2) := by decide +kernel
theorem d_Ou_findWorst_71 : decode M_Ou_findWorst.2.1 71 = .ok (.aload_n 0, 1) := by decide +kernel
theorem d_Ou_findWorst_72 : decode M_Ou_findWorst.2.1 72 = .ok (.getfield 97, 3) := by decide +kernel
theorem d_Ou_findWorst_75 : decode M_Ou_findWorst.2.1 75 = .ok (.if_icmp .ge 15, 3) := by decide +kernel
theorem d_Ou_findWorst_78 : decode M_Ou_findWorst.2.1 78 = .ok (.aload_n 0, 1) := by decide +kernel
theorem d_Ou_findWorst_79 : decode M_Ou_findWorst.2.1 79 = .ok (.iload 4, 2) := by decide +kernel
theorem d_Ou_findWorst_81 : decode M_Ou_findWorst.2.1 81 = .ok (.putfield 94, 3) := by decide +kernel
theorem d_Ou_findWorst_84 : decode M_Ou_findWorst.2.1 84 = .ok (.aload_n 0, 1) := by decide +kernel
theorem d_Ou_findWorst_85 : decode M_Ou_findWorst.2.1 85 = .ok (.iload 5, 2) := by decide +kernel
theorem d_Ou_findWorst_87 : decode M_Ou_findWorst.2.1 87 = .ok (.putfield 97, 3) := by decide +kernel
theorem d_Ou_findWorst_90 : decode M_Ou_findWorst.2.1 90 = .ok (.iinc 4 1, 3) := by decide +kernel
theorem d_Ou_findWorst_93 : decode M_Ou_findWorst.2.1 93 = .ok (.goto (-78), 3) := by decide +kernel
theorem d_Ou_findWorst_96 : decode M_Ou_findWorst.2.1 96 = .ok (.return_, 1) := by decide +kernel
theorem d_Pl_init_0 : decode M_Pl_init.2.1 0 = .ok (.aload_n 0, 1) := by decide +kernel
theorem d_Pl_init_1 : decode M_Pl_init.2.1 1 = .ok (.invokespecial 3, 3) := by decide +kernel
theorem d_Pl_init_4 : decode M_Pl_init.2.1 4 = .ok (.aload_n 0, 1) := by decide +kernel
theorem d_Pl_init_5 : decode M_Pl_init.2.1 5 = .ok (.bipush 8, 2) := by decide +kernel
theorem d_Pl_init_7 : decode M_Pl_init.2.1 7 = .ok (.newarray .int, 2) := by decide +kernel
theorem d_Pl_init_9 : decode M_Pl_init.2.1 9 = .ok (.putfield 9, 3) := by decide +kernel
theorem d_Pl_init_12 : decode M_Pl_init.2.1 12 = .ok (.aload_n 0, 1) := by decide +kernel
theorem d_Pl_init_13 : decode M_Pl_init.2.1 13 = .ok (.bipush 25, 2) := by decide +kernel
theorem d_Pl_init_15 : decode M_Pl_init.2.1 15 = .ok (.newarray .int, 2) := by decide +kernel
theorem d_Pl_init_17 : decode M_Pl_init.2.1 17 = .ok (.putfield 15, 3) := by decide +kernel
theorem d_Pl_init_20 : decode M_Pl_init.2.1 20 = .ok (.aload_n 0, 1) := by decide +kernel
theorem d_Pl_init_21 : decode M_Pl_init.2.1 21 = .ok (.new 18, 3) := by decide +kernel
theorem d_Pl_init_24 : decode M_Pl_init.2.1 24 = .ok (.dup, 1) := by decide +kernel
theorem d_Pl_init_25 : decode M_Pl_init.2.1 25 = .ok (.invokespecial 20, 3) := by decide +kernel
theorem d_Pl_init_28 : decode M_Pl_init.2.1 28 = .ok (.putfield 21, 3) := by decide +kernel
theorem d_Pl_init_31 : decode M_Pl_init.2.1 31 = .ok (.aload_n 0, 1) := by decide +kernel
theorem d_Pl_init_32 : decode M_Pl_init.2.1 32 = .ok (.bipush 60, 2) := by decide +kernel
theorem d_Pl_init_34 : decode M_Pl_init.2.1 34 = .ok (.putfield 25, 3) := by decide +kernel
theorem d_Pl_init_37 : decode M_Pl_init.2.1 37 = .ok (.aload_n 0, 1) := by decide +kernel
theorem d_Pl_init_38 : decode M_Pl_init.2.1 38 = .ok (.sipush 200, 3) := by decide +kernel
theorem d_Pl_init_41 : decode M_Pl_init.2.1 41 = .ok (.newarray .int, 2) := by decide +kernel
theorem d_Pl_init_43 : decode M_Pl_init.2.1 43 = .ok (.putfield 29, 3) := by decide +kernel
theorem d_Pl_init_46 : decode M_Pl_init.2.1 46 = .ok (.return_, 1) := by decide +kernel
theorem d_Pl_clear_0 : decode M_Pl_clear.2.1 0 = .ok (.aload_n 0, 1) := by decide +kernel
theorem d_Pl_clear_1 : decode M_Pl_clear.2.1 1 = .ok (.iconst 0, 1) := by decide +kernel
theorem d_Pl_clear_2 : decode M_Pl_clear.2.1 2 = .ok (.putfield 32, 3) := by decide +kernel
theorem d_Pl_clear_5 : decode M_Pl_clear.2.1 5 = .ok (.aload_n 0, 1) := by decide +kernel
theorem d_Pl_clear_6 : decode M_Pl_clear.2.1 6 = .ok (.iconst 0, 1) := by decide +kernel
theorem d_Pl_clear_7 : decode M_Pl_clear.2.1 7 = .ok (.putfield 35, 3) := by decide +kernel
theorem d_Pl_clear_10 : decode M_Pl_clear.2.1 10 = .ok (.aload_n 0, 1) := by decide +kernel
theorem d_Pl_clear_11 : decode M_Pl_clear.2.1 11 = .ok (.iconst 0, 1) := by decide +kernel
theorem d_Pl_clear_12 : decode M_Pl_clear.2.1 12 = .ok (.putfield 38, 3) := by decide +kernel
theorem d_Pl_clear_15 : decode M_Pl_clear.2.1 15 = .ok (.aload_n 0, 1) := by decide +kernel
theorem d_Pl_clear_16 : decode M_Pl_clear.2.1 16 = .ok (.bipush 60, 2) := by decide +kernel
theorem d_Pl_clear_18 : decode M_Pl_clear.2.1 18 = .ok (.putfield 25, 3) := by decide +kernel
theorem d_Pl_clear_21 : decode M_Pl_clear.2.1 21 = .ok (.aload_n 0, 1) := by decide +kernel
theorem d_Pl_clear_22 : decode M_Pl_clear.2.1 22 = .ok (.getfield 21, 3) := by decide +kernel
theorem d_Pl_clear_25 : decode M_Pl_clear.2.1 25 = .ok (.invokevirtual 41, 3) := by decide +kernel
theorem d_Pl_clear_28 : decode M_Pl_clear.2.1 28 = .ok (.aload_n 0, 1) := by decide +kernel
theorem d_Pl_clear_29 : decode M_Pl_clear.2.1 29 = .ok (.getfield 21, 3) := by decide +kernel
theorem d_Pl_clear_32 : decode M_Pl_clear.2.1 32 = .ok (.iconst 5, 1) := by decide +kernel
theorem d_Pl_clear_33 : decode M_Pl_clear.2.1 33 = .ok (.iconst 0, 1) := by decide +kernel
theorem d_Pl_clear_34 : decode M_Pl_clear.2.1 34 = .ok (.iconst 0, 1) := by decide +kernel
theorem d_Pl_clear_35 : decode M_Pl_clear.2.1 35 = .ok (.invokevirtual 44, 3) := by decide +kernel
theorem d_Pl_clear_38 : decode M_Pl_clear.2.1 38 = .ok (.pop, 1) := by decide +kernel
theorem d_Pl_clear_39 : decode M_Pl_clear.2.1 39 = .ok (.return_, 1) := by decide +kernel
theorem d_Pl_settle_0 : decode M_Pl_settle.2.1 0 = .ok (.aload_n 0, 1) := by decide +kernel
theorem d_Pl_settle_1 : decode M_Pl_settle.2.1 1 = .ok (.aload_n 0, 1) := by decide +kernel
theorem d_Pl_settle_2 : decode M_Pl_settle.2.1 2 = .ok (.getfield 21, 3) := by decide +kernel
theorem d_Pl_settle_5 : decode M_Pl_settle.2.1 5 = .ok (.getfield 48, 3) := by decide +kernel
theorem d_Pl_settle_8 : decode M_Pl_settle.2.1 8 = .ok (.ifCond .eq 14, 3) := by decide +kernel
theorem d_Pl_settle_11 : decode M_Pl_settle.2.1 11 = .ok (.aload_n 0, 1) := by decide +kernel
theorem d_Pl_settle_12 : decode M_Pl_settle.2.1 12 = .ok (.getfield 38, 3) := by decide +kernel
theorem d_Pl_settle_15 : decode M_Pl_settle.2.1 15 = .ok (.ifCond .le 7, 3) := by decide +kernel
theorem d_Pl_settle_18 : decode M_Pl_settle.2.1 18 = .ok (.iconst 1, 1) := by decide +kernel
theorem d_Pl_settle_19 : decode M_Pl_settle.2.1 19 = .ok (.goto 4, 3) := by decide +kernel
theorem d_Pl_settle_22 : decode M_Pl_settle.2.1 22 = .ok (.iconst 0, 1) := by decide +kernel
theorem d_Pl_settle_23 : decode M_Pl_settle.2.1 23 = .ok (.putfield 52, 3) := by decide +kernel
theorem d_Pl_settle_26 : decode M_Pl_settle.2.1 26 = .ok (.aload_n 0, 1) := by decide +kernel
theorem d_Pl_settle_27 : decode M_Pl_settle.2.1 27 = .ok (.getfield 21, 3) := by decide +kernel
theorem d_Pl_settle_30 : decode M_Pl_settle.2.1 30 = .ok (.getfield 55, 3) := by decide +kernel
theorem d_Pl_settle_33 : decode M_Pl_settle.2.1 33 = .ok (.ifCond .ne 4, 3) := by decide +kernel
theorem d_Pl_settle_36 : decode M_Pl_settle.2.1 36 = .ok (.return_, 1) := by decide +kernel
theorem d_Pl_settle_37 : decode M_Pl_settle.2.1 37 = .ok (.iconst 0, 1) := by decide +kernel
theorem d_Pl_settle_38 : decode M_Pl_settle.2.1 38 = .ok (.istore_n 1, 1) := by decide +kernel
theorem d_Pl_settle_39 : decode M_Pl_settle.2.1 39 = .ok (.iload_n 1, 1) := by decide +kernel
theorem d_Pl_settle_40 : decode M_Pl_settle.2.1 40 = .ok (.aload_n 0, 1) := by decide +kernel
theorem d_Pl_settle_41 : decode M_Pl_settle.2.1 41 = .ok (.getfield 32, 3) := by decide +kernel
theorem d_Pl_settle_44 : decode M_Pl_settle.2.1 44 = .ok (.if_icmp .ge 59, 3) := by decide +kernel
theorem d_Pl_settle_47 : decode M_Pl_settle.2.1 47 = .ok (.iconst 0, 1) := by decide +kernel
theorem d_Pl_settle_48 : decode M_Pl_settle.2.1 48 = .ok (.istore_n 2, 1) := by decide +kernel
theorem d_Pl_settle_49 : decode M_Pl_settle.2.1 49 = .ok (.iload_n 2, 1) := by decide +kernel
theorem d_Pl_settle_50 : decode M_Pl_settle.2.1 50 = .ok (.aload_n 0, 1) := by decide +kernel
theorem d_Pl_settle_51 : decode M_Pl_settle.2.1 51 = .ok (.getfield 38, 3) := by decide +kernel
theorem d_Pl_settle_54 : decode M_Pl_settle.2.1 54 = .ok (.if_icmp .gt 43, 3) := by decide +kernel
theorem d_Pl_settle_57 : decode M_Pl_settle.2.1 57 = .ok (.aload_n 0, 1) := by decide +kernel
theorem d_Pl_settle_58 : decode M_Pl_settle.2.1 58 = .ok (.getfield 29, 3) := by decide +kernel
theorem d_Pl_settle_61 : decode M_Pl_settle.2.1 61 = .ok (.iload_n 1, 1) := by decide +kernel
theorem d_Pl_settle_62 : decode M_Pl_settle.2.1 62 = .ok (.bipush 25, 2) := by decide +kernel
theorem d_Pl_settle_64 : decode M_Pl_settle.2.1 64 = .ok (.imul, 1) := by decide +kernel
theorem d_Pl_settle_65 : decode M_Pl_settle.2.1 65 = .ok (.iload_n 2, 1) := by decide +kernel
theorem d_Pl_settle_66 : decode M_Pl_settle.2.1 66 = .ok (.iadd, 1) := by decide +kernel
theorem d_Pl_settle_67 : decode M_Pl_settle.2.1 67 = .ok (.aload_n 0, 1) := by decide +kernel
theorem d_Pl_settle_68 : decode M_Pl_settle.2.1 68 = .ok (.getfield 21, 3) := by decide +kernel
theorem d_Pl_settle_71 : decode M_Pl_settle.2.1 71 = .ok (.aload_n 0, 1) := by decide +kernel
theorem d_Pl_settle_72 : decode M_Pl_settle.2.1 72 = .ok (.getfield 9, 3) := by decide +kernel
theorem d_Pl_settle_75 : decode M_Pl_settle.2.1 75 = .ok (.iload_n 1, 1) := by decide +kernel
theorem d_Pl_settle_76 : decode M_Pl_settle.2.1 76 = .ok (.iaload, 1) := by decide +kernel
theorem d_Pl_settle_77 : decode M_Pl_settle.2.1 77 = .ok (.aload_n 0, 1) := by decide +kernel
theorem d_Pl_settle_78 : decode M_Pl_settle.2.1 78 = .ok (.getfield 15, 3) := by decide +kernel
theorem d_Pl_settle_81 : decode M_Pl_settle.2.1 81 = .ok (.iload_n 2, 1) := by decide +kernel
theorem d_Pl_settle_82 : decode M_Pl_settle.2.1 82 = .ok (.iaload, 1) := by decide +kernel
theorem d_Pl_settle_83 : decode M_Pl_settle.2.1 83 = .ok (.iconst 0, 1) := by decide +kernel
theorem d_Pl_settle_84 : decode M_Pl_settle.2.1 84 = .ok (.iconst 0, 1) := by decide +kernel
theorem d_Pl_settle_85 : decode M_Pl_settle.2.1 85 = .ok (.iconst 0, 1) := by decide +kernel
theorem d_Pl_settle_86 : decode M_Pl_settle.2.1 86 = .ok (.iload_n 1, 1) := by decide +kernel
theorem d_Pl_settle_87 : decode M_Pl_settle.2.1 87 = .ok (.invokevirtual 58, 3) := by decide +kernel
theorem d_Pl_settle_90 : decode M_Pl_settle.2.1 90 = .ok (.iastore, 1) := by decide +kernel
theorem d_Pl_settle_91 : decode M_Pl_settle.2.1 91 = .ok (.iinc 2 1, 3) := by decide +kernel
theorem d_Pl_settle_94 : decode M_Pl_settle.2.1 94 = .ok (.goto (-45), 3) := by decide +kernel
theorem d_Pl_settle_97 : decode M_Pl_settle.2.1 97 = .ok (.iinc 1 1, 3) := by decide +kernel
theorem d_Pl_settle_100 : decode M_Pl_settle.2.1 100 = .ok (.goto (-61), 3) := by decide +kernel
theorem d_Pl_settle_103 : decode M_Pl_settle.2.1 103 = .ok (.return_, 1) := by decide +kernel
theorem d_Pl_copyFrom_0 : decode M_Pl_copyFrom.2.1 0 = .ok (.aload_n 1, 1) := by decide +kernel
theorem d_Pl_copyFrom_1 : decode M_Pl_copyFrom.2.1 1 = .ok (.getfield 9, 3) := by decide +kernel
theorem d_Pl_copyFrom_4 : decode M_Pl_copyFrom.2.1 4 = .ok (.iconst 0, 1) := by decide +kernel
theorem d_Pl_copyFrom_5 : decode M_Pl_copyFrom.2.1 5 = .ok (.aload_n 0, 1) := by decide +kernel
theorem d_Pl_copyFrom_6 : decode M_Pl_copyFrom.2.1 6 = .ok (.getfield 9, 3) := by decide +kernel
theorem d_Pl_copyFrom_9 : decode M_Pl_copyFrom.2.1 9 = .ok (.iconst 0, 1) := by decide +kernel
theorem d_Pl_copyFrom_10 : decode M_Pl_copyFrom.2.1 10 = .ok (.bipush 8, 2) := by decide +kernel
theorem d_Pl_copyFrom_12 : decode M_Pl_copyFrom.2.1 12 = .ok (.invokestatic 62, 3) := by decide +kernel
theorem d_Pl_copyFrom_15 : decode M_Pl_copyFrom.2.1 15 = .ok (.aload_n 1, 1) := by decide +kernel
theorem d_Pl_copyFrom_16 : decode M_Pl_copyFrom.2.1 16 = .ok (.getfield 15, 3) := by decide +kernel
theorem d_Pl_copyFrom_19 : decode M_Pl_copyFrom.2.1 19 = .ok (.iconst 0, 1) := by decide +kernel
theorem d_Pl_copyFrom_20 : decode M_Pl_copyFrom.2.1 20 = .ok (.aload_n 0, 1) := by decide +kernel
theorem d_Pl_copyFrom_21 : decode M_Pl_copyFrom.2.1 21 = .ok (.getfield 15, 3) := by decide +kernel
theorem d_Pl_copyFrom_24 : decode M_Pl_copyFrom.2.1 24 = .ok (.iconst 0, 1) := by decide +kernel
theorem d_Pl_copyFrom_25 : decode M_Pl_copyFrom.2.1 25 = .ok (.bipush 25, 2) := by decide +kernel
theorem d_Pl_copyFrom_27 : decode M_Pl_copyFrom.2.1 27 = .ok (.invokestatic 62, 3) := by decide +kernel
theorem d_Pl_copyFrom_30 : decode M_Pl_copyFrom.2.1 30 = .ok (.aload_n 1, 1) := by decide +kernel
theorem d_Pl_copyFrom_31 : decode M_Pl_copyFrom.2.1 31 = .ok (.getfield 29, 3) := by decide +kernel
theorem d_Pl_copyFrom_34 : decode M_Pl_copyFrom.2.1 34 = .ok (.iconst 0, 1) := by decide +kernel
theorem d_Pl_copyFrom_35 : decode M_Pl_copyFrom.2.1 35 = .ok (.aload_n 0, 1) := by decide +kernel
theorem d_Pl_copyFrom_36 : decode M_Pl_copyFrom.2.1 36 = .ok (.getfield 29, 3) := by decide +kernel
theorem d_Pl_copyFrom_39 : decode M_Pl_copyFrom.2.1 39 = .ok (.iconst 0, 1) := by decide +kernel
theorem d_Pl_copyFrom_40 : decode M_Pl_copyFrom.2.1 40 = .ok (.aload_n 0, 1) := by decide +kernel
theorem d_Pl_copyFrom_41 : decode M_Pl_copyFrom.2.1 41 = .ok (.getfield 29, 3) := by decide +kernel
theorem d_Pl_copyFrom_44 : decode M_Pl_copyFrom.2.1 44 = .ok (.arraylength, 1) := by decide +kernel
theorem d_Pl_copyFrom_45 : decode M_Pl_copyFrom.2.1 45 = .ok (.invokestatic 62, 3) := by decide +kernel
theorem d_Pl_copyFrom_48 : decode M_Pl_copyFrom.2.1 48 = .ok (.aload_n 0, 1) := by decide +kernel
theorem d_Pl_copyFrom_49 : decode M_Pl_copyFrom.2.1 49 = .ok (.getfield 21, 3) := by decide +kernel
theorem d_Pl_copyFrom_52 : decode M_Pl_copyFrom.2.1 52 = .ok (.aload_n 1, 1) := by decide +kernel
theorem d_Pl_copyFrom_53 : decode M_Pl_copyFrom.2.1 53 = .ok (.getfield 21, 3) := by decide +kernel
theorem d_Pl_copyFrom_56 : decode M_Pl_copyFrom.2.1 56 = .ok (.invokevirtual 68, 3) := by decide +kernel
theorem d_Pl_copyFrom_59 : decode M_Pl_copyFrom.2.1 59 = .ok (.aload_n 0, 1) := by decide +kernel
theorem d_Pl_copyFrom_60 : decode M_Pl_copyFrom.2.1 60 = .ok (.aload_n 1, 1) := by decide +kernel
theorem d_Pl_copyFrom_61 : decode M_Pl_copyFrom.2.1 61 = .ok (.getfield 32, 3) := by decide +kernel
theorem d_Pl_copyFrom_64 : decode M_Pl_copyFrom.2.1 64 = .ok (.putfield 32, 3) := by decide +kernel
theorem d_Pl_copyFrom_67 : decode M_Pl_copyFrom.2.1 67 = .ok (.aload_n 0, 1) := by decide +kernel
theorem d_Pl_copyFrom_68 : decode M_Pl_copyFrom.2.1 68 = .ok (.aload_n 1, 1) := by decide +kernel
theorem d_Pl_copyFrom_69 : decode M_Pl_copyFrom.2.1 69 = .ok (.getfield 35, 3) := by decide +kernel
theorem d_Pl_copyFrom_72 : decode M_Pl_copyFrom.2.1 72 = .ok (.putfield 35, 3) := by decide +kernel
theorem d_Pl_copyFrom_75 : decode M_Pl_copyFrom.2.1 75 = .ok (.aload_n 0, 1) := by decide +kernel
theorem d_Pl_copyFrom_76 : decode M_Pl_copyFrom.2.1 76 = .ok (.aload_n 1, 1) := by decide +kernel
theorem d_Pl_copyFrom_77 : decode M_Pl_copyFrom.2.1 77 = .ok (.getfield 38, 3) := by decide +kernel
theorem d_Pl_copyFrom_80 : decode M_Pl_copyFrom.2.1 80 = .ok (.putfield 38, 3) := by decide +kernel
theorem d_Pl_copyFrom_83 : decode M_Pl_copyFrom.2.1 83 = .ok (.aload_n 0, 1) := by decide +kernel
theorem d_Pl_copyFrom_84 : decode M_Pl_copyFrom.2.1 84 = .ok (.aload_n 1, 1) := by decide +kernel
theorem d_Pl_copyFrom_85 : decode M_Pl_copyFrom.2.1 85 = .ok (.getfield 25, 3) := by decide +kernel
theorem d_Pl_copyFrom_88 : decode M_Pl_copyFrom.2.1 88 = .ok (.putfield 25, 3) := by decide +kernel
theorem d_Pl_copyFrom_91 : decode M_Pl_copyFrom.2.1 91 = .ok (.aload_n 0, 1) := by decide +kernel
theorem d_Pl_copyFrom_92 : decode M_Pl_copyFrom.2.1 92 = .ok (.aload_n 1, 1) := by decide +kernel
theorem d_Pl_copyFrom_93 : decode M_Pl_copyFrom.2.1 93 = .ok (.getfield 52, 3) := by decide +kernel
theorem d_Pl_copyFrom_96 : decode M_Pl_copyFrom.2.1 96 = .ok (.putfield 52, 3) := by decide +kernel
theorem d_Pl_copyFrom_99 : decode M_Pl_copyFrom.2.1 99 = .ok (.return_, 1) := by decide +kernel
theorem d_Pl_hourOf_0 : decode M_Pl_hourOf.2.1 0 = .ok (.aload_n 0, 1) := by decide +kernel
theorem d_Pl_hourOf_1 : decode M_Pl_hourOf.2.1 1 = .ok (.getfield 38, 3) := by decide +kernel
theorem d_Pl_hourOf_4 : decode M_Pl_hourOf.2.1 4 = .ok (.ifCond .le 17, 3) := by decide +kernel
theorem d_Pl_hourOf_7 : decode M_Pl_hourOf.2.1 7 = .ok (.iconst 1, 1) := by decide +kernel
theorem d_Pl_hourOf_8 : decode M_Pl_hourOf.2.1 8 = .ok (.iload_n 1, 1) := by decide +kernel
theorem d_Pl_hourOf_9 : decode M_Pl_hourOf.2.1 9 = .ok (.bipush 60, 2) := by decide +kernel
theorem d_Pl_hourOf_11 : decode M_Pl_hourOf.2.1 11 = .ok (.idiv, 1) := by decide +kernel
theorem d_Pl_hourOf_12 : decode M_Pl_hourOf.2.1 12 = .ok (.aload_n 0, 1) := by decide +kernel
theorem d_Pl_hourOf_13 : decode M_Pl_hourOf.2.1 13 = .ok (.getfield 38, 3) := by decide +kernel
theorem d_Pl_hourOf_16 : decode M_Pl_hourOf.2.1 16 = .ok (.irem, 1) := by decide +kernel
theorem d_Pl_hourOf_17 : decode M_Pl_hourOf.2.1 17 = .ok (.iadd, 1) := by decide +kernel
theorem d_Pl_hourOf_18 : decode M_Pl_hourOf.2.1 18 = .ok (.goto 4, 3) := by decide +kernel
theorem d_Pl_hourOf_21 : decode M_Pl_hourOf.2.1 21 = .ok (.iconst 0, 1) := by decide +kernel
theorem d_Pl_hourOf_22 : decode M_Pl_hourOf.2.1 22 = .ok (.ireturn, 1) := by decide +kernel
theorem d_Pl_flow_0 : decode M_Pl_flow.2.1 0 = .ok (.aload_n 1, 1) := by decide +kernel
theorem d_Pl_flow_1 : decode M_Pl_flow.2.1 1 = .ok (.getfield 72, 3) := by decide +kernel
theorem d_Pl_flow_4 : decode M_Pl_flow.2.1 4 = .ok (.iload_n 2, 1) := by decide +kernel
theorem d_Pl_flow_5 : decode M_Pl_flow.2.1 5 = .ok (.iaload, 1) := by decide +kernel
theorem d_Pl_flow_6 : decode M_Pl_flow.2.1 6 = .ok (.istore 4, 2) := by decide +kernel
theorem d_Pl_flow_8 : decode M_Pl_flow.2.1 8 = .ok (.iload 4, 2) := by decide +kernel
theorem d_Pl_flow_10 : decode M_Pl_flow.2.1 10 = .ok (.ifCond .ne 5, 3) := by decide +kernel
theorem d_Pl_flow_13 : decode M_Pl_flow.2.1 13 = .ok (.iconst 0, 1) := by decide +kernel
theorem d_Pl_flow_14 : decode M_Pl_flow.2.1 14 = .ok (.ireturn, 1) := by decide +kernel
theorem d_Pl_flow_15 : decode M_Pl_flow.2.1 15 = .ok (.aload_n 1, 1) := by decide +kernel
theorem d_Pl_flow_16 : decode M_Pl_flow.2.1 16 = .ok (.getfield 77, 3) := by decide +kernel
theorem d_Pl_flow_19 : decode M_Pl_flow.2.1 19 = .ok (.iload_n 2, 1) := by decide +kernel
theorem d_Pl_flow_20 : decode M_Pl_flow.2.1 20 = .ok (.baload, 1) := by decide +kernel
theorem d_Pl_flow_21 : decode M_Pl_flow.2.1 21 = .ok (.ifCond .eq 7, 3) := by decide +kernel
theorem d_Pl_flow_24 : decode M_Pl_flow.2.1 24 = .ok (.iconst 0, 1) := by decide +kernel
theorem d_Pl_flow_25 : decode M_Pl_flow.2.1 25 = .ok (.goto 4, 3) := by decide +kernel
theorem d_Pl_flow_28 : decode M_Pl_flow.2.1 28 = .ok (.iload_n 3, 1) := by decide +kernel
theorem d_Pl_flow_29 : decode M_Pl_flow.2.1 29 = .ok (.istore 5, 2) := by decide +kernel
theorem d_Pl_flow_31 : decode M_Pl_flow.2.1 31 = .ok (.aload_n 0, 1) := by decide +kernel
theorem d_Pl_flow_32 : decode M_Pl_flow.2.1 32 = .ok (.getfield 21, 3) := by decide +kernel
theorem d_Pl_flow_35 : decode M_Pl_flow.2.1 35 = .ok (.getfield 55, 3) := by decide +kernel
theorem d_Pl_flow_38 : decode M_Pl_flow.2.1 38 = .ok (.ifCond .eq 18, 3) := by decide +kernel
theorem d_Pl_flow_41 : decode M_Pl_flow.2.1 41 = .ok (.aload_n 0, 1) := by decide +kernel
theorem d_Pl_flow_42 : decode M_Pl_flow.2.1 42 = .ok (.getfield 29, 3) := by decide +kernel
theorem d_Pl_flow_45 : decode M_Pl_flow.2.1 45 = .ok (.iload_n 2, 1) := by decide +kernel
theorem d_Pl_flow_46 : decode M_Pl_flow.2.1 46 = .ok (.bipush 25, 2) := by decide +kernel
theorem d_Pl_flow_48 : decode M_Pl_flow.2.1 48 = .ok (.imul, 1) := by decide +kernel
theorem d_Pl_flow_49 : decode M_Pl_flow.2.1 49 = .ok (.iload 5, 2) := by decide +kernel
theorem d_Pl_flow_51 : decode M_Pl_flow.2.1 51 = .ok (.iadd, 1) := by decide +kernel
theorem d_Pl_flow_52 : decode M_Pl_flow.2.1 52 = .ok (.iaload, 1) := by decide +kernel
theorem d_Pl_flow_53 : decode M_Pl_flow.2.1 53 = .ok (.goto 36, 3) := by decide +kernel
theorem d_Pl_flow_56 : decode M_Pl_flow.2.1 56 = .ok (.aload_n 0, 1) := by decide +kernel
theorem d_Pl_flow_57 : decode M_Pl_flow.2.1 57 = .ok (.getfield 21, 3) := by decide +kernel
theorem d_Pl_flow_60 : decode M_Pl_flow.2.1 60 = .ok (.aload_n 0, 1) := by decide +kernel
theorem d_Pl_flow_61 : decode M_Pl_flow.2.1 61 = .ok (.getfield 9, 3) := by decide +kernel
theorem d_Pl_flow_64 : decode M_Pl_flow.2.1 64 = .ok (.iload_n 2, 1) := by decide +kernel
theorem d_Pl_flow_65 : decode M_Pl_flow.2.1 65 = .ok (.iaload, 1) := by decide +kernel
theorem d_Pl_flow_66 : decode M_Pl_flow.2.1 66 = .ok (.aload_n 0, 1) := by decide +kernel
theorem d_Pl_flow_67 : decode M_Pl_flow.2.1 67 = .ok (.getfield 15, 3) := by decide +kernel
theorem d_Pl_flow_70 : decode M_Pl_flow.2.1 70 = .ok (.iload 5, 2) := by decide +kernel
theorem d_Pl_flow_72 : decode M_Pl_flow.2.1 72 = .ok (.iaload, 1) := by decide +kernel
theorem d_Pl_flow_73 : decode M_Pl_flow.2.1 73 = .ok (.iload 4, 2) := by decide +kernel
theorem d_Pl_flow_75 : decode M_Pl_flow.2.1 75 = .ok (.aload_n 1, 1) := by decide +kernel
theorem d_Pl_flow_76 : decode M_Pl_flow.2.1 76 = .ok (.getfield 81, 3) := by decide +kernel
theorem d_Pl_flow_79 : decode M_Pl_flow.2.1 79 = .ok (.iload_n 2, 1) := by decide +kernel
theorem d_Pl_flow_80 : decode M_Pl_flow.2.1 80 = .ok (.iaload, 1) := by decide +kernel
theorem d_Pl_flow_81 : decode M_Pl_flow.2.1 81 = .ok (.aload_n 1, 1) := by decide +kernel
theorem d_Pl_flow_82 : decode M_Pl_flow.2.1 82 = .ok (.getfield 84, 3) := by decide +kernel
theorem d_Pl_flow_85 : decode M_Pl_flow.2.1 85 = .ok (.iload_n 2, 1) := by decide +kernel
theorem d_Pl_flow_86 : decode M_Pl_flow.2.1 86 = .ok (.invokevirtual 58, 3) := by decide +kernel
theorem d_Pl_flow_89 : decode M_Pl_flow.2.1 89 = .ok (.istore 6, 2) := by decide +kernel
theorem d_Pl_flow_91 : decode M_Pl_flow.2.1 91 = .ok (.iload 6, 2) := by decide +kernel
theorem d_Pl_flow_93 : decode M_Pl_flow.2.1 93 = .ok (.ifCond .ge 5, 3) := by decide +kernel
theorem d_Pl_flow_96 : decode M_Pl_flow.2.1 96 = .ok (.iconst 0, 1) := by decide +kernel
theorem d_Pl_flow_97 : decode M_Pl_flow.2.1 97 = .ok (.ireturn, 1) := by decide +kernel
theorem d_Pl_flow_98 : decode M_Pl_flow.2.1 98 = .ok (.iload 6, 2) := by decide +kernel
theorem d_Pl_flow_100 : decode M_Pl_flow.2.1 100 = .ok (.iload 4, 2) := by decide +kernel
theorem d_Pl_flow_102 : decode M_Pl_flow.2.1 102 = .ok (.if_icmp .ge 8, 3) := by decide +kernel
theorem d_Pl_flow_105 : decode M_Pl_flow.2.1 105 = .ok (.iload 6, 2) := by decide +kernel
theorem d_Pl_flow_107 : decode M_Pl_flow.2.1 107 = .ok (.goto 5, 3) := by decide +kernel
theorem d_Pl_flow_110 : decode M_Pl_flow.2.1 110 = .ok (.iload 4, 2) := by decide +kernel
theorem d_Pl_flow_112 : decode M_Pl_flow.2.1 112 = .ok (.ireturn, 1) := by decide +kernel
