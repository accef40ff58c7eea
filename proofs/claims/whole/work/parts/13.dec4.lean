/-! what stands at each place of the code (written by wip/gen/gen10.py) -/
theorem d_Mo_runs_0 : decode M_Mo_runs.2.1 0 = .ok (.iconst 0, 1) := by decide +kernel
theorem d_Mo_runs_1 : decode M_Mo_runs.2.1 1 = .ok (.istore_n 1, 1) := by decide +kernel
theorem d_Mo_runs_2 : decode M_Mo_runs.2.1 2 = .ok (.iload_n 1, 1) := by decide +kernel
theorem d_Mo_runs_3 : decode M_Mo_runs.2.1 3 = .ok (.aload_n 0, 1) := by decide +kernel
theorem d_Mo_runs_4 : decode M_Mo_runs.2.1 4 = .ok (.getfield 49, 3) := by decide +kernel
theorem d_Mo_runs_7 : decode M_Mo_runs.2.1 7 = .ok (.aload_n 0, 1) := by decide +kernel
theorem d_Mo_runs_8 : decode M_Mo_runs.2.1 8 = .ok (.getfield 215, 3) := by decide +kernel
theorem d_Mo_runs_11 : decode M_Mo_runs.2.1 11 = .ok (.iaload, 1) := by decide +kernel
theorem d_Mo_runs_12 : decode M_Mo_runs.2.1 12 = .ok (.if_icmp .ge 38, 3) := by decide +kernel
theorem d_Mo_runs_15 : decode M_Mo_runs.2.1 15 = .ok (.aload_n 0, 1) := by decide +kernel
theorem d_Mo_runs_16 : decode M_Mo_runs.2.1 16 = .ok (.iload_n 1, 1) := by decide +kernel
theorem d_Mo_runs_17 : decode M_Mo_runs.2.1 17 = .ok (.invokevirtual 312, 3) := by decide +kernel
theorem d_Mo_runs_20 : decode M_Mo_runs.2.1 20 = .ok (.istore_n 2, 1) := by decide +kernel
theorem d_Mo_runs_21 : decode M_Mo_runs.2.1 21 = .ok (.aload_n 0, 1) := by decide +kernel
theorem d_Mo_runs_22 : decode M_Mo_runs.2.1 22 = .ok (.getfield 119, 3) := by decide +kernel
theorem d_Mo_runs_25 : decode M_Mo_runs.2.1 25 = .ok (.iload_n 1, 1) := by decide +kernel
theorem d_Mo_runs_26 : decode M_Mo_runs.2.1 26 = .ok (.dup2, 1) := by decide +kernel
theorem d_Mo_runs_27 : decode M_Mo_runs.2.1 27 = .ok (.iaload, 1) := by decide +kernel
theorem d_Mo_runs_28 : decode M_Mo_runs.2.1 28 = .ok (.iload_n 2, 1) := by decide +kernel
theorem d_Mo_runs_29 : decode M_Mo_runs.2.1 29 = .ok (.isub, 1) := by decide +kernel
theorem d_Mo_runs_30 : decode M_Mo_runs.2.1 30 = .ok (.iastore, 1) := by decide +kernel
theorem d_Mo_runs_31 : decode M_Mo_runs.2.1 31 = .ok (.aload_n 0, 1) := by decide +kernel
theorem d_Mo_runs_32 : decode M_Mo_runs.2.1 32 = .ok (.getfield 119, 3) := by decide +kernel
theorem d_Mo_runs_35 : decode M_Mo_runs.2.1 35 = .ok (.bipush 8, 2) := by decide +kernel
theorem d_Mo_runs_37 : decode M_Mo_runs.2.1 37 = .ok (.iload_n 1, 1) := by decide +kernel
theorem d_Mo_runs_38 : decode M_Mo_runs.2.1 38 = .ok (.iadd, 1) := by decide +kernel
theorem d_Mo_runs_39 : decode M_Mo_runs.2.1 39 = .ok (.dup2, 1) := by decide +kernel
theorem d_Mo_runs_40 : decode M_Mo_runs.2.1 40 = .ok (.iaload, 1) := by decide +kernel
theorem d_Mo_runs_41 : decode M_Mo_runs.2.1 41 = .ok (.iload_n 2, 1) := by decide +kernel
theorem d_Mo_runs_42 : decode M_Mo_runs.2.1 42 = .ok (.iadd, 1) := by decide +kernel
theorem d_Mo_runs_43 : decode M_Mo_runs.2.1 43 = .ok (.iastore, 1) := by decide +kernel
theorem d_Mo_runs_44 : decode M_Mo_runs.2.1 44 = .ok (.iinc 1 1, 3) := by decide +kernel
theorem d_Mo_runs_47 : decode M_Mo_runs.2.1 47 = .ok (.goto (-45), 3) := by decide +kernel
theorem d_Mo_runs_50 : decode M_Mo_runs.2.1 50 = .ok (.return_, 1) := by decide +kernel
theorem d_Mo_relieves_0 : decode M_Mo_relieves.2.1 0 = .ok (.aload_n 0, 1) := by decide +kernel
theorem d_Mo_relieves_1 : decode M_Mo_relieves.2.1 1 = .ok (.getfield 49, 3) := by decide +kernel
theorem d_Mo_relieves_4 : decode M_Mo_relieves.2.1 4 = .ok (.aload_n 0, 1) := by decide +kernel
theorem d_Mo_relieves_5 : decode M_Mo_relieves.2.1 5 = .ok (.getfield 215, 3) := by decide +kernel
theorem d_Mo_relieves_8 : decode M_Mo_relieves.2.1 8 = .ok (.iaload, 1) := by decide +kernel
theorem d_Mo_relieves_9 : decode M_Mo_relieves.2.1 9 = .ok (.istore_n 2, 1) := by decide +kernel
theorem d_Mo_relieves_10 : decode M_Mo_relieves.2.1 10 = .ok (.iload_n 1, 1) := by decide +kernel
theorem d_Mo_relieves_11 : decode M_Mo_relieves.2.1 11 = .ok (.ifCond .ne 9, 3) := by decide +kernel
theorem d_Mo_relieves_14 : decode M_Mo_relieves.2.1 14 = .ok (.iload_n 2, 1) := by decide +kernel
theorem d_Mo_relieves_15 : decode M_Mo_relieves.2.1 15 = .ok (.iconst 1, 1) := by decide +kernel
theorem d_Mo_relieves_16 : decode M_Mo_relieves.2.1 16 = .ok (.isub, 1) := by decide +kernel
theorem d_Mo_relieves_17 : decode M_Mo_relieves.2.1 17 = .ok (.goto 6, 3) := by decide +kernel
theorem d_Mo_relieves_20 : decode M_Mo_relieves.2.1 20 = .ok (.iload_n 1, 1) := by decide +kernel
theorem d_Mo_relieves_21 : decode M_Mo_relieves.2.1 21 = .ok (.iconst 1, 1) := by decide +kernel
theorem d_Mo_relieves_22 : decode M_Mo_relieves.2.1 22 = .ok (.isub, 1) := by decide +kernel
theorem d_Mo_relieves_23 : decode M_Mo_relieves.2.1 23 = .ok (.istore_n 3, 1) := by decide +kernel
theorem d_Mo_relieves_24 : decode M_Mo_relieves.2.1 24 = .ok (.iload_n 2, 1) := by decide +kernel
theorem d_Mo_relieves_25 : decode M_Mo_relieves.2.1 25 = .ok (.iconst 2, 1) := by decide +kernel
theorem d_Mo_relieves_26 : decode M_Mo_relieves.2.1 26 = .ok (.if_icmp .lt 36, 3) := by decide +kernel
theorem d_Mo_relieves_29 : decode M_Mo_relieves.2.1 29 = .ok (.aload_n 0, 1) := by decide +kernel
theorem d_Mo_relieves_30 : decode M_Mo_relieves.2.1 30 = .ok (.getfield 119, 3) := by decide +kernel
theorem d_Mo_relieves_33 : decode M_Mo_relieves.2.1 33 = .ok (.iload_n 1, 1) := by decide +kernel
theorem d_Mo_relieves_34 : decode M_Mo_relieves.2.1 34 = .ok (.iaload, 1) := by decide +kernel
theorem d_Mo_relieves_35 : decode M_Mo_relieves.2.1 35 = .ok (.ifCond .gt 27, 3) := by decide +kernel
theorem d_Mo_relieves_38 : decode M_Mo_relieves.2.1 38 = .ok (.aload_n 0, 1) := by decide +kernel
theorem d_Mo_relieves_39 : decode M_Mo_relieves.2.1 39 = .ok (.getfield 119, 3) := by decide +kernel
theorem d_Mo_relieves_42 : decode M_Mo_relieves.2.1 42 = .ok (.bipush 16, 2) := by decide +kernel
theorem d_Mo_relieves_44 : decode M_Mo_relieves.2.1 44 = .ok (.iload_n 1, 1) := by decide +kernel
theorem d_Mo_relieves_45 : decode M_Mo_relieves.2.1 45 = .ok (.iadd, 1) := by decide +kernel
theorem d_Mo_relieves_46 : decode M_Mo_relieves.2.1 46 = .ok (.iaload, 1) := by decide +kernel
theorem d_Mo_relieves_47 : decode M_Mo_relieves.2.1 47 = .ok (.ifCond .lt 15, 3) := by decide +kernel
theorem d_Mo_relieves_50 : decode M_Mo_relieves.2.1 50 = .ok (.aload_n 0, 1) := by decide +kernel
theorem d_Mo_relieves_51 : decode M_Mo_relieves.2.1 51 = .ok (.getfield 119, 3) := by decide +kernel
theorem d_Mo_relieves_54 : decode M_Mo_relieves.2.1 54 = .ok (.bipush 16, 2) := by decide +kernel
theorem d_Mo_relieves_56 : decode M_Mo_relieves.2.1 56 = .ok (.iload_n 3, 1) := by decide +kernel
theorem d_Mo_relieves_57 : decode M_Mo_relieves.2.1 57 = .ok (.iadd, 1) := by decide +kernel
theorem d_Mo_relieves_58 : decode M_Mo_relieves.2.1 58 = .ok (.iaload, 1) := by decide +kernel
theorem d_Mo_relieves_59 : decode M_Mo_relieves.2.1 59 = .ok (.ifCond .ge 4, 3) := by decide +kernel
theorem d_Mo_relieves_62 : decode M_Mo_relieves.2.1 62 = .ok (.return_, 1) := by decide +kernel
theorem d_Mo_relieves_63 : decode M_Mo_relieves.2.1 63 = .ok (.aload_n 0, 1) := by decide +kernel
theorem d_Mo_relieves_64 : decode M_Mo_relieves.2.1 64 = .ok (.getfield 119, 3) := by decide +kernel
theorem d_Mo_relieves_67 : decode M_Mo_relieves.2.1 67 = .ok (.bipush 16, 2) := by decide +kernel
theorem d_Mo_relieves_69 : decode M_Mo_relieves.2.1 69 = .ok (.iload_n 1, 1) := by decide +kernel
theorem d_Mo_relieves_70 : decode M_Mo_relieves.2.1 70 = .ok (.iadd, 1) := by decide +kernel
theorem d_Mo_relieves_71 : decode M_Mo_relieves.2.1 71 = .ok (.iaload, 1) := by decide +kernel
theorem d_Mo_relieves_72 : decode M_Mo_relieves.2.1 72 = .ok (.istore 4, 2) := by decide +kernel
theorem d_Mo_relieves_74 : decode M_Mo_relieves.2.1 74 = .ok (.aload_n 0, 1) := by decide +kernel
theorem d_Mo_relieves_75 : decode M_Mo_relieves.2.1 75 = .ok (.aload_n 0, 1) := by decide +kernel
theorem d_Mo_relieves_76 : decode M_Mo_relieves.2.1 76 = .ok (.getfield 119, 3) := by decide +kernel
theorem d_Mo_relieves_79 : decode M_Mo_relieves.2.1 79 = .ok (.bipush 16, 2) := by decide +kernel
theorem d_Mo_relieves_81 : decode M_Mo_relieves.2.1 81 = .ok (.iload_n 3, 1) := by decide +kernel
theorem d_Mo_relieves_82 : decode M_Mo_relieves.2.1 82 = .ok (.iadd, 1) := by decide +kernel
theorem d_Mo_relieves_83 : decode M_Mo_relieves.2.1 83 = .ok (.iaload, 1) := by decide +kernel
theorem d_Mo_relieves_84 : decode M_Mo_relieves.2.1 84 = .ok (.iload_n 1, 1) := by decide +kernel
theorem d_Mo_relieves_85 : decode M_Mo_relieves.2.1 85 = .ok (.invokevirtual 315, 3) := by decide +kernel
theorem d_Mo_relieves_88 : decode M_Mo_relieves.2.1 88 = .ok (.aload_n 0, 1) := by decide +kernel
theorem d_Mo_relieves_89 : decode M_Mo_relieves.2.1 89 = .ok (.getfield 119, 3) := by decide +kernel
theorem d_Mo_relieves_92 : decode M_Mo_relieves.2.1 92 = .ok (.iload_n 1, 1) := by decide +kernel
theorem d_Mo_relieves_93 : decode M_Mo_relieves.2.1 93 = .ok (.aload_n 0, 1) := by decide +kernel
theorem d_Mo_relieves_94 : decode M_Mo_relieves.2.1 94 = .ok (.getfield 119, 3) := by decide +kernel
theorem d_Mo_relieves_97 : decode M_Mo_relieves.2.1 97 = .ok (.bipush 8, 2) := by decide +kernel
theorem d_Mo_relieves_99 : decode M_Mo_relieves.2.1 99 = .ok (.iload_n 1, 1) := by decide +kernel
theorem d_Mo_relieves_100 : decode M_Mo_relieves.2.1 100 = .ok (.iadd, 1) := by decide +kernel
theorem d_Mo_relieves_101 : decode M_Mo_relieves.2.1 101 = .ok (.iaload, 1) := by decide +kernel
theorem d_Mo_relieves_102 : decode M_Mo_relieves.2.1 102 = .ok (.iastore, 1) := by decide +kernel
theorem d_Mo_relieves_103 : decode M_Mo_relieves.2.1 103 = .ok (.aload_n 0, 1) := by decide +kernel
theorem d_Mo_relieves_104 : decode M_Mo_relieves.2.1 104 = .ok (.getfield 119, 3) := by decide +kernel
theorem d_Mo_relieves_107 : decode M_Mo_relieves.2.1 107 = .ok (.bipush 8, 2) := by decide +kernel
theorem d_Mo_relieves_109 : decode M_Mo_relieves.2.1 109 = .ok (.iload_n 1, 1) := by decide +kernel
theorem d_Mo_relieves_110 : decode M_Mo_relieves.2.1 110 = .ok (.iadd, 1) := by decide +kernel
theorem d_Mo_relieves_111 : decode M_Mo_relieves.2.1 111 = .ok (.iconst 0, 1) := by decide +kernel
theorem d_Mo_relieves_112 : decode M_Mo_relieves.2.1 112 = .ok (.iastore, 1) := by decide +kernel
theorem d_Mo_relieves_113 : decode M_Mo_relieves.2.1 113 = .ok (.aload_n 0, 1) := by decide +kernel
theorem d_Mo_relieves_114 : decode M_Mo_relieves.2.1 114 = .ok (.getfield 119, 3) := by decide +kernel
theorem d_Mo_relieves_117 : decode M_Mo_relieves.2.1 117 = .ok (.bipush 32, 2) := by decide +kernel
theorem d_Mo_relieves_119 : decode M_Mo_relieves.2.1 119 = .ok (.iload_n 1, 1) := by decide +kernel
theorem d_Mo_relieves_120 : decode M_Mo_relieves.2.1 120 = .ok (.iadd, 1) := by decide +kernel
theorem d_Mo_relieves_121 : decode M_Mo_relieves.2.1 121 = .ok (.dup2, 1) := by decide +kernel
theorem d_Mo_relieves_122 : decode M_Mo_relieves.2.1 122 = .ok (.iaload, 1) := by decide +kernel
theorem d_Mo_relieves_123 : decode M_Mo_relieves.2.1 123 = .ok (.iconst 1, 1) := by decide +kernel
theorem d_Mo_relieves_124 : decode M_Mo_relieves.2.1 124 = .ok (.iadd, 1) := by decide +kernel
theorem d_Mo_relieves_125 : decode M_Mo_relieves.2.1 125 = .ok (.iastore, 1) := by decide +kernel
theorem d_Mo_relieves_126 : decode M_Mo_relieves.2.1 126 = .ok (.aload_n 0, 1) := by decide +kernel
theorem d_Mo_relieves_127 : decode M_Mo_relieves.2.1 127 = .ok (.getfield 119, 3) := by decide +kernel
theorem d_Mo_relieves_130 : decode M_Mo_relieves.2.1 130 = .ok (.bipush 16, 2) := by decide +kernel
theorem d_Mo_relieves_132 : decode M_Mo_relieves.2.1 132 = .ok (.iload_n 3, 1) := by decide +kernel
theorem d_Mo_relieves_133 : decode M_Mo_relieves.2.1 133 = .ok (.iadd, 1) := by decide +kernel
theorem d_Mo_relieves_134 : decode M_Mo_relieves.2.1 134 = .ok (.iconst (-1), 1) := by decide +kernel
theorem d_Mo_relieves_135 : decode M_Mo_relieves.2.1 135 = .ok (.iastore, 1) := by decide +kernel
theorem d_Mo_relieves_136 : decode M_Mo_relieves.2.1 136 = .ok (.aload_n 0, 1) := by decide +kernel
theorem d_Mo_relieves_137 : decode M_Mo_relieves.2.1 137 = .ok (.getfield 119, 3) := by decide +kernel
theorem d_Mo_relieves_140 : decode M_Mo_relieves.2.1 140 = .ok (.bipush 96, 2) := by decide +kernel
theorem d_Mo_relieves_142 : decode M_Mo_relieves.2.1 142 = .ok (.iaload, 1) := by decide +kernel
theorem d_Mo_relieves_143 : decode M_Mo_relieves.2.1 143 = .ok (.ifCond .le 13, 3) := by decide +kernel
theorem d_Mo_relieves_146 : decode M_Mo_relieves.2.1 146 = .ok (.aload_n 0, 1) := by decide +kernel
theorem d_Mo_relieves_147 : decode M_Mo_relieves.2.1 147 = .ok (.aload_n 0, 1) := by decide +kernel
theorem d_Mo_relieves_148 : decode M_Mo_relieves.2.1 148 = .ok (.iconst 0, 1) := by decide +kernel
theorem d_Mo_relieves_149 : decode M_Mo_relieves.2.1 149 = .ok (.invokevirtual 318, 3) := by decide +kernel
theorem d_Mo_relieves_152 : decode M_Mo_relieves.2.1 152 = .ok (.iload_n 3, 1) := by decide +kernel
theorem d_Mo_relieves_153 : decode M_Mo_relieves.2.1 153 = .ok (.invokevirtual 315, 3) := by decide +kernel
theorem d_Mo_relieves_156 : decode M_Mo_relieves.2.1 156 = .ok (.aload_n 0, 1) := by decide +kernel
theorem d_Mo_relieves_157 : decode M_Mo_relieves.2.1 157 = .ok (.iload 4, 2) := by decide +kernel
theorem d_Mo_relieves_159 : decode M_Mo_relieves.2.1 159 = .ok (.invokevirtual 306, 3) := by decide +kernel
theorem d_Mo_relieves_162 : decode M_Mo_relieves.2.1 162 = .ok (.aload_n 0, 1) := by decide +kernel
theorem d_Mo_relieves_163 : decode M_Mo_relieves.2.1 163 = .ok (.getfield 119, 3) := by decide +kernel
theorem d_Mo_relieves_166 : decode M_Mo_relieves.2.1 166 = .ok (.bipush 60, 2) := by decide +kernel
theorem d_Mo_relieves_168 : decode M_Mo_relieves.2.1 168 = .ok (.iload 4, 2) := by decide +kernel
theorem d_Mo_relieves_170 : decode M_Mo_relieves.2.1 170 = .ok (.iadd, 1) := by decide +kernel
theorem d_Mo_relieves_171 : decode M_Mo_relieves.2.1 171 = .ok (.iconst 0, 1) := by decide +kernel
theorem d_Mo_relieves_172 : decode M_Mo_relieves.2.1 172 = .ok (.iastore, 1) := by decide +kernel
theorem d_Mo_relieves_173 : decode M_Mo_relieves.2.1 173 = .ok (.aload_n 0, 1) := by decide +kernel
theorem d_Mo_relieves_174 : decode M_Mo_relieves.2.1 174 = .ok (.getfield 119, 3) := by decide +kernel
theorem d_Mo_relieves_177 : decode M_Mo_relieves.2.1 177 = .ok (.bipush 72, 2) := by decide +kernel
theorem d_Mo_relieves_179 : decode M_Mo_relieves.2.1 179 = .ok (.iload 4, 2) := by decide +kernel
theorem d_Mo_relieves_181 : decode M_Mo_relieves.2.1 181 = .ok (.iadd, 1) := by decide +kernel
theorem d_Mo_relieves_182 : decode M_Mo_relieves.2.1 182 = .ok (.dup2, 1) := by decide +kernel
theorem d_Mo_relieves_183 : decode M_Mo_relieves.2.1 183 = .ok (.iaload, 1) := by decide +kernel
theorem d_Mo_relieves_184 : decode M_Mo_relieves.2.1 184 = .ok (.iconst 1, 1) := by decide +kernel
theorem d_Mo_relieves_185 : decode M_Mo_relieves.2.1 185 = .ok (.iadd, 1) := by decide +kernel
theorem d_Mo_relieves_186 : decode M_Mo_relieves.2.1 186 = .ok (.iastore, 1) := by decide +kernel
theorem d_Mo_relieves_187 : decode M_Mo_relieves.2.1 187 = .ok (.return_, 1) := by decide +kernel
theorem d_Mo_minuteGoes_0 : decode M_Mo_minuteGoes.2.1 0 = .ok (.aload_n 0, 1) := by decide +kernel
theorem d_Mo_minuteGoes_1 : decode M_Mo_minuteGoes.2.1 1 = .ok (.invokevirtual 321, 3) := by decide +kernel
theorem d_Mo_minuteGoes_4 : decode M_Mo_minuteGoes.2.1 4 = .ok (.iconst 0, 1) := by decide +kernel
theorem d_Mo_minuteGoes_5 : decode M_Mo_minuteGoes.2.1 5 = .ok (.istore_n 1, 1) := by decide +kernel
theorem d_Mo_minuteGoes_6 : decode M_Mo_minuteGoes.2.1 6 = .ok (.iload_n 1, 1) := by decide +kernel
theorem d_Mo_minuteGoes_7 : decode M_Mo_minuteGoes.2.1 7 = .ok (.aload_n 0, 1) := by decide +kernel
theorem d_Mo_minuteGoes_8 : decode M_Mo_minuteGoes.2.1 8 = .ok (.getfield 49, 3) := by decide +kernel
theorem d_Mo_minuteGoes_11 : decode M_Mo_minuteGoes.2.1 11 = .ok (.aload_n 0, 1) := by decide +kernel
theorem d_Mo_minuteGoes_12 : decode M_Mo_minuteGoes.2.1 12 = .ok (.getfield 215, 3) := by decide +kernel
theorem d_Mo_minuteGoes_15 : decode M_Mo_minuteGoes.2.1 15 = .ok (.iaload, 1) := by decide +kernel
theorem d_Mo_minuteGoes_16 : decode M_Mo_minuteGoes.2.1 16 = .ok (.if_icmp .ge 14, 3) := by decide +kernel
theorem d_Mo_minuteGoes_19 : decode M_Mo_minuteGoes.2.1 19 = .ok (.aload_n 0, 1) := by decide +kernel
theorem d_Mo_minuteGoes_20 : decode M_Mo_minuteGoes.2.1 20 = .ok (.iload_n 1, 1) := by decide +kernel
theorem d_Mo_minuteGoes_21 : decode M_Mo_minuteGoes.2.1 21 = .ok (.invokevirtual 324, 3) := by decide +kernel
theorem d_Mo_minuteGoes_24 : decode M_Mo_minuteGoes.2.1 24 = .ok (.iinc 1 1, 3) := by decide +kernel
theorem d_Mo_minuteGoes_27 : decode M_Mo_minuteGoes.2.1 27 = .ok (.goto (-21), 3) := by decide +kernel
theorem d_Mo_minuteGoes_30 : decode M_Mo_minuteGoes.2.1 30 = .ok (.iconst 0, 1) := by decide +kernel
theorem d_Mo_minuteGoes_31 : decode M_Mo_minuteGoes.2.1 31 = .ok (.istore_n 1, 1) := by decide +kernel
theorem d_Mo_minuteGoes_32 : decode M_Mo_minuteGoes.2.1 32 = .ok (.iload_n 1, 1) := by decide +kernel
theorem d_Mo_minuteGoes_33 : decode M_Mo_minuteGoes.2.1 33 = .ok (.aload_n 0, 1) := by decide +kernel
theorem d_Mo_minuteGoes_34 : decode M_Mo_minuteGoes.2.1 34 = .ok (.getfield 49, 3) := by decide +kernel
theorem d_Mo_minuteGoes_37 : decode M_Mo_minuteGoes.2.1 37 = .ok (.aload_n 0, 1) := by decide +kernel
theorem d_Mo_minuteGoes_38 : decode M_Mo_minuteGoes.2.1 38 = .ok (.getfield 215, 3) := by decide +kernel
theorem d_Mo_minuteGoes_41 : decode M_Mo_minuteGoes.2.1 41 = .ok (.iaload, 1) := by decide +kernel
theorem d_Mo_minuteGoes_42 : decode M_Mo_minuteGoes.2.1 42 = .ok (.if_icmp .ge 41, 3) := by decide +kernel
theorem d_Mo_minuteGoes_45 : decode M_Mo_minuteGoes.2.1 45 = .ok (.aload_n 0, 1) := by decide +kernel
theorem d_Mo_minuteGoes_46 : decode M_Mo_minuteGoes.2.1 46 = .ok (.getfield 119, 3) := by decide +kernel
theorem d_Mo_minuteGoes_49 : decode M_Mo_minuteGoes.2.1 49 = .ok (.bipush 16, 2) := by decide +kernel
theorem d_Mo_minuteGoes_51 : decode M_Mo_minuteGoes.2.1 51 = .ok (.iload_n 1, 1) := by decide +kernel
theorem d_Mo_minuteGoes_52 : decode M_Mo_minuteGoes.2.1 52 = .ok (.iadd, 1) := by decide +kernel
theorem d_Mo_minuteGoes_53 : decode M_Mo_minuteGoes.2.1 53 = .ok (.iaload, 1) := by decide +kernel
theorem d_Mo_minuteGoes_54 : decode M_Mo_minuteGoes.2.1 54 = .ok (.ifCond .ge 23, 3) := by decide +kernel
theorem d_Mo_minuteGoes_57 : decode M_Mo_minuteGoes.2.1 57 = .ok (.aload_n 0, 1) := by decide +kernel
theorem d_Mo_minuteGoes_58 : decode M_Mo_minuteGoes.2.1 58 = .ok (.getfield 119, 3) := by decide +kernel
theorem d_Mo_minuteGoes_61 : decode M_Mo_minuteGoes.2.1 61 = .ok (.bipush 96, 2) := by decide +kernel
theorem d_Mo_minuteGoes_63 : decode M_Mo_minuteGoes.2.1 63 = .ok (.iaload, 1) := by decide +kernel
theorem d_Mo_minuteGoes_64 : decode M_Mo_minuteGoes.2.1 64 = .ok (.ifCond .le 13, 3) := by decide +kernel
theorem d_Mo_minuteGoes_67 : decode M_Mo_minuteGoes.2.1 67 = .ok (.aload_n 0, 1) := by decide +kernel
theorem d_Mo_minuteGoes_68 : decode M_Mo_minuteGoes.2.1 68 = .ok (.aload_n 0, 1) := by decide +kernel
theorem d_Mo_minuteGoes_69 : decode M_Mo_minuteGoes.2.1 69 = .ok (.iconst 0, 1) := by decide +kernel
theorem d_Mo_minuteGoes_70 : decode M_Mo_minuteGoes.2.1 70 = .ok (.invokevirtual 318, 3) := by decide +kernel
theorem d_Mo_minuteGoes_73 : decode M_Mo_minuteGoes.2.1 73 = .ok (.iload_n 1, 1) := by decide +kernel
theorem d_Mo_minuteGoes_74 : decode M_Mo_minuteGoes.2.1 74 = .ok (.invokevirtual 315, 3) := by decide +kernel
theorem d_Mo_minuteGoes_77 : decode M_Mo_minuteGoes.2.1 77 = .ok (.iinc 1 1, 3) := by decide +kernel
theorem d_Mo_minuteGoes_80 : decode M_Mo_minuteGoes.2.1 80 = .ok (.goto (-48), 3) := by decide +kernel
theorem d_Mo_minuteGoes_83 : decode M_Mo_minuteGoes.2.1 83 = .ok (.iconst 0, 1) := by decide +kernel
theorem d_Mo_minuteGoes_84 : decode M_Mo_minuteGoes.2.1 84 = .ok (.istore_n 1, 1) := by decide +kernel
theorem d_Mo_minuteGoes_85 : decode M_Mo_minuteGoes.2.1 85 = .ok (.iload_n 1, 1) := by decide +kernel
theorem d_Mo_minuteGoes_86 : decode M_Mo_minuteGoes.2.1 86 = .ok (.aload_n 0, 1) := by decide +kernel
theorem d_Mo_minuteGoes_87 : decode M_Mo_minuteGoes.2.1 87 = .ok (.getfield 119, 3) := by decide +kernel
theorem d_Mo_minuteGoes_90 : decode M_Mo_minuteGoes.2.1 90 = .ok (.bipush 96, 2) := by decide +kernel
theorem d_Mo_minuteGoes_92 : decode M_Mo_minuteGoes.2.1 92 = .ok (.iaload, 1) := by decide +kernel
theorem d_Mo_minuteGoes_93 : decode M_Mo_minuteGoes.2.1 93 = .ok (.if_icmp .ge 30, 3) := by decide +kernel
theorem d_Mo_minuteGoes_96 : decode M_Mo_minuteGoes.2.1 96 = .ok (.aload_n 0, 1) := by decide +kernel
theorem d_Mo_minuteGoes_97 : decode M_Mo_minuteGoes.2.1 97 = .ok (.getfield 119, 3) := by decide +kernel
theorem d_Mo_minuteGoes_100 : decode M_Mo_minuteGoes.2.1 100 = .ok (.bipush 48, 2) := by decide +kernel
theorem d_Mo_minuteGoes_102 : decode M_Mo_minuteGoes.2.1 102 = .ok (.aload_n 0, 1) := by decide +kernel
theorem d_Mo_minuteGoes_103 : decode M_Mo_minuteGoes.2.1 103 = .ok (.getfield 119, 3) := by decide +kernel
theorem d_Mo_minuteGoes_106 : decode M_Mo_minuteGoes.2.1 106 = .ok (.bipush 84, 2) := by decide +kernel
theorem d_Mo_minuteGoes_108 : decode M_Mo_minuteGoes.2.1 108 = .ok (.iload_n 1, 1) := by decide +kernel
theorem d_Mo_minuteGoes_109 : decode M_Mo_minuteGoes.2.1 109 = .ok (.iadd, 1) := by decide +kernel
theorem d_Mo_minuteGoes_110 : decode M_Mo_minuteGoes.2.1 110 = .ok (.iaload, 1) := by decide +kernel
theorem d_Mo_minuteGoes_111 : decode M_Mo_minuteGoes.2.1 111 = .ok (.iadd, 1) := by decide +kernel
theorem d_Mo_minuteGoes_112 : decode M_Mo_minuteGoes.2.1 112 = .ok (.dup2, 1) := by decide +kernel
theorem d_Mo_minuteGoes_113 : decode M_Mo_minuteGoes.2.1 113 = .ok (.iaload, 1) := by decide +kernel
theorem d_Mo_minuteGoes_114 : decode M_Mo_minuteGoes.2.1 114 = .ok (.iconst 1, 1) := by decide +kernel
theorem d_Mo_minuteGoes_115 : decode M_Mo_minuteGoes.2.1 115 = .ok (.iadd, 1) := by decide +kernel
theorem d_Mo_minuteGoes_116 : decode M_Mo_minuteGoes.2.1 116 = .ok (.iastore, 1) := by decide +kernel
theorem d_Mo_minuteGoes_117 : decode M_Mo_minuteGoes.2.1 117 = .ok (.iinc 1 1, 3) := by decide +kernel
theorem d_Mo_minuteGoes_120 : decode M_Mo_minuteGoes.2.1 120 = .ok (.goto (-35), 3) := by decide +kernel
theorem d_Mo_minuteGoes_123 : decode M_Mo_minuteGoes.2.1 123 = .ok (.iconst 0, 1) := by decide +kernel
theorem d_Mo_minuteGoes_124 : decode M_Mo_minuteGoes.2.1 124 = .ok (.istore_n 1, 1) := by decide +kernel
theorem d_Mo_minuteGoes_125 : decode M_Mo_minuteGoes.2.1 125 = .ok (.iload_n 1, 1) := by decide +kernel
theorem d_Mo_minuteGoes_126 : decode M_Mo_minuteGoes.2.1 126 = .ok (.aload_n 0, 1) := by decide +kernel
theorem d_Mo_minuteGoes_127 : decode M_Mo_minuteGoes.2.1 127 = .ok (.getfield 49, 3) := by decide +kernel
theorem d_Mo_minuteGoes_130 : decode M_Mo_minuteGoes.2.1 130 = .ok (.aload_n 0, 1) := by decide +kernel
theorem d_Mo_minuteGoes_131 : decode M_Mo_minuteGoes.2.1 131 = .ok (.getfield 215, 3) := by decide +kernel
theorem d_Mo_minuteGoes_134 : decode M_Mo_minuteGoes.2.1 134 = .ok (.iaload, 1) := by decide +kernel
theorem d_Mo_minuteGoes_135 : decode M_Mo_minuteGoes.2.1 135 = .ok (.if_icmp .ge 42, 3) := by decide +kernel
theorem d_Mo_minuteGoes_138 : decode M_Mo_minuteGoes.2.1 138 = .ok (.aload_n 0, 1) := by decide +kernel
theorem d_Mo_minuteGoes_139 : decode M_Mo_minuteGoes.2.1 139 = .ok (.getfield 119, 3) := by decide +kernel
theorem d_Mo_minuteGoes_142 : decode M_Mo_minuteGoes.2.1 142 = .ok (.bipush 16, 2) := by decide +kernel
theorem d_Mo_minuteGoes_144 : decode M_Mo_minuteGoes.2.1 144 = .ok (.iload_n 1, 1) := by decide +kernel
theorem d_Mo_minuteGoes_145 : decode M_Mo_minuteGoes.2.1 145 = .ok (.iadd, 1) := by decide +kernel
theorem d_Mo_minuteGoes_146 : decode M_Mo_minuteGoes.2.1 146 = .ok (.iaload, 1) := by decide +kernel
theorem d_Mo_minuteGoes_147 : decode M_Mo_minuteGoes.2.1 147 = .ok (.ifCond .lt 24, 3) := by decide +kernel
theorem d_Mo_minuteGoes_150 : decode M_Mo_minuteGoes.2.1 150 = .ok (.aload_n 0, 1) := by decide +kernel
theorem d_Mo_minuteGoes_151 : decode M_Mo_minuteGoes.2.1 151 = .ok (.getfield 119, 3) := by decide +kernel
theorem d_Mo_minuteGoes_154 : decode M_Mo_minuteGoes.2.1 154 = .ok (.bipush 60, 2) := by decide +kernel
theorem d_Mo_minuteGoes_156 : decode M_Mo_minuteGoes.2.1 156 = .ok (.aload_n 0, 1) := by decide +kernel
theorem d_Mo_minuteGoes_157 : decode M_Mo_minuteGoes.2.1 157 = .ok (.getfield 119, 3) := by decide +kernel
theorem d_Mo_minuteGoes_160 : decode M_Mo_minuteGoes.2.1 160 = .ok (.bipush 16, 2) := by decide +kernel
theorem d_Mo_minuteGoes_162 : decode M_Mo_minuteGoes.2.1 162 = .ok (.iload_n 1, 1) := by decide +kernel
theorem d_Mo_minuteGoes_163 : decode M_Mo_minuteGoes.2.1 163 = .ok (.iadd, 1) := by decide +kernel
theorem d_Mo_minuteGoes_164 : decode M_Mo_minuteGoes.2.1 164 = .ok (.iaload, 1) := by decide +kernel
theorem d_Mo_minuteGoes_165 : decode M_Mo_minuteGoes.2.1 165 = .ok (.iadd, 1) := by decide +kernel
theorem d_Mo_minuteGoes_166 : decode M_Mo_minuteGoes.2.1 166 = .ok (.dup2, 1) := by decide +kernel
theorem d_Mo_minuteGoes_167 : decode M_Mo_minuteGoes.2.1 167 = .ok (.iaload, 1) := by decide +kernel
theorem d_Mo_minuteGoes_168 : decode M_Mo_minuteGoes.2.1 168 = .ok (.iconst 1, 1) := by decide +kernel
theorem d_Mo_minuteGoes_169 : decode M_Mo_minuteGoes.2.1 169 = .ok (.iadd, 1) := by decide +kernel
theorem d_Mo_minuteGoes_170 : decode M_Mo_minuteGoes.2.1 170 = .ok (.iastore, 1) := by decide +kernel
theorem d_Mo_minuteGoes_171 : decode M_Mo_minuteGoes.2.1 171 = .ok (.iinc 1 1, 3) := by decide +kernel
theorem d_Mo_minuteGoes_174 : decode M_Mo_minuteGoes.2.1 174 = .ok (.goto (-49), 3) := by decide +kernel
theorem d_Mo_minuteGoes_177 : decode M_Mo_minuteGoes.2.1 177 = .ok (.aload_n 0, 1) := by decide +kernel
theorem d_Mo_minuteGoes_178 : decode M_Mo_minuteGoes.2.1 178 = .ok (.getfield 119, 3) := by decide +kernel
theorem d_Mo_minuteGoes_181 : decode M_Mo_minuteGoes.2.1 181 = .ok (.bipush 97, 2) := by decide +kernel
theorem d_Mo_minuteGoes_183 : decode M_Mo_minuteGoes.2.1 183 = .ok (.dup2, 1) := by decide +kernel
theorem d_Mo_minuteGoes_184 : decode M_Mo_minuteGoes.2.1 184 = .ok (.iaload, 1) := by decide +kernel
theorem d_Mo_minuteGoes_185 : decode M_Mo_minuteGoes.2.1 185 = .ok (.iconst 1, 1) := by decide +kernel
theorem d_Mo_minuteGoes_186 : decode M_Mo_minuteGoes.2.1 186 = .ok (.iadd, 1) := by decide +kernel
theorem d_Mo_minuteGoes_187 : decode M_Mo_minuteGoes.2.1 187 = .ok (.iastore, 1) := by decide +kernel
theorem d_Mo_minuteGoes_188 : decode M_Mo_minuteGoes.2.1 188 = .ok (.return_, 1) := by decide +kernel
theorem d_Mo_postOf_0 : decode M_Mo_postOf.2.1 0 = .ok (.iconst 0, 1) := by decide +kernel
theorem d_Mo_postOf_1 : decode M_Mo_postOf.2.1 1 = .ok (.istore_n 2, 1) := by decide +kernel
theorem d_Mo_postOf_2 : decode M_Mo_postOf.2.1 2 = .ok (.iload_n 2, 1) := by decide +kernel
theorem d_Mo_postOf_3 : decode M_Mo_postOf.2.1 3 = .ok (.aload_n 0, 1) := by decide +kernel
theorem d_Mo_postOf_4 : decode M_Mo_postOf.2.1 4 = .ok (.getfield 49, 3) := by decide +kernel
theorem d_Mo_postOf_7 : decode M_Mo_postOf.2.1 7 = .ok (.aload_n 0, 1) := by decide +kernel
theorem d_Mo_postOf_8 : decode M_Mo_postOf.2.1 8 = .ok (.getfield 215, 3) := by decide +kernel
theorem d_Mo_postOf_11 : decode M_Mo_postOf.2.1 11 = .ok (.iaload, 1) := by decide +kernel
theorem d_Mo_postOf_12 : decode M_Mo_postOf.2.1 12 = .ok (.if_icmp .ge 24, 3) := by decide +kernel
theorem d_Mo_postOf_15 : decode M_Mo_postOf.2.1 15 = .ok (.aload_n 0, 1) := by decide +kernel
theorem d_Mo_postOf_16 : decode M_Mo_postOf.2.1 16 = .ok (.getfield 119, 3) := by decide +kernel
theorem d_Mo_postOf_19 : decode M_Mo_postOf.2.1 19 = .ok (.bipush 16, 2) := by decide +kernel
theorem d_Mo_postOf_21 : decode M_Mo_postOf.2.1 21 = .ok (.iload_n 2, 1) := by decide +kernel
theorem d_Mo_postOf_22 : decode M_Mo_postOf.2.1 22 = .ok (.iadd, 1) := by decide +kernel
theorem d_Mo_postOf_23 : decode M_Mo_postOf.2.1 23 = .ok (.iaload, 1) := by decide +kernel
theorem d_Mo_postOf_24 : decode M_Mo_postOf.2.1 24 = .ok (.iload_n 1, 1) := by decide +kernel
theorem d_Mo_postOf_25 : decode M_Mo_postOf.2.1 25 = .ok (.if_icmp .ne 5, 3) := by decide +kernel
theorem d_Mo_postOf_28 : decode M_Mo_postOf.2.1 28 = .ok (.iload_n 2, 1) := by decide +kernel
theorem d_Mo_postOf_29 : decode M_Mo_postOf.2.1 29 = .ok (.ireturn, 1) := by decide +kernel
theorem d_Mo_postOf_30 : decode M_Mo_postOf.2.1 30 = .ok (.iinc 2 1, 3) := by decide +kernel
theorem d_Mo_postOf_33 : decode M_Mo_postOf.2.1 33 = .ok (.goto (-31), 3) := by decide +kernel
theorem d_Mo_postOf_36 : decode M_Mo_postOf.2.1 36 = .ok (.bipush (-2), 2) := by decide +kernel
theorem d_Mo_postOf_38 : decode M_Mo_postOf.2.1 38 = .ok (.ireturn, 1) := by decide +kernel
theorem d_Mo_placeInBed_0 : decode M_Mo_placeInBed.2.1 0 = .ok (.iconst 0, 1) := by decide +kernel
theorem d_Mo_placeInBed_1 : decode M_Mo_placeInBed.2.1 1 = .ok (.istore_n 2, 1) := by decide +kernel
theorem d_Mo_placeInBed_2 : decode M_Mo_placeInBed.2.1 2 = .ok (.iload_n 2, 1) := by decide +kernel
theorem d_Mo_placeInBed_3 : decode M_Mo_placeInBed.2.1 3 = .ok (.aload_n 0, 1) := by decide +kernel
theorem d_Mo_placeInBed_4 : decode M_Mo_placeInBed.2.1 4 = .ok (.getfield 119, 3) := by decide +kernel
theorem d_Mo_placeInBed_7 : decode M_Mo_placeInBed.2.1 7 = .ok (.bipush 96, 2) := by decide +kernel
theorem d_Mo_placeInBed_9 : decode M_Mo_placeInBed.2.1 9 = .ok (.iaload, 1) := by decide +kernel
theorem d_Mo_placeInBed_10 : decode M_Mo_placeInBed.2.1 10 = .ok (.if_icmp .ge 24, 3) := by decide +kernel
theorem d_Mo_placeInBed_13 : decode M_Mo_placeInBed.2.1 13 = .ok (.aload_n 0, 1) := by decide +kernel
theorem d_Mo_placeInBed_14 : decode M_Mo_placeInBed.2.1 14 = .ok (.getfield 119, 3) := by decide +kernel
theorem d_Mo_placeInBed_17 : decode M_Mo_placeInBed.2.1 17 = .ok (.bipush 84, 2) := by decide +kernel
theorem d_Mo_placeInBed_19 : decode M_Mo_placeInBed.2.1 19 = .ok (.iload_n 2, 1) := by decide +kernel
theorem d_Mo_placeInBed_20 : decode M_Mo_placeInBed.2.1 20 = .ok (.iadd, 1) := by decide +kernel
theorem d_Mo_placeInBed_21 : decode M_Mo_placeInBed.2.1 21 = .ok (.iaload, 1) := by decide +kernel
theorem d_Mo_placeInBed_22 : decode M_Mo_placeInBed.2.1 22 = .ok (.iload_n 1, 1) := by decide +kernel
theorem d_Mo_placeInBed_23 : decode M_Mo_placeInBed.2.1 23 = .ok (.if_icmp .ne 5, 3) := by decide +kernel
theorem d_Mo_placeInBed_26 : decode M_Mo_placeInBed.2.1 26 = .ok (.iload_n 2, 1) := by decide +kernel
theorem d_Mo_placeInBed_27 : decode M_Mo_placeInBed.2.1 27 = .ok (.ireturn, 1) := by decide +kernel
theorem d_Mo_placeInBed_28 : decode M_Mo_placeInBed.2.1 28 = .ok (.iinc 2 1, 3) := by decide +kernel
theorem d_Mo_placeInBed_31 : decode M_Mo_placeInBed.2.1 31 = .ok (.goto (-29), 3) := by decide +kernel
theorem d_Mo_placeInBed_34 : decode M_Mo_placeInBed.2.1 34 = .ok (.bipush (-2), 2) := by decide +kernel
theorem d_Mo_placeInBed_36 : decode M_Mo_placeInBed.2.1 36 = .ok (.ireturn, 1) := by decide +kernel
theorem d_Mo_emptyOnes_0 : decode M_Mo_emptyOnes.2.1 0 = .ok (.iconst 0, 1) := by decide +kernel
theorem d_Mo_emptyOnes_1 : decode M_Mo_emptyOnes.2.1 1 = .ok (.istore_n 1, 1) := by decide +kernel
theorem d_Mo_emptyOnes_2 : decode M_Mo_emptyOnes.2.1 2 = .ok (.iconst 0, 1) := by decide +kernel
theorem d_Mo_emptyOnes_3 : decode M_Mo_emptyOnes.2.1 3 = .ok (.istore_n 2, 1) := by decide +kernel
theorem d_Mo_emptyOnes_4 : decode M_Mo_emptyOnes.2.1 4 = .ok (.iload_n 2, 1) := by decide +kernel
theorem d_Mo_emptyOnes_5 : decode M_Mo_emptyOnes.2.1 5 = .ok (.aload_n 0, 1) := by decide +kernel
theorem d_Mo_emptyOnes_6 : decode M_Mo_emptyOnes.2.1 6 = .ok (.getfield 49, 3) := by decide +kernel
theorem d_Mo_emptyOnes_9 : decode M_Mo_emptyOnes.2.1 9 = .ok (.aload_n 0, 1) := by decide +kernel
theorem d_Mo_emptyOnes_10 : decode M_Mo_emptyOnes.2.1 10 = .ok (.getfield 215, 3) := by decide +kernel
theorem d_Mo_emptyOnes_13 : decode M_Mo_emptyOnes.2.1 13 = .ok (.iaload, 1) := by decide +kernel
theorem d_Mo_emptyOnes_14 : decode M_Mo_emptyOnes.2.1 14 = .ok (.if_icmp .ge 24, 3) := by decide +kernel
theorem d_Mo_emptyOnes_17 : decode M_Mo_emptyOnes.2.1 17 = .ok (.aload_n 0, 1) := by decide +kernel
theorem d_Mo_emptyOnes_18 : decode M_Mo_emptyOnes.2.1 18 = .ok (.getfield 119, 3) := by decide +kernel
theorem d_Mo_emptyOnes_21 : decode M_Mo_emptyOnes.2.1 21 = .ok (.bipush 16, 2) := by decide +kernel
theorem d_Mo_emptyOnes_23 : decode M_Mo_emptyOnes.2.1 23 = .ok (.iload_n 2, 1) := by decide +kernel
theorem d_Mo_emptyOnes_24 : decode M_Mo_emptyOnes.2.1 24 = .ok (.iadd, 1) := by decide +kernel
theorem d_Mo_emptyOnes_25 : decode M_Mo_emptyOnes.2.1 25 = .ok (.iaload, 1) := by decide +kernel
theorem d_Mo_emptyOnes_26 : decode M_Mo_emptyOnes.2.1 26 = .ok (.ifCond .ge 6, 3) := by decide +kernel
theorem d_Mo_emptyOnes_29 : decode M_Mo_emptyOnes.2.1 29 = .ok (.iinc 1 1, 3) := by decide +kernel
theorem d_Mo_emptyOnes_32 : decode M_Mo_emptyOnes.2.1 32 = .ok (.iinc 2 1, 3) := by decide +kernel
theorem d_Mo_emptyOnes_35 : decode M_Mo_emptyOnes.2.1 35 = .ok (.goto (-31), 3) := by decide +kernel
theorem d_Mo_emptyOnes_38 : decode M_Mo_emptyOnes.2.1 38 = .ok (.iload_n 1, 1) := by decide +kernel
theorem d_Mo_emptyOnes_39 : decode M_Mo_emptyOnes.2.1 39 = .ok (.ireturn, 1) := by decide +kernel
theorem d_Mo_sleptOnes_0 : decode M_Mo_sleptOnes.2.1 0 = .ok (.iconst 0, 1) := by decide +kernel
theorem d_Mo_sleptOnes_1 : decode M_Mo_sleptOnes.2.1 1 = .ok (.istore_n 1, 1) := by decide +kernel
theorem d_Mo_sleptOnes_2 : decode M_Mo_sleptOnes.2.1 2 = .ok (.iconst 0, 1) := by decide +kernel
theorem d_Mo_sleptOnes_3 : decode M_Mo_sleptOnes.2.1 3 = .ok (.istore_n 2, 1) := by decide +kernel
theorem d_Mo_sleptOnes_4 : decode M_Mo_sleptOnes.2.1 4 = .ok (.iload_n 2, 1) := by decide +kernel
theorem d_Mo_sleptOnes_5 : decode M_Mo_sleptOnes.2.1 5 = .ok (.aload_n 0, 1) := by decide +kernel
theorem d_Mo_sleptOnes_6 : decode M_Mo_sleptOnes.2.1 6 = .ok (.getfield 64, 3) := by decide +kernel
theorem d_Mo_sleptOnes_9 : decode M_Mo_sleptOnes.2.1 9 = .ok (.aload_n 0, 1) := by decide +kernel
theorem d_Mo_sleptOnes_10 : decode M_Mo_sleptOnes.2.1 10 = .ok (.getfield 215, 3) := by decide +kernel
theorem d_Mo_sleptOnes_13 : decode M_Mo_sleptOnes.2.1 13 = .ok (.iaload, 1) := by decide +kernel
theorem d_Mo_sleptOnes_14 : decode M_Mo_sleptOnes.2.1 14 = .ok (.if_icmp .ge 33, 3) := by decide +kernel
theorem d_Mo_sleptOnes_17 : decode M_Mo_sleptOnes.2.1 17 = .ok (.aload_n 0, 1) := by decide +kernel
theorem d_Mo_sleptOnes_18 : decode M_Mo_sleptOnes.2.1 18 = .ok (.getfield 119, 3) := by decide +kernel
theorem d_Mo_sleptOnes_21 : decode M_Mo_sleptOnes.2.1 21 = .ok (.bipush 48, 2) := by decide +kernel
theorem d_Mo_sleptOnes_23 : decode M_Mo_sleptOnes.2.1 23 = .ok (.iload_n 2, 1) := by decide +kernel
theorem d_Mo_sleptOnes_24 : decode M_Mo_sleptOnes.2.1 24 = .ok (.iadd, 1) := by decide +kernel
theorem d_Mo_sleptOnes_25 : decode M_Mo_sleptOnes.2.1 25 = .ok (.iaload, 1) := by decide +kernel
theorem d_Mo_sleptOnes_26 : decode M_Mo_sleptOnes.2.1 26 = .ok (.aload_n 0, 1) := by decide +kernel
theorem d_Mo_sleptOnes_27 : decode M_Mo_sleptOnes.2.1 27 = .ok (.getfield 76, 3) := by decide +kernel
theorem d_Mo_sleptOnes_30 : decode M_Mo_sleptOnes.2.1 30 = .ok (.aload_n 0, 1) := by decide +kernel
theorem d_Mo_sleptOnes_31 : decode M_Mo_sleptOnes.2.1 31 = .ok (.getfield 215, 3) := by decide +kernel
theorem d_Mo_sleptOnes_34 : decode M_Mo_sleptOnes.2.1 34 = .ok (.iaload, 1) := by decide +kernel
theorem d_Mo_sleptOnes_35 : decode M_Mo_sleptOnes.2.1 35 = .ok (.if_icmp .lt 6, 3) := by decide +kernel
theorem d_Mo_sleptOnes_38 : decode M_Mo_sleptOnes.2.1 38 = .ok (.iinc 1 1, 3) := by decide +kernel
theorem d_Mo_sleptOnes_41 : decode M_Mo_sleptOnes.2.1 41 = .ok (.iinc 2 1, 3) := by decide +kernel
theorem d_Mo_sleptOnes_44 : decode M_Mo_sleptOnes.2.1 44 = .ok (.goto (-40), 3) := by decide +kernel
theorem d_Mo_sleptOnes_47 : decode M_Mo_sleptOnes.2.1 47 = .ok (.iload_n 1, 1) := by decide +kernel
theorem d_Mo_sleptOnes_48 : decode M_Mo_sleptOnes.2.1 48 = .ok (.ireturn, 1) := by decide +kernel
theorem d_Mo_post_0 : decode M_Mo_post.2.1 0 = .ok (.aload_n 0, 1) := by decide +kernel
theorem d_Mo_post_1 : decode M_Mo_post.2.1 1 = .ok (.iload_n 1, 1) := by decide +kernel
theorem d_Mo_post_2 : decode M_Mo_post.2.1 2 = .ok (.invokevirtual 327, 3) := by decide +kernel
theorem d_Mo_post_5 : decode M_Mo_post.2.1 5 = .ok (.ifCond .ne 5, 3) := by decide +kernel
theorem d_Mo_post_8 : decode M_Mo_post.2.1 8 = .ok (.iconst (-1), 1) := by decide +kernel
theorem d_Mo_post_9 : decode M_Mo_post.2.1 9 = .ok (.ireturn, 1) := by decide +kernel
theorem d_Mo_post_10 : decode M_Mo_post.2.1 10 = .ok (.aload_n 0, 1) := by decide +kernel
theorem d_Mo_post_11 : decode M_Mo_post.2.1 11 = .ok (.invokevirtual 330, 3) := by decide +kernel
theorem d_Mo_post_14 : decode M_Mo_post.2.1 14 = .ok (.iload_n 2, 1) := by decide +kernel
theorem d_Mo_post_15 : decode M_Mo_post.2.1 15 = .ok (.tableswitch 121 0 6 #[41, 48, 58, 85, 95, 105, 111], 41) := by decide +kernel
theorem d_Mo_post_56 : decode M_Mo_post.2.1 56 = .ok (.aload_n 0, 1) := by decide +kernel
theorem d_Mo_post_57 : decode M_Mo_post.2.1 57 = .ok (.getfield 119, 3) := by decide +kernel
theorem d_Mo_post_60 : decode M_Mo_post.2.1 60 = .ok (.iload_n 1, 1) := by decide +kernel
theorem d_Mo_post_61 : decode M_Mo_post.2.1 61 = .ok (.iaload, 1) := by decide +kernel
theorem d_Mo_post_62 : decode M_Mo_post.2.1 62 = .ok (.ireturn, 1) := by decide +kernel
theorem d_Mo_post_63 : decode M_Mo_post.2.1 63 = .ok (.aload_n 0, 1) := by decide +kernel
theorem d_Mo_post_64 : decode M_Mo_post.2.1 64 = .ok (.getfield 119, 3) := by decide +kernel
theorem d_Mo_post_67 : decode M_Mo_post.2.1 67 = .ok (.bipush 8, 2) := by decide +kernel
theorem d_Mo_post_69 : decode M_Mo_post.2.1 69 = .ok (.iload_n 1, 1) := by decide +kernel
theorem d_Mo_post_70 : decode M_Mo_post.2.1 70 = .ok (.iadd, 1) := by decide +kernel
theorem d_Mo_post_71 : decode M_Mo_post.2.1 71 = .ok (.iaload, 1) := by decide +kernel
theorem d_Mo_post_72 : decode M_Mo_post.2.1 72 = .ok (.ireturn, 1) := by decide +kernel
theorem d_Mo_post_73 : decode M_Mo_post.2.1 73 = .ok (.aload_n 0, 1) := by decide +kernel
theorem d_Mo_post_74 : decode M_Mo_post.2.1 74 = .ok (.getfield 119, 3) := by decide +kernel
theorem d_Mo_post_77 : decode M_Mo_post.2.1 77 = .ok (.bipush 16, 2) := by decide +kernel
theorem d_Mo_post_79 : decode M_Mo_post.2.1 79 = .ok (.iload_n 1, 1) := by decide +kernel
theorem d_Mo_post_80 : decode M_Mo_post.2.1 80 = .ok (.iadd, 1) := by decide +kernel
theorem d_Mo_post_81 : decode M_Mo_post.2.1 81 = .ok (.iaload, 1) := by decide +kernel
theorem d_Mo_post_82 : decode M_Mo_post.2.1 82 = .ok (.ifCond .ge 8, 3) := by decide +kernel
theorem d_Mo_post_85 : decode M_Mo_post.2.1 85 = .ok (.bipush (-2), 2) := by decide +kernel
theorem d_Mo_post_87 : decode M_Mo_post.2.1 87 = .ok (.goto 12, 3) := by decide +kernel
theorem d_Mo_post_90 : decode M_Mo_post.2.1 90 = .ok (.aload_n 0, 1) := by decide +kernel
theorem d_Mo_post_91 : decode M_Mo_post.2.1 91 = .ok (.getfield 119, 3) := by decide +kernel
theorem d_Mo_post_94 : decode M_Mo_post.2.1 94 = .ok (.bipush 16, 2) := by decide +kernel
theorem d_Mo_post_96 : decode M_Mo_post.2.1 96 = .ok (.iload_n 1, 1) := by decide +kernel
theorem d_Mo_post_97 : decode M_Mo_post.2.1 97 = .ok (.iadd, 1) := by decide +kernel
theorem d_Mo_post_98 : decode M_Mo_post.2.1 98 = .ok (.iaload, 1) := by decide +kernel
theorem d_Mo_post_99 : decode M_Mo_post.2.1 99 = .ok (.ireturn, 1) := by decide +kernel
theorem d_Mo_post_100 : decode M_Mo_post.2.1 100 = .ok (.aload_n 0, 1) := by decide +kernel
theorem d_Mo_post_101 : decode M_Mo_post.2.1 101 = .ok (.getfield 119, 3) := by decide +kernel
theorem d_Mo_post_104 : decode M_Mo_post.2.1 104 = .ok (.bipush 24, 2) := by decide +kernel
theorem d_Mo_post_106 : decode M_Mo_post.2.1 106 = .ok (.iload_n 1, 1) := by decide +kernel
theorem d_Mo_post_107 : decode M_Mo_post.2.1 107 = .ok (.iadd, 1) := by decide +kernel
theorem d_Mo_post_108 : decode M_Mo_post.2.1 108 = .ok (.iaload, 1) := by decide +kernel
theorem d_Mo_post_109 : decode M_Mo_post.2.1 109 = .ok (.ireturn, 1) := by decide +kernel
theorem d_Mo_post_110 : decode M_Mo_post.2.1 110 = .ok (.aload_n 0, 1) := by decide +kernel
theorem d_Mo_post_111 : decode M_Mo_post.2.1 111 = .ok (.getfield 119, 3) := by decide +kernel
theorem d_Mo_post_114 : decode M_Mo_post.2.1 114 = .ok (.bipush 32, 2) := by decide +kernel
theorem d_Mo_post_116 : decode M_Mo_post.2.1 116 = .ok (.iload_n 1, 1) := by decide +kernel
theorem d_Mo_post_117 : decode M_Mo_post.2.1 117 = .ok (.iadd, 1) := by decide +kernel
theorem d_Mo_post_118 : decode M_Mo_post.2.1 118 = .ok (.iaload, 1) := by decide +kernel
theorem d_Mo_post_119 : decode M_Mo_post.2.1 119 = .ok (.ireturn, 1) := by decide +kernel
theorem d_Mo_post_120 : decode M_Mo_post.2.1 120 = .ok (.aload_n 0, 1) := by decide +kernel
theorem d_Mo_post_121 : decode M_Mo_post.2.1 121 = .ok (.iload_n 1, 1) := by decide +kernel
theorem d_Mo_post_122 : decode M_Mo_post.2.1 122 = .ok (.invokevirtual 312, 3) := by decide +kernel
theorem d_Mo_post_125 : decode M_Mo_post.2.1 125 = .ok (.ireturn, 1) := by decide +kernel
theorem d_Mo_post_126 : decode M_Mo_post.2.1 126 = .ok (.aload_n 0, 1) := by decide +kernel
theorem d_Mo_post_127 : decode M_Mo_post.2.1 127 = .ok (.getfield 119, 3) := by decide +kernel
theorem d_Mo_post_130 : decode M_Mo_post.2.1 130 = .ok (.bipush 40, 2) := by decide +kernel
theorem d_Mo_post_132 : decode M_Mo_post.2.1 132 = .ok (.iload_n 1, 1) := by decide +kernel
theorem d_Mo_post_133 : decode M_Mo_post.2.1 133 = .ok (.iadd, 1) := by decide +kernel
theorem d_Mo_post_134 : decode M_Mo_post.2.1 134 = .ok (.iaload, 1) := by decide +kernel
theorem d_Mo_post_135 : decode M_Mo_post.2.1 135 = .ok (.ireturn, 1) := by decide +kernel
theorem d_Mo_post_136 : decode M_Mo_post.2.1 136 = .ok (.iconst (-1), 1) := by decide +kernel
theorem d_Mo_post_137 : decode M_Mo_post.2.1 137 = .ok (.ireturn, 1) := by decide +kernel
theorem d_Mo_guard_0 : decode M_Mo_guard.2.1 0 = .ok (.aload_n 0, 1) := by decide +kernel
theorem d_Mo_guard_1 : decode M_Mo_guard.2.1 1 = .ok (.iload_n 1, 1) := by decide +kernel
theorem d_Mo_guard_2 : decode M_Mo_guard.2.1 2 = .ok (.invokevirtual 333, 3) := by decide +kernel
theorem d_Mo_guard_5 : decode M_Mo_guard.2.1 5 = .ok (.ifCond .ne 5, 3) := by decide +kernel
theorem d_Mo_guard_8 : decode M_Mo_guard.2.1 8 = .ok (.iconst (-1), 1) := by decide +kernel
theorem d_Mo_guard_9 : decode M_Mo_guard.2.1 9 = .ok (.ireturn, 1) := by decide +kernel
theorem d_Mo_guard_10 : decode M_Mo_guard.2.1 10 = .ok (.aload_n 0, 1) := by decide +kernel
theorem d_Mo_guard_11 : decode M_Mo_guard.2.1 11 = .ok (.invokevirtual 330, 3) := by decide +kernel
theorem d_Mo_guard_14 : decode M_Mo_guard.2.1 14 = .ok (.iload_n 2, 1) := by decide +kernel
theorem d_Mo_guard_15 : decode M_Mo_guard.2.1 15 = .ok (.tableswitch 75 0 4 #[33, 39, 49, 59, 65], 33) := by decide +kernel
theorem d_Mo_guard_48 : decode M_Mo_guard.2.1 48 = .ok (.aload_n 0, 1) := by decide +kernel
theorem d_Mo_guard_49 : decode M_Mo_guard.2.1 49 = .ok (.iload_n 1, 1) := by decide +kernel
theorem d_Mo_guard_50 : decode M_Mo_guard.2.1 50 = .ok (.invokevirtual 336, 3) := by decide +kernel
theorem d_Mo_guard_53 : decode M_Mo_guard.2.1 53 = .ok (.ireturn, 1) := by decide +kernel
theorem d_Mo_guard_54 : decode M_Mo_guard.2.1 54 = .ok (.aload_n 0, 1) := by decide +kernel
theorem d_Mo_guard_55 : decode M_Mo_guard.2.1 55 = .ok (.getfield 119, 3) := by decide +kernel
theorem d_Mo_guard_58 : decode M_Mo_guard.2.1 58 = .ok (.bipush 48, 2) := by decide +kernel
theorem d_Mo_guard_60 : decode M_Mo_guard.2.1 60 = .ok (.iload_n 1, 1) := by decide +kernel
theorem d_Mo_guard_61 : decode M_Mo_guard.2.1 61 = .ok (.iadd, 1) := by decide +kernel
theorem d_Mo_guard_62 : decode M_Mo_guard.2.1 62 = .ok (.iaload, 1) := by decide +kernel
theorem d_Mo_guard_63 : decode M_Mo_guard.2.1 63 = .ok (.ireturn, 1) := by decide +kernel
theorem d_Mo_guard_64 : decode M_Mo_guard.2.1 64 = .ok (.aload_n 0, 1) := by decide +kernel
theorem d_Mo_guard_65 : decode M_Mo_guard.2.1 65 = .ok (.getfield 119, 3) := by decide +kernel
theorem d_Mo_guard_68 : decode M_Mo_guard.2.1 68 = .ok (.bipush 60, 2) := by decide +kernel
theorem d_Mo_guard_70 : decode M_Mo_guard.2.1 70 = .ok (.iload_n 1, 1) := by decide +kernel
theorem d_Mo_guard_71 : decode M_Mo_guard.2.1 71 = .ok (.iadd, 1) := by decide +kernel
theorem d_Mo_guard_72 : decode M_Mo_guard.2.1 72 = .ok (.iaload, 1) := by decide +kernel
theorem d_Mo_guard_73 : decode M_Mo_guard.2.1 73 = .ok (.ireturn, 1) := by decide +kernel
theorem d_Mo_guard_74 : decode M_Mo_guard.2.1 74 = .ok (.aload_n 0, 1) := by decide +kernel
theorem d_Mo_guard_75 : decode M_Mo_guard.2.1 75 = .ok (.iload_n 1, 1) := by decide +kernel
theorem d_Mo_guard_76 : decode M_Mo_guard.2.1 76 = .ok (.invokevirtual 339, 3) := by decide +kernel
theorem d_Mo_guard_79 : decode M_Mo_guard.2.1 79 = .ok (.ireturn, 1) := by decide +kernel
theorem d_Mo_guard_80 : decode M_Mo_guard.2.1 80 = .ok (.aload_n 0, 1) := by decide +kernel
theorem d_Mo_guard_81 : decode M_Mo_guard.2.1 81 = .ok (.getfield 119, 3) := by decide +kernel
theorem d_Mo_guard_84 : decode M_Mo_guard.2.1 84 = .ok (.bipush 72, 2) := by decide +kernel
theorem d_Mo_guard_86 : decode M_Mo_guard.2.1 86 = .ok (.iload_n 1, 1) := by decide +kernel
theorem d_Mo_guard_87 : decode M_Mo_guard.2.1 87 = .ok (.iadd, 1) := by decide +kernel
theorem d_Mo_guard_88 : decode M_Mo_guard.2.1 88 = .ok (.iaload, 1) := by decide +kernel
theorem d_Mo_guard_89 : decode M_Mo_guard.2.1 89 = .ok (.ireturn, 1) := by decide +kernel
theorem d_Mo_guard_90 : decode M_Mo_guard.2.1 90 = .ok (.iconst (-1), 1) := by decide +kernel
theorem d_Mo_guard_91 : decode M_Mo_guard.2.1 91 = .ok (.ireturn, 1) := by decide +kernel
theorem d_Mo_keeps_0 : decode M_Mo_keeps.2.1 0 = .ok (.aload_n 0, 1) := by decide +kernel
theorem d_Mo_keeps_1 : decode M_Mo_keeps.2.1 1 = .ok (.getfield 236, 3) := by decide +kernel
theorem d_Mo_keeps_4 : decode M_Mo_keeps.2.1 4 = .ok (.bipush 40, 2) := by decide +kernel
theorem d_Mo_keeps_6 : decode M_Mo_keeps.2.1 6 = .ok (.if_icmp .ne 43, 3) := by decide +kernel
theorem d_Mo_keeps_9 : decode M_Mo_keeps.2.1 9 = .ok (.iconst 0, 1) := by decide +kernel
theorem d_Mo_keeps_10 : decode M_Mo_keeps.2.1 10 = .ok (.istore_n 1, 1) := by decide +kernel
theorem d_Mo_keeps_11 : decode M_Mo_keeps.2.1 11 = .ok (.iload_n 1, 1) := by decide +kernel
theorem d_Mo_keeps_12 : decode M_Mo_keeps.2.1 12 = .ok (.sipush 3900, 3) := by decide +kernel
theorem d_Mo_keeps_15 : decode M_Mo_keeps.2.1 15 = .ok (.if_icmp .ge 24, 3) := by decide +kernel
theorem d_Mo_keeps_18 : decode M_Mo_keeps.2.1 18 = .ok (.aload_n 0, 1) := by decide +kernel
theorem d_Mo_keeps_19 : decode M_Mo_keeps.2.1 19 = .ok (.getfield 122, 3) := by decide +kernel
theorem d_Mo_keeps_22 : decode M_Mo_keeps.2.1 22 = .ok (.iload_n 1, 1) := by decide +kernel
theorem d_Mo_keeps_23 : decode M_Mo_keeps.2.1 23 = .ok (.aload_n 0, 1) := by decide +kernel
theorem d_Mo_keeps_24 : decode M_Mo_keeps.2.1 24 = .ok (.getfield 122, 3) := by decide +kernel
theorem d_Mo_keeps_27 : decode M_Mo_keeps.2.1 27 = .ok (.iload_n 1, 1) := by decide +kernel
theorem d_Mo_keeps_28 : decode M_Mo_keeps.2.1 28 = .ok (.bipush 100, 2) := by decide +kernel
theorem d_Mo_keeps_30 : decode M_Mo_keeps.2.1 30 = .ok (.iadd, 1) := by decide +kernel
theorem d_Mo_keeps_31 : decode M_Mo_keeps.2.1 31 = .ok (.iaload, 1) := by decide +kernel
theorem d_Mo_keeps_32 : decode M_Mo_keeps.2.1 32 = .ok (.iastore, 1) := by decide +kernel
theorem d_Mo_keeps_33 : decode M_Mo_keeps.2.1 33 = .ok (.iinc 1 1, 3) := by decide +kernel
theorem d_Mo_keeps_36 : decode M_Mo_keeps.2.1 36 = .ok (.goto (-25), 3) := by decide +kernel
theorem d_Mo_keeps_39 : decode M_Mo_keeps.2.1 39 = .ok (.aload_n 0, 1) := by decide +kernel
theorem d_Mo_keeps_40 : decode M_Mo_keeps.2.1 40 = .ok (.dup, 1) := by decide +kernel
theorem d_Mo_keeps_41 : decode M_Mo_keeps.2.1 41 = .ok (.getfield 236, 3) := by decide +kernel
theorem d_Mo_keeps_44 : decode M_Mo_keeps.2.1 44 = .ok (.iconst 1, 1) := by decide +kernel
theorem d_Mo_keeps_45 : decode M_Mo_keeps.2.1 45 = .ok (.isub, 1) := by decide +kernel
theorem d_Mo_keeps_46 : decode M_Mo_keeps.2.1 46 = .ok (.putfield 236, 3) := by decide +kernel
theorem d_Mo_keeps_49 : decode M_Mo_keeps.2.1 49 = .ok (.iconst 0, 1) := by decide +kernel
theorem d_Mo_keeps_50 : decode M_Mo_keeps.2.1 50 = .ok (.istore_n 1, 1) := by decide +kernel
theorem d_Mo_keeps_51 : decode M_Mo_keeps.2.1 51 = .ok (.iload_n 1, 1) := by decide +kernel
theorem d_Mo_keeps_52 : decode M_Mo_keeps.2.1 52 = .ok (.bipush 100, 2) := by decide +kernel
theorem d_Mo_keeps_54 : decode M_Mo_keeps.2.1 54 = .ok (.if_icmp .ge 29, 3) := by decide +kernel
theorem d_Mo_keeps_57 : decode M_Mo_keeps.2.1 57 = .ok (.aload_n 0, 1) := by decide +kernel
theorem d_Mo_keeps_58 : decode M_Mo_keeps.2.1 58 = .ok (.getfield 122, 3) := by decide +kernel
theorem d_Mo_keeps_61 : decode M_Mo_keeps.2.1 61 = .ok (.bipush 100, 2) := by decide +kernel
theorem d_Mo_keeps_63 : decode M_Mo_keeps.2.1 63 = .ok (.aload_n 0, 1) := by decide +kernel
theorem d_Mo_keeps_64 : decode M_Mo_keeps.2.1 64 = .ok (.getfield 236, 3) := by decide +kernel
theorem d_Mo_keeps_67 : decode M_Mo_keeps.2.1 67 = .ok (.imul, 1) := by decide +kernel
theorem d_Mo_keeps_68 : decode M_Mo_keeps.2.1 68 = .ok (.iload_n 1, 1) := by decide +kernel
theorem d_Mo_keeps_69 : decode M_Mo_keeps.2.1 69 = .ok (.iadd, 1) := by decide +kernel
theorem d_Mo_keeps_70 : decode M_Mo_keeps.2.1 70 = .ok (.aload_n 0, 1) := by decide +kernel
theorem d_Mo_keeps_71 : decode M_Mo_keeps.2.1 71 = .ok (.getfield 116, 3) := by decide +kernel
theorem d_Mo_keeps_74 : decode M_Mo_keeps.2.1 74 = .ok (.iload_n 1, 1) := by decide +kernel
theorem d_Mo_keeps_75 : decode M_Mo_keeps.2.1 75 = .ok (.iaload, 1) := by decide +kernel
theorem d_Mo_keeps_76 : decode M_Mo_keeps.2.1 76 = .ok (.iastore, 1) := by decide +kernel
theorem d_Mo_keeps_77 : decode M_Mo_keeps.2.1 77 = .ok (.iinc 1 1, 3) := by decide +kernel
theorem d_Mo_keeps_80 : decode M_Mo_keeps.2.1 80 = .ok (.goto (-29), 3) := by decide +kernel
theorem d_Mo_keeps_83 : decode M_Mo_keeps.2.1 83 = .ok (.aload_n 0, 1) := by decide +kernel
theorem d_Mo_keeps_84 : decode M_Mo_keeps.2.1 84 = .ok (.dup, 1) := by decide +kernel
theorem d_Mo_keeps_85 : decode M_Mo_keeps.2.1 85 = .ok (.getfield 236, 3) := by decide +kernel
theorem d_Mo_keeps_88 : decode M_Mo_keeps.2.1 88 = .ok (.iconst 1, 1) := by decide +kernel
theorem d_Mo_keeps_89 : decode M_Mo_keeps.2.1 89 = .ok (.iadd, 1) := by decide +kernel
theorem d_Mo_keeps_90 : decode M_Mo_keeps.2.1 90 = .ok (.putfield 236, 3) := by decide +kernel
theorem d_Mo_keeps_93 : decode M_Mo_keeps.2.1 93 = .ok (.iconst 0, 1) := by decide +kernel
theorem d_Mo_keeps_94 : decode M_Mo_keeps.2.1 94 = .ok (.istore_n 1, 1) := by decide +kernel
theorem d_Mo_keeps_95 : decode M_Mo_keeps.2.1 95 = .ok (.iload_n 1, 1) := by decide +kernel
theorem d_Mo_keeps_96 : decode M_Mo_keeps.2.1 96 = .ok (.bipush 100, 2) := by decide +kernel
theorem d_Mo_keeps_98 : decode M_Mo_keeps.2.1 98 = .ok (.if_icmp .ge 21, 3) := by decide +kernel
theorem d_Mo_keeps_101 : decode M_Mo_keeps.2.1 101 = .ok (.aload_n 0, 1) := by decide +kernel
theorem d_Mo_keeps_102 : decode M_Mo_keeps.2.1 102 = .ok (.getfield 116, 3) := by decide +kernel
theorem d_Mo_keeps_105 : decode M_Mo_keeps.2.1 105 = .ok (.iload_n 1, 1) := by decide +kernel
theorem d_Mo_keeps_106 : decode M_Mo_keeps.2.1 106 = .ok (.aload_n 0, 1) := by decide +kernel
theorem d_Mo_keeps_107 : decode M_Mo_keeps.2.1 107 = .ok (.getfield 119, 3) := by decide +kernel
theorem d_Mo_keeps_110 : decode M_Mo_keeps.2.1 110 = .ok (.iload_n 1, 1) := by decide +kernel
theorem d_Mo_keeps_111 : decode M_Mo_keeps.2.1 111 = .ok (.iaload, 1) := by decide +kernel
theorem d_Mo_keeps_112 : decode M_Mo_keeps.2.1 112 = .ok (.iastore, 1) := by decide +kernel
theorem d_Mo_keeps_113 : decode M_Mo_keeps.2.1 113 = .ok (.iinc 1 1, 3) := by decide +kernel
theorem d_Mo_keeps_116 : decode M_Mo_keeps.2.1 116 = .ok (.goto (-21), 3) := by decide +kernel
theorem d_Mo_keeps_119 : decode M_Mo_keeps.2.1 119 = .ok (.return_, 1) := by decide +kernel
theorem d_Mo_goes_0 : decode M_Mo_goes.2.1 0 = .ok (.iconst 0, 1) := by decide +kernel
theorem d_Mo_goes_1 : decode M_Mo_goes.2.1 1 = .ok (.istore_n 2, 1) := by decide +kernel
theorem d_Mo_goes_2 : decode M_Mo_goes.2.1 2 = .ok (.iload_n 2, 1) := by decide +kernel
theorem d_Mo_goes_3 : decode M_Mo_goes.2.1 3 = .ok (.iload_n 1, 1) := by decide +kernel
theorem d_Mo_goes_4 : decode M_Mo_goes.2.1 4 = .ok (.if_icmp .ge 13, 3) := by decide +kernel
theorem d_Mo_goes_7 : decode M_Mo_goes.2.1 7 = .ok (.aload_n 0, 1) := by decide +kernel
theorem d_Mo_goes_8 : decode M_Mo_goes.2.1 8 = .ok (.invokevirtual 342, 3) := by decide +kernel
theorem d_Mo_goes_11 : decode M_Mo_goes.2.1 11 = .ok (.iinc 2 1, 3) := by decide +kernel
theorem d_Mo_goes_14 : decode M_Mo_goes.2.1 14 = .ok (.goto (-12), 3) := by decide +kernel
theorem d_Mo_goes_17 : decode M_Mo_goes.2.1 17 = .ok (.return_, 1) := by decide +kernel
theorem d_Mo_run_0 : decode M_Mo_run.2.1 0 = .ok (.iload_n 1, 1) := by decide +kernel
theorem d_Mo_run_1 : decode M_Mo_run.2.1 1 = .ok (.iconst 0, 1) := by decide +kernel
theorem d_Mo_run_2 : decode M_Mo_run.2.1 2 = .ok (.sipush 2000, 3) := by decide +kernel
theorem d_Mo_run_5 : decode M_Mo_run.2.1 5 = .ok (.invokestatic 302, 3) := by decide +kernel
theorem d_Mo_run_8 : decode M_Mo_run.2.1 8 = .ok (.ifCond .ne 5, 3) := by decide +kernel
theorem d_Mo_run_11 : decode M_Mo_run.2.1 11 = .ok (.iconst (-1), 1) := by decide +kernel
theorem d_Mo_run_12 : decode M_Mo_run.2.1 12 = .ok (.ireturn, 1) := by decide +kernel
theorem d_Mo_run_13 : decode M_Mo_run.2.1 13 = .ok (.iload_n 1, 1) := by decide +kernel
theorem d_Mo_run_14 : decode M_Mo_run.2.1 14 = .ok (.ifCond .ne 11, 3) := by decide +kernel
theorem d_Mo_run_17 : decode M_Mo_run.2.1 17 = .ok (.aload_n 0, 1) := by decide +kernel
theorem d_Mo_run_18 : decode M_Mo_run.2.1 18 = .ok (.getfield 116, 3) := by decide +kernel
theorem d_Mo_run_21 : decode M_Mo_run.2.1 21 = .ok (.bipush 97, 2) := by decide +kernel
theorem d_Mo_run_23 : decode M_Mo_run.2.1 23 = .ok (.iaload, 1) := by decide +kernel
theorem d_Mo_run_24 : decode M_Mo_run.2.1 24 = .ok (.ireturn, 1) := by decide +kernel
theorem d_Mo_run_25 : decode M_Mo_run.2.1 25 = .ok (.aload_n 0, 1) := by decide +kernel
theorem d_Mo_run_26 : decode M_Mo_run.2.1 26 = .ok (.invokevirtual 330, 3) := by decide +kernel
theorem d_Mo_run_29 : decode M_Mo_run.2.1 29 = .ok (.aload_n 0, 1) := by decide +kernel
theorem d_Mo_run_30 : decode M_Mo_run.2.1 30 = .ok (.iload_n 1, 1) := by decide +kernel
theorem d_Mo_run_31 : decode M_Mo_run.2.1 31 = .ok (.invokevirtual 345, 3) := by decide +kernel
theorem d_Mo_run_34 : decode M_Mo_run.2.1 34 = .ok (.aload_n 0, 1) := by decide +kernel
theorem d_Mo_run_35 : decode M_Mo_run.2.1 35 = .ok (.invokevirtual 348, 3) := by decide +kernel
theorem d_Mo_run_38 : decode M_Mo_run.2.1 38 = .ok (.aload_n 0, 1) := by decide +kernel
theorem d_Mo_run_39 : decode M_Mo_run.2.1 39 = .ok (.getfield 116, 3) := by decide +kernel
theorem d_Mo_run_42 : decode M_Mo_run.2.1 42 = .ok (.bipush 97, 2) := by decide +kernel
theorem d_Mo_run_44 : decode M_Mo_run.2.1 44 = .ok (.iaload, 1) := by decide +kernel
theorem d_Mo_run_45 : decode M_Mo_run.2.1 45 = .ok (.ireturn, 1) := by decide +kernel
theorem d_Mo_turns_0 : decode M_Mo_turns.2.1 0 = .ok (.aload_n 0, 1) := by decide +kernel
theorem d_Mo_turns_1 : decode M_Mo_turns.2.1 1 = .ok (.getfield 119, 3) := by decide +kernel
theorem d_Mo_turns_4 : decode M_Mo_turns.2.1 4 = .ok (.iload_n 1, 1) := by decide +kernel
theorem d_Mo_turns_5 : decode M_Mo_turns.2.1 5 = .ok (.iaload, 1) := by decide +kernel
theorem d_Mo_turns_6 : decode M_Mo_turns.2.1 6 = .ok (.istore_n 2, 1) := by decide +kernel
theorem d_Mo_turns_7 : decode M_Mo_turns.2.1 7 = .ok (.aload_n 0, 1) := by decide +kernel
theorem d_Mo_turns_8 : decode M_Mo_turns.2.1 8 = .ok (.getfield 119, 3) := by decide +kernel
theorem d_Mo_turns_11 : decode M_Mo_turns.2.1 11 = .ok (.iload_n 1, 1) := by decide +kernel
theorem d_Mo_turns_12 : decode M_Mo_turns.2.1 12 = .ok (.aload_n 0, 1) := by decide +kernel
theorem d_Mo_turns_13 : decode M_Mo_turns.2.1 13 = .ok (.getfield 119, 3) := by decide +kernel
theorem d_Mo_turns_16 : decode M_Mo_turns.2.1 16 = .ok (.bipush 8, 2) := by decide +kernel
theorem d_Mo_turns_18 : decode M_Mo_turns.2.1 18 = .ok (.iload_n 1, 1) := by decide +kernel
theorem d_Mo_turns_19 : decode M_Mo_turns.2.1 19 = .ok (.iadd, 1) := by decide +kernel
theorem d_Mo_turns_20 : decode M_Mo_turns.2.1 20 = .ok (.iaload, 1) := by decide +kernel
theorem d_Mo_turns_21 : decode M_Mo_turns.2.1 21 = .ok (.iastore, 1) := by decide +kernel
theorem d_Mo_turns_22 : decode M_Mo_turns.2.1 22 = .ok (.aload_n 0, 1) := by decide +kernel
theorem d_Mo_turns_23 : decode M_Mo_turns.2.1 23 = .ok (.getfield 119, 3) := by decide +kernel
theorem d_Mo_turns_26 : decode M_Mo_turns.2.1 26 = .ok (.bipush 8, 2) := by decide +kernel
theorem d_Mo_turns_28 : decode M_Mo_turns.2.1 28 = .ok (.iload_n 1, 1) := by decide +kernel
theorem d_Mo_turns_29 : decode M_Mo_turns.2.1 29 = .ok (.iadd, 1) := by decide +kernel
theorem d_Mo_turns_30 : decode M_Mo_turns.2.1 30 = .ok (.iload_n 2, 1) := by decide +kernel
theorem d_Mo_turns_31 : decode M_Mo_turns.2.1 31 = .ok (.iastore, 1) := by decide +kernel
theorem d_Mo_turns_32 : decode M_Mo_turns.2.1 32 = .ok (.return_, 1) := by decide +kernel
theorem d_Mo_turn_0 : decode M_Mo_turn.2.1 0 = .ok (.aload_n 0, 1) := by decide +kernel
theorem d_Mo_turn_1 : decode M_Mo_turn.2.1 1 = .ok (.iload_n 1, 1) := by decide +kernel
theorem d_Mo_turn_2 : decode M_Mo_turn.2.1 2 = .ok (.invokevirtual 327, 3) := by decide +kernel
theorem d_Mo_turn_5 : decode M_Mo_turn.2.1 5 = .ok (.ifCond .ne 5, 3) := by decide +kernel
theorem d_Mo_turn_8 : decode M_Mo_turn.2.1 8 = .ok (.iconst 0, 1) := by decide +kernel
theorem d_Mo_turn_9 : decode M_Mo_turn.2.1 9 = .ok (.ireturn, 1) := by decide +kernel
theorem d_Mo_turn_10 : decode M_Mo_turn.2.1 10 = .ok (.aload_n 0, 1) := by decide +kernel
theorem d_Mo_turn_11 : decode M_Mo_turn.2.1 11 = .ok (.invokevirtual 330, 3) := by decide +kernel
theorem d_Mo_turn_14 : decode M_Mo_turn.2.1 14 = .ok (.aload_n 0, 1) := by decide +kernel
theorem d_Mo_turn_15 : decode M_Mo_turn.2.1 15 = .ok (.iload_n 1, 1) := by decide +kernel
theorem d_Mo_turn_16 : decode M_Mo_turn.2.1 16 = .ok (.invokevirtual 351, 3) := by decide +kernel
theorem d_Mo_turn_19 : decode M_Mo_turn.2.1 19 = .ok (.aload_n 0, 1) := by decide +kernel
theorem d_Mo_turn_20 : decode M_Mo_turn.2.1 20 = .ok (.invokevirtual 348, 3) := by decide +kernel
theorem d_Mo_turn_23 : decode M_Mo_turn.2.1 23 = .ok (.iconst 1, 1) := by decide +kernel
theorem d_Mo_turn_24 : decode M_Mo_turn.2.1 24 = .ok (.ireturn, 1) := by decide +kernel
theorem d_Mo_shake_0 : decode M_Mo_shake.2.1 0 = .ok (.aload_n 0, 1) := by decide +kernel
theorem d_Mo_shake_1 : decode M_Mo_shake.2.1 1 = .ok (.iload_n 1, 1) := by decide +kernel
theorem d_Mo_shake_2 : decode M_Mo_shake.2.1 2 = .ok (.invokevirtual 327, 3) := by decide +kernel
theorem d_Mo_shake_5 : decode M_Mo_shake.2.1 5 = .ok (.ifCond .eq 7, 3) := by decide +kernel
theorem d_Mo_shake_8 : decode M_Mo_shake.2.1 8 = .ok (.iload_n 2, 1) := by decide +kernel
theorem d_Mo_shake_9 : decode M_Mo_shake.2.1 9 = .ok (.ifCond .ge 5, 3) := by decide +kernel
theorem d_Mo_shake_12 : decode M_Mo_shake.2.1 12 = .ok (.iconst (-1), 1) := by decide +kernel
theorem d_Mo_shake_13 : decode M_Mo_shake.2.1 13 = .ok (.ireturn, 1) := by decide +kernel
theorem d_Mo_shake_14 : decode M_Mo_shake.2.1 14 = .ok (.aload_n 0, 1) := by decide +kernel
theorem d_Mo_shake_15 : decode M_Mo_shake.2.1 15 = .ok (.invokevirtual 330, 3) := by decide +kernel
theorem d_Mo_shake_18 : decode M_Mo_shake.2.1 18 = .ok (.iload_n 2, 1) := by decide +kernel
theorem d_Mo_shake_19 : decode M_Mo_shake.2.1 19 = .ok (.aload_n 0, 1) := by decide +kernel
theorem d_Mo_shake_20 : decode M_Mo_shake.2.1 20 = .ok (.getfield 119, 3) := by decide +kernel
theorem d_Mo_shake_23 : decode M_Mo_shake.2.1 23 = .ok (.bipush 8, 2) := by decide +kernel
theorem d_Mo_shake_25 : decode M_Mo_shake.2.1 25 = .ok (.iload_n 1, 1) := by decide +kernel
theorem d_Mo_shake_26 : decode M_Mo_shake.2.1 26 = .ok (.iadd, 1) := by decide +kernel
theorem d_Mo_shake_27 : decode M_Mo_shake.2.1 27 = .ok (.iaload, 1) := by decide +kernel
theorem d_Mo_shake_28 : decode M_Mo_shake.2.1 28 = .ok (.if_icmp .ge 7, 3) := by decide +kernel
theorem d_Mo_shake_31 : decode M_Mo_shake.2.1 31 = .ok (.iload_n 2, 1) := by decide +kernel
theorem d_Mo_shake_32 : decode M_Mo_shake.2.1 32 = .ok (.goto 12, 3) := by decide +kernel
theorem d_Mo_shake_35 : decode M_Mo_shake.2.1 35 = .ok (.aload_n 0, 1) := by decide +kernel
theorem d_Mo_shake_36 : decode M_Mo_shake.2.1 36 = .ok (.getfield 119, 3) := by decide +kernel
theorem d_Mo_shake_39 : decode M_Mo_shake.2.1 39 = .ok (.bipush 8, 2) := by decide +kernel
theorem d_Mo_shake_41 : decode M_Mo_shake.2.1 41 = .ok (.iload_n 1, 1) := by decide +kernel
theorem d_Mo_shake_42 : decode M_Mo_shake.2.1 42 = .ok (.iadd, 1) := by decide +kernel
theorem d_Mo_shake_43 : decode M_Mo_shake.2.1 43 = .ok (.iaload, 1) := by decide +kernel
theorem d_Mo_shake_44 : decode M_Mo_shake.2.1 44 = .ok (.istore_n 3, 1) := by decide +kernel
theorem d_Mo_shake_45 : decode M_Mo_shake.2.1 45 = .ok (.aload_n 0, 1) := by decide +kernel
theorem d_Mo_shake_46 : decode M_Mo_shake.2.1 46 = .ok (.getfield 119, 3) := by decide +kernel
theorem d_Mo_shake_49 : decode M_Mo_shake.2.1 49 = .ok (.bipush 8, 2) := by decide +kernel
theorem d_Mo_shake_51 : decode M_Mo_shake.2.1 51 = .ok (.iload_n 1, 1) := by decide +kernel
theorem d_Mo_shake_52 : decode M_Mo_shake.2.1 52 = .ok (.iadd, 1) := by decide +kernel
theorem d_Mo_shake_53 : decode M_Mo_shake.2.1 53 = .ok (.dup2, 1) := by decide +kernel
theorem d_Mo_shake_54 : decode M_Mo_shake.2.1 54 = .ok (.iaload, 1) := by decide +kernel
theorem d_Mo_shake_55 : decode M_Mo_shake.2.1 55 = .ok (.iload_n 3, 1) := by decide +kernel
theorem d_Mo_shake_56 : decode M_Mo_shake.2.1 56 = .ok (.isub, 1) := by decide +kernel
theorem d_Mo_shake_57 : decode M_Mo_shake.2.1 57 = .ok (.iastore, 1) := by decide +kernel
theorem d_Mo_shake_58 : decode M_Mo_shake.2.1 58 = .ok (.aload_n 0, 1) := by decide +kernel
theorem d_Mo_shake_59 : decode M_Mo_shake.2.1 59 = .ok (.getfield 119, 3) := by decide +kernel
theorem d_Mo_shake_62 : decode M_Mo_shake.2.1 62 = .ok (.iload_n 1, 1) := by decide +kernel
theorem d_Mo_shake_63 : decode M_Mo_shake.2.1 63 = .ok (.dup2, 1) := by decide +kernel
theorem d_Mo_shake_64 : decode M_Mo_shake.2.1 64 = .ok (.iaload, 1) := by decide +kernel
theorem d_Mo_shake_65 : decode M_Mo_shake.2.1 65 = .ok (.iload_n 3, 1) := by decide +kernel
theorem d_Mo_shake_66 : decode M_Mo_shake.2.1 66 = .ok (.iadd, 1) := by decide +kernel
theorem d_Mo_shake_67 : decode M_Mo_shake.2.1 67 = .ok (.iastore, 1) := by decide +kernel
theorem d_Mo_shake_68 : decode M_Mo_shake.2.1 68 = .ok (.aload_n 0, 1) := by decide +kernel
theorem d_Mo_shake_69 : decode M_Mo_shake.2.1 69 = .ok (.invokevirtual 348, 3) := by decide +kernel
theorem d_Mo_shake_72 : decode M_Mo_shake.2.1 72 = .ok (.iload_n 3, 1) := by decide +kernel
theorem d_Mo_shake_73 : decode M_Mo_shake.2.1 73 = .ok (.ireturn, 1) := by decide +kernel
theorem d_Mo_dry_0 : decode M_Mo_dry.2.1 0 = .ok (.aload_n 0, 1) := by decide +kernel
theorem d_Mo_dry_1 : decode M_Mo_dry.2.1 1 = .ok (.iload_n 1, 1) := by decide +kernel
theorem d_Mo_dry_2 : decode M_Mo_dry.2.1 2 = .ok (.invokevirtual 327, 3) := by decide +kernel
theorem d_Mo_dry_5 : decode M_Mo_dry.2.1 5 = .ok (.ifCond .ne 5, 3) := by decide +kernel
theorem d_Mo_dry_8 : decode M_Mo_dry.2.1 8 = .ok (.iconst 0, 1) := by decide +kernel
theorem d_Mo_dry_9 : decode M_Mo_dry.2.1 9 = .ok (.ireturn, 1) := by decide +kernel
theorem d_Mo_dry_10 : decode M_Mo_dry.2.1 10 = .ok (.aload_n 0, 1) := by decide +kernel
theorem d_Mo_dry_11 : decode M_Mo_dry.2.1 11 = .ok (.invokevirtual 330, 3) := by decide +kernel
theorem d_Mo_dry_14 : decode M_Mo_dry.2.1 14 = .ok (.aload_n 0, 1) := by decide +kernel
theorem d_Mo_dry_15 : decode M_Mo_dry.2.1 15 = .ok (.getfield 119, 3) := by decide +kernel
theorem d_Mo_dry_18 : decode M_Mo_dry.2.1 18 = .ok (.bipush 24, 2) := by decide +kernel
theorem d_Mo_dry_20 : decode M_Mo_dry.2.1 20 = .ok (.iload_n 1, 1) := by decide +kernel
theorem d_Mo_dry_21 : decode M_Mo_dry.2.1 21 = .ok (.iadd, 1) := by decide +kernel
theorem d_Mo_dry_22 : decode M_Mo_dry.2.1 22 = .ok (.iload_n 2, 1) := by decide +kernel
theorem d_Mo_dry_23 : decode M_Mo_dry.2.1 23 = .ok (.ifCond .eq 7, 3) := by decide +kernel
theorem d_Mo_dry_26 : decode M_Mo_dry.2.1 26 = .ok (.iconst 1, 1) := by decide +kernel
theorem d_Mo_dry_27 : decode M_Mo_dry.2.1 27 = .ok (.goto 4, 3) := by decide +kernel
theorem d_Mo_dry_30 : decode M_Mo_dry.2.1 30 = .ok (.iconst 0, 1) := by decide +kernel
theorem d_Mo_dry_31 : decode M_Mo_dry.2.1 31 = .ok (.iastore, 1) := by decide +kernel
theorem d_Mo_dry_32 : decode M_Mo_dry.2.1 32 = .ok (.aload_n 0, 1) := by decide +kernel
theorem d_Mo_dry_33 : decode M_Mo_dry.2.1 33 = .ok (.invokevirtual 348, 3) := by decide +kernel
theorem d_Mo_dry_36 : decode M_Mo_dry.2.1 36 = .ok (.iconst 1, 1) := by decide +kernel
theorem d_Mo_dry_37 : decode M_Mo_dry.2.1 37 = .ok (.ireturn, 1) := by decide +kernel
theorem d_Mo_pinch_0 : decode M_Mo_pinch.2.1 0 = .ok (.aload_n 0, 1) := by decide +kernel
theorem d_Mo_pinch_1 : decode M_Mo_pinch.2.1 1 = .ok (.iload_n 1, 1) := by decide +kernel
theorem d_Mo_pinch_2 : decode M_Mo_pinch.2.1 2 = .ok (.invokevirtual 327, 3) := by decide +kernel
theorem d_Mo_pinch_5 : decode M_Mo_pinch.2.1 5 = .ok (.ifCond .eq 27, 3) := by decide +kernel
theorem d_Mo_pinch_8 : decode M_Mo_pinch.2.1 8 = .ok (.iload_n 2, 1) := by decide +kernel
theorem d_Mo_pinch_9 : decode M_Mo_pinch.2.1 9 = .ok (.aload_n 0, 1) := by decide +kernel
theorem d_Mo_pinch_10 : decode M_Mo_pinch.2.1 10 = .ok (.getfield 116, 3) := by decide +kernel
theorem d_Mo_pinch_13 : decode M_Mo_pinch.2.1 13 = .ok (.iload_n 1, 1) := by decide +kernel
theorem d_Mo_pinch_14 : decode M_Mo_pinch.2.1 14 = .ok (.iaload, 1) := by decide +kernel
theorem d_Mo_pinch_15 : decode M_Mo_pinch.2.1 15 = .ok (.ineg, 1) := by decide +kernel
theorem d_Mo_pinch_16 : decode M_Mo_pinch.2.1 16 = .ok (.sipush 9999, 3) := by decide +kernel
theorem d_Mo_pinch_19 : decode M_Mo_pinch.2.1 19 = .ok (.aload_n 0, 1) := by decide +kernel
theorem d_Mo_pinch_20 : decode M_Mo_pinch.2.1 20 = .ok (.getfield 116, 3) := by decide +kernel
theorem d_Mo_pinch_23 : decode M_Mo_pinch.2.1 23 = .ok (.iload_n 1, 1) := by decide +kernel
theorem d_Mo_pinch_24 : decode M_Mo_pinch.2.1 24 = .ok (.iaload, 1) := by decide +kernel
theorem d_Mo_pinch_25 : decode M_Mo_pinch.2.1 25 = .ok (.isub, 1) := by decide +kernel
theorem d_Mo_pinch_26 : decode M_Mo_pinch.2.1 26 = .ok (.invokestatic 302, 3) := by decide +kernel
theorem d_Mo_pinch_29 : decode M_Mo_pinch.2.1 29 = .ok (.ifCond .ne 5, 3) := by decide +kernel
theorem d_Mo_pinch_32 : decode M_Mo_pinch.2.1 32 = .ok (.iconst (-1), 1) := by decide +kernel
theorem d_Mo_pinch_33 : decode M_Mo_pinch.2.1 33 = .ok (.ireturn, 1) := by decide +kernel
theorem d_Mo_pinch_34 : decode M_Mo_pinch.2.1 34 = .ok (.aload_n 0, 1) := by decide +kernel
theorem d_Mo_pinch_35 : decode M_Mo_pinch.2.1 35 = .ok (.invokevirtual 330, 3) := by decide +kernel
theorem d_Mo_pinch_38 : decode M_Mo_pinch.2.1 38 = .ok (.aload_n 0, 1) := by decide +kernel
theorem d_Mo_pinch_39 : decode M_Mo_pinch.2.1 39 = .ok (.getfield 119, 3) := by decide +kernel
theorem d_Mo_pinch_42 : decode M_Mo_pinch.2.1 42 = .ok (.iload_n 1, 1) := by decide +kernel
theorem d_Mo_pinch_43 : decode M_Mo_pinch.2.1 43 = .ok (.dup2, 1) := by decide +kernel
theorem d_Mo_pinch_44 : decode M_Mo_pinch.2.1 44 = .ok (.iaload, 1) := by decide +kernel
theorem d_Mo_pinch_45 : decode M_Mo_pinch.2.1 45 = .ok (.iload_n 2, 1) := by decide +kernel
theorem d_Mo_pinch_46 : decode M_Mo_pinch.2.1 46 = .ok (.iadd, 1) := by decide +kernel
theorem d_Mo_pinch_47 : decode M_Mo_pinch.2.1 47 = .ok (.iastore, 1) := by decide +kernel
theorem d_Mo_pinch_48 : decode M_Mo_pinch.2.1 48 = .ok (.aload_n 0, 1) := by decide +kernel
theorem d_Mo_pinch_49 : decode M_Mo_pinch.2.1 49 = .ok (.getfield 119, 3) := by decide +kernel
theorem d_Mo_pinch_52 : decode M_Mo_pinch.2.1 52 = .ok (.bipush 40, 2) := by decide +kernel
theorem d_Mo_pinch_54 : decode M_Mo_pinch.2.1 54 = .ok (.iload_n 1, 1) := by decide +kernel
theorem d_Mo_pinch_55 : decode M_Mo_pinch.2.1 55 = .ok (.iadd, 1) := by decide +kernel
theorem d_Mo_pinch_56 : decode M_Mo_pinch.2.1 56 = .ok (.dup2, 1) := by decide +kernel
theorem d_Mo_pinch_57 : decode M_Mo_pinch.2.1 57 = .ok (.iaload, 1) := by decide +kernel
theorem d_Mo_pinch_58 : decode M_Mo_pinch.2.1 58 = .ok (.iload_n 2, 1) := by decide +kernel
theorem d_Mo_pinch_59 : decode M_Mo_pinch.2.1 59 = .ok (.iadd, 1) := by decide +kernel
theorem d_Mo_pinch_60 : decode M_Mo_pinch.2.1 60 = .ok (.iastore, 1) := by decide +kernel
theorem d_Mo_pinch_61 : decode M_Mo_pinch.2.1 61 = .ok (.aload_n 0, 1) := by decide +kernel
theorem d_Mo_pinch_62 : decode M_Mo_pinch.2.1 62 = .ok (.invokevirtual 348, 3) := by decide +kernel
theorem d_Mo_pinch_65 : decode M_Mo_pinch.2.1 65 = .ok (.aload_n 0, 1) := by decide +kernel
theorem d_Mo_pinch_66 : decode M_Mo_pinch.2.1 66 = .ok (.getfield 116, 3) := by decide +kernel
theorem d_Mo_pinch_69 : decode M_Mo_pinch.2.1 69 = .ok (.iload_n 1, 1) := by decide +kernel
theorem d_Mo_pinch_70 : decode M_Mo_pinch.2.1 70 = .ok (.iaload, 1) := by decide +kernel
theorem d_Mo_pinch_71 : decode M_Mo_pinch.2.1 71 = .ok (.ireturn, 1) := by decide +kernel
theorem d_Mo_send_0 : decode M_Mo_send.2.1 0 = .ok (.aload_n 0, 1) := by decide +kernel
theorem d_Mo_send_1 : decode M_Mo_send.2.1 1 = .ok (.iload_n 1, 1) := by decide +kernel
theorem d_Mo_send_2 : decode M_Mo_send.2.1 2 = .ok (.invokevirtual 333, 3) := by decide +kernel
theorem d_Mo_send_5 : decode M_Mo_send.2.1 5 = .ok (.ifCond .eq 23, 3) := by decide +kernel
theorem d_Mo_send_8 : decode M_Mo_send.2.1 8 = .ok (.aload_n 0, 1) := by decide +kernel
theorem d_Mo_send_9 : decode M_Mo_send.2.1 9 = .ok (.iload_n 2, 1) := by decide +kernel
theorem d_Mo_send_10 : decode M_Mo_send.2.1 10 = .ok (.invokevirtual 327, 3) := by decide +kernel
theorem d_Mo_send_13 : decode M_Mo_send.2.1 13 = .ok (.ifCond .eq 15, 3) := by decide +kernel
theorem d_Mo_send_16 : decode M_Mo_send.2.1 16 = .ok (.aload_n 0, 1) := by decide +kernel
theorem d_Mo_send_17 : decode M_Mo_send.2.1 17 = .ok (.getfield 116, 3) := by decide +kernel
theorem d_Mo_send_20 : decode M_Mo_send.2.1 20 = .ok (.bipush 16, 2) := by decide +kernel
theorem d_Mo_send_22 : decode M_Mo_send.2.1 22 = .ok (.iload_n 2, 1) := by decide +kernel
theorem d_Mo_send_23 : decode M_Mo_send.2.1 23 = .ok (.iadd, 1) := by decide +kernel
theorem d_Mo_send_24 : decode M_Mo_send.2.1 24 = .ok (.iaload, 1) := by decide +kernel
theorem d_Mo_send_25 : decode M_Mo_send.2.1 25 = .ok (.ifCond .lt 5, 3) := by decide +kernel
theorem d_Mo_send_28 : decode M_Mo_send.2.1 28 = .ok (.iconst 0, 1) := by decide +kernel
theorem d_Mo_send_29 : decode M_Mo_send.2.1 29 = .ok (.ireturn, 1) := by decide +kernel
theorem d_Mo_send_30 : decode M_Mo_send.2.1 30 = .ok (.aload_n 0, 1) := by decide +kernel
theorem d_Mo_send_31 : decode M_Mo_send.2.1 31 = .ok (.invokevirtual 330, 3) := by decide +kernel
theorem d_Mo_send_34 : decode M_Mo_send.2.1 34 = .ok (.aload_n 0, 1) := by decide +kernel
theorem d_Mo_send_35 : decode M_Mo_send.2.1 35 = .ok (.iload_n 1, 1) := by decide +kernel
theorem d_Mo_send_36 : decode M_Mo_send.2.1 36 = .ok (.invokevirtual 339, 3) := by decide +kernel
theorem d_Mo_send_39 : decode M_Mo_send.2.1 39 = .ok (.istore_n 3, 1) := by decide +kernel
theorem d_Mo_send_40 : decode M_Mo_send.2.1 40 = .ok (.iload_n 3, 1) := by decide +kernel
theorem d_Mo_send_41 : decode M_Mo_send.2.1 41 = .ok (.ifCond .ge 5, 3) := by decide +kernel
theorem d_Mo_send_44 : decode M_Mo_send.2.1 44 = .ok (.iconst 0, 1) := by decide +kernel
theorem d_Mo_send_45 : decode M_Mo_send.2.1 45 = .ok (.ireturn, 1) := by decide +kernel
theorem d_Mo_send_46 : decode M_Mo_send.2.1 46 = .ok (.aload_n 0, 1) := by decide +kernel
theorem d_Mo_send_47 : decode M_Mo_send.2.1 47 = .ok (.aload_n 0, 1) := by decide +kernel
theorem d_Mo_send_48 : decode M_Mo_send.2.1 48 = .ok (.iload_n 3, 1) := by decide +kernel
theorem d_Mo_send_49 : decode M_Mo_send.2.1 49 = .ok (.invokevirtual 318, 3) := by decide +kernel
theorem d_Mo_send_52 : decode M_Mo_send.2.1 52 = .ok (.iload_n 2, 1) := by decide +kernel
theorem d_Mo_send_53 : decode M_Mo_send.2.1 53 = .ok (.invokevirtual 315, 3) := by decide +kernel
theorem d_Mo_send_56 : decode M_Mo_send.2.1 56 = .ok (.aload_n 0, 1) := by decide +kernel
theorem d_Mo_send_57 : decode M_Mo_send.2.1 57 = .ok (.invokevirtual 348, 3) := by decide +kernel
theorem d_Mo_send_60 : decode M_Mo_send.2.1 60 = .ok (.iconst 1, 1) := by decide +kernel
theorem d_Mo_send_61 : decode M_Mo_send.2.1 61 = .ok (.ireturn, 1) := by decide +kernel
theorem d_Mo_undo_0 : decode M_Mo_undo.2.1 0 = .ok (.aload_n 0, 1) := by decide +kernel
theorem d_Mo_undo_1 : decode M_Mo_undo.2.1 1 = .ok (.getfield 236, 3) := by decide +kernel
theorem d_Mo_undo_4 : decode M_Mo_undo.2.1 4 = .ok (.ifCond .ne 5, 3) := by decide +kernel
theorem d_Mo_undo_7 : decode M_Mo_undo.2.1 7 = .ok (.iconst 0, 1) := by decide +kernel
theorem d_Mo_undo_8 : decode M_Mo_undo.2.1 8 = .ok (.ireturn, 1) := by decide +kernel
theorem d_Mo_undo_9 : decode M_Mo_undo.2.1 9 = .ok (.aload_n 0, 1) := by decide +kernel
theorem d_Mo_undo_10 : decode M_Mo_undo.2.1 10 = .ok (.dup, 1) := by decide +kernel
theorem d_Mo_undo_11 : decode M_Mo_undo.2.1 11 = .ok (.getfield 236, 3) := by decide +kernel
theorem d_Mo_undo_14 : decode M_Mo_undo.2.1 14 = .ok (.iconst 1, 1) := by decide +kernel
theorem d_Mo_undo_15 : decode M_Mo_undo.2.1 15 = .ok (.isub, 1) := by decide +kernel
theorem d_Mo_undo_16 : decode M_Mo_undo.2.1 16 = .ok (.putfield 236, 3) := by decide +kernel
theorem d_Mo_undo_19 : decode M_Mo_undo.2.1 19 = .ok (.iconst 0, 1) := by decide +kernel
theorem d_Mo_undo_20 : decode M_Mo_undo.2.1 20 = .ok (.istore_n 1, 1) := by decide +kernel
theorem d_Mo_undo_21 : decode M_Mo_undo.2.1 21 = .ok (.iload_n 1, 1) := by decide +kernel
theorem d_Mo_undo_22 : decode M_Mo_undo.2.1 22 = .ok (.bipush 100, 2) := by decide +kernel
theorem d_Mo_undo_24 : decode M_Mo_undo.2.1 24 = .ok (.if_icmp .ge 29, 3) := by decide +kernel
theorem d_Mo_undo_27 : decode M_Mo_undo.2.1 27 = .ok (.aload_n 0, 1) := by decide +kernel
theorem d_Mo_undo_28 : decode M_Mo_undo.2.1 28 = .ok (.getfield 116, 3) := by decide +kernel
theorem d_Mo_undo_31 : decode M_Mo_undo.2.1 31 = .ok (.iload_n 1, 1) := by decide +kernel
theorem d_Mo_undo_32 : decode M_Mo_undo.2.1 32 = .ok (.aload_n 0, 1) := by decide +kernel
theorem d_Mo_undo_33 : decode M_Mo_undo.2.1 33 = .ok (.getfield 122, 3) := by decide +kernel
theorem d_Mo_undo_36 : decode M_Mo_undo.2.1 36 = .ok (.bipush 100, 2) := by decide +kernel
theorem d_Mo_undo_38 : decode M_Mo_undo.2.1 38 = .ok (.aload_n 0, 1) := by decide +kernel
theorem d_Mo_undo_39 : decode M_Mo_undo.2.1 39 = .ok (.getfield 236, 3) := by decide +kernel
theorem d_Mo_undo_42 : decode M_Mo_undo.2.1 42 = .ok (.imul, 1) := by decide +kernel
theorem d_Mo_undo_43 : decode M_Mo_undo.2.1 43 = .ok (.iload_n 1, 1) := by decide +kernel
theorem d_Mo_undo_44 : decode M_Mo_undo.2.1 44 = .ok (.iadd, 1) := by decide +kernel
theorem d_Mo_undo_45 : decode M_Mo_undo.2.1 45 = .ok (.iaload, 1) := by decide +kernel
theorem d_Mo_undo_46 : decode M_Mo_undo.2.1 46 = .ok (.iastore, 1) := by decide +kernel
theorem d_Mo_undo_47 : decode M_Mo_undo.2.1 47 = .ok (.iinc 1 1, 3) := by decide +kernel
theorem d_Mo_undo_50 : decode M_Mo_undo.2.1 50 = .ok (.goto (-29), 3) := by decide +kernel
theorem d_Mo_undo_53 : decode M_Mo_undo.2.1 53 = .ok (.iconst 1, 1) := by decide +kernel
theorem d_Mo_undo_54 : decode M_Mo_undo.2.1 54 = .ok (.ireturn, 1) := by decide +kernel
theorem d_Mo_out_0 : decode M_Mo_out.2.1 0 = .ok (.aload_n 0, 1) := by decide +kernel
theorem d_Mo_out_1 : decode M_Mo_out.2.1 1 = .ok (.iload_n 1, 1) := by decide +kernel
theorem d_Mo_out_2 : decode M_Mo_out.2.1 2 = .ok (.invokevirtual 327, 3) := by decide +kernel
theorem d_Mo_out_5 : decode M_Mo_out.2.1 5 = .ok (.ifCond .ne 5, 3) := by decide +kernel
theorem d_Mo_out_8 : decode M_Mo_out.2.1 8 = .ok (.iconst (-1), 1) := by decide +kernel
theorem d_Mo_out_9 : decode M_Mo_out.2.1 9 = .ok (.ireturn, 1) := by decide +kernel
theorem d_Mo_out_10 : decode M_Mo_out.2.1 10 = .ok (.aload_n 0, 1) := by decide +kernel
theorem d_Mo_out_11 : decode M_Mo_out.2.1 11 = .ok (.invokevirtual 330, 3) := by decide +kernel
theorem d_Mo_out_14 : decode M_Mo_out.2.1 14 = .ok (.aload_n 0, 1) := by decide +kernel
theorem d_Mo_out_15 : decode M_Mo_out.2.1 15 = .ok (.getfield 119, 3) := by decide +kernel
theorem d_Mo_out_18 : decode M_Mo_out.2.1 18 = .ok (.iload_n 1, 1) := by decide +kernel
theorem d_Mo_out_19 : decode M_Mo_out.2.1 19 = .ok (.iaload, 1) := by decide +kernel
theorem d_Mo_out_20 : decode M_Mo_out.2.1 20 = .ok (.ifCond .ne 5, 3) := by decide +kernel
theorem d_Mo_out_23 : decode M_Mo_out.2.1 23 = .ok (.iconst 0, 1) := by decide +kernel
theorem d_Mo_out_24 : decode M_Mo_out.2.1 24 = .ok (.ireturn, 1) := by decide +kernel
theorem d_Mo_out_25 : decode M_Mo_out.2.1 25 = .ok (.iconst 1, 1) := by decide +kernel
theorem d_Mo_out_26 : decode M_Mo_out.2.1 26 = .ok (.istore_n 2, 1) := by decide +kernel
theorem d_Mo_out_27 : decode M_Mo_out.2.1 27 = .ok (.iload_n 2, 1) := by decide +kernel
theorem d_Mo_out_28 : decode M_Mo_out.2.1 28 = .ok (.sipush 2000, 3) := by decide +kernel
theorem d_Mo_out_31 : decode M_Mo_out.2.1 31 = .ok (.if_icmp .gt 30, 3) := by decide +kernel
theorem d_Mo_out_34 : decode M_Mo_out.2.1 34 = .ok (.aload_n 0, 1) := by decide +kernel
theorem d_Mo_out_35 : decode M_Mo_out.2.1 35 = .ok (.getfield 119, 3) := by decide +kernel
theorem d_Mo_out_38 : decode M_Mo_out.2.1 38 = .ok (.iload_n 1, 1) := by decide +kernel
theorem d_Mo_out_39 : decode M_Mo_out.2.1 39 = .ok (.iaload, 1) := by decide +kernel
theorem d_Mo_out_40 : decode M_Mo_out.2.1 40 = .ok (.aload_n 0, 1) := by decide +kernel
theorem d_Mo_out_41 : decode M_Mo_out.2.1 41 = .ok (.iload_n 1, 1) := by decide +kernel
theorem d_Mo_out_42 : decode M_Mo_out.2.1 42 = .ok (.invokevirtual 312, 3) := by decide +kernel
theorem d_Mo_out_45 : decode M_Mo_out.2.1 45 = .ok (.isub, 1) := by decide +kernel
theorem d_Mo_out_46 : decode M_Mo_out.2.1 46 = .ok (.ifCond .ne 5, 3) := by decide +kernel
theorem d_Mo_out_49 : decode M_Mo_out.2.1 49 = .ok (.iload_n 2, 1) := by decide +kernel
theorem d_Mo_out_50 : decode M_Mo_out.2.1 50 = .ok (.ireturn, 1) := by decide +kernel
theorem d_Mo_out_51 : decode M_Mo_out.2.1 51 = .ok (.aload_n 0, 1) := by decide +kernel
theorem d_Mo_out_52 : decode M_Mo_out.2.1 52 = .ok (.invokevirtual 342, 3) := by decide +kernel
theorem d_Mo_out_55 : decode M_Mo_out.2.1 55 = .ok (.iinc 2 1, 3) := by decide +kernel
theorem d_Mo_out_58 : decode M_Mo_out.2.1 58 = .ok (.goto (-31), 3) := by decide +kernel
theorem d_Mo_out_61 : decode M_Mo_out.2.1 61 = .ok (.bipush (-2), 2) := by decide +kernel
theorem d_Mo_out_63 : decode M_Mo_out.2.1 63 = .ok (.ireturn, 1) := by decide +kernel
theorem d_Mo_sleptBy_0 : decode M_Mo_sleptBy.2.1 0 = .ok (.iconst 0, 1) := by decide +kernel
theorem d_Mo_sleptBy_1 : decode M_Mo_sleptBy.2.1 1 = .ok (.istore_n 1, 1) := by decide +kernel
theorem d_Mo_sleptBy_2 : decode M_Mo_sleptBy.2.1 2 = .ok (.iload_n 1, 1) := by decide +kernel
theorem d_Mo_sleptBy_3 : decode M_Mo_sleptBy.2.1 3 = .ok (.sipush 3000, 3) := by decide +kernel
theorem d_Mo_sleptBy_6 : decode M_Mo_sleptBy.2.1 6 = .ok (.if_icmp .gt 31, 3) := by decide +kernel
theorem d_Mo_sleptBy_9 : decode M_Mo_sleptBy.2.1 9 = .ok (.aload_n 0, 1) := by decide +kernel
theorem d_Mo_sleptBy_10 : decode M_Mo_sleptBy.2.1 10 = .ok (.invokevirtual 354, 3) := by decide +kernel
theorem d_Mo_sleptBy_13 : decode M_Mo_sleptBy.2.1 13 = .ok (.aload_n 0, 1) := by decide +kernel
theorem d_Mo_sleptBy_14 : decode M_Mo_sleptBy.2.1 14 = .ok (.getfield 64, 3) := by decide +kernel
theorem d_Mo_sleptBy_17 : decode M_Mo_sleptBy.2.1 17 = .ok (.aload_n 0, 1) := by decide +kernel
theorem d_Mo_sleptBy_18 : decode M_Mo_sleptBy.2.1 18 = .ok (.getfield 215, 3) := by decide +kernel
theorem d_Mo_sleptBy_21 : decode M_Mo_sleptBy.2.1 21 = .ok (.iaload, 1) := by decide +kernel
theorem d_Mo_sleptBy_22 : decode M_Mo_sleptBy.2.1 22 = .ok (.if_icmp .ne 5, 3) := by decide +kernel
theorem d_Mo_sleptBy_25 : decode M_Mo_sleptBy.2.1 25 = .ok (.iload_n 1, 1) := by decide +kernel
theorem d_Mo_sleptBy_26 : decode M_Mo_sleptBy.2.1 26 = .ok (.ireturn, 1) := by decide +kernel
theorem d_Mo_sleptBy_27 : decode M_Mo_sleptBy.2.1 27 = .ok (.aload_n 0, 1) := by decide +kernel
theorem d_Mo_sleptBy_28 : decode M_Mo_sleptBy.2.1 28 = .ok (.invokevirtual 342, 3) := by decide +kernel
theorem d_Mo_sleptBy_31 : decode M_Mo_sleptBy.2.1 31 = .ok (.iinc 1 1, 3) := by decide +kernel
theorem d_Mo_sleptBy_34 : decode M_Mo_sleptBy.2.1 34 = .ok (.goto (-32), 3) := by decide +kernel
theorem d_Mo_sleptBy_37 : decode M_Mo_sleptBy.2.1 37 = .ok (.sipush 5000, 3) := by decide +kernel
theorem d_Mo_sleptBy_40 : decode M_Mo_sleptBy.2.1 40 = .ok (.ireturn, 1) := by decide +kernel
theorem d_Mo_orNot_0 : decode M_Mo_orNot.2.1 0 = .ok (.iload_n 0, 1) := by decide +kernel
theorem d_Mo_orNot_1 : decode M_Mo_orNot.2.1 1 = .ok (.sipush 5000, 3) := by decide +kernel
theorem d_Mo_orNot_4 : decode M_Mo_orNot.2.1 4 = .ok (.if_icmp .ne 8, 3) := by decide +kernel
theorem d_Mo_orNot_7 : decode M_Mo_orNot.2.1 7 = .ok (.bipush (-2), 2) := by decide +kernel
theorem d_Mo_orNot_9 : decode M_Mo_orNot.2.1 9 = .ok (.goto 4, 3) := by decide +kernel
theorem d_Mo_orNot_12 : decode M_Mo_orNot.2.1 12 = .ok (.iload_n 0, 1) := by decide +kernel
theorem d_Mo_orNot_13 : decode M_Mo_orNot.2.1 13 = .ok (.ireturn, 1) := by decide +kernel
theorem d_Mo_slept_0 : decode M_Mo_slept.2.1 0 = .ok (.aload_n 0, 1) := by decide +kernel
theorem d_Mo_slept_1 : decode M_Mo_slept.2.1 1 = .ok (.invokevirtual 330, 3) := by decide +kernel
theorem d_Mo_slept_4 : decode M_Mo_slept.2.1 4 = .ok (.aload_n 0, 1) := by decide +kernel
theorem d_Mo_slept_5 : decode M_Mo_slept.2.1 5 = .ok (.invokevirtual 357, 3) := by decide +kernel
theorem d_Mo_slept_8 : decode M_Mo_slept.2.1 8 = .ok (.invokestatic 360, 3) := by decide +kernel
theorem d_Mo_slept_11 : decode M_Mo_slept.2.1 11 = .ok (.ireturn, 1) := by decide +kernel
theorem d_Mo_dryFirst_0 : decode M_Mo_dryFirst.2.1 0 = .ok (.iload_n 1, 1) := by decide +kernel
theorem d_Mo_dryFirst_1 : decode M_Mo_dryFirst.2.1 1 = .ok (.iconst 0, 1) := by decide +kernel
theorem d_Mo_dryFirst_2 : decode M_Mo_dryFirst.2.1 2 = .ok (.iconst 1, 1) := by decide +kernel
theorem d_Mo_dryFirst_3 : decode M_Mo_dryFirst.2.1 3 = .ok (.invokestatic 302, 3) := by decide +kernel
theorem d_Mo_dryFirst_6 : decode M_Mo_dryFirst.2.1 6 = .ok (.ifCond .ne 5, 3) := by decide +kernel
theorem d_Mo_dryFirst_9 : decode M_Mo_dryFirst.2.1 9 = .ok (.iconst (-1), 1) := by decide +kernel
theorem d_Mo_dryFirst_10 : decode M_Mo_dryFirst.2.1 10 = .ok (.ireturn, 1) := by decide +kernel
theorem d_Mo_dryFirst_11 : decode M_Mo_dryFirst.2.1 11 = .ok (.aload_n 0, 1) := by decide +kernel
theorem d_Mo_dryFirst_12 : decode M_Mo_dryFirst.2.1 12 = .ok (.invokevirtual 330, 3) := by decide +kernel
theorem d_Mo_dryFirst_15 : decode M_Mo_dryFirst.2.1 15 = .ok (.bipush (-2), 2) := by decide +kernel
theorem d_Mo_dryFirst_17 : decode M_Mo_dryFirst.2.1 17 = .ok (.istore_n 2, 1) := by decide +kernel
theorem d_Mo_dryFirst_18 : decode M_Mo_dryFirst.2.1 18 = .ok (.aload_n 0, 1) := by decide +kernel
theorem d_Mo_dryFirst_19 : decode M_Mo_dryFirst.2.1 19 = .ok (.invokevirtual 357, 3) := by decide +kernel
theorem d_Mo_dryFirst_22 : decode M_Mo_dryFirst.2.1 22 = .ok (.istore_n 3, 1) := by decide +kernel
theorem d_Mo_dryFirst_23 : decode M_Mo_dryFirst.2.1 23 = .ok (.iconst 0, 1) := by decide +kernel
theorem d_Mo_dryFirst_24 : decode M_Mo_dryFirst.2.1 24 = .ok (.istore 4, 2) := by decide +kernel
theorem d_Mo_dryFirst_26 : decode M_Mo_dryFirst.2.1 26 = .ok (.iload 4, 2) := by decide +kernel
theorem d_Mo_dryFirst_28 : decode M_Mo_dryFirst.2.1 28 = .ok (.aload_n 0, 1) := by decide +kernel
theorem d_Mo_dryFirst_29 : decode M_Mo_dryFirst.2.1 29 = .ok (.getfield 49, 3) := by decide +kernel
theorem d_Mo_dryFirst_32 : decode M_Mo_dryFirst.2.1 32 = .ok (.aload_n 0, 1) := by decide +kernel
theorem d_Mo_dryFirst_33 : decode M_Mo_dryFirst.2.1 33 = .ok (.getfield 215, 3) := by decide +kernel
theorem d_Mo_dryFirst_36 : decode M_Mo_dryFirst.2.1 36 = .ok (.iaload, 1) := by decide +kernel
theorem d_Mo_dryFirst_37 : decode M_Mo_dryFirst.2.1 37 = .ok (.if_icmp .ge 62, 3) := by decide +kernel
theorem d_Mo_dryFirst_40 : decode M_Mo_dryFirst.2.1 40 = .ok (.aload_n 0, 1) := by decide +kernel
theorem d_Mo_dryFirst_41 : decode M_Mo_dryFirst.2.1 41 = .ok (.invokevirtual 330, 3) := by decide +kernel
theorem d_Mo_dryFirst_44 : decode M_Mo_dryFirst.2.1 44 = .ok (.aload_n 0, 1) := by decide +kernel
theorem d_Mo_dryFirst_45 : decode M_Mo_dryFirst.2.1 45 = .ok (.getfield 119, 3) := by decide +kernel
theorem d_Mo_dryFirst_48 : decode M_Mo_dryFirst.2.1 48 = .ok (.bipush 24, 2) := by decide +kernel
theorem d_Mo_dryFirst_50 : decode M_Mo_dryFirst.2.1 50 = .ok (.iload 4, 2) := by decide +kernel
theorem d_Mo_dryFirst_52 : decode M_Mo_dryFirst.2.1 52 = .ok (.iadd, 1) := by decide +kernel
theorem d_Mo_dryFirst_53 : decode M_Mo_dryFirst.2.1 53 = .ok (.iaload, 1) := by decide +kernel
theorem d_Mo_dryFirst_54 : decode M_Mo_dryFirst.2.1 54 = .ok (.iconst 1, 1) := by decide +kernel
theorem d_Mo_dryFirst_55 : decode M_Mo_dryFirst.2.1 55 = .ok (.if_icmp .ne 6, 3) := by decide +kernel
theorem d_Mo_dryFirst_58 : decode M_Mo_dryFirst.2.1 58 = .ok (.goto 35, 3) := by decide +kernel
theorem d_Mo_dryFirst_61 : decode M_Mo_dryFirst.2.1 61 = .ok (.aload_n 0, 1) := by decide +kernel
theorem d_Mo_dryFirst_62 : decode M_Mo_dryFirst.2.1 62 = .ok (.getfield 119, 3) := by decide +kernel
theorem d_Mo_dryFirst_65 : decode M_Mo_dryFirst.2.1 65 = .ok (.bipush 24, 2) := by decide +kernel
theorem d_Mo_dryFirst_67 : decode M_Mo_dryFirst.2.1 67 = .ok (.iload 4, 2) := by decide +kernel
theorem d_Mo_dryFirst_69 : decode M_Mo_dryFirst.2.1 69 = .ok (.iadd, 1) := by decide +kernel
theorem d_Mo_dryFirst_70 : decode M_Mo_dryFirst.2.1 70 = .ok (.iconst 1, 1) := by decide +kernel
theorem d_Mo_dryFirst_71 : decode M_Mo_dryFirst.2.1 71 = .ok (.iastore, 1) := by decide +kernel
theorem d_Mo_dryFirst_72 : decode M_Mo_dryFirst.2.1 72 = .ok (.aload_n 0, 1) := by decide +kernel
theorem d_Mo_dryFirst_73 : decode M_Mo_dryFirst.2.1 73 = .ok (.invokevirtual 357, 3) := by decide +kernel
theorem d_Mo_dryFirst_76 : decode M_Mo_dryFirst.2.1 76 = .ok (.istore 5, 2) := by decide +kernel
theorem d_Mo_dryFirst_78 : decode M_Mo_dryFirst.2.1 78 = .ok (.iload 5, 2) := by decide +kernel
theorem d_Mo_dryFirst_80 : decode M_Mo_dryFirst.2.1 80 = .ok (.iload_n 3, 1) := by decide +kernel
theorem d_Mo_dryFirst_81 : decode M_Mo_dryFirst.2.1 81 = .ok (.if_icmp .lt 6, 3) := by decide +kernel
theorem d_Mo_dryFirst_84 : decode M_Mo_dryFirst.2.1 84 = .ok (.goto 9, 3) := by decide +kernel
theorem d_Mo_dryFirst_87 : decode M_Mo_dryFirst.2.1 87 = .ok (.iload 4, 2) := by decide +kernel
theorem d_Mo_dryFirst_89 : decode M_Mo_dryFirst.2.1 89 = .ok (.istore_n 2, 1) := by decide +kernel
theorem d_Mo_dryFirst_90 : decode M_Mo_dryFirst.2.1 90 = .ok (.iload 5, 2) := by decide +kernel
theorem d_Mo_dryFirst_92 : decode M_Mo_dryFirst.2.1 92 = .ok (.istore_n 3, 1) := by decide +kernel
theorem d_Mo_dryFirst_93 : decode M_Mo_dryFirst.2.1 93 = .ok (.iinc 4 1, 3) := by decide +kernel
theorem d_Mo_dryFirst_96 : decode M_Mo_dryFirst.2.1 96 = .ok (.goto (-70), 3) := by decide +kernel
theorem d_Mo_dryFirst_99 : decode M_Mo_dryFirst.2.1 99 = .ok (.iload_n 1, 1) := by decide +kernel
theorem d_Mo_dryFirst_100 : decode M_Mo_dryFirst.2.1 100 = .ok (.ifCond .ne 7, 3) := by decide +kernel
theorem d_Mo_dryFirst_103 : decode M_Mo_dryFirst.2.1 103 = .ok (.iload_n 2, 1) := by decide +kernel
theorem d_Mo_dryFirst_104 : decode M_Mo_dryFirst.2.1 104 = .ok (.goto 7, 3) := by decide +kernel
theorem d_Mo_dryFirst_107 : decode M_Mo_dryFirst.2.1 107 = .ok (.iload_n 3, 1) := by decide +kernel
theorem d_Mo_dryFirst_108 : decode M_Mo_dryFirst.2.1 108 = .ok (.invokestatic 360, 3) := by decide +kernel
theorem d_Mo_dryFirst_111 : decode M_Mo_dryFirst.2.1 111 = .ok (.ireturn, 1) := by decide +kernel
theorem d_Mo_dryTwo_0 : decode M_Mo_dryTwo.2.1 0 = .ok (.iload_n 1, 1) := by decide +kernel
theorem d_Mo_dryTwo_1 : decode M_Mo_dryTwo.2.1 1 = .ok (.iconst 0, 1) := by decide +kernel
theorem d_Mo_dryTwo_2 : decode M_Mo_dryTwo.2.1 2 = .ok (.iconst 1, 1) := by decide +kernel
theorem d_Mo_dryTwo_3 : decode M_Mo_dryTwo.2.1 3 = .ok (.invokestatic 302, 3) := by decide +kernel
theorem d_Mo_dryTwo_6 : decode M_Mo_dryTwo.2.1 6 = .ok (.ifCond .ne 5, 3) := by decide +kernel
theorem d_Mo_dryTwo_9 : decode M_Mo_dryTwo.2.1 9 = .ok (.iconst (-1), 1) := by decide +kernel
theorem d_Mo_dryTwo_10 : decode M_Mo_dryTwo.2.1 10 = .ok (.ireturn, 1) := by decide +kernel
theorem d_Mo_dryTwo_11 : decode M_Mo_dryTwo.2.1 11 = .ok (.bipush (-2), 2) := by decide +kernel
theorem d_Mo_dryTwo_13 : decode M_Mo_dryTwo.2.1 13 = .ok (.istore_n 2, 1) := by decide +kernel
theorem d_Mo_dryTwo_14 : decode M_Mo_dryTwo.2.1 14 = .ok (.sipush 5000, 3) := by decide +kernel
theorem d_Mo_dryTwo_17 : decode M_Mo_dryTwo.2.1 17 = .ok (.istore_n 3, 1) := by decide +kernel
theorem d_Mo_dryTwo_18 : decode M_Mo_dryTwo.2.1 18 = .ok (.iconst 0, 1) := by decide +kernel
theorem d_Mo_dryTwo_19 : decode M_Mo_dryTwo.2.1 19 = .ok (.istore 4, 2) := by decide +kernel
theorem d_Mo_dryTwo_21 : decode M_Mo_dryTwo.2.1 21 = .ok (.iload 4, 2) := by decide +kernel
theorem d_Mo_dryTwo_23 : decode M_Mo_dryTwo.2.1 23 = .ok (.aload_n 0, 1) := by decide +kernel
theorem d_Mo_dryTwo_24 : decode M_Mo_dryTwo.2.1 24 = .ok (.getfield 49, 3) := by decide +kernel
theorem d_Mo_dryTwo_27 : decode M_Mo_dryTwo.2.1 27 = .ok (.aload_n 0, 1) := by decide +kernel
theorem d_Mo_dryTwo_28 : decode M_Mo_dryTwo.2.1 28 = .ok (.getfield 215, 3) := by decide +kernel
theorem d_Mo_dryTwo_31 : decode M_Mo_dryTwo.2.1 31 = .ok (.iaload, 1) := by decide +kernel
theorem d_Mo_dryTwo_32 : decode M_Mo_dryTwo.2.1 32 = .ok (.if_icmp .ge 119, 3) := by decide +kernel
theorem d_Mo_dryTwo_35 : decode M_Mo_dryTwo.2.1 35 = .ok (.iload 4, 2) := by decide +kernel
theorem d_Mo_dryTwo_37 : decode M_Mo_dryTwo.2.1 37 = .ok (.iconst 1, 1) := by decide +kernel
theorem d_Mo_dryTwo_38 : decode M_Mo_dryTwo.2.1 38 = .ok (.iadd, 1) := by decide +kernel
theorem d_Mo_dryTwo_39 : decode M_Mo_dryTwo.2.1 39 = .ok (.istore 5, 2) := by decide +kernel
theorem d_Mo_dryTwo_41 : decode M_Mo_dryTwo.2.1 41 = .ok (.iload 5, 2) := by decide +kernel
theorem d_Mo_dryTwo_43 : decode M_Mo_dryTwo.2.1 43 = .ok (.aload_n 0, 1) := by decide +kernel
theorem d_Mo_dryTwo_44 : decode M_Mo_dryTwo.2.1 44 = .ok (.getfield 49, 3) := by decide +kernel
theorem d_Mo_dryTwo_47 : decode M_Mo_dryTwo.2.1 47 = .ok (.aload_n 0, 1) := by decide +kernel
theorem d_Mo_dryTwo_48 : decode M_Mo_dryTwo.2.1 48 = .ok (.getfield 215, 3) := by decide +kernel
theorem d_Mo_dryTwo_51 : decode M_Mo_dryTwo.2.1 51 = .ok (.iaload, 1) := by decide +kernel
theorem d_Mo_dryTwo_52 : decode M_Mo_dryTwo.2.1 52 = .ok (.if_icmp .ge 93, 3) := by decide +kernel
theorem d_Mo_dryTwo_55 : decode M_Mo_dryTwo.2.1 55 = .ok (.aload_n 0, 1) := by decide +kernel
theorem d_Mo_dryTwo_56 : decode M_Mo_dryTwo.2.1 56 = .ok (.invokevirtual 330, 3) := by decide +kernel
theorem d_Mo_dryTwo_59 : decode M_Mo_dryTwo.2.1 59 = .ok (.aload_n 0, 1) := by decide +kernel
theorem d_Mo_dryTwo_60 : decode M_Mo_dryTwo.2.1 60 = .ok (.getfield 119, 3) := by decide +kernel
theorem d_Mo_dryTwo_63 : decode M_Mo_dryTwo.2.1 63 = .ok (.bipush 24, 2) := by decide +kernel
theorem d_Mo_dryTwo_65 : decode M_Mo_dryTwo.2.1 65 = .ok (.iload 4, 2) := by decide +kernel
theorem d_Mo_dryTwo_67 : decode M_Mo_dryTwo.2.1 67 = .ok (.iadd, 1) := by decide +kernel
theorem d_Mo_dryTwo_68 : decode M_Mo_dryTwo.2.1 68 = .ok (.iaload, 1) := by decide +kernel
theorem d_Mo_dryTwo_69 : decode M_Mo_dryTwo.2.1 69 = .ok (.iconst 1, 1) := by decide +kernel
theorem d_Mo_dryTwo_70 : decode M_Mo_dryTwo.2.1 70 = .ok (.if_icmp .eq 69, 3) := by decide +kernel
theorem d_Mo_dryTwo_73 : decode M_Mo_dryTwo.2.1 73 = .ok (.aload_n 0, 1) := by decide +kernel
theorem d_Mo_dryTwo_74 : decode M_Mo_dryTwo.2.1 74 = .ok (.getfield 119, 3) := by decide +kernel
theorem d_Mo_dryTwo_77 : decode M_Mo_dryTwo.2.1 77 = .ok (.bipush 24, 2) := by decide +kernel
theorem d_Mo_dryTwo_79 : decode M_Mo_dryTwo.2.1 79 = .ok (.iload 5, 2) := by decide +kernel
theorem d_Mo_dryTwo_81 : decode M_Mo_dryTwo.2.1 81 = .ok (.iadd, 1) := by decide +kernel
theorem d_Mo_dryTwo_82 : decode M_Mo_dryTwo.2.1 82 = .ok (.iaload, 1) := by decide +kernel
theorem d_Mo_dryTwo_83 : decode M_Mo_dryTwo.2.1 83 = .ok (.iconst 1, 1) := by decide +kernel
theorem d_Mo_dryTwo_84 : decode M_Mo_dryTwo.2.1 84 = .ok (.if_icmp .ne 6, 3) := by decide +kernel
theorem d_Mo_dryTwo_87 : decode M_Mo_dryTwo.2.1 87 = .ok (.goto 52, 3) := by decide +kernel
theorem d_Mo_dryTwo_90 : decode M_Mo_dryTwo.2.1 90 = .ok (.aload_n 0, 1) := by decide +kernel
theorem d_Mo_dryTwo_91 : decode M_Mo_dryTwo.2.1 91 = .ok (.getfield 119, 3) := by decide +kernel
theorem d_Mo_dryTwo_94 : decode M_Mo_dryTwo.2.1 94 = .ok (.bipush 24, 2) := by decide +kernel
theorem d_Mo_dryTwo_96 : decode M_Mo_dryTwo.2.1 96 = .ok (.iload 4, 2) := by decide +kernel
theorem d_Mo_dryTwo_98 : decode M_Mo_dryTwo.2.1 98 = .ok (.iadd, 1) := by decide +kernel
theorem d_Mo_dryTwo_99 : decode M_Mo_dryTwo.2.1 99 = .ok (.iconst 1, 1) := by decide +kernel
theorem d_Mo_dryTwo_100 : decode M_Mo_dryTwo.2.1 100 = .ok (.iastore, 1) := by decide +kernel
theorem d_Mo_dryTwo_101 : decode M_Mo_dryTwo.2.1 101 = .ok (.aload_n 0, 1) := by decide +kernel
theorem d_Mo_dryTwo_102 : decode M_Mo_dryTwo.2.1 102 = .ok (.getfield 119, 3) := by decide +kernel
theorem d_Mo_dryTwo_105 : decode M_Mo_dryTwo.2.1 105 = .ok (.bipush 24, 2) := by decide +kernel
theorem d_Mo_dryTwo_107 : decode M_Mo_dryTwo.2.1 107 = .ok (.iload 5, 2) := by decide +kernel
theorem d_Mo_dryTwo_109 : decode M_Mo_dryTwo.2.1 109 = .ok (.iadd, 1) := by decide +kernel
theorem d_Mo_dryTwo_110 : decode M_Mo_dryTwo.2.1 110 = .ok (.iconst 1, 1) := by decide +kernel
theorem d_Mo_dryTwo_111 : decode M_Mo_dryTwo.2.1 111 = .ok (.iastore, 1) := by decide +kernel
theorem d_Mo_dryTwo_112 : decode M_Mo_dryTwo.2.1 112 = .ok (.aload_n 0, 1) := by decide +kernel
theorem d_Mo_dryTwo_113 : decode M_Mo_dryTwo.2.1 113 = .ok (.invokevirtual 357, 3) := by decide +kernel
theorem d_Mo_dryTwo_116 : decode M_Mo_dryTwo.2.1 116 = .ok (.istore 6, 2) := by decide +kernel
theorem d_Mo_dryTwo_118 : decode M_Mo_dryTwo.2.1 118 = .ok (.iload 6, 2) := by decide +kernel
theorem d_Mo_dryTwo_120 : decode M_Mo_dryTwo.2.1 120 = .ok (.iload_n 3, 1) := by decide +kernel
theorem d_Mo_dryTwo_121 : decode M_Mo_dryTwo.2.1 121 = .ok (.if_icmp .lt 6, 3) := by decide +kernel
theorem d_Mo_dryTwo_124 : decode M_Mo_dryTwo.2.1 124 = .ok (.goto 15, 3) := by decide +kernel
theorem d_Mo_dryTwo_127 : decode M_Mo_dryTwo.2.1 127 = .ok (.bipush 10, 2) := by decide +kernel
theorem d_Mo_dryTwo_129 : decode M_Mo_dryTwo.2.1 129 = .ok (.iload 4, 2) := by decide +kernel
theorem d_Mo_dryTwo_131 : decode M_Mo_dryTwo.2.1 131 = .ok (.imul, 1) := by decide +kernel
theorem d_Mo_dryTwo_132 : decode M_Mo_dryTwo.2.1 132 = .ok (.iload 5, 2) := by decide +kernel
theorem d_Mo_dryTwo_134 : decode M_Mo_dryTwo.2.1 134 = .ok (.iadd, 1) := by decide +kernel
theorem d_Mo_dryTwo_135 : decode M_Mo_dryTwo.2.1 135 = .ok (.istore_n 2, 1) := by decide +kernel
theorem d_Mo_dryTwo_136 : decode M_Mo_dryTwo.2.1 136 = .ok (.iload 6, 2) := by decide +kernel
theorem d_Mo_dryTwo_138 : decode M_Mo_dryTwo.2.1 138 = .ok (.istore_n 3, 1) := by decide +kernel
theorem d_Mo_dryTwo_139 : decode M_Mo_dryTwo.2.1 139 = .ok (.iinc 5 1, 3) := by decide +kernel
theorem d_Mo_dryTwo_142 : decode M_Mo_dryTwo.2.1 142 = .ok (.goto (-101), 3) := by decide +kernel
theorem d_Mo_dryTwo_145 : decode M_Mo_dryTwo.2.1 145 = .ok (.iinc 4 1, 3) := by decide +kernel
theorem d_Mo_dryTwo_148 : decode M_Mo_dryTwo.2.1 148 = .ok (.goto (-127), 3) := by decide +kernel
theorem d_Mo_dryTwo_151 : decode M_Mo_dryTwo.2.1 151 = .ok (.iload_n 1, 1) := by decide +kernel
theorem d_Mo_dryTwo_152 : decode M_Mo_dryTwo.2.1 152 = .ok (.ifCond .ne 7, 3) := by decide +kernel
theorem d_Mo_dryTwo_155 : decode M_Mo_dryTwo.2.1 155 = .ok (.iload_n 2, 1) := by decide +kernel
theorem d_Mo_dryTwo_156 : decode M_Mo_dryTwo.2.1 156 = .ok (.goto 7, 3) := by decide +kernel
theorem d_Mo_dryTwo_159 : decode M_Mo_dryTwo.2.1 159 = .ok (.iload_n 3, 1) := by decide +kernel
theorem d_Mo_dryTwo_160 : decode M_Mo_dryTwo.2.1 160 = .ok (.invokestatic 360, 3) := by decide +kernel
theorem d_Mo_dryTwo_163 : decode M_Mo_dryTwo.2.1 163 = .ok (.ireturn, 1) := by decide +kernel
theorem d_Mo_bribe_0 : decode M_Mo_bribe.2.1 0 = .ok (.aload_n 0, 1) := by decide +kernel
theorem d_Mo_bribe_1 : decode M_Mo_bribe.2.1 1 = .ok (.iload_n 1, 1) := by decide +kernel
theorem d_Mo_bribe_2 : decode M_Mo_bribe.2.1 2 = .ok (.invokevirtual 333, 3) := by decide +kernel
theorem d_Mo_bribe_5 : decode M_Mo_bribe.2.1 5 = .ok (.ifCond .eq 14, 3) := by decide +kernel
theorem d_Mo_bribe_8 : decode M_Mo_bribe.2.1 8 = .ok (.iload_n 2, 1) := by decide +kernel
theorem d_Mo_bribe_9 : decode M_Mo_bribe.2.1 9 = .ok (.iconst 1, 1) := by decide +kernel
theorem d_Mo_bribe_10 : decode M_Mo_bribe.2.1 10 = .ok (.sipush 1000, 3) := by decide +kernel
theorem d_Mo_bribe_13 : decode M_Mo_bribe.2.1 13 = .ok (.invokestatic 302, 3) := by decide +kernel
theorem d_Mo_bribe_16 : decode M_Mo_bribe.2.1 16 = .ok (.ifCond .ne 5, 3) := by decide +kernel
theorem d_Mo_bribe_19 : decode M_Mo_bribe.2.1 19 = .ok (.iconst (-1), 1) := by decide +kernel
theorem d_Mo_bribe_20 : decode M_Mo_bribe.2.1 20 = .ok (.ireturn, 1) := by decide +kernel
theorem d_Mo_bribe_21 : decode M_Mo_bribe.2.1 21 = .ok (.aload_n 0, 1) := by decide +kernel
theorem d_Mo_bribe_22 : decode M_Mo_bribe.2.1 22 = .ok (.invokevirtual 330, 3) := by decide +kernel
theorem d_Mo_bribe_25 : decode M_Mo_bribe.2.1 25 = .ok (.aload_n 0, 1) := by decide +kernel
theorem d_Mo_bribe_26 : decode M_Mo_bribe.2.1 26 = .ok (.iload_n 1, 1) := by decide +kernel
theorem d_Mo_bribe_27 : decode M_Mo_bribe.2.1 27 = .ok (.invokevirtual 336, 3) := by decide +kernel
theorem d_Mo_bribe_30 : decode M_Mo_bribe.2.1 30 = .ok (.istore_n 3, 1) := by decide +kernel
theorem d_Mo_bribe_31 : decode M_Mo_bribe.2.1 31 = .ok (.iload_n 3, 1) := by decide +kernel
theorem d_Mo_bribe_32 : decode M_Mo_bribe.2.1 32 = .ok (.ifCond .ge 5, 3) := by decide +kernel
theorem d_Mo_bribe_35 : decode M_Mo_bribe.2.1 35 = .ok (.iconst (-1), 1) := by decide +kernel
theorem d_Mo_bribe_36 : decode M_Mo_bribe.2.1 36 = .ok (.ireturn, 1) := by decide +kernel
theorem d_Mo_bribe_37 : decode M_Mo_bribe.2.1 37 = .ok (.aload_n 0, 1) := by decide +kernel
theorem d_Mo_bribe_38 : decode M_Mo_bribe.2.1 38 = .ok (.getfield 119, 3) := by decide +kernel
theorem d_Mo_bribe_41 : decode M_Mo_bribe.2.1 41 = .ok (.iload_n 3, 1) := by decide +kernel
theorem d_Mo_bribe_42 : decode M_Mo_bribe.2.1 42 = .ok (.iaload, 1) := by decide +kernel
theorem d_Mo_bribe_43 : decode M_Mo_bribe.2.1 43 = .ok (.istore 4, 2) := by decide +kernel
theorem d_Mo_bribe_45 : decode M_Mo_bribe.2.1 45 = .ok (.aload_n 0, 1) := by decide +kernel
theorem d_Mo_bribe_46 : decode M_Mo_bribe.2.1 46 = .ok (.getfield 119, 3) := by decide +kernel
theorem d_Mo_bribe_49 : decode M_Mo_bribe.2.1 49 = .ok (.bipush 72, 2) := by decide +kernel
theorem d_Mo_bribe_51 : decode M_Mo_bribe.2.1 51 = .ok (.iload_n 1, 1) := by decide +kernel
theorem d_Mo_bribe_52 : decode M_Mo_bribe.2.1 52 = .ok (.iadd, 1) := by decide +kernel
theorem d_Mo_bribe_53 : decode M_Mo_bribe.2.1 53 = .ok (.iaload, 1) := by decide +kernel
theorem d_Mo_bribe_54 : decode M_Mo_bribe.2.1 54 = .ok (.istore 5, 2) := by decide +kernel
theorem d_Mo_bribe_56 : decode M_Mo_bribe.2.1 56 = .ok (.iconst 0, 1) := by decide +kernel
theorem d_Mo_bribe_57 : decode M_Mo_bribe.2.1 57 = .ok (.istore 6, 2) := by decide +kernel
theorem d_Mo_bribe_59 : decode M_Mo_bribe.2.1 59 = .ok (.iload 6, 2) := by decide +kernel
theorem d_Mo_bribe_61 : decode M_Mo_bribe.2.1 61 = .ok (.iload 4, 2) := by decide +kernel
theorem d_Mo_bribe_63 : decode M_Mo_bribe.2.1 63 = .ok (.if_icmp .gt 74, 3) := by decide +kernel
theorem d_Mo_bribe_66 : decode M_Mo_bribe.2.1 66 = .ok (.aload_n 0, 1) := by decide +kernel
theorem d_Mo_bribe_67 : decode M_Mo_bribe.2.1 67 = .ok (.invokevirtual 330, 3) := by decide +kernel
theorem d_Mo_bribe_70 : decode M_Mo_bribe.2.1 70 = .ok (.aload_n 0, 1) := by decide +kernel
theorem d_Mo_bribe_71 : decode M_Mo_bribe.2.1 71 = .ok (.getfield 119, 3) := by decide +kernel
theorem d_Mo_bribe_74 : decode M_Mo_bribe.2.1 74 = .ok (.iload_n 3, 1) := by decide +kernel
theorem d_Mo_bribe_75 : decode M_Mo_bribe.2.1 75 = .ok (.dup2, 1) := by decide +kernel
theorem d_Mo_bribe_76 : decode M_Mo_bribe.2.1 76 = .ok (.iaload, 1) := by decide +kernel
theorem d_Mo_bribe_77 : decode M_Mo_bribe.2.1 77 = .ok (.iload 6, 2) := by decide +kernel
theorem d_Mo_bribe_79 : decode M_Mo_bribe.2.1 79 = .ok (.isub, 1) := by decide +kernel
theorem d_Mo_bribe_80 : decode M_Mo_bribe.2.1 80 = .ok (.iastore, 1) := by decide +kernel
theorem d_Mo_bribe_81 : decode M_Mo_bribe.2.1 81 = .ok (.iconst 0, 1) := by decide +kernel
theorem d_Mo_bribe_82 : decode M_Mo_bribe.2.1 82 = .ok (.istore 7, 2) := by decide +kernel
theorem d_Mo_bribe_84 : decode M_Mo_bribe.2.1 84 = .ok (.iload 7, 2) := by decide +kernel
theorem d_Mo_bribe_86 : decode M_Mo_bribe.2.1 86 = .ok (.iload_n 2, 1) := by decide +kernel
theorem d_Mo_bribe_87 : decode M_Mo_bribe.2.1 87 = .ok (.if_icmp .ge 27, 3) := by decide +kernel
theorem d_Mo_bribe_90 : decode M_Mo_bribe.2.1 90 = .ok (.aload_n 0, 1) := by decide +kernel
theorem d_Mo_bribe_91 : decode M_Mo_bribe.2.1 91 = .ok (.getfield 119, 3) := by decide +kernel
theorem d_Mo_bribe_94 : decode M_Mo_bribe.2.1 94 = .ok (.bipush 72, 2) := by decide +kernel
theorem d_Mo_bribe_96 : decode M_Mo_bribe.2.1 96 = .ok (.iload_n 1, 1) := by decide +kernel
theorem d_Mo_bribe_97 : decode M_Mo_bribe.2.1 97 = .ok (.iadd, 1) := by decide +kernel
theorem d_Mo_bribe_98 : decode M_Mo_bribe.2.1 98 = .ok (.iaload, 1) := by decide +kernel
theorem d_Mo_bribe_99 : decode M_Mo_bribe.2.1 99 = .ok (.iload 5, 2) := by decide +kernel
theorem d_Mo_bribe_101 : decode M_Mo_bribe.2.1 101 = .ok (.if_icmp .ne 13, 3) := by decide +kernel
theorem d_Mo_bribe_104 : decode M_Mo_bribe.2.1 104 = .ok (.aload_n 0, 1) := by decide +kernel
theorem d_Mo_bribe_105 : decode M_Mo_bribe.2.1 105 = .ok (.invokevirtual 342, 3) := by decide +kernel
theorem d_Mo_bribe_108 : decode M_Mo_bribe.2.1 108 = .ok (.iinc 7 1, 3) := by decide +kernel
theorem d_Mo_bribe_111 : decode M_Mo_bribe.2.1 111 = .ok (.goto (-27), 3) := by decide +kernel
theorem d_Mo_bribe_114 : decode M_Mo_bribe.2.1 114 = .ok (.aload_n 0, 1) := by decide +kernel
theorem d_Mo_bribe_115 : decode M_Mo_bribe.2.1 115 = .ok (.getfield 119, 3) := by decide +kernel
theorem d_Mo_bribe_118 : decode M_Mo_bribe.2.1 118 = .ok (.bipush 72, 2) := by decide +kernel
theorem d_Mo_bribe_120 : decode M_Mo_bribe.2.1 120 = .ok (.iload_n 1, 1) := by decide +kernel
theorem d_Mo_bribe_121 : decode M_Mo_bribe.2.1 121 = .ok (.iadd, 1) := by decide +kernel
theorem d_Mo_bribe_122 : decode M_Mo_bribe.2.1 122 = .ok (.iaload, 1) := by decide +kernel
theorem d_Mo_bribe_123 : decode M_Mo_bribe.2.1 123 = .ok (.iload 5, 2) := by decide +kernel
theorem d_Mo_bribe_125 : decode M_Mo_bribe.2.1 125 = .ok (.if_icmp .le 6, 3) := by decide +kernel
theorem d_Mo_bribe_128 : decode M_Mo_bribe.2.1 128 = .ok (.iload 6, 2) := by decide +kernel
theorem d_Mo_bribe_130 : decode M_Mo_bribe.2.1 130 = .ok (.ireturn, 1) := by decide +kernel
theorem d_Mo_bribe_131 : decode M_Mo_bribe.2.1 131 = .ok (.iinc 6 1, 3) := by decide +kernel
theorem d_Mo_bribe_134 : decode M_Mo_bribe.2.1 134 = .ok (.goto (-75), 3) := by decide +kernel
theorem d_Mo_bribe_137 : decode M_Mo_bribe.2.1 137 = .ok (.bipush (-2), 2) := by decide +kernel
theorem d_Mo_bribe_139 : decode M_Mo_bribe.2.1 139 = .ok (.ireturn, 1) := by decide +kernel
theorem d_Mo_weak_0 : decode M_Mo_weak.2.1 0 = .ok (.iload_n 1, 1) := by decide +kernel
theorem d_Mo_weak_1 : decode M_Mo_weak.2.1 1 = .ok (.iconst 1, 1) := by decide +kernel
theorem d_Mo_weak_2 : decode M_Mo_weak.2.1 2 = .ok (.sipush 2000, 3) := by decide +kernel
theorem d_Mo_weak_5 : decode M_Mo_weak.2.1 5 = .ok (.invokestatic 302, 3) := by decide +kernel
theorem d_Mo_weak_8 : decode M_Mo_weak.2.1 8 = .ok (.ifCond .eq 12, 3) := by decide +kernel
theorem d_Mo_weak_11 : decode M_Mo_weak.2.1 11 = .ok (.iload_n 2, 1) := by decide +kernel
theorem d_Mo_weak_12 : decode M_Mo_weak.2.1 12 = .ok (.iconst 0, 1) := by decide +kernel
theorem d_Mo_weak_13 : decode M_Mo_weak.2.1 13 = .ok (.iconst 1, 1) := by decide +kernel
theorem d_Mo_weak_14 : decode M_Mo_weak.2.1 14 = .ok (.invokestatic 302, 3) := by decide +kernel
theorem d_Mo_weak_17 : decode M_Mo_weak.2.1 17 = .ok (.ifCond .ne 5, 3) := by decide +kernel
theorem d_Mo_weak_20 : decode M_Mo_weak.2.1 20 = .ok (.iconst (-1), 1) := by decide +kernel
theorem d_Mo_weak_21 : decode M_Mo_weak.2.1 21 = .ok (.ireturn, 1) := by decide +kernel
theorem d_Mo_weak_22 : decode M_Mo_weak.2.1 22 = .ok (.aload_n 0, 1) := by decide +kernel
theorem d_Mo_weak_23 : decode M_Mo_weak.2.1 23 = .ok (.invokevirtual 330, 3) := by decide +kernel
theorem d_Mo_weak_26 : decode M_Mo_weak.2.1 26 = .ok (.iconst 0, 1) := by decide +kernel
theorem d_Mo_weak_27 : decode M_Mo_weak.2.1 27 = .ok (.istore_n 3, 1) := by decide +kernel
theorem d_Mo_weak_28 : decode M_Mo_weak.2.1 28 = .ok (.bipush (-2), 2) := by decide +kernel
theorem d_Mo_weak_30 : decode M_Mo_weak.2.1 30 = .ok (.istore 4, 2) := by decide +kernel
theorem d_Mo_weak_32 : decode M_Mo_weak.2.1 32 = .ok (.iconst 0, 1) := by decide +kernel
theorem d_Mo_weak_33 : decode M_Mo_weak.2.1 33 = .ok (.istore 5, 2) := by decide +kernel
theorem d_Mo_weak_35 : decode M_Mo_weak.2.1 35 = .ok (.iload 5, 2) := by decide +kernel
theorem d_Mo_weak_37 : decode M_Mo_weak.2.1 37 = .ok (.iload_n 1, 1) := by decide +kernel
theorem d_Mo_weak_38 : decode M_Mo_weak.2.1 38 = .ok (.if_icmp .ge 35, 3) := by decide +kernel
theorem d_Mo_weak_41 : decode M_Mo_weak.2.1 41 = .ok (.aload_n 0, 1) := by decide +kernel
theorem d_Mo_weak_42 : decode M_Mo_weak.2.1 42 = .ok (.invokevirtual 342, 3) := by decide +kernel
theorem d_Mo_weak_45 : decode M_Mo_weak.2.1 45 = .ok (.aload_n 0, 1) := by decide +kernel
theorem d_Mo_weak_46 : decode M_Mo_weak.2.1 46 = .ok (.invokevirtual 363, 3) := by decide +kernel
theorem d_Mo_weak_49 : decode M_Mo_weak.2.1 49 = .ok (.ifCond .ne 6, 3) := by decide +kernel
theorem d_Mo_weak_52 : decode M_Mo_weak.2.1 52 = .ok (.goto 15, 3) := by decide +kernel
theorem d_Mo_weak_55 : decode M_Mo_weak.2.1 55 = .ok (.iinc 3 1, 3) := by decide +kernel
theorem d_Mo_weak_58 : decode M_Mo_weak.2.1 58 = .ok (.iload 4, 2) := by decide +kernel
theorem d_Mo_weak_60 : decode M_Mo_weak.2.1 60 = .ok (.ifCond .ge 7, 3) := by decide +kernel
theorem d_Mo_weak_63 : decode M_Mo_weak.2.1 63 = .ok (.iload 5, 2) := by decide +kernel
theorem d_Mo_weak_65 : decode M_Mo_weak.2.1 65 = .ok (.istore 4, 2) := by decide +kernel
theorem d_Mo_weak_67 : decode M_Mo_weak.2.1 67 = .ok (.iinc 5 1, 3) := by decide +kernel
theorem d_Mo_weak_70 : decode M_Mo_weak.2.1 70 = .ok (.goto (-35), 3) := by decide +kernel
theorem d_Mo_weak_73 : decode M_Mo_weak.2.1 73 = .ok (.iload_n 2, 1) := by decide +kernel
theorem d_Mo_weak_74 : decode M_Mo_weak.2.1 74 = .ok (.ifCond .ne 7, 3) := by decide +kernel
theorem d_Mo_weak_77 : decode M_Mo_weak.2.1 77 = .ok (.iload_n 3, 1) := by decide +kernel
theorem d_Mo_weak_78 : decode M_Mo_weak.2.1 78 = .ok (.goto 5, 3) := by decide +kernel
theorem d_Mo_weak_81 : decode M_Mo_weak.2.1 81 = .ok (.iload 4, 2) := by decide +kernel
theorem d_Mo_weak_83 : decode M_Mo_weak.2.1 83 = .ok (.ireturn, 1) := by decide +kernel
theorem d_Mo_never_0 : decode M_Mo_never.2.1 0 = .ok (.iload_n 1, 1) := by decide +kernel
theorem d_Mo_never_1 : decode M_Mo_never.2.1 1 = .ok (.iconst 1, 1) := by decide +kernel
theorem d_Mo_never_2 : decode M_Mo_never.2.1 2 = .ok (.sipush 2000, 3) := by decide +kernel
theorem d_Mo_never_5 : decode M_Mo_never.2.1 5 = .ok (.invokestatic 302, 3) := by decide +kernel
theorem d_Mo_never_8 : decode M_Mo_never.2.1 8 = .ok (.ifCond .ne 5, 3) := by decide +kernel
theorem d_Mo_never_11 : decode M_Mo_never.2.1 11 = .ok (.iconst (-1), 1) := by decide +kernel
theorem d_Mo_never_12 : decode M_Mo_never.2.1 12 = .ok (.ireturn, 1) := by decide +kernel
theorem d_Mo_never_13 : decode M_Mo_never.2.1 13 = .ok (.aload_n 0, 1) := by decide +kernel
theorem d_Mo_never_14 : decode M_Mo_never.2.1 14 = .ok (.invokevirtual 330, 3) := by decide +kernel
theorem d_Mo_never_17 : decode M_Mo_never.2.1 17 = .ok (.aload_n 0, 1) := by decide +kernel
theorem d_Mo_never_18 : decode M_Mo_never.2.1 18 = .ok (.iload_n 1, 1) := by decide +kernel
theorem d_Mo_never_19 : decode M_Mo_never.2.1 19 = .ok (.invokevirtual 345, 3) := by decide +kernel
theorem d_Mo_never_22 : decode M_Mo_never.2.1 22 = .ok (.iconst 0, 1) := by decide +kernel
theorem d_Mo_never_23 : decode M_Mo_never.2.1 23 = .ok (.istore_n 2, 1) := by decide +kernel
theorem d_Mo_never_24 : decode M_Mo_never.2.1 24 = .ok (.iconst 0, 1) := by decide +kernel
theorem d_Mo_never_25 : decode M_Mo_never.2.1 25 = .ok (.istore_n 3, 1) := by decide +kernel
theorem d_Mo_never_26 : decode M_Mo_never.2.1 26 = .ok (.iload_n 3, 1) := by decide +kernel
theorem d_Mo_never_27 : decode M_Mo_never.2.1 27 = .ok (.aload_n 0, 1) := by decide +kernel
theorem d_Mo_never_28 : decode M_Mo_never.2.1 28 = .ok (.getfield 64, 3) := by decide +kernel
theorem d_Mo_never_31 : decode M_Mo_never.2.1 31 = .ok (.aload_n 0, 1) := by decide +kernel
theorem d_Mo_never_32 : decode M_Mo_never.2.1 32 = .ok (.getfield 215, 3) := by decide +kernel
theorem d_Mo_never_35 : decode M_Mo_never.2.1 35 = .ok (.iaload, 1) := by decide +kernel
theorem d_Mo_never_36 : decode M_Mo_never.2.1 36 = .ok (.if_icmp .ge 36, 3) := by decide +kernel
theorem d_Mo_never_39 : decode M_Mo_never.2.1 39 = .ok (.aload_n 0, 1) := by decide +kernel
theorem d_Mo_never_40 : decode M_Mo_never.2.1 40 = .ok (.getfield 119, 3) := by decide +kernel
theorem d_Mo_never_43 : decode M_Mo_never.2.1 43 = .ok (.bipush 48, 2) := by decide +kernel
theorem d_Mo_never_45 : decode M_Mo_never.2.1 45 = .ok (.iload_n 3, 1) := by decide +kernel
theorem d_Mo_never_46 : decode M_Mo_never.2.1 46 = .ok (.iadd, 1) := by decide +kernel
theorem d_Mo_never_47 : decode M_Mo_never.2.1 47 = .ok (.iaload, 1) := by decide +kernel
theorem d_Mo_never_48 : decode M_Mo_never.2.1 48 = .ok (.aload_n 0, 1) := by decide +kernel
theorem d_Mo_never_49 : decode M_Mo_never.2.1 49 = .ok (.getfield 116, 3) := by decide +kernel
theorem d_Mo_never_52 : decode M_Mo_never.2.1 52 = .ok (.bipush 48, 2) := by decide +kernel
theorem d_Mo_never_54 : decode M_Mo_never.2.1 54 = .ok (.iload_n 3, 1) := by decide +kernel
theorem d_Mo_never_55 : decode M_Mo_never.2.1 55 = .ok (.iadd, 1) := by decide +kernel
theorem d_Mo_never_56 : decode M_Mo_never.2.1 56 = .ok (.iaload, 1) := by decide +kernel
theorem d_Mo_never_57 : decode M_Mo_never.2.1 57 = .ok (.if_icmp .ne 9, 3) := by decide +kernel
theorem d_Mo_never_60 : decode M_Mo_never.2.1 60 = .ok (.iload_n 2, 1) := by decide +kernel
theorem d_Mo_never_61 : decode M_Mo_never.2.1 61 = .ok (.iconst 1, 1) := by decide +kernel
theorem d_Mo_never_62 : decode M_Mo_never.2.1 62 = .ok (.iload_n 3, 1) := by decide +kernel
theorem d_Mo_never_63 : decode M_Mo_never.2.1 63 = .ok (.ishl, 1) := by decide +kernel
theorem d_Mo_never_64 : decode M_Mo_never.2.1 64 = .ok (.ior, 1) := by decide +kernel
theorem d_Mo_never_65 : decode M_Mo_never.2.1 65 = .ok (.istore_n 2, 1) := by decide +kernel
theorem d_Mo_never_66 : decode M_Mo_never.2.1 66 = .ok (.iinc 3 1, 3) := by decide +kernel
theorem d_Mo_never_69 : decode M_Mo_never.2.1 69 = .ok (.goto (-43), 3) := by decide +kernel
theorem d_Mo_never_72 : decode M_Mo_never.2.1 72 = .ok (.iload_n 2, 1) := by decide +kernel
theorem d_Mo_never_73 : decode M_Mo_never.2.1 73 = .ok (.ireturn, 1) := by decide +kernel
theorem d_Mo_spread_0 : decode M_Mo_spread.2.1 0 = .ok (.iload_n 1, 1) := by decide +kernel
theorem d_Mo_spread_1 : decode M_Mo_spread.2.1 1 = .ok (.iconst 0, 1) := by decide +kernel
theorem d_Mo_spread_2 : decode M_Mo_spread.2.1 2 = .ok (.sipush 2000, 3) := by decide +kernel
theorem d_Mo_spread_5 : decode M_Mo_spread.2.1 5 = .ok (.invokestatic 302, 3) := by decide +kernel
theorem d_Mo_spread_8 : decode M_Mo_spread.2.1 8 = .ok (.ifCond .ne 5, 3) := by decide +kernel
theorem d_Mo_spread_11 : decode M_Mo_spread.2.1 11 = .ok (.iconst (-1), 1) := by decide +kernel
theorem d_Mo_spread_12 : decode M_Mo_spread.2.1 12 = .ok (.ireturn, 1) := by decide +kernel
theorem d_Mo_spread_13 : decode M_Mo_spread.2.1 13 = .ok (.aload_n 0, 1) := by decide +kernel
theorem d_Mo_spread_14 : decode M_Mo_spread.2.1 14 = .ok (.getfield 64, 3) := by decide +kernel
theorem d_Mo_spread_17 : decode M_Mo_spread.2.1 17 = .ok (.aload_n 0, 1) := by decide +kernel
theorem d_Mo_spread_18 : decode M_Mo_spread.2.1 18 = .ok (.getfield 215, 3) := by decide +kernel
theorem d_Mo_spread_21 : decode M_Mo_spread.2.1 21 = .ok (.iaload, 1) := by decide +kernel
theorem d_Mo_spread_22 : decode M_Mo_spread.2.1 22 = .ok (.ifCond .ne 6, 3) := by decide +kernel
theorem d_Mo_spread_25 : decode M_Mo_spread.2.1 25 = .ok (.bipush (-2), 2) := by decide +kernel
theorem d_Mo_spread_27 : decode M_Mo_spread.2.1 27 = .ok (.ireturn, 1) := by decide +kernel
theorem d_Mo_spread_28 : decode M_Mo_spread.2.1 28 = .ok (.aload_n 0, 1) := by decide +kernel
theorem d_Mo_spread_29 : decode M_Mo_spread.2.1 29 = .ok (.invokevirtual 330, 3) := by decide +kernel
theorem d_Mo_spread_32 : decode M_Mo_spread.2.1 32 = .ok (.aload_n 0, 1) := by decide +kernel
theorem d_Mo_spread_33 : decode M_Mo_spread.2.1 33 = .ok (.iload_n 1, 1) := by decide +kernel
theorem d_Mo_spread_34 : decode M_Mo_spread.2.1 34 = .ok (.invokevirtual 345, 3) := by decide +kernel
theorem d_Mo_spread_37 : decode M_Mo_spread.2.1 37 = .ok (.aload_n 0, 1) := by decide +kernel
theorem d_Mo_spread_38 : decode M_Mo_spread.2.1 38 = .ok (.getfield 119, 3) := by decide +kernel
theorem d_Mo_spread_41 : decode M_Mo_spread.2.1 41 = .ok (.bipush 48, 2) := by decide +kernel
theorem d_Mo_spread_43 : decode M_Mo_spread.2.1 43 = .ok (.iaload, 1) := by decide +kernel
theorem d_Mo_spread_44 : decode M_Mo_spread.2.1 44 = .ok (.istore_n 2, 1) := by decide +kernel
theorem d_Mo_spread_45 : decode M_Mo_spread.2.1 45 = .ok (.aload_n 0, 1) := by decide +kernel
theorem d_Mo_spread_46 : decode M_Mo_spread.2.1 46 = .ok (.getfield 119, 3) := by decide +kernel
theorem d_Mo_spread_49 : decode M_Mo_spread.2.1 49 = .ok (.bipush 48, 2) := by decide +kernel
theorem d_Mo_spread_51 : decode M_Mo_spread.2.1 51 = .ok (.iaload, 1) := by decide +kernel
theorem d_Mo_spread_52 : decode M_Mo_spread.2.1 52 = .ok (.istore_n 3, 1) := by decide +kernel
theorem d_Mo_spread_53 : decode M_Mo_spread.2.1 53 = .ok (.iconst 1, 1) := by decide +kernel
theorem d_Mo_spread_54 : decode M_Mo_spread.2.1 54 = .ok (.istore 4, 2) := by decide +kernel
theorem d_Mo_spread_56 : decode M_Mo_spread.2.1 56 = .ok (.iload 4, 2) := by decide +kernel
theorem d_Mo_spread_58 : decode M_Mo_spread.2.1 58 = .ok (.aload_n 0, 1) := by decide +kernel
theorem d_Mo_spread_59 : decode M_Mo_spread.2.1 59 = .ok (.getfield 64, 3) := by decide +kernel
theorem d_Mo_spread_62 : decode M_Mo_spread.2.1 62 = .ok (.aload_n 0, 1) := by decide +kernel
theorem d_Mo_spread_63 : decode M_Mo_spread.2.1 63 = .ok (.getfield 215, 3) := by decide +kernel
theorem d_Mo_spread_66 : decode M_Mo_spread.2.1 66 = .ok (.iaload, 1) := by decide +kernel
theorem d_Mo_spread_67 : decode M_Mo_spread.2.1 67 = .ok (.if_icmp .ge 59, 3) := by decide +kernel
theorem d_Mo_spread_70 : decode M_Mo_spread.2.1 70 = .ok (.aload_n 0, 1) := by decide +kernel
theorem d_Mo_spread_71 : decode M_Mo_spread.2.1 71 = .ok (.getfield 119, 3) := by decide +kernel
theorem d_Mo_spread_74 : decode M_Mo_spread.2.1 74 = .ok (.bipush 48, 2) := by decide +kernel
theorem d_Mo_spread_76 : decode M_Mo_spread.2.1 76 = .ok (.iload 4, 2) := by decide +kernel
theorem d_Mo_spread_78 : decode M_Mo_spread.2.1 78 = .ok (.iadd, 1) := by decide +kernel
theorem d_Mo_spread_79 : decode M_Mo_spread.2.1 79 = .ok (.iaload, 1) := by decide +kernel
theorem d_Mo_spread_80 : decode M_Mo_spread.2.1 80 = .ok (.iload_n 2, 1) := by decide +kernel
theorem d_Mo_spread_81 : decode M_Mo_spread.2.1 81 = .ok (.if_icmp .ge 14, 3) := by decide +kernel
theorem d_Mo_spread_84 : decode M_Mo_spread.2.1 84 = .ok (.aload_n 0, 1) := by decide +kernel
theorem d_Mo_spread_85 : decode M_Mo_spread.2.1 85 = .ok (.getfield 119, 3) := by decide +kernel
theorem d_Mo_spread_88 : decode M_Mo_spread.2.1 88 = .ok (.bipush 48, 2) := by decide +kernel
theorem d_Mo_spread_90 : decode M_Mo_spread.2.1 90 = .ok (.iload 4, 2) := by decide +kernel
theorem d_Mo_spread_92 : decode M_Mo_spread.2.1 92 = .ok (.iadd, 1) := by decide +kernel
theorem d_Mo_spread_93 : decode M_Mo_spread.2.1 93 = .ok (.iaload, 1) := by decide +kernel
theorem d_Mo_spread_94 : decode M_Mo_spread.2.1 94 = .ok (.istore_n 2, 1) := by decide +kernel
theorem d_Mo_spread_95 : decode M_Mo_spread.2.1 95 = .ok (.aload_n 0, 1) := by decide +kernel
theorem d_Mo_spread_96 : decode M_Mo_spread.2.1 96 = .ok (.getfield 119, 3) := by decide +kernel
theorem d_Mo_spread_99 : decode M_Mo_spread.2.1 99 = .ok (.bipush 48, 2) := by decide +kernel
theorem d_Mo_spread_101 : decode M_Mo_spread.2.1 101 = .ok (.iload 4, 2) := by decide +kernel
theorem d_Mo_spread_103 : decode M_Mo_spread.2.1 103 = .ok (.iadd, 1) := by decide +kernel
theorem d_Mo_spread_104 : decode M_Mo_spread.2.1 104 = .ok (.iaload, 1) := by decide +kernel
theorem d_Mo_spread_105 : decode M_Mo_spread.2.1 105 = .ok (.iload_n 3, 1) := by decide +kernel
theorem d_Mo_spread_106 : decode M_Mo_spread.2.1 106 = .ok (.if_icmp .le 14, 3) := by decide +kernel
theorem d_Mo_spread_109 : decode M_Mo_spread.2.1 109 = .ok (.aload_n 0, 1) := by decide +kernel
theorem d_Mo_spread_110 : decode M_Mo_spread.2.1 110 = .ok (.getfield 119, 3) := by decide +kernel
theorem d_Mo_spread_113 : decode M_Mo_spread.2.1 113 = .ok (.bipush 48, 2) := by decide +kernel
theorem d_Mo_spread_115 : decode M_Mo_spread.2.1 115 = .ok (.iload 4, 2) := by decide +kernel
theorem d_Mo_spread_117 : decode M_Mo_spread.2.1 117 = .ok (.iadd, 1) := by decide +kernel
theorem d_Mo_spread_118 : decode M_Mo_spread.2.1 118 = .ok (.iaload, 1) := by decide +kernel
theorem d_Mo_spread_119 : decode M_Mo_spread.2.1 119 = .ok (.istore_n 3, 1) := by decide +kernel
theorem d_Mo_spread_120 : decode M_Mo_spread.2.1 120 = .ok (.iinc 4 1, 3) := by decide +kernel
theorem d_Mo_spread_123 : decode M_Mo_spread.2.1 123 = .ok (.goto (-67), 3) := by decide +kernel
theorem d_Mo_spread_126 : decode M_Mo_spread.2.1 126 = .ok (.iload_n 3, 1) := by decide +kernel
theorem d_Mo_spread_127 : decode M_Mo_spread.2.1 127 = .ok (.iload_n 2, 1) := by decide +kernel
theorem d_Mo_spread_128 : decode M_Mo_spread.2.1 128 = .ok (.isub, 1) := by decide +kernel
theorem d_Mo_spread_129 : decode M_Mo_spread.2.1 129 = .ok (.ireturn, 1) := by decide +kernel
theorem d_Mo_shakeWorst_0 : decode M_Mo_shakeWorst.2.1 0 = .ok (.iload_n 1, 1) := by decide +kernel
theorem d_Mo_shakeWorst_1 : decode M_Mo_shakeWorst.2.1 1 = .ok (.iconst 1, 1) := by decide +kernel
theorem d_Mo_shakeWorst_2 : decode M_Mo_shakeWorst.2.1 2 = .ok (.sipush 1000, 3) := by decide +kernel
theorem d_Mo_shakeWorst_5 : decode M_Mo_shakeWorst.2.1 5 = .ok (.invokestatic 302, 3) := by decide +kernel
theorem d_Mo_shakeWorst_8 : decode M_Mo_shakeWorst.2.1 8 = .ok (.ifCond .eq 12, 3) := by decide +kernel
theorem d_Mo_shakeWorst_11 : decode M_Mo_shakeWorst.2.1 11 = .ok (.iload_n 2, 1) := by decide +kernel
theorem d_Mo_shakeWorst_12 : decode M_Mo_shakeWorst.2.1 12 = .ok (.iconst 0, 1) := by decide +kernel
theorem d_Mo_shakeWorst_13 : decode M_Mo_shakeWorst.2.1 13 = .ok (.iconst 1, 1) := by decide +kernel
theorem d_Mo_shakeWorst_14 : decode M_Mo_shakeWorst.2.1 14 = .ok (.invokestatic 302, 3) := by decide +kernel
theorem d_Mo_shakeWorst_17 : decode M_Mo_shakeWorst.2.1 17 = .ok (.ifCond .ne 5, 3) := by decide +kernel
theorem d_Mo_shakeWorst_20 : decode M_Mo_shakeWorst.2.1 20 = .ok (.iconst (-1), 1) := by decide +kernel
theorem d_Mo_shakeWorst_21 : decode M_Mo_shakeWorst.2.1 21 = .ok (.ireturn, 1) := by decide +kernel
theorem d_Mo_shakeWorst_22 : decode M_Mo_shakeWorst.2.1 22 = .ok (.bipush (-2), 2) := by decide +kernel
theorem d_Mo_shakeWorst_24 : decode M_Mo_shakeWorst.2.1 24 = .ok (.istore_n 3, 1) := by decide +kernel
theorem d_Mo_shakeWorst_25 : decode M_Mo_shakeWorst.2.1 25 = .ok (.bipush (-2), 2) := by decide +kernel
theorem d_Mo_shakeWorst_27 : decode M_Mo_shakeWorst.2.1 27 = .ok (.istore 4, 2) := by decide +kernel
theorem d_Mo_shakeWorst_29 : decode M_Mo_shakeWorst.2.1 29 = .ok (.iconst 0, 1) := by decide +kernel
theorem d_Mo_shakeWorst_30 : decode M_Mo_shakeWorst.2.1 30 = .ok (.istore 5, 2) := by decide +kernel
theorem d_Mo_shakeWorst_32 : decode M_Mo_shakeWorst.2.1 32 = .ok (.iload 5, 2) := by decide +kernel
theorem d_Mo_shakeWorst_34 : decode M_Mo_shakeWorst.2.1 34 = .ok (.aload_n 0, 1) := by decide +kernel
theorem d_Mo_shakeWorst_35 : decode M_Mo_shakeWorst.2.1 35 = .ok (.getfield 49, 3) := by decide +kernel
theorem d_Mo_shakeWorst_38 : decode M_Mo_shakeWorst.2.1 38 = .ok (.aload_n 0, 1) := by decide +kernel
theorem d_Mo_shakeWorst_39 : decode M_Mo_shakeWorst.2.1 39 = .ok (.getfield 215, 3) := by decide +kernel
theorem d_Mo_shakeWorst_42 : decode M_Mo_shakeWorst.2.1 42 = .ok (.iaload, 1) := by decide +kernel
theorem d_Mo_shakeWorst_43 : decode M_Mo_shakeWorst.2.1 43 = .ok (.if_icmp .ge 51, 3) := by decide +kernel
theorem d_Mo_shakeWorst_46 : decode M_Mo_shakeWorst.2.1 46 = .ok (.aload_n 0, 1) := by decide +kernel
theorem d_Mo_shakeWorst_47 : decode M_Mo_shakeWorst.2.1 47 = .ok (.invokevirtual 330, 3) := by decide +kernel
theorem d_Mo_shakeWorst_50 : decode M_Mo_shakeWorst.2.1 50 = .ok (.aload_n 0, 1) := by decide +kernel
theorem d_Mo_shakeWorst_51 : decode M_Mo_shakeWorst.2.1 51 = .ok (.iload 5, 2) := by decide +kernel
theorem d_Mo_shakeWorst_53 : decode M_Mo_shakeWorst.2.1 53 = .ok (.invokevirtual 351, 3) := by decide +kernel
theorem d_Mo_shakeWorst_56 : decode M_Mo_shakeWorst.2.1 56 = .ok (.aload_n 0, 1) := by decide +kernel
theorem d_Mo_shakeWorst_57 : decode M_Mo_shakeWorst.2.1 57 = .ok (.iload_n 1, 1) := by decide +kernel
theorem d_Mo_shakeWorst_58 : decode M_Mo_shakeWorst.2.1 58 = .ok (.invokevirtual 345, 3) := by decide +kernel
theorem d_Mo_shakeWorst_61 : decode M_Mo_shakeWorst.2.1 61 = .ok (.aload_n 0, 1) := by decide +kernel
theorem d_Mo_shakeWorst_62 : decode M_Mo_shakeWorst.2.1 62 = .ok (.invokevirtual 354, 3) := by decide +kernel
theorem d_Mo_shakeWorst_65 : decode M_Mo_shakeWorst.2.1 65 = .ok (.istore 6, 2) := by decide +kernel
theorem d_Mo_shakeWorst_67 : decode M_Mo_shakeWorst.2.1 67 = .ok (.iload_n 3, 1) := by decide +kernel
theorem d_Mo_shakeWorst_68 : decode M_Mo_shakeWorst.2.1 68 = .ok (.ifCond .lt 13, 3) := by decide +kernel
theorem d_Mo_shakeWorst_71 : decode M_Mo_shakeWorst.2.1 71 = .ok (.iload 6, 2) := by decide +kernel
theorem d_Mo_shakeWorst_73 : decode M_Mo_shakeWorst.2.1 73 = .ok (.iload 4, 2) := by decide +kernel
theorem d_Mo_shakeWorst_75 : decode M_Mo_shakeWorst.2.1 75 = .ok (.if_icmp .lt 6, 3) := by decide +kernel
theorem d_Mo_shakeWorst_78 : decode M_Mo_shakeWorst.2.1 78 = .ok (.goto 10, 3) := by decide +kernel
theorem d_Mo_shakeWorst_81 : decode M_Mo_shakeWorst.2.1 81 = .ok (.iload 5, 2) := by decide +kernel
theorem d_Mo_shakeWorst_83 : decode M_Mo_shakeWorst.2.1 83 = .ok (.istore_n 3, 1) := by decide +kernel
theorem d_Mo_shakeWorst_84 : decode M_Mo_shakeWorst.2.1 84 = .ok (.iload 6, 2) := by decide +kernel
theorem d_Mo_shakeWorst_86 : decode M_Mo_shakeWorst.2.1 86 = .ok (.istore 4, 2) := by decide +kernel
theorem d_Mo_shakeWorst_88 : decode M_Mo_shakeWorst.2.1 88 = .ok (.iinc 5 1, 3) := by decide +kernel
theorem d_Mo_shakeWorst_91 : decode M_Mo_shakeWorst.2.1 91 = .ok (.goto (-59), 3) := by decide +kernel
theorem d_Mo_shakeWorst_94 : decode M_Mo_shakeWorst.2.1 94 = .ok (.iload_n 2, 1) := by decide +kernel
theorem d_Mo_shakeWorst_95 : decode M_Mo_shakeWorst.2.1 95 = .ok (.ifCond .ne 7, 3) := by decide +kernel
theorem d_Mo_shakeWorst_98 : decode M_Mo_shakeWorst.2.1 98 = .ok (.iload_n 3, 1) := by decide +kernel
theorem d_Mo_shakeWorst_99 : decode M_Mo_shakeWorst.2.1 99 = .ok (.goto 5, 3) := by decide +kernel
theorem d_Mo_shakeWorst_102 : decode M_Mo_shakeWorst.2.1 102 = .ok (.iload 4, 2) := by decide +kernel
theorem d_Mo_shakeWorst_104 : decode M_Mo_shakeWorst.2.1 104 = .ok (.ireturn, 1) := by decide +kernel
theorem d_Mo_longest_0 : decode M_Mo_longest.2.1 0 = .ok (.iload_n 1, 1) := by decide +kernel
theorem d_Mo_longest_1 : decode M_Mo_longest.2.1 1 = .ok (.iconst 0, 1) := by decide +kernel
theorem d_Mo_longest_2 : decode M_Mo_longest.2.1 2 = .ok (.iconst 1, 1) := by decide +kernel
theorem d_Mo_longest_3 : decode M_Mo_longest.2.1 3 = .ok (.invokestatic 302, 3) := by decide +kernel
theorem d_Mo_longest_6 : decode M_Mo_longest.2.1 6 = .ok (.ifCond .ne 5, 3) := by decide +kernel
theorem d_Mo_longest_9 : decode M_Mo_longest.2.1 9 = .ok (.iconst (-1), 1) := by decide +kernel
theorem d_Mo_longest_10 : decode M_Mo_longest.2.1 10 = .ok (.ireturn, 1) := by decide +kernel
theorem d_Mo_longest_11 : decode M_Mo_longest.2.1 11 = .ok (.aload_n 0, 1) := by decide +kernel
theorem d_Mo_longest_12 : decode M_Mo_longest.2.1 12 = .ok (.invokevirtual 330, 3) := by decide +kernel
theorem d_Mo_longest_15 : decode M_Mo_longest.2.1 15 = .ok (.bipush (-2), 2) := by decide +kernel
theorem d_Mo_longest_17 : decode M_Mo_longest.2.1 17 = .ok (.istore_n 2, 1) := by decide +kernel
theorem d_Mo_longest_18 : decode M_Mo_longest.2.1 18 = .ok (.iconst 0, 1) := by decide +kernel
theorem d_Mo_longest_19 : decode M_Mo_longest.2.1 19 = .ok (.istore_n 3, 1) := by decide +kernel
theorem d_Mo_longest_20 : decode M_Mo_longest.2.1 20 = .ok (.iload_n 3, 1) := by decide +kernel
theorem d_Mo_longest_21 : decode M_Mo_longest.2.1 21 = .ok (.aload_n 0, 1) := by decide +kernel
theorem d_Mo_longest_22 : decode M_Mo_longest.2.1 22 = .ok (.getfield 64, 3) := by decide +kernel
theorem d_Mo_longest_25 : decode M_Mo_longest.2.1 25 = .ok (.aload_n 0, 1) := by decide +kernel
theorem d_Mo_longest_26 : decode M_Mo_longest.2.1 26 = .ok (.getfield 215, 3) := by decide +kernel
theorem d_Mo_longest_29 : decode M_Mo_longest.2.1 29 = .ok (.iaload, 1) := by decide +kernel
theorem d_Mo_longest_30 : decode M_Mo_longest.2.1 30 = .ok (.if_icmp .ge 44, 3) := by decide +kernel
theorem d_Mo_longest_33 : decode M_Mo_longest.2.1 33 = .ok (.aload_n 0, 1) := by decide +kernel
theorem d_Mo_longest_34 : decode M_Mo_longest.2.1 34 = .ok (.iload_n 3, 1) := by decide +kernel
theorem d_Mo_longest_35 : decode M_Mo_longest.2.1 35 = .ok (.invokevirtual 336, 3) := by decide +kernel
theorem d_Mo_longest_38 : decode M_Mo_longest.2.1 38 = .ok (.ifCond .lt 30, 3) := by decide +kernel
theorem d_Mo_longest_41 : decode M_Mo_longest.2.1 41 = .ok (.iload_n 2, 1) := by decide +kernel
theorem d_Mo_longest_42 : decode M_Mo_longest.2.1 42 = .ok (.ifCond .lt 24, 3) := by decide +kernel
theorem d_Mo_longest_45 : decode M_Mo_longest.2.1 45 = .ok (.aload_n 0, 1) := by decide +kernel
theorem d_Mo_longest_46 : decode M_Mo_longest.2.1 46 = .ok (.getfield 119, 3) := by decide +kernel
theorem d_Mo_longest_49 : decode M_Mo_longest.2.1 49 = .ok (.bipush 60, 2) := by decide +kernel
theorem d_Mo_longest_51 : decode M_Mo_longest.2.1 51 = .ok (.iload_n 3, 1) := by decide +kernel
theorem d_Mo_longest_52 : decode M_Mo_longest.2.1 52 = .ok (.iadd, 1) := by decide +kernel
theorem d_Mo_longest_53 : decode M_Mo_longest.2.1 53 = .ok (.iaload, 1) := by decide +kernel
theorem d_Mo_longest_54 : decode M_Mo_longest.2.1 54 = .ok (.aload_n 0, 1) := by decide +kernel
theorem d_Mo_longest_55 : decode M_Mo_longest.2.1 55 = .ok (.getfield 119, 3) := by decide +kernel
theorem d_Mo_longest_58 : decode M_Mo_longest.2.1 58 = .ok (.bipush 60, 2) := by decide +kernel
theorem d_Mo_longest_60 : decode M_Mo_longest.2.1 60 = .ok (.iload_n 2, 1) := by decide +kernel
theorem d_Mo_longest_61 : decode M_Mo_longest.2.1 61 = .ok (.iadd, 1) := by decide +kernel
theorem d_Mo_longest_62 : decode M_Mo_longest.2.1 62 = .ok (.iaload, 1) := by decide +kernel
theorem d_Mo_longest_63 : decode M_Mo_longest.2.1 63 = .ok (.if_icmp .le 5, 3) := by decide +kernel
theorem d_Mo_longest_66 : decode M_Mo_longest.2.1 66 = .ok (.iload_n 3, 1) := by decide +kernel
theorem d_Mo_longest_67 : decode M_Mo_longest.2.1 67 = .ok (.istore_n 2, 1) := by decide +kernel
theorem d_Mo_longest_68 : decode M_Mo_longest.2.1 68 = .ok (.iinc 3 1, 3) := by decide +kernel
theorem d_Mo_longest_71 : decode M_Mo_longest.2.1 71 = .ok (.goto (-51), 3) := by decide +kernel
theorem d_Mo_longest_74 : decode M_Mo_longest.2.1 74 = .ok (.iload_n 1, 1) := by decide +kernel
theorem d_Mo_longest_75 : decode M_Mo_longest.2.1 75 = .ok (.ifCond .eq 7, 3) := by decide +kernel
theorem d_Mo_longest_78 : decode M_Mo_longest.2.1 78 = .ok (.iload_n 2, 1) := by decide +kernel
theorem d_Mo_longest_79 : decode M_Mo_longest.2.1 79 = .ok (.ifCond .ge 5, 3) := by decide +kernel
theorem d_Mo_longest_82 : decode M_Mo_longest.2.1 82 = .ok (.iload_n 2, 1) := by decide +kernel
theorem d_Mo_longest_83 : decode M_Mo_longest.2.1 83 = .ok (.ireturn, 1) := by decide +kernel
theorem d_Mo_longest_84 : decode M_Mo_longest.2.1 84 = .ok (.aload_n 0, 1) := by decide +kernel
theorem d_Mo_longest_85 : decode M_Mo_longest.2.1 85 = .ok (.getfield 119, 3) := by decide +kernel
theorem d_Mo_longest_88 : decode M_Mo_longest.2.1 88 = .ok (.bipush 72, 2) := by decide +kernel
theorem d_Mo_longest_90 : decode M_Mo_longest.2.1 90 = .ok (.iload_n 2, 1) := by decide +kernel
theorem d_Mo_longest_91 : decode M_Mo_longest.2.1 91 = .ok (.iadd, 1) := by decide +kernel
theorem d_Mo_longest_92 : decode M_Mo_longest.2.1 92 = .ok (.iaload, 1) := by decide +kernel
theorem d_Mo_longest_93 : decode M_Mo_longest.2.1 93 = .ok (.istore_n 3, 1) := by decide +kernel
theorem d_Mo_longest_94 : decode M_Mo_longest.2.1 94 = .ok (.iconst 1, 1) := by decide +kernel
theorem d_Mo_longest_95 : decode M_Mo_longest.2.1 95 = .ok (.istore 4, 2) := by decide +kernel
theorem d_Mo_longest_97 : decode M_Mo_longest.2.1 97 = .ok (.iload 4, 2) := by decide +kernel
theorem d_Mo_longest_99 : decode M_Mo_longest.2.1 99 = .ok (.sipush 2000, 3) := by decide +kernel
theorem d_Mo_longest_102 : decode M_Mo_longest.2.1 102 = .ok (.if_icmp .gt 29, 3) := by decide +kernel
theorem d_Mo_longest_105 : decode M_Mo_longest.2.1 105 = .ok (.aload_n 0, 1) := by decide +kernel
theorem d_Mo_longest_106 : decode M_Mo_longest.2.1 106 = .ok (.invokevirtual 342, 3) := by decide +kernel
theorem d_Mo_longest_109 : decode M_Mo_longest.2.1 109 = .ok (.aload_n 0, 1) := by decide +kernel
theorem d_Mo_longest_110 : decode M_Mo_longest.2.1 110 = .ok (.getfield 119, 3) := by decide +kernel
theorem d_Mo_longest_113 : decode M_Mo_longest.2.1 113 = .ok (.bipush 72, 2) := by decide +kernel
theorem d_Mo_longest_115 : decode M_Mo_longest.2.1 115 = .ok (.iload_n 2, 1) := by decide +kernel
theorem d_Mo_longest_116 : decode M_Mo_longest.2.1 116 = .ok (.iadd, 1) := by decide +kernel
theorem d_Mo_longest_117 : decode M_Mo_longest.2.1 117 = .ok (.iaload, 1) := by decide +kernel
theorem d_Mo_longest_118 : decode M_Mo_longest.2.1 118 = .ok (.iload_n 3, 1) := by decide +kernel
theorem d_Mo_longest_119 : decode M_Mo_longest.2.1 119 = .ok (.if_icmp .le 6, 3) := by decide +kernel
theorem d_Mo_longest_122 : decode M_Mo_longest.2.1 122 = .ok (.iload 4, 2) := by decide +kernel
theorem d_Mo_longest_124 : decode M_Mo_longest.2.1 124 = .ok (.ireturn, 1) := by decide +kernel
theorem d_Mo_longest_125 : decode M_Mo_longest.2.1 125 = .ok (.iinc 4 1, 3) := by decide +kernel
theorem d_Mo_longest_128 : decode M_Mo_longest.2.1 128 = .ok (.goto (-31), 3) := by decide +kernel
theorem d_Mo_longest_131 : decode M_Mo_longest.2.1 131 = .ok (.bipush (-2), 2) := by decide +kernel
theorem d_Mo_longest_133 : decode M_Mo_longest.2.1 133 = .ok (.ireturn, 1) := by decide +kernel
theorem d_Mo_where_0 : decode M_Mo_where.2.1 0 = .ok (.aload_n 0, 1) := by decide +kernel
theorem d_Mo_where_1 : decode M_Mo_where.2.1 1 = .ok (.iload_n 1, 1) := by decide +kernel
theorem d_Mo_where_2 : decode M_Mo_where.2.1 2 = .ok (.invokevirtual 333, 3) := by decide +kernel
theorem d_Mo_where_5 : decode M_Mo_where.2.1 5 = .ok (.ifCond .eq 14, 3) := by decide +kernel
theorem d_Mo_where_8 : decode M_Mo_where.2.1 8 = .ok (.iload_n 2, 1) := by decide +kernel
theorem d_Mo_where_9 : decode M_Mo_where.2.1 9 = .ok (.iconst 0, 1) := by decide +kernel
theorem d_Mo_where_10 : decode M_Mo_where.2.1 10 = .ok (.sipush 2000, 3) := by decide +kernel
theorem d_Mo_where_13 : decode M_Mo_where.2.1 13 = .ok (.invokestatic 302, 3) := by decide +kernel
theorem d_Mo_where_16 : decode M_Mo_where.2.1 16 = .ok (.ifCond .ne 5, 3) := by decide +kernel
theorem d_Mo_where_19 : decode M_Mo_where.2.1 19 = .ok (.iconst (-1), 1) := by decide +kernel
theorem d_Mo_where_20 : decode M_Mo_where.2.1 20 = .ok (.ireturn, 1) := by decide +kernel
theorem d_Mo_where_21 : decode M_Mo_where.2.1 21 = .ok (.aload_n 0, 1) := by decide +kernel
theorem d_Mo_where_22 : decode M_Mo_where.2.1 22 = .ok (.invokevirtual 330, 3) := by decide +kernel
theorem d_Mo_where_25 : decode M_Mo_where.2.1 25 = .ok (.aload_n 0, 1) := by decide +kernel
theorem d_Mo_where_26 : decode M_Mo_where.2.1 26 = .ok (.iload_n 2, 1) := by decide +kernel
theorem d_Mo_where_27 : decode M_Mo_where.2.1 27 = .ok (.invokevirtual 345, 3) := by decide +kernel
theorem d_Mo_where_30 : decode M_Mo_where.2.1 30 = .ok (.aload_n 0, 1) := by decide +kernel
theorem d_Mo_where_31 : decode M_Mo_where.2.1 31 = .ok (.iload_n 1, 1) := by decide +kernel
theorem d_Mo_where_32 : decode M_Mo_where.2.1 32 = .ok (.invokevirtual 336, 3) := by decide +kernel
theorem d_Mo_where_35 : decode M_Mo_where.2.1 35 = .ok (.ireturn, 1) := by decide +kernel
theorem d_Mo_fillsPinches_0 : decode M_Mo_fillsPinches.2.1 0 = .ok (.iconst 0, 1) := by decide +kernel
theorem d_Mo_fillsPinches_1 : decode M_Mo_fillsPinches.2.1 1 = .ok (.istore_n 3, 1) := by decide +kernel
theorem d_Mo_fillsPinches_2 : decode M_Mo_fillsPinches.2.1 2 = .ok (.iload_n 3, 1) := by decide +kernel
theorem d_Mo_fillsPinches_3 : decode M_Mo_fillsPinches.2.1 3 = .ok (.iconst 1, 1) := by decide +kernel
theorem d_Mo_fillsPinches_4 : decode M_Mo_fillsPinches.2.1 4 = .ok (.aload_n 0, 1) := by decide +kernel
theorem d_Mo_fillsPinches_5 : decode M_Mo_fillsPinches.2.1 5 = .ok (.getfield 49, 3) := by decide +kernel
theorem d_Mo_fillsPinches_8 : decode M_Mo_fillsPinches.2.1 8 = .ok (.aload_n 0, 1) := by decide +kernel
theorem d_Mo_fillsPinches_9 : decode M_Mo_fillsPinches.2.1 9 = .ok (.getfield 215, 3) := by decide +kernel
theorem d_Mo_fillsPinches_12 : decode M_Mo_fillsPinches.2.1 12 = .ok (.iaload, 1) := by decide +kernel
theorem d_Mo_fillsPinches_13 : decode M_Mo_fillsPinches.2.1 13 = .ok (.ishl, 1) := by decide +kernel
theorem d_Mo_fillsPinches_14 : decode M_Mo_fillsPinches.2.1 14 = .ok (.if_icmp .ge 191, 3) := by decide +kernel
theorem d_Mo_fillsPinches_17 : decode M_Mo_fillsPinches.2.1 17 = .ok (.aload_n 0, 1) := by decide +kernel
theorem d_Mo_fillsPinches_18 : decode M_Mo_fillsPinches.2.1 18 = .ok (.invokevirtual 330, 3) := by decide +kernel
theorem d_Mo_fillsPinches_21 : decode M_Mo_fillsPinches.2.1 21 = .ok (.aload_n 0, 1) := by decide +kernel
theorem d_Mo_fillsPinches_22 : decode M_Mo_fillsPinches.2.1 22 = .ok (.iload_n 3, 1) := by decide +kernel
theorem d_Mo_fillsPinches_23 : decode M_Mo_fillsPinches.2.1 23 = .ok (.invokevirtual 366, 3) := by decide +kernel
theorem d_Mo_fillsPinches_26 : decode M_Mo_fillsPinches.2.1 26 = .ok (.ifCond .ne 6, 3) := by decide +kernel
theorem d_Mo_fillsPinches_29 : decode M_Mo_fillsPinches.2.1 29 = .ok (.goto 170, 3) := by decide +kernel
theorem d_Mo_fillsPinches_32 : decode M_Mo_fillsPinches.2.1 32 = .ok (.iconst 0, 1) := by decide +kernel
theorem d_Mo_fillsPinches_33 : decode M_Mo_fillsPinches.2.1 33 = .ok (.istore 4, 2) := by decide +kernel
theorem d_Mo_fillsPinches_35 : decode M_Mo_fillsPinches.2.1 35 = .ok (.iload 4, 2) := by decide +kernel
theorem d_Mo_fillsPinches_37 : decode M_Mo_fillsPinches.2.1 37 = .ok (.aload_n 0, 1) := by decide +kernel
theorem d_Mo_fillsPinches_38 : decode M_Mo_fillsPinches.2.1 38 = .ok (.getfield 49, 3) := by decide +kernel
theorem d_Mo_fillsPinches_41 : decode M_Mo_fillsPinches.2.1 41 = .ok (.aload_n 0, 1) := by decide +kernel
theorem d_Mo_fillsPinches_42 : decode M_Mo_fillsPinches.2.1 42 = .ok (.getfield 215, 3) := by decide +kernel
theorem d_Mo_fillsPinches_45 : decode M_Mo_fillsPinches.2.1 45 = .ok (.iaload, 1) := by decide +kernel
theorem d_Mo_fillsPinches_46 : decode M_Mo_fillsPinches.2.1 46 = .ok (.if_icmp .ge 110, 3) := by decide +kernel
theorem d_Mo_fillsPinches_49 : decode M_Mo_fillsPinches.2.1 49 = .ok (.iload_n 3, 1) := by decide +kernel
theorem d_Mo_fillsPinches_50 : decode M_Mo_fillsPinches.2.1 50 = .ok (.iload 4, 2) := by decide +kernel
theorem d_Mo_fillsPinches_52 : decode M_Mo_fillsPinches.2.1 52 = .ok (.ishr, 1) := by decide +kernel
theorem d_Mo_fillsPinches_53 : decode M_Mo_fillsPinches.2.1 53 = .ok (.iconst 1, 1) := by decide +kernel
theorem d_Mo_fillsPinches_54 : decode M_Mo_fillsPinches.2.1 54 = .ok (.iand, 1) := by decide +kernel
theorem d_Mo_fillsPinches_55 : decode M_Mo_fillsPinches.2.1 55 = .ok (.ifCond .ne 6, 3) := by decide +kernel
theorem d_Mo_fillsPinches_58 : decode M_Mo_fillsPinches.2.1 58 = .ok (.goto 92, 3) := by decide +kernel
theorem d_Mo_fillsPinches_61 : decode M_Mo_fillsPinches.2.1 61 = .ok (.iload 4, 2) := by decide +kernel
theorem d_Mo_fillsPinches_63 : decode M_Mo_fillsPinches.2.1 63 = .ok (.aload_n 0, 1) := by decide +kernel
theorem d_Mo_fillsPinches_64 : decode M_Mo_fillsPinches.2.1 64 = .ok (.getfield 49, 3) := by decide +kernel
theorem d_Mo_fillsPinches_67 : decode M_Mo_fillsPinches.2.1 67 = .ok (.aload_n 0, 1) := by decide +kernel
theorem d_Mo_fillsPinches_68 : decode M_Mo_fillsPinches.2.1 68 = .ok (.getfield 215, 3) := by decide +kernel
theorem d_Mo_fillsPinches_71 : decode M_Mo_fillsPinches.2.1 71 = .ok (.iaload, 1) := by decide +kernel
theorem d_Mo_fillsPinches_72 : decode M_Mo_fillsPinches.2.1 72 = .ok (.iconst 1, 1) := by decide +kernel
theorem d_Mo_fillsPinches_73 : decode M_Mo_fillsPinches.2.1 73 = .ok (.isub, 1) := by decide +kernel
theorem d_Mo_fillsPinches_74 : decode M_Mo_fillsPinches.2.1 74 = .ok (.if_icmp .ne 7, 3) := by decide +kernel
theorem d_Mo_fillsPinches_77 : decode M_Mo_fillsPinches.2.1 77 = .ok (.iconst 0, 1) := by decide +kernel
theorem d_Mo_fillsPinches_78 : decode M_Mo_fillsPinches.2.1 78 = .ok (.goto 7, 3) := by decide +kernel
theorem d_Mo_fillsPinches_81 : decode M_Mo_fillsPinches.2.1 81 = .ok (.iload 4, 2) := by decide +kernel
theorem d_Mo_fillsPinches_83 : decode M_Mo_fillsPinches.2.1 83 = .ok (.iconst 1, 1) := by decide +kernel
theorem d_Mo_fillsPinches_84 : decode M_Mo_fillsPinches.2.1 84 = .ok (.iadd, 1) := by decide +kernel
theorem d_Mo_fillsPinches_85 : decode M_Mo_fillsPinches.2.1 85 = .ok (.istore 5, 2) := by decide +kernel
theorem d_Mo_fillsPinches_87 : decode M_Mo_fillsPinches.2.1 87 = .ok (.aload_n 0, 1) := by decide +kernel
theorem d_Mo_fillsPinches_88 : decode M_Mo_fillsPinches.2.1 88 = .ok (.getfield 119, 3) := by decide +kernel
theorem d_Mo_fillsPinches_91 : decode M_Mo_fillsPinches.2.1 91 = .ok (.iload 5, 2) := by decide +kernel
theorem d_Mo_fillsPinches_93 : decode M_Mo_fillsPinches.2.1 93 = .ok (.iaload, 1) := by decide +kernel
theorem d_Mo_fillsPinches_94 : decode M_Mo_fillsPinches.2.1 94 = .ok (.sipush 9999, 3) := by decide +kernel
theorem d_Mo_fillsPinches_97 : decode M_Mo_fillsPinches.2.1 97 = .ok (.if_icmp .le 13, 3) := by decide +kernel
theorem d_Mo_fillsPinches_100 : decode M_Mo_fillsPinches.2.1 100 = .ok (.aload_n 0, 1) := by decide +kernel
theorem d_Mo_fillsPinches_101 : decode M_Mo_fillsPinches.2.1 101 = .ok (.getfield 119, 3) := by decide +kernel
theorem d_Mo_fillsPinches_104 : decode M_Mo_fillsPinches.2.1 104 = .ok (.iload 5, 2) := by decide +kernel
theorem d_Mo_fillsPinches_106 : decode M_Mo_fillsPinches.2.1 106 = .ok (.iaload, 1) := by decide +kernel
theorem d_Mo_fillsPinches_107 : decode M_Mo_fillsPinches.2.1 107 = .ok (.goto 6, 3) := by decide +kernel
theorem d_Mo_fillsPinches_110 : decode M_Mo_fillsPinches.2.1 110 = .ok (.sipush 9999, 3) := by decide +kernel
theorem d_Mo_fillsPinches_113 : decode M_Mo_fillsPinches.2.1 113 = .ok (.istore 6, 2) := by decide +kernel
theorem d_Mo_fillsPinches_115 : decode M_Mo_fillsPinches.2.1 115 = .ok (.aload_n 0, 1) := by decide +kernel
theorem d_Mo_fillsPinches_116 : decode M_Mo_fillsPinches.2.1 116 = .ok (.getfield 119, 3) := by decide +kernel
theorem d_Mo_fillsPinches_119 : decode M_Mo_fillsPinches.2.1 119 = .ok (.iload 5, 2) := by decide +kernel
theorem d_Mo_fillsPinches_121 : decode M_Mo_fillsPinches.2.1 121 = .ok (.aload_n 0, 1) := by decide +kernel
theorem d_Mo_fillsPinches_122 : decode M_Mo_fillsPinches.2.1 122 = .ok (.getfield 119, 3) := by decide +kernel
theorem d_Mo_fillsPinches_125 : decode M_Mo_fillsPinches.2.1 125 = .ok (.iload 5, 2) := by decide +kernel
theorem d_Mo_fillsPinches_127 : decode M_Mo_fillsPinches.2.1 127 = .ok (.iaload, 1) := by decide +kernel
theorem d_Mo_fillsPinches_128 : decode M_Mo_fillsPinches.2.1 128 = .ok (.iload_n 1, 1) := by decide +kernel
theorem d_Mo_fillsPinches_129 : decode M_Mo_fillsPinches.2.1 129 = .ok (.iadd, 1) := by decide +kernel
theorem d_Mo_fillsPinches_130 : decode M_Mo_fillsPinches.2.1 130 = .ok (.iload 6, 2) := by decide +kernel
theorem d_Mo_fillsPinches_132 : decode M_Mo_fillsPinches.2.1 132 = .ok (.if_icmp .le 8, 3) := by decide +kernel
theorem d_Mo_fillsPinches_135 : decode M_Mo_fillsPinches.2.1 135 = .ok (.iload 6, 2) := by decide +kernel
theorem d_Mo_fillsPinches_137 : decode M_Mo_fillsPinches.2.1 137 = .ok (.goto 12, 3) := by decide +kernel
theorem d_Mo_fillsPinches_140 : decode M_Mo_fillsPinches.2.1 140 = .ok (.aload_n 0, 1) := by decide +kernel
theorem d_Mo_fillsPinches_141 : decode M_Mo_fillsPinches.2.1 141 = .ok (.getfield 119, 3) := by decide +kernel
theorem d_Mo_fillsPinches_144 : decode M_Mo_fillsPinches.2.1 144 = .ok (.iload 5, 2) := by decide +kernel
theorem d_Mo_fillsPinches_146 : decode M_Mo_fillsPinches.2.1 146 = .ok (.iaload, 1) := by decide +kernel
theorem d_Mo_fillsPinches_147 : decode M_Mo_fillsPinches.2.1 147 = .ok (.iload_n 1, 1) := by decide +kernel
theorem d_Mo_fillsPinches_148 : decode M_Mo_fillsPinches.2.1 148 = .ok (.iadd, 1) := by decide +kernel
theorem d_Mo_fillsPinches_149 : decode M_Mo_fillsPinches.2.1 149 = .ok (.iastore, 1) := by decide +kernel
theorem d_Mo_fillsPinches_150 : decode M_Mo_fillsPinches.2.1 150 = .ok (.iinc 4 1, 3) := by decide +kernel
theorem d_Mo_fillsPinches_153 : decode M_Mo_fillsPinches.2.1 153 = .ok (.goto (-118), 3) := by decide +kernel
theorem d_Mo_fillsPinches_156 : decode M_Mo_fillsPinches.2.1 156 = .ok (.aload_n 0, 1) := by decide +kernel
theorem d_Mo_fillsPinches_157 : decode M_Mo_fillsPinches.2.1 157 = .ok (.iload_n 2, 1) := by decide +kernel
theorem d_Mo_fillsPinches_158 : decode M_Mo_fillsPinches.2.1 158 = .ok (.invokevirtual 345, 3) := by decide +kernel
theorem d_Mo_fillsPinches_161 : decode M_Mo_fillsPinches.2.1 161 = .ok (.iconst 0, 1) := by decide +kernel
theorem d_Mo_fillsPinches_162 : decode M_Mo_fillsPinches.2.1 162 = .ok (.istore 4, 2) := by decide +kernel
theorem d_Mo_fillsPinches_164 : decode M_Mo_fillsPinches.2.1 164 = .ok (.iload 4, 2) := by decide +kernel
theorem d_Mo_fillsPinches_166 : decode M_Mo_fillsPinches.2.1 166 = .ok (.bipush 12, 2) := by decide +kernel
theorem d_Mo_fillsPinches_168 : decode M_Mo_fillsPinches.2.1 168 = .ok (.if_icmp .ge 31, 3) := by decide +kernel
theorem d_Mo_fillsPinches_171 : decode M_Mo_fillsPinches.2.1 171 = .ok (.aload_n 0, 1) := by decide +kernel
theorem d_Mo_fillsPinches_172 : decode M_Mo_fillsPinches.2.1 172 = .ok (.getfield 125, 3) := by decide +kernel
theorem d_Mo_fillsPinches_175 : decode M_Mo_fillsPinches.2.1 175 = .ok (.bipush 12, 2) := by decide +kernel
theorem d_Mo_fillsPinches_177 : decode M_Mo_fillsPinches.2.1 177 = .ok (.iload_n 3, 1) := by decide +kernel
theorem d_Mo_fillsPinches_178 : decode M_Mo_fillsPinches.2.1 178 = .ok (.imul, 1) := by decide +kernel
theorem d_Mo_fillsPinches_179 : decode M_Mo_fillsPinches.2.1 179 = .ok (.iload 4, 2) := by decide +kernel
theorem d_Mo_fillsPinches_181 : decode M_Mo_fillsPinches.2.1 181 = .ok (.iadd, 1) := by decide +kernel
theorem d_Mo_fillsPinches_182 : decode M_Mo_fillsPinches.2.1 182 = .ok (.aload_n 0, 1) := by decide +kernel
theorem d_Mo_fillsPinches_183 : decode M_Mo_fillsPinches.2.1 183 = .ok (.getfield 119, 3) := by decide +kernel
theorem d_Mo_fillsPinches_186 : decode M_Mo_fillsPinches.2.1 186 = .ok (.bipush 48, 2) := by decide +kernel
theorem d_Mo_fillsPinches_188 : decode M_Mo_fillsPinches.2.1 188 = .ok (.iload 4, 2) := by decide +kernel
theorem d_Mo_fillsPinches_190 : decode M_Mo_fillsPinches.2.1 190 = .ok (.iadd, 1) := by decide +kernel
theorem d_Mo_fillsPinches_191 : decode M_Mo_fillsPinches.2.1 191 = .ok (.iaload, 1) := by decide +kernel
theorem d_Mo_fillsPinches_192 : decode M_Mo_fillsPinches.2.1 192 = .ok (.iastore, 1) := by decide +kernel
theorem d_Mo_fillsPinches_193 : decode M_Mo_fillsPinches.2.1 193 = .ok (.iinc 4 1, 3) := by decide +kernel
theorem d_Mo_fillsPinches_196 : decode M_Mo_fillsPinches.2.1 196 = .ok (.goto (-32), 3) := by decide +kernel
theorem d_Mo_fillsPinches_199 : decode M_Mo_fillsPinches.2.1 199 = .ok (.iinc 3 1, 3) := by decide +kernel
theorem d_Mo_fillsPinches_202 : decode M_Mo_fillsPinches.2.1 202 = .ok (.goto (-200), 3) := by decide +kernel
theorem d_Mo_fillsPinches_205 : decode M_Mo_fillsPinches.2.1 205 = .ok (.return_, 1) := by decide +kernel
theorem d_Mo_isAllowed_0 : decode M_Mo_isAllowed.2.1 0 = .ok (.iconst 0, 1) := by decide +kernel
theorem d_Mo_isAllowed_1 : decode M_Mo_isAllowed.2.1 1 = .ok (.istore_n 2, 1) := by decide +kernel
theorem d_Mo_isAllowed_2 : decode M_Mo_isAllowed.2.1 2 = .ok (.iload_n 2, 1) := by decide +kernel
theorem d_Mo_isAllowed_3 : decode M_Mo_isAllowed.2.1 3 = .ok (.aload_n 0, 1) := by decide +kernel
theorem d_Mo_isAllowed_4 : decode M_Mo_isAllowed.2.1 4 = .ok (.getfield 49, 3) := by decide +kernel
theorem d_Mo_isAllowed_7 : decode M_Mo_isAllowed.2.1 7 = .ok (.aload_n 0, 1) := by decide +kernel
theorem d_Mo_isAllowed_8 : decode M_Mo_isAllowed.2.1 8 = .ok (.getfield 215, 3) := by decide +kernel
theorem d_Mo_isAllowed_11 : decode M_Mo_isAllowed.2.1 11 = .ok (.iaload, 1) := by decide +kernel
theorem d_Mo_isAllowed_12 : decode M_Mo_isAllowed.2.1 12 = .ok (.if_icmp .ge 32, 3) := by decide +kernel
theorem d_Mo_isAllowed_15 : decode M_Mo_isAllowed.2.1 15 = .ok (.iload_n 1, 1) := by decide +kernel
theorem d_Mo_isAllowed_16 : decode M_Mo_isAllowed.2.1 16 = .ok (.iload_n 2, 1) := by decide +kernel
theorem d_Mo_isAllowed_17 : decode M_Mo_isAllowed.2.1 17 = .ok (.ishr, 1) := by decide +kernel
theorem d_Mo_isAllowed_18 : decode M_Mo_isAllowed.2.1 18 = .ok (.iconst 1, 1) := by decide +kernel
theorem d_Mo_isAllowed_19 : decode M_Mo_isAllowed.2.1 19 = .ok (.iand, 1) := by decide +kernel
theorem d_Mo_isAllowed_20 : decode M_Mo_isAllowed.2.1 20 = .ok (.iconst 1, 1) := by decide +kernel
theorem d_Mo_isAllowed_21 : decode M_Mo_isAllowed.2.1 21 = .ok (.if_icmp .ne 17, 3) := by decide +kernel
theorem d_Mo_isAllowed_24 : decode M_Mo_isAllowed.2.1 24 = .ok (.aload_n 0, 1) := by decide +kernel
theorem d_Mo_isAllowed_25 : decode M_Mo_isAllowed.2.1 25 = .ok (.getfield 116, 3) := by decide +kernel
theorem d_Mo_isAllowed_28 : decode M_Mo_isAllowed.2.1 28 = .ok (.bipush 16, 2) := by decide +kernel
theorem d_Mo_isAllowed_30 : decode M_Mo_isAllowed.2.1 30 = .ok (.iload_n 2, 1) := by decide +kernel
theorem d_Mo_isAllowed_31 : decode M_Mo_isAllowed.2.1 31 = .ok (.iadd, 1) := by decide +kernel
theorem d_Mo_isAllowed_32 : decode M_Mo_isAllowed.2.1 32 = .ok (.iaload, 1) := by decide +kernel
theorem d_Mo_isAllowed_33 : decode M_Mo_isAllowed.2.1 33 = .ok (.ifCond .ge 5, 3) := by decide +kernel
theorem d_Mo_isAllowed_36 : decode M_Mo_isAllowed.2.1 36 = .ok (.iconst 0, 1) := by decide +kernel
theorem d_Mo_isAllowed_37 : decode M_Mo_isAllowed.2.1 37 = .ok (.ireturn, 1) := by decide +kernel
theorem d_Mo_isAllowed_38 : decode M_Mo_isAllowed.2.1 38 = .ok (.iinc 2 1, 3) := by decide +kernel
theorem d_Mo_isAllowed_41 : decode M_Mo_isAllowed.2.1 41 = .ok (.goto (-39), 3) := by decide +kernel
theorem d_Mo_isAllowed_44 : decode M_Mo_isAllowed.2.1 44 = .ok (.iconst 1, 1) := by decide +kernel
theorem d_Mo_isAllowed_45 : decode M_Mo_isAllowed.2.1 45 = .ok (.ireturn, 1) := by decide +kernel
theorem d_Mo_isResting_0 : decode M_Mo_isResting.2.1 0 = .ok (.iconst 0, 1) := by decide +kernel
theorem d_Mo_isResting_1 : decode M_Mo_isResting.2.1 1 = .ok (.istore_n 2, 1) := by decide +kernel
theorem d_Mo_isResting_2 : decode M_Mo_isResting.2.1 2 = .ok (.iload_n 2, 1) := by decide +kernel
theorem d_Mo_isResting_3 : decode M_Mo_isResting.2.1 3 = .ok (.aload_n 0, 1) := by decide +kernel
theorem d_Mo_isResting_4 : decode M_Mo_isResting.2.1 4 = .ok (.getfield 49, 3) := by decide +kernel
theorem d_Mo_isResting_7 : decode M_Mo_isResting.2.1 7 = .ok (.aload_n 0, 1) := by decide +kernel
theorem d_Mo_isResting_8 : decode M_Mo_isResting.2.1 8 = .ok (.getfield 215, 3) := by decide +kernel
theorem d_Mo_isResting_11 : decode M_Mo_isResting.2.1 11 = .ok (.iaload, 1) := by decide +kernel
theorem d_Mo_isResting_12 : decode M_Mo_isResting.2.1 12 = .ok (.if_icmp .ge 54, 3) := by decide +kernel
theorem d_Mo_isResting_15 : decode M_Mo_isResting.2.1 15 = .ok (.aload_n 0, 1) := by decide +kernel
theorem d_Mo_isResting_16 : decode M_Mo_isResting.2.1 16 = .ok (.getfield 116, 3) := by decide +kernel
theorem d_Mo_isResting_19 : decode M_Mo_isResting.2.1 19 = .ok (.bipush 16, 2) := by decide +kernel
theorem d_Mo_isResting_21 : decode M_Mo_isResting.2.1 21 = .ok (.iload_n 2, 1) := by decide +kernel
theorem d_Mo_isResting_22 : decode M_Mo_isResting.2.1 22 = .ok (.iadd, 1) := by decide +kernel
theorem d_Mo_isResting_23 : decode M_Mo_isResting.2.1 23 = .ok (.iaload, 1) := by decide +kernel
theorem d_Mo_isResting_24 : decode M_Mo_isResting.2.1 24 = .ok (.istore_n 3, 1) := by decide +kernel
theorem d_Mo_isResting_25 : decode M_Mo_isResting.2.1 25 = .ok (.iload_n 3, 1) := by decide +kernel
theorem d_Mo_isResting_26 : decode M_Mo_isResting.2.1 26 = .ok (.ifCond .lt 34, 3) := by decide +kernel
theorem d_Mo_isResting_29 : decode M_Mo_isResting.2.1 29 = .ok (.aload_n 0, 1) := by decide +kernel
theorem d_Mo_isResting_30 : decode M_Mo_isResting.2.1 30 = .ok (.getfield 125, 3) := by decide +kernel
theorem d_Mo_isResting_33 : decode M_Mo_isResting.2.1 33 = .ok (.bipush 12, 2) := by decide +kernel
theorem d_Mo_isResting_35 : decode M_Mo_isResting.2.1 35 = .ok (.iload_n 1, 1) := by decide +kernel
theorem d_Mo_isResting_36 : decode M_Mo_isResting.2.1 36 = .ok (.iconst 1, 1) := by decide +kernel
theorem d_Mo_isResting_37 : decode M_Mo_isResting.2.1 37 = .ok (.iload_n 2, 1) := by decide +kernel
theorem d_Mo_isResting_38 : decode M_Mo_isResting.2.1 38 = .ok (.ishl, 1) := by decide +kernel
theorem d_Mo_isResting_39 : decode M_Mo_isResting.2.1 39 = .ok (.ixor, 1) := by decide +kernel
theorem d_Mo_isResting_40 : decode M_Mo_isResting.2.1 40 = .ok (.imul, 1) := by decide +kernel
theorem d_Mo_isResting_41 : decode M_Mo_isResting.2.1 41 = .ok (.iload_n 3, 1) := by decide +kernel
theorem d_Mo_isResting_42 : decode M_Mo_isResting.2.1 42 = .ok (.iadd, 1) := by decide +kernel
theorem d_Mo_isResting_43 : decode M_Mo_isResting.2.1 43 = .ok (.iaload, 1) := by decide +kernel
theorem d_Mo_isResting_44 : decode M_Mo_isResting.2.1 44 = .ok (.aload_n 0, 1) := by decide +kernel
theorem d_Mo_isResting_45 : decode M_Mo_isResting.2.1 45 = .ok (.getfield 125, 3) := by decide +kernel
theorem d_Mo_isResting_48 : decode M_Mo_isResting.2.1 48 = .ok (.bipush 12, 2) := by decide +kernel
theorem d_Mo_isResting_50 : decode M_Mo_isResting.2.1 50 = .ok (.iload_n 1, 1) := by decide +kernel
theorem d_Mo_isResting_51 : decode M_Mo_isResting.2.1 51 = .ok (.imul, 1) := by decide +kernel
theorem d_Mo_isResting_52 : decode M_Mo_isResting.2.1 52 = .ok (.iload_n 3, 1) := by decide +kernel
theorem d_Mo_isResting_53 : decode M_Mo_isResting.2.1 53 = .ok (.iadd, 1) := by decide +kernel
theorem d_Mo_isResting_54 : decode M_Mo_isResting.2.1 54 = .ok (.iaload, 1) := by decide +kernel
theorem d_Mo_isResting_55 : decode M_Mo_isResting.2.1 55 = .ok (.if_icmp .le 5, 3) := by decide +kernel
theorem d_Mo_isResting_58 : decode M_Mo_isResting.2.1 58 = .ok (.iconst 0, 1) := by decide +kernel
theorem d_Mo_isResting_59 : decode M_Mo_isResting.2.1 59 = .ok (.ireturn, 1) := by decide +kernel
theorem d_Mo_isResting_60 : decode M_Mo_isResting.2.1 60 = .ok (.iinc 2 1, 3) := by decide +kernel
theorem d_Mo_isResting_63 : decode M_Mo_isResting.2.1 63 = .ok (.goto (-61), 3) := by decide +kernel
theorem d_Mo_isResting_66 : decode M_Mo_isResting.2.1 66 = .ok (.iconst 1, 1) := by decide +kernel
theorem d_Mo_isResting_67 : decode M_Mo_isResting.2.1 67 = .ok (.ireturn, 1) := by decide +kernel
theorem d_Mo_rests_0 : decode M_Mo_rests.2.1 0 = .ok (.iload_n 1, 1) := by decide +kernel
theorem d_Mo_rests_1 : decode M_Mo_rests.2.1 1 = .ok (.iconst 1, 1) := by decide +kernel
theorem d_Mo_rests_2 : decode M_Mo_rests.2.1 2 = .ok (.bipush 99, 2) := by decide +kernel
theorem d_Mo_rests_4 : decode M_Mo_rests.2.1 4 = .ok (.invokestatic 302, 3) := by decide +kernel
theorem d_Mo_rests_7 : decode M_Mo_rests.2.1 7 = .ok (.ifCond .eq 19, 3) := by decide +kernel
theorem d_Mo_rests_10 : decode M_Mo_rests.2.1 10 = .ok (.iload_n 2, 1) := by decide +kernel
theorem d_Mo_rests_11 : decode M_Mo_rests.2.1 11 = .ok (.iconst 1, 1) := by decide +kernel
theorem d_Mo_rests_12 : decode M_Mo_rests.2.1 12 = .ok (.sipush 300, 3) := by decide +kernel
theorem d_Mo_rests_15 : decode M_Mo_rests.2.1 15 = .ok (.invokestatic 302, 3) := by decide +kernel
theorem d_Mo_rests_18 : decode M_Mo_rests.2.1 18 = .ok (.ifCond .eq 8, 3) := by decide +kernel
theorem d_Mo_rests_21 : decode M_Mo_rests.2.1 21 = .ok (.iload_n 3, 1) := by decide +kernel
theorem d_Mo_rests_22 : decode M_Mo_rests.2.1 22 = .ok (.iconst (-1), 1) := by decide +kernel
theorem d_Mo_rests_23 : decode M_Mo_rests.2.1 23 = .ok (.if_icmp .ge 5, 3) := by decide +kernel
theorem d_Mo_rests_26 : decode M_Mo_rests.2.1 26 = .ok (.iconst (-1), 1) := by decide +kernel
theorem d_Mo_rests_27 : decode M_Mo_rests.2.1 27 = .ok (.ireturn, 1) := by decide +kernel
theorem d_Mo_rests_28 : decode M_Mo_rests.2.1 28 = .ok (.aload_n 0, 1) := by decide +kernel
theorem d_Mo_rests_29 : decode M_Mo_rests.2.1 29 = .ok (.iload_n 1, 1) := by decide +kernel
theorem d_Mo_rests_30 : decode M_Mo_rests.2.1 30 = .ok (.iload_n 2, 1) := by decide +kernel
theorem d_Mo_rests_31 : decode M_Mo_rests.2.1 31 = .ok (.invokevirtual 369, 3) := by decide +kernel
theorem d_Mo_rests_34 : decode M_Mo_rests.2.1 34 = .ok (.iconst 0, 1) := by decide +kernel
theorem d_Mo_rests_35 : decode M_Mo_rests.2.1 35 = .ok (.istore 4, 2) := by decide +kernel
theorem d_Mo_rests_37 : decode M_Mo_rests.2.1 37 = .ok (.iconst 0, 1) := by decide +kernel
theorem d_Mo_rests_38 : decode M_Mo_rests.2.1 38 = .ok (.istore 5, 2) := by decide +kernel
theorem d_Mo_rests_40 : decode M_Mo_rests.2.1 40 = .ok (.iload 5, 2) := by decide +kernel
theorem d_Mo_rests_42 : decode M_Mo_rests.2.1 42 = .ok (.iconst 1, 1) := by decide +kernel
theorem d_Mo_rests_43 : decode M_Mo_rests.2.1 43 = .ok (.aload_n 0, 1) := by decide +kernel
theorem d_Mo_rests_44 : decode M_Mo_rests.2.1 44 = .ok (.getfield 49, 3) := by decide +kernel
theorem d_Mo_rests_47 : decode M_Mo_rests.2.1 47 = .ok (.aload_n 0, 1) := by decide +kernel
theorem d_Mo_rests_48 : decode M_Mo_rests.2.1 48 = .ok (.getfield 215, 3) := by decide +kernel
theorem d_Mo_rests_51 : decode M_Mo_rests.2.1 51 = .ok (.iaload, 1) := by decide +kernel
theorem d_Mo_rests_52 : decode M_Mo_rests.2.1 52 = .ok (.ishl, 1) := by decide +kernel
theorem d_Mo_rests_53 : decode M_Mo_rests.2.1 53 = .ok (.if_icmp .ge 42, 3) := by decide +kernel
theorem d_Mo_rests_56 : decode M_Mo_rests.2.1 56 = .ok (.aload_n 0, 1) := by decide +kernel
theorem d_Mo_rests_57 : decode M_Mo_rests.2.1 57 = .ok (.iload 5, 2) := by decide +kernel
theorem d_Mo_rests_59 : decode M_Mo_rests.2.1 59 = .ok (.invokevirtual 366, 3) := by decide +kernel
theorem d_Mo_rests_62 : decode M_Mo_rests.2.1 62 = .ok (.ifCond .eq 27, 3) := by decide +kernel
theorem d_Mo_rests_65 : decode M_Mo_rests.2.1 65 = .ok (.aload_n 0, 1) := by decide +kernel
theorem d_Mo_rests_66 : decode M_Mo_rests.2.1 66 = .ok (.iload 5, 2) := by decide +kernel
theorem d_Mo_rests_68 : decode M_Mo_rests.2.1 68 = .ok (.invokevirtual 372, 3) := by decide +kernel
theorem d_Mo_rests_71 : decode M_Mo_rests.2.1 71 = .ok (.ifCond .ne 6, 3) := by decide +kernel
theorem d_Mo_rests_74 : decode M_Mo_rests.2.1 74 = .ok (.goto 15, 3) := by decide +kernel
theorem d_Mo_rests_77 : decode M_Mo_rests.2.1 77 = .ok (.iload 4, 2) := by decide +kernel
theorem d_Mo_rests_79 : decode M_Mo_rests.2.1 79 = .ok (.iload_n 3, 1) := by decide +kernel
theorem d_Mo_rests_80 : decode M_Mo_rests.2.1 80 = .ok (.if_icmp .ne 6, 3) := by decide +kernel
theorem d_Mo_rests_83 : decode M_Mo_rests.2.1 83 = .ok (.iload 5, 2) := by decide +kernel
theorem d_Mo_rests_85 : decode M_Mo_rests.2.1 85 = .ok (.ireturn, 1) := by decide +kernel
theorem d_Mo_rests_86 : decode M_Mo_rests.2.1 86 = .ok (.iinc 4 1, 3) := by decide +kernel
theorem d_Mo_rests_89 : decode M_Mo_rests.2.1 89 = .ok (.iinc 5 1, 3) := by decide +kernel
theorem d_Mo_rests_92 : decode M_Mo_rests.2.1 92 = .ok (.goto (-52), 3) := by decide +kernel
theorem d_Mo_rests_95 : decode M_Mo_rests.2.1 95 = .ok (.iload_n 3, 1) := by decide +kernel
theorem d_Mo_rests_96 : decode M_Mo_rests.2.1 96 = .ok (.iconst (-1), 1) := by decide +kernel
theorem d_Mo_rests_97 : decode M_Mo_rests.2.1 97 = .ok (.if_icmp .ne 8, 3) := by decide +kernel
theorem d_Mo_rests_100 : decode M_Mo_rests.2.1 100 = .ok (.iload 4, 2) := by decide +kernel
theorem d_Mo_rests_102 : decode M_Mo_rests.2.1 102 = .ok (.goto 4, 3) := by decide +kernel
theorem d_Mo_rests_105 : decode M_Mo_rests.2.1 105 = .ok (.iconst (-1), 1) := by decide +kernel
theorem d_Mo_rests_106 : decode M_Mo_rests.2.1 106 = .ok (.ireturn, 1) := by decide +kernel
theorem d_Mo_tell__0 : decode M_Mo_tell_.2.1 0 = .ok (.aload_n 0, 1) := by decide +kernel
theorem d_Mo_tell__1 : decode M_Mo_tell_.2.1 1 = .ok (.getfield 239, 3) := by decide +kernel
theorem d_Mo_tell__4 : decode M_Mo_tell_.2.1 4 = .ok (.bipush 20, 2) := by decide +kernel
theorem d_Mo_tell__6 : decode M_Mo_tell_.2.1 6 = .ok (.if_icmp .eq 22, 3) := by decide +kernel
theorem d_Mo_tell__9 : decode M_Mo_tell_.2.1 9 = .ok (.aload_n 0, 1) := by decide +kernel
theorem d_Mo_tell__10 : decode M_Mo_tell_.2.1 10 = .ok (.iload_n 1, 1) := by decide +kernel
theorem d_Mo_tell__11 : decode M_Mo_tell_.2.1 11 = .ok (.invokevirtual 327, 3) := by decide +kernel
theorem d_Mo_tell__14 : decode M_Mo_tell_.2.1 14 = .ok (.ifCond .eq 14, 3) := by decide +kernel
theorem d_Mo_tell__17 : decode M_Mo_tell_.2.1 17 = .ok (.iload_n 2, 1) := by decide +kernel
theorem d_Mo_tell__18 : decode M_Mo_tell_.2.1 18 = .ok (.iconst 0, 1) := by decide +kernel
theorem d_Mo_tell__19 : decode M_Mo_tell_.2.1 19 = .ok (.sipush 2000, 3) := by decide +kernel
theorem d_Mo_tell__22 : decode M_Mo_tell_.2.1 22 = .ok (.invokestatic 302, 3) := by decide +kernel
theorem d_Mo_tell__25 : decode M_Mo_tell_.2.1 25 = .ok (.ifCond .ne 5, 3) := by decide +kernel
theorem d_Mo_tell__28 : decode M_Mo_tell_.2.1 28 = .ok (.iconst (-1), 1) := by decide +kernel
theorem d_Mo_tell__29 : decode M_Mo_tell_.2.1 29 = .ok (.ireturn, 1) := by decide +kernel
theorem d_Mo_tell__30 : decode M_Mo_tell_.2.1 30 = .ok (.aload_n 0, 1) := by decide +kernel
theorem d_Mo_tell__31 : decode M_Mo_tell_.2.1 31 = .ok (.getfield 128, 3) := by decide +kernel
theorem d_Mo_tell__34 : decode M_Mo_tell_.2.1 34 = .ok (.aload_n 0, 1) := by decide +kernel
theorem d_Mo_tell__35 : decode M_Mo_tell_.2.1 35 = .ok (.getfield 239, 3) := by decide +kernel
theorem d_Mo_tell__38 : decode M_Mo_tell_.2.1 38 = .ok (.iload_n 1, 1) := by decide +kernel
theorem d_Mo_tell__39 : decode M_Mo_tell_.2.1 39 = .ok (.iastore, 1) := by decide +kernel
theorem d_Mo_tell__40 : decode M_Mo_tell_.2.1 40 = .ok (.aload_n 0, 1) := by decide +kernel
theorem d_Mo_tell__41 : decode M_Mo_tell_.2.1 41 = .ok (.getfield 131, 3) := by decide +kernel
theorem d_Mo_tell__44 : decode M_Mo_tell_.2.1 44 = .ok (.aload_n 0, 1) := by decide +kernel
theorem d_Mo_tell__45 : decode M_Mo_tell_.2.1 45 = .ok (.getfield 239, 3) := by decide +kernel
theorem d_Mo_tell__48 : decode M_Mo_tell_.2.1 48 = .ok (.iload_n 2, 1) := by decide +kernel
theorem d_Mo_tell__49 : decode M_Mo_tell_.2.1 49 = .ok (.iastore, 1) := by decide +kernel
theorem d_Mo_tell__50 : decode M_Mo_tell_.2.1 50 = .ok (.aload_n 0, 1) := by decide +kernel
theorem d_Mo_tell__51 : decode M_Mo_tell_.2.1 51 = .ok (.dup, 1) := by decide +kernel
theorem d_Mo_tell__52 : decode M_Mo_tell_.2.1 52 = .ok (.getfield 239, 3) := by decide +kernel
theorem d_Mo_tell__55 : decode M_Mo_tell_.2.1 55 = .ok (.iconst 1, 1) := by decide +kernel
theorem d_Mo_tell__56 : decode M_Mo_tell_.2.1 56 = .ok (.iadd, 1) := by decide +kernel
theorem d_Mo_tell__57 : decode M_Mo_tell_.2.1 57 = .ok (.putfield 239, 3) := by decide +kernel
theorem d_Mo_tell__60 : decode M_Mo_tell_.2.1 60 = .ok (.aload_n 0, 1) := by decide +kernel
theorem d_Mo_tell__61 : decode M_Mo_tell_.2.1 61 = .ok (.getfield 239, 3) := by decide +kernel
theorem d_Mo_tell__64 : decode M_Mo_tell_.2.1 64 = .ok (.iconst 1, 1) := by decide +kernel
theorem d_Mo_tell__65 : decode M_Mo_tell_.2.1 65 = .ok (.isub, 1) := by decide +kernel
theorem d_Mo_tell__66 : decode M_Mo_tell_.2.1 66 = .ok (.ireturn, 1) := by decide +kernel
theorem d_Mo_forget_0 : decode M_Mo_forget.2.1 0 = .ok (.aload_n 0, 1) := by decide +kernel
theorem d_Mo_forget_1 : decode M_Mo_forget.2.1 1 = .ok (.getfield 239, 3) := by decide +kernel
theorem d_Mo_forget_4 : decode M_Mo_forget.2.1 4 = .ok (.istore_n 1, 1) := by decide +kernel
theorem d_Mo_forget_5 : decode M_Mo_forget.2.1 5 = .ok (.aload_n 0, 1) := by decide +kernel
theorem d_Mo_forget_6 : decode M_Mo_forget.2.1 6 = .ok (.iconst 0, 1) := by decide +kernel
theorem d_Mo_forget_7 : decode M_Mo_forget.2.1 7 = .ok (.putfield 239, 3) := by decide +kernel
theorem d_Mo_forget_10 : decode M_Mo_forget.2.1 10 = .ok (.iload_n 1, 1) := by decide +kernel
theorem d_Mo_forget_11 : decode M_Mo_forget.2.1 11 = .ok (.ireturn, 1) := by decide +kernel
theorem d_Mo_isSo_0 : decode M_Mo_isSo.2.1 0 = .ok (.aload_n 0, 1) := by decide +kernel
theorem d_Mo_isSo_1 : decode M_Mo_isSo.2.1 1 = .ok (.invokevirtual 233, 3) := by decide +kernel
theorem d_Mo_isSo_4 : decode M_Mo_isSo.2.1 4 = .ok (.aload_n 0, 1) := by decide +kernel
theorem d_Mo_isSo_5 : decode M_Mo_isSo.2.1 5 = .ok (.getfield 119, 3) := by decide +kernel
theorem d_Mo_isSo_8 : decode M_Mo_isSo.2.1 8 = .ok (.iload_n 1, 1) := by decide +kernel
theorem d_Mo_isSo_9 : decode M_Mo_isSo.2.1 9 = .ok (.dup2, 1) := by decide +kernel
theorem d_Mo_isSo_10 : decode M_Mo_isSo.2.1 10 = .ok (.iaload, 1) := by decide +kernel
theorem d_Mo_isSo_11 : decode M_Mo_isSo.2.1 11 = .ok (.iload_n 2, 1) := by decide +kernel
theorem d_Mo_isSo_12 : decode M_Mo_isSo.2.1 12 = .ok (.iadd, 1) := by decide +kernel
theorem d_Mo_isSo_13 : decode M_Mo_isSo.2.1 13 = .ok (.iastore, 1) := by decide +kernel
theorem d_Mo_isSo_14 : decode M_Mo_isSo.2.1 14 = .ok (.iconst (-1), 1) := by decide +kernel
theorem d_Mo_isSo_15 : decode M_Mo_isSo.2.1 15 = .ok (.istore 4, 2) := by decide +kernel
theorem d_Mo_isSo_17 : decode M_Mo_isSo.2.1 17 = .ok (.iconst 0, 1) := by decide +kernel
theorem d_Mo_isSo_18 : decode M_Mo_isSo.2.1 18 = .ok (.istore 5, 2) := by decide +kernel
theorem d_Mo_isSo_20 : decode M_Mo_isSo.2.1 20 = .ok (.iload 5, 2) := by decide +kernel
theorem d_Mo_isSo_22 : decode M_Mo_isSo.2.1 22 = .ok (.iload_n 3, 1) := by decide +kernel
theorem d_Mo_isSo_23 : decode M_Mo_isSo.2.1 23 = .ok (.if_icmp .ge 30, 3) := by decide +kernel
theorem d_Mo_isSo_26 : decode M_Mo_isSo.2.1 26 = .ok (.aload_n 0, 1) := by decide +kernel
theorem d_Mo_isSo_27 : decode M_Mo_isSo.2.1 27 = .ok (.getfield 131, 3) := by decide +kernel
theorem d_Mo_isSo_30 : decode M_Mo_isSo.2.1 30 = .ok (.iload 5, 2) := by decide +kernel
theorem d_Mo_isSo_32 : decode M_Mo_isSo.2.1 32 = .ok (.iaload, 1) := by decide +kernel
theorem d_Mo_isSo_33 : decode M_Mo_isSo.2.1 33 = .ok (.iload 4, 2) := by decide +kernel
theorem d_Mo_isSo_35 : decode M_Mo_isSo.2.1 35 = .ok (.if_icmp .le 12, 3) := by decide +kernel
theorem d_Mo_isSo_38 : decode M_Mo_isSo.2.1 38 = .ok (.aload_n 0, 1) := by decide +kernel
theorem d_Mo_isSo_39 : decode M_Mo_isSo.2.1 39 = .ok (.getfield 131, 3) := by decide +kernel
theorem d_Mo_isSo_42 : decode M_Mo_isSo.2.1 42 = .ok (.iload 5, 2) := by decide +kernel
theorem d_Mo_isSo_44 : decode M_Mo_isSo.2.1 44 = .ok (.iaload, 1) := by decide +kernel
theorem d_Mo_isSo_45 : decode M_Mo_isSo.2.1 45 = .ok (.istore 4, 2) := by decide +kernel
theorem d_Mo_isSo_47 : decode M_Mo_isSo.2.1 47 = .ok (.iinc 5 1, 3) := by decide +kernel
theorem d_Mo_isSo_50 : decode M_Mo_isSo.2.1 50 = .ok (.goto (-30), 3) := by decide +kernel
theorem d_Mo_isSo_53 : decode M_Mo_isSo.2.1 53 = .ok (.iconst 0, 1) := by decide +kernel
theorem d_Mo_isSo_54 : decode M_Mo_isSo.2.1 54 = .ok (.istore 5, 2) := by decide +kernel
theorem d_Mo_isSo_56 : decode M_Mo_isSo.2.1 56 = .ok (.iload 5, 2) := by decide +kernel
theorem d_Mo_isSo_58 : decode M_Mo_isSo.2.1 58 = .ok (.iload 4, 2) := by decide +kernel
theorem d_Mo_isSo_60 : decode M_Mo_isSo.2.1 60 = .ok (.if_icmp .gt 105, 3) := by decide +kernel
theorem d_Mo_isSo_63 : decode M_Mo_isSo.2.1 63 = .ok (.iconst 0, 1) := by decide +kernel
theorem d_Mo_isSo_64 : decode M_Mo_isSo.2.1 64 = .ok (.istore 6, 2) := by decide +kernel
theorem d_Mo_isSo_66 : decode M_Mo_isSo.2.1 66 = .ok (.iload 6, 2) := by decide +kernel
theorem d_Mo_isSo_68 : decode M_Mo_isSo.2.1 68 = .ok (.bipush 8, 2) := by decide +kernel
theorem d_Mo_isSo_70 : decode M_Mo_isSo.2.1 70 = .ok (.if_icmp .ge 26, 3) := by decide +kernel
theorem d_Mo_isSo_73 : decode M_Mo_isSo.2.1 73 = .ok (.aload_n 0, 1) := by decide +kernel
theorem d_Mo_isSo_74 : decode M_Mo_isSo.2.1 74 = .ok (.getfield 134, 3) := by decide +kernel
theorem d_Mo_isSo_77 : decode M_Mo_isSo.2.1 77 = .ok (.iload 6, 2) := by decide +kernel
theorem d_Mo_isSo_79 : decode M_Mo_isSo.2.1 79 = .ok (.aload_n 0, 1) := by decide +kernel
theorem d_Mo_isSo_80 : decode M_Mo_isSo.2.1 80 = .ok (.getfield 119, 3) := by decide +kernel
theorem d_Mo_isSo_83 : decode M_Mo_isSo.2.1 83 = .ok (.bipush 32, 2) := by decide +kernel
theorem d_Mo_isSo_85 : decode M_Mo_isSo.2.1 85 = .ok (.iload 6, 2) := by decide +kernel
theorem d_Mo_isSo_87 : decode M_Mo_isSo.2.1 87 = .ok (.iadd, 1) := by decide +kernel
theorem d_Mo_isSo_88 : decode M_Mo_isSo.2.1 88 = .ok (.iaload, 1) := by decide +kernel
theorem d_Mo_isSo_89 : decode M_Mo_isSo.2.1 89 = .ok (.iastore, 1) := by decide +kernel
theorem d_Mo_isSo_90 : decode M_Mo_isSo.2.1 90 = .ok (.iinc 6 1, 3) := by decide +kernel
theorem d_Mo_isSo_93 : decode M_Mo_isSo.2.1 93 = .ok (.goto (-27), 3) := by decide +kernel
theorem d_Mo_isSo_96 : decode M_Mo_isSo.2.1 96 = .ok (.aload_n 0, 1) := by decide +kernel
theorem d_Mo_isSo_97 : decode M_Mo_isSo.2.1 97 = .ok (.invokevirtual 342, 3) := by decide +kernel
theorem d_Mo_isSo_100 : decode M_Mo_isSo.2.1 100 = .ok (.iconst 0, 1) := by decide +kernel
theorem d_Mo_isSo_101 : decode M_Mo_isSo.2.1 101 = .ok (.istore 6, 2) := by decide +kernel
theorem d_Mo_isSo_103 : decode M_Mo_isSo.2.1 103 = .ok (.iload 6, 2) := by decide +kernel
theorem d_Mo_isSo_105 : decode M_Mo_isSo.2.1 105 = .ok (.iload_n 3, 1) := by decide +kernel
theorem d_Mo_isSo_106 : decode M_Mo_isSo.2.1 106 = .ok (.if_icmp .ge 53, 3) := by decide +kernel
theorem d_Mo_isSo_109 : decode M_Mo_isSo.2.1 109 = .ok (.aload_n 0, 1) := by decide +kernel
theorem d_Mo_isSo_110 : decode M_Mo_isSo.2.1 110 = .ok (.getfield 131, 3) := by decide +kernel
theorem d_Mo_isSo_113 : decode M_Mo_isSo.2.1 113 = .ok (.iload 6, 2) := by decide +kernel
theorem d_Mo_isSo_115 : decode M_Mo_isSo.2.1 115 = .ok (.iaload, 1) := by decide +kernel
theorem d_Mo_isSo_116 : decode M_Mo_isSo.2.1 116 = .ok (.iload 5, 2) := by decide +kernel
theorem d_Mo_isSo_118 : decode M_Mo_isSo.2.1 118 = .ok (.if_icmp .ne 35, 3) := by decide +kernel
theorem d_Mo_isSo_121 : decode M_Mo_isSo.2.1 121 = .ok (.aload_n 0, 1) := by decide +kernel
theorem d_Mo_isSo_122 : decode M_Mo_isSo.2.1 122 = .ok (.getfield 119, 3) := by decide +kernel
theorem d_Mo_isSo_125 : decode M_Mo_isSo.2.1 125 = .ok (.bipush 32, 2) := by decide +kernel
theorem d_Mo_isSo_127 : decode M_Mo_isSo.2.1 127 = .ok (.aload_n 0, 1) := by decide +kernel
theorem d_Mo_isSo_128 : decode M_Mo_isSo.2.1 128 = .ok (.getfield 128, 3) := by decide +kernel
theorem d_Mo_isSo_131 : decode M_Mo_isSo.2.1 131 = .ok (.iload 6, 2) := by decide +kernel
theorem d_Mo_isSo_133 : decode M_Mo_isSo.2.1 133 = .ok (.iaload, 1) := by decide +kernel
theorem d_Mo_isSo_134 : decode M_Mo_isSo.2.1 134 = .ok (.iadd, 1) := by decide +kernel
theorem d_Mo_isSo_135 : decode M_Mo_isSo.2.1 135 = .ok (.iaload, 1) := by decide +kernel
theorem d_Mo_isSo_136 : decode M_Mo_isSo.2.1 136 = .ok (.aload_n 0, 1) := by decide +kernel
theorem d_Mo_isSo_137 : decode M_Mo_isSo.2.1 137 = .ok (.getfield 134, 3) := by decide +kernel
theorem d_Mo_isSo_140 : decode M_Mo_isSo.2.1 140 = .ok (.aload_n 0, 1) := by decide +kernel
theorem d_Mo_isSo_141 : decode M_Mo_isSo.2.1 141 = .ok (.getfield 128, 3) := by decide +kernel
theorem d_Mo_isSo_144 : decode M_Mo_isSo.2.1 144 = .ok (.iload 6, 2) := by decide +kernel
theorem d_Mo_isSo_146 : decode M_Mo_isSo.2.1 146 = .ok (.iaload, 1) := by decide +kernel
theorem d_Mo_isSo_147 : decode M_Mo_isSo.2.1 147 = .ok (.iaload, 1) := by decide +kernel
theorem d_Mo_isSo_148 : decode M_Mo_isSo.2.1 148 = .ok (.if_icmp .ne 5, 3) := by decide +kernel
theorem d_Mo_isSo_151 : decode M_Mo_isSo.2.1 151 = .ok (.iconst 0, 1) := by decide +kernel
theorem d_Mo_isSo_152 : decode M_Mo_isSo.2.1 152 = .ok (.ireturn, 1) := by decide +kernel
theorem d_Mo_isSo_153 : decode M_Mo_isSo.2.1 153 = .ok (.iinc 6 1, 3) := by decide +kernel
theorem d_Mo_isSo_156 : decode M_Mo_isSo.2.1 156 = .ok (.goto (-53), 3) := by decide +kernel
theorem d_Mo_isSo_159 : decode M_Mo_isSo.2.1 159 = .ok (.iinc 5 1, 3) := by decide +kernel
theorem d_Mo_isSo_162 : decode M_Mo_isSo.2.1 162 = .ok (.goto (-106), 3) := by decide +kernel
theorem d_Mo_isSo_165 : decode M_Mo_isSo.2.1 165 = .ok (.iconst 1, 1) := by decide +kernel
theorem d_Mo_isSo_166 : decode M_Mo_isSo.2.1 166 = .ok (.ireturn, 1) := by decide +kernel
theorem d_Mo_tampered_0 : decode M_Mo_tampered.2.1 0 = .ok (.iload_n 1, 1) := by decide +kernel
theorem d_Mo_tampered_1 : decode M_Mo_tampered.2.1 1 = .ok (.iconst 1, 1) := by decide +kernel
theorem d_Mo_tampered_2 : decode M_Mo_tampered.2.1 2 = .ok (.sipush 200, 3) := by decide +kernel
theorem d_Mo_tampered_5 : decode M_Mo_tampered.2.1 5 = .ok (.invokestatic 302, 3) := by decide +kernel
theorem d_Mo_tampered_8 : decode M_Mo_tampered.2.1 8 = .ok (.ifCond .eq 20, 3) := by decide +kernel
theorem d_Mo_tampered_11 : decode M_Mo_tampered.2.1 11 = .ok (.iload_n 2, 1) := by decide +kernel
theorem d_Mo_tampered_12 : decode M_Mo_tampered.2.1 12 = .ok (.iconst 0, 1) := by decide +kernel
theorem d_Mo_tampered_13 : decode M_Mo_tampered.2.1 13 = .ok (.aload_n 0, 1) := by decide +kernel
theorem d_Mo_tampered_14 : decode M_Mo_tampered.2.1 14 = .ok (.getfield 239, 3) := by decide +kernel
theorem d_Mo_tampered_17 : decode M_Mo_tampered.2.1 17 = .ok (.invokestatic 302, 3) := by decide +kernel
theorem d_Mo_tampered_20 : decode M_Mo_tampered.2.1 20 = .ok (.ifCond .eq 8, 3) := by decide +kernel
theorem d_Mo_tampered_23 : decode M_Mo_tampered.2.1 23 = .ok (.iload_n 3, 1) := by decide +kernel
theorem d_Mo_tampered_24 : decode M_Mo_tampered.2.1 24 = .ok (.iconst (-1), 1) := by decide +kernel
theorem d_Mo_tampered_25 : decode M_Mo_tampered.2.1 25 = .ok (.if_icmp .ge 5, 3) := by decide +kernel
theorem d_Mo_tampered_28 : decode M_Mo_tampered.2.1 28 = .ok (.iconst (-1), 1) := by decide +kernel
theorem d_Mo_tampered_29 : decode M_Mo_tampered.2.1 29 = .ok (.ireturn, 1) := by decide +kernel
theorem d_Mo_tampered_30 : decode M_Mo_tampered.2.1 30 = .ok (.iconst 0, 1) := by decide +kernel
theorem d_Mo_tampered_31 : decode M_Mo_tampered.2.1 31 = .ok (.istore 4, 2) := by decide +kernel
theorem d_Mo_tampered_33 : decode M_Mo_tampered.2.1 33 = .ok (.iconst 0, 1) := by decide +kernel
theorem d_Mo_tampered_34 : decode M_Mo_tampered.2.1 34 = .ok (.istore 5, 2) := by decide +kernel
theorem d_Mo_tampered_36 : decode M_Mo_tampered.2.1 36 = .ok (.iload 5, 2) := by decide +kernel
theorem d_Mo_tampered_38 : decode M_Mo_tampered.2.1 38 = .ok (.aload_n 0, 1) := by decide +kernel
theorem d_Mo_tampered_39 : decode M_Mo_tampered.2.1 39 = .ok (.getfield 49, 3) := by decide +kernel
theorem d_Mo_tampered_42 : decode M_Mo_tampered.2.1 42 = .ok (.aload_n 0, 1) := by decide +kernel
theorem d_Mo_tampered_43 : decode M_Mo_tampered.2.1 43 = .ok (.getfield 215, 3) := by decide +kernel
theorem d_Mo_tampered_46 : decode M_Mo_tampered.2.1 46 = .ok (.iaload, 1) := by decide +kernel
theorem d_Mo_tampered_47 : decode M_Mo_tampered.2.1 47 = .ok (.if_icmp .ge 67, 3) := by decide +kernel
theorem d_Mo_tampered_50 : decode M_Mo_tampered.2.1 50 = .ok (.iload 5, 2) := by decide +kernel
theorem d_Mo_tampered_52 : decode M_Mo_tampered.2.1 52 = .ok (.ifCond .ne 7, 3) := by decide +kernel
theorem d_Mo_tampered_55 : decode M_Mo_tampered.2.1 55 = .ok (.iconst 0, 1) := by decide +kernel
theorem d_Mo_tampered_56 : decode M_Mo_tampered.2.1 56 = .ok (.goto 4, 3) := by decide +kernel
theorem d_Mo_tampered_59 : decode M_Mo_tampered.2.1 59 = .ok (.iconst 1, 1) := by decide +kernel
theorem d_Mo_tampered_60 : decode M_Mo_tampered.2.1 60 = .ok (.istore 6, 2) := by decide +kernel
theorem d_Mo_tampered_62 : decode M_Mo_tampered.2.1 62 = .ok (.iload 6, 2) := by decide +kernel
theorem d_Mo_tampered_64 : decode M_Mo_tampered.2.1 64 = .ok (.iload_n 1, 1) := by decide +kernel
theorem d_Mo_tampered_65 : decode M_Mo_tampered.2.1 65 = .ok (.if_icmp .gt 43, 3) := by decide +kernel
theorem d_Mo_tampered_68 : decode M_Mo_tampered.2.1 68 = .ok (.aload_n 0, 1) := by decide +kernel
theorem d_Mo_tampered_69 : decode M_Mo_tampered.2.1 69 = .ok (.iload 5, 2) := by decide +kernel
theorem d_Mo_tampered_71 : decode M_Mo_tampered.2.1 71 = .ok (.iload 6, 2) := by decide +kernel
theorem d_Mo_tampered_73 : decode M_Mo_tampered.2.1 73 = .ok (.iload_n 2, 1) := by decide +kernel
theorem d_Mo_tampered_74 : decode M_Mo_tampered.2.1 74 = .ok (.invokevirtual 375, 3) := by decide +kernel
theorem d_Mo_tampered_77 : decode M_Mo_tampered.2.1 77 = .ok (.ifCond .ne 6, 3) := by decide +kernel
theorem d_Mo_tampered_80 : decode M_Mo_tampered.2.1 80 = .ok (.goto 22, 3) := by decide +kernel
theorem d_Mo_tampered_83 : decode M_Mo_tampered.2.1 83 = .ok (.iload 4, 2) := by decide +kernel
theorem d_Mo_tampered_85 : decode M_Mo_tampered.2.1 85 = .ok (.iload_n 3, 1) := by decide +kernel
theorem d_Mo_tampered_86 : decode M_Mo_tampered.2.1 86 = .ok (.if_icmp .ne 13, 3) := by decide +kernel
theorem d_Mo_tampered_89 : decode M_Mo_tampered.2.1 89 = .ok (.sipush 1000, 3) := by decide +kernel
theorem d_Mo_tampered_92 : decode M_Mo_tampered.2.1 92 = .ok (.iload 5, 2) := by decide +kernel
theorem d_Mo_tampered_94 : decode M_Mo_tampered.2.1 94 = .ok (.imul, 1) := by decide +kernel
theorem d_Mo_tampered_95 : decode M_Mo_tampered.2.1 95 = .ok (.iload 6, 2) := by decide +kernel
theorem d_Mo_tampered_97 : decode M_Mo_tampered.2.1 97 = .ok (.iadd, 1) := by decide +kernel
theorem d_Mo_tampered_98 : decode M_Mo_tampered.2.1 98 = .ok (.ireturn, 1) := by decide +kernel
theorem d_Mo_tampered_99 : decode M_Mo_tampered.2.1 99 = .ok (.iinc 4 1, 3) := by decide +kernel
theorem d_Mo_tampered_102 : decode M_Mo_tampered.2.1 102 = .ok (.iinc 6 1, 3) := by decide +kernel
theorem d_Mo_tampered_105 : decode M_Mo_tampered.2.1 105 = .ok (.goto (-43), 3) := by decide +kernel
theorem d_Mo_tampered_108 : decode M_Mo_tampered.2.1 108 = .ok (.iinc 5 1, 3) := by decide +kernel
theorem d_Mo_tampered_111 : decode M_Mo_tampered.2.1 111 = .ok (.goto (-75), 3) := by decide +kernel
theorem d_Mo_tampered_114 : decode M_Mo_tampered.2.1 114 = .ok (.iload_n 3, 1) := by decide +kernel
theorem d_Mo_tampered_115 : decode M_Mo_tampered.2.1 115 = .ok (.iconst (-1), 1) := by decide +kernel
theorem d_Mo_tampered_116 : decode M_Mo_tampered.2.1 116 = .ok (.if_icmp .ne 8, 3) := by decide +kernel
theorem d_Mo_tampered_119 : decode M_Mo_tampered.2.1 119 = .ok (.iload 4, 2) := by decide +kernel
theorem d_Mo_tampered_121 : decode M_Mo_tampered.2.1 121 = .ok (.goto 4, 3) := by decide +kernel
theorem d_Mo_tampered_124 : decode M_Mo_tampered.2.1 124 = .ok (.iconst (-1), 1) := by decide +kernel
theorem d_Mo_tampered_125 : decode M_Mo_tampered.2.1 125 = .ok (.ireturn, 1) := by decide +kernel
theorem d_Mo_hold_0 : decode M_Mo_hold.2.1 0 = .ok (.iload_n 1, 1) := by decide +kernel
theorem d_Mo_hold_1 : decode M_Mo_hold.2.1 1 = .ok (.iconst 0, 1) := by decide +kernel
theorem d_Mo_hold_2 : decode M_Mo_hold.2.1 2 = .ok (.iconst 2, 1) := by decide +kernel
theorem d_Mo_hold_3 : decode M_Mo_hold.2.1 3 = .ok (.invokestatic 302, 3) := by decide +kernel
theorem d_Mo_hold_6 : decode M_Mo_hold.2.1 6 = .ok (.ifCond .ne 5, 3) := by decide +kernel
theorem d_Mo_hold_9 : decode M_Mo_hold.2.1 9 = .ok (.iconst 0, 1) := by decide +kernel
theorem d_Mo_hold_10 : decode M_Mo_hold.2.1 10 = .ok (.ireturn, 1) := by decide +kernel
theorem d_Mo_hold_11 : decode M_Mo_hold.2.1 11 = .ok (.aload_n 0, 1) := by decide +kernel
theorem d_Mo_hold_12 : decode M_Mo_hold.2.1 12 = .ok (.getfield 137, 3) := by decide +kernel
theorem d_Mo_hold_15 : decode M_Mo_hold.2.1 15 = .ok (.iload_n 1, 1) := by decide +kernel
theorem d_Mo_hold_16 : decode M_Mo_hold.2.1 16 = .ok (.iconst 1, 1) := by decide +kernel
theorem d_Mo_hold_17 : decode M_Mo_hold.2.1 17 = .ok (.bastore, 1) := by decide +kernel
theorem d_Mo_hold_18 : decode M_Mo_hold.2.1 18 = .ok (.iconst 0, 1) := by decide +kernel
theorem d_Mo_hold_19 : decode M_Mo_hold.2.1 19 = .ok (.istore_n 2, 1) := by decide +kernel
theorem d_Mo_hold_20 : decode M_Mo_hold.2.1 20 = .ok (.iload_n 2, 1) := by decide +kernel
theorem d_Mo_hold_21 : decode M_Mo_hold.2.1 21 = .ok (.bipush 100, 2) := by decide +kernel
theorem d_Mo_hold_23 : decode M_Mo_hold.2.1 23 = .ok (.if_icmp .ge 26, 3) := by decide +kernel
theorem d_Mo_hold_26 : decode M_Mo_hold.2.1 26 = .ok (.aload_n 0, 1) := by decide +kernel
theorem d_Mo_hold_27 : decode M_Mo_hold.2.1 27 = .ok (.getfield 140, 3) := by decide +kernel
theorem d_Mo_hold_30 : decode M_Mo_hold.2.1 30 = .ok (.bipush 100, 2) := by decide +kernel
theorem d_Mo_hold_32 : decode M_Mo_hold.2.1 32 = .ok (.iload_n 1, 1) := by decide +kernel
theorem d_Mo_hold_33 : decode M_Mo_hold.2.1 33 = .ok (.imul, 1) := by decide +kernel
theorem d_Mo_hold_34 : decode M_Mo_hold.2.1 34 = .ok (.iload_n 2, 1) := by decide +kernel
theorem d_Mo_hold_35 : decode M_Mo_hold.2.1 35 = .ok (.iadd, 1) := by decide +kernel
theorem d_Mo_hold_36 : decode M_Mo_hold.2.1 36 = .ok (.aload_n 0, 1) := by decide +kernel
theorem d_Mo_hold_37 : decode M_Mo_hold.2.1 37 = .ok (.getfield 116, 3) := by decide +kernel
theorem d_Mo_hold_40 : decode M_Mo_hold.2.1 40 = .ok (.iload_n 2, 1) := by decide +kernel
theorem d_Mo_hold_41 : decode M_Mo_hold.2.1 41 = .ok (.iaload, 1) := by decide +kernel
theorem d_Mo_hold_42 : decode M_Mo_hold.2.1 42 = .ok (.iastore, 1) := by decide +kernel
theorem d_Mo_hold_43 : decode M_Mo_hold.2.1 43 = .ok (.iinc 2 1, 3) := by decide +kernel
theorem d_Mo_hold_46 : decode M_Mo_hold.2.1 46 = .ok (.goto (-26), 3) := by decide +kernel
theorem d_Mo_hold_49 : decode M_Mo_hold.2.1 49 = .ok (.iconst 1, 1) := by decide +kernel
theorem d_Mo_hold_50 : decode M_Mo_hold.2.1 50 = .ok (.ireturn, 1) := by decide +kernel
theorem d_Mo_restore_0 : decode M_Mo_restore.2.1 0 = .ok (.iload_n 1, 1) := by decide +kernel
theorem d_Mo_restore_1 : decode M_Mo_restore.2.1 1 = .ok (.iconst 0, 1) := by decide +kernel
theorem d_Mo_restore_2 : decode M_Mo_restore.2.1 2 = .ok (.iconst 2, 1) := by decide +kernel
theorem d_Mo_restore_3 : decode M_Mo_restore.2.1 3 = .ok (.invokestatic 302, 3) := by decide +kernel
theorem d_Mo_restore_6 : decode M_Mo_restore.2.1 6 = .ok (.ifCond .eq 12, 3) := by decide +kernel
theorem d_Mo_restore_9 : decode M_Mo_restore.2.1 9 = .ok (.aload_n 0, 1) := by decide +kernel
theorem d_Mo_restore_10 : decode M_Mo_restore.2.1 10 = .ok (.getfield 137, 3) := by decide +kernel
theorem d_Mo_restore_13 : decode M_Mo_restore.2.1 13 = .ok (.iload_n 1, 1) := by decide +kernel
theorem d_Mo_restore_14 : decode M_Mo_restore.2.1 14 = .ok (.baload, 1) := by decide +kernel
theorem d_Mo_restore_15 : decode M_Mo_restore.2.1 15 = .ok (.ifCond .ne 5, 3) := by decide +kernel
theorem d_Mo_restore_18 : decode M_Mo_restore.2.1 18 = .ok (.iconst 0, 1) := by decide +kernel
theorem d_Mo_restore_19 : decode M_Mo_restore.2.1 19 = .ok (.ireturn, 1) := by decide +kernel
theorem d_Mo_restore_20 : decode M_Mo_restore.2.1 20 = .ok (.iconst 0, 1) := by decide +kernel
theorem d_Mo_restore_21 : decode M_Mo_restore.2.1 21 = .ok (.istore_n 2, 1) := by decide +kernel
theorem d_Mo_restore_22 : decode M_Mo_restore.2.1 22 = .ok (.iload_n 2, 1) := by decide +kernel
theorem d_Mo_restore_23 : decode M_Mo_restore.2.1 23 = .ok (.bipush 100, 2) := by decide +kernel
theorem d_Mo_restore_25 : decode M_Mo_restore.2.1 25 = .ok (.if_icmp .ge 26, 3) := by decide +kernel
theorem d_Mo_restore_28 : decode M_Mo_restore.2.1 28 = .ok (.aload_n 0, 1) := by decide +kernel
theorem d_Mo_restore_29 : decode M_Mo_restore.2.1 29 = .ok (.getfield 116, 3) := by decide +kernel
theorem d_Mo_restore_32 : decode M_Mo_restore.2.1 32 = .ok (.iload_n 2, 1) := by decide +kernel
theorem d_Mo_restore_33 : decode M_Mo_restore.2.1 33 = .ok (.aload_n 0, 1) := by decide +kernel
theorem d_Mo_restore_34 : decode M_Mo_restore.2.1 34 = .ok (.getfield 140, 3) := by decide +kernel
theorem d_Mo_restore_37 : decode M_Mo_restore.2.1 37 = .ok (.bipush 100, 2) := by decide +kernel
theorem d_Mo_restore_39 : decode M_Mo_restore.2.1 39 = .ok (.iload_n 1, 1) := by decide +kernel
theorem d_Mo_restore_40 : decode M_Mo_restore.2.1 40 = .ok (.imul, 1) := by decide +kernel
theorem d_Mo_restore_41 : decode M_Mo_restore.2.1 41 = .ok (.iload_n 2, 1) := by decide +kernel
theorem d_Mo_restore_42 : decode M_Mo_restore.2.1 42 = .ok (.iadd, 1) := by decide +kernel
theorem d_Mo_restore_43 : decode M_Mo_restore.2.1 43 = .ok (.iaload, 1) := by decide +kernel
theorem d_Mo_restore_44 : decode M_Mo_restore.2.1 44 = .ok (.iastore, 1) := by decide +kernel
theorem d_Mo_restore_45 : decode M_Mo_restore.2.1 45 = .ok (.iinc 2 1, 3) := by decide +kernel
theorem d_Mo_restore_48 : decode M_Mo_restore.2.1 48 = .ok (.goto (-26), 3) := by decide +kernel
theorem d_Mo_restore_51 : decode M_Mo_restore.2.1 51 = .ok (.aload_n 0, 1) := by decide +kernel
theorem d_Mo_restore_52 : decode M_Mo_restore.2.1 52 = .ok (.iconst 0, 1) := by decide +kernel
theorem d_Mo_restore_53 : decode M_Mo_restore.2.1 53 = .ok (.putfield 236, 3) := by decide +kernel
theorem d_Mo_restore_56 : decode M_Mo_restore.2.1 56 = .ok (.iconst 1, 1) := by decide +kernel
theorem d_Mo_restore_57 : decode M_Mo_restore.2.1 57 = .ok (.ireturn, 1) := by decide +kernel
theorem d_Mo_count_0 : decode M_Mo_count.2.1 0 = .ok (.aload_n 0, 1) := by decide +kernel
theorem d_Mo_count_1 : decode M_Mo_count.2.1 1 = .ok (.invokevirtual 330, 3) := by decide +kernel
theorem d_Mo_count_4 : decode M_Mo_count.2.1 4 = .ok (.iload_n 1, 1) := by decide +kernel
theorem d_Mo_count_5 : decode M_Mo_count.2.1 5 = .ok (.tableswitch 220 0 12 #[67, 77, 87, 95, 103, 108, 118, 128, 155, 160, 165, 170, 215], 67) := by decide +kernel
theorem d_Mo_count_72 : decode M_Mo_count.2.1 72 = .ok (.aload_n 0, 1) := by decide +kernel
theorem d_Mo_count_73 : decode M_Mo_count.2.1 73 = .ok (.getfield 49, 3) := by decide +kernel
theorem d_Mo_count_76 : decode M_Mo_count.2.1 76 = .ok (.aload_n 0, 1) := by decide +kernel
theorem d_Mo_count_77 : decode M_Mo_count.2.1 77 = .ok (.getfield 215, 3) := by decide +kernel
theorem d_Mo_count_80 : decode M_Mo_count.2.1 80 = .ok (.iaload, 1) := by decide +kernel
theorem d_Mo_count_81 : decode M_Mo_count.2.1 81 = .ok (.ireturn, 1) := by decide +kernel
theorem d_Mo_count_82 : decode M_Mo_count.2.1 82 = .ok (.aload_n 0, 1) := by decide +kernel
theorem d_Mo_count_83 : decode M_Mo_count.2.1 83 = .ok (.getfield 64, 3) := by decide +kernel
theorem d_Mo_count_86 : decode M_Mo_count.2.1 86 = .ok (.aload_n 0, 1) := by decide +kernel
theorem d_Mo_count_87 : decode M_Mo_count.2.1 87 = .ok (.getfield 215, 3) := by decide +kernel
theorem d_Mo_count_90 : decode M_Mo_count.2.1 90 = .ok (.iaload, 1) := by decide +kernel
theorem d_Mo_count_91 : decode M_Mo_count.2.1 91 = .ok (.ireturn, 1) := by decide +kernel
theorem d_Mo_count_92 : decode M_Mo_count.2.1 92 = .ok (.aload_n 0, 1) := by decide +kernel
theorem d_Mo_count_93 : decode M_Mo_count.2.1 93 = .ok (.getfield 119, 3) := by decide +kernel
theorem d_Mo_count_96 : decode M_Mo_count.2.1 96 = .ok (.bipush 97, 2) := by decide +kernel
theorem d_Mo_count_98 : decode M_Mo_count.2.1 98 = .ok (.iaload, 1) := by decide +kernel
theorem d_Mo_count_99 : decode M_Mo_count.2.1 99 = .ok (.ireturn, 1) := by decide +kernel
theorem d_Mo_count_100 : decode M_Mo_count.2.1 100 = .ok (.aload_n 0, 1) := by decide +kernel
theorem d_Mo_count_101 : decode M_Mo_count.2.1 101 = .ok (.getfield 119, 3) := by decide +kernel
theorem d_Mo_count_104 : decode M_Mo_count.2.1 104 = .ok (.bipush 96, 2) := by decide +kernel
theorem d_Mo_count_106 : decode M_Mo_count.2.1 106 = .ok (.iaload, 1) := by decide +kernel
theorem d_Mo_count_107 : decode M_Mo_count.2.1 107 = .ok (.ireturn, 1) := by decide +kernel
theorem d_Mo_count_108 : decode M_Mo_count.2.1 108 = .ok (.aload_n 0, 1) := by decide +kernel
theorem d_Mo_count_109 : decode M_Mo_count.2.1 109 = .ok (.invokevirtual 363, 3) := by decide +kernel
theorem d_Mo_count_112 : decode M_Mo_count.2.1 112 = .ok (.ireturn, 1) := by decide +kernel
theorem d_Mo_count_113 : decode M_Mo_count.2.1 113 = .ok (.aload_n 0, 1) := by decide +kernel
theorem d_Mo_count_114 : decode M_Mo_count.2.1 114 = .ok (.getfield 76, 3) := by decide +kernel
theorem d_Mo_count_117 : decode M_Mo_count.2.1 117 = .ok (.aload_n 0, 1) := by decide +kernel
theorem d_Mo_count_118 : decode M_Mo_count.2.1 118 = .ok (.getfield 215, 3) := by decide +kernel
theorem d_Mo_count_121 : decode M_Mo_count.2.1 121 = .ok (.iaload, 1) := by decide +kernel
theorem d_Mo_count_122 : decode M_Mo_count.2.1 122 = .ok (.ireturn, 1) := by decide +kernel
theorem d_Mo_count_123 : decode M_Mo_count.2.1 123 = .ok (.aload_n 0, 1) := by decide +kernel
theorem d_Mo_count_124 : decode M_Mo_count.2.1 124 = .ok (.getfield 70, 3) := by decide +kernel
theorem d_Mo_count_127 : decode M_Mo_count.2.1 127 = .ok (.aload_n 0, 1) := by decide +kernel
theorem d_Mo_count_128 : decode M_Mo_count.2.1 128 = .ok (.getfield 215, 3) := by decide +kernel
theorem d_Mo_count_131 : decode M_Mo_count.2.1 131 = .ok (.iaload, 1) := by decide +kernel
theorem d_Mo_count_132 : decode M_Mo_count.2.1 132 = .ok (.ireturn, 1) := by decide +kernel
theorem d_Mo_count_133 : decode M_Mo_count.2.1 133 = .ok (.iconst 0, 1) := by decide +kernel
theorem d_Mo_count_134 : decode M_Mo_count.2.1 134 = .ok (.istore_n 2, 1) := by decide +kernel
theorem d_Mo_count_135 : decode M_Mo_count.2.1 135 = .ok (.iconst 0, 1) := by decide +kernel
theorem d_Mo_count_136 : decode M_Mo_count.2.1 136 = .ok (.istore_n 3, 1) := by decide +kernel
theorem d_Mo_count_137 : decode M_Mo_count.2.1 137 = .ok (.iload_n 3, 1) := by decide +kernel
theorem d_Mo_count_138 : decode M_Mo_count.2.1 138 = .ok (.bipush 16, 2) := by decide +kernel
theorem d_Mo_count_140 : decode M_Mo_count.2.1 140 = .ok (.if_icmp .ge 18, 3) := by decide +kernel
theorem d_Mo_count_143 : decode M_Mo_count.2.1 143 = .ok (.iload_n 2, 1) := by decide +kernel
theorem d_Mo_count_144 : decode M_Mo_count.2.1 144 = .ok (.aload_n 0, 1) := by decide +kernel
theorem d_Mo_count_145 : decode M_Mo_count.2.1 145 = .ok (.getfield 119, 3) := by decide +kernel
theorem d_Mo_count_148 : decode M_Mo_count.2.1 148 = .ok (.iload_n 3, 1) := by decide +kernel
theorem d_Mo_count_149 : decode M_Mo_count.2.1 149 = .ok (.iaload, 1) := by decide +kernel
theorem d_Mo_count_150 : decode M_Mo_count.2.1 150 = .ok (.iadd, 1) := by decide +kernel
theorem d_Mo_count_151 : decode M_Mo_count.2.1 151 = .ok (.istore_n 2, 1) := by decide +kernel
theorem d_Mo_count_152 : decode M_Mo_count.2.1 152 = .ok (.iinc 3 1, 3) := by decide +kernel
theorem d_Mo_count_155 : decode M_Mo_count.2.1 155 = .ok (.goto (-18), 3) := by decide +kernel
theorem d_Mo_count_158 : decode M_Mo_count.2.1 158 = .ok (.iload_n 2, 1) := by decide +kernel
theorem d_Mo_count_159 : decode M_Mo_count.2.1 159 = .ok (.ireturn, 1) := by decide +kernel
theorem d_Mo_count_160 : decode M_Mo_count.2.1 160 = .ok (.aload_n 0, 1) := by decide +kernel
theorem d_Mo_count_161 : decode M_Mo_count.2.1 161 = .ok (.getfield 147, 3) := by decide +kernel
theorem d_Mo_count_164 : decode M_Mo_count.2.1 164 = .ok (.ireturn, 1) := by decide +kernel
theorem d_Mo_count_165 : decode M_Mo_count.2.1 165 = .ok (.aload_n 0, 1) := by decide +kernel
theorem d_Mo_count_166 : decode M_Mo_count.2.1 166 = .ok (.getfield 236, 3) := by decide +kernel
theorem d_Mo_count_169 : decode M_Mo_count.2.1 169 = .ok (.ireturn, 1) := by decide +kernel
theorem d_Mo_count_170 : decode M_Mo_count.2.1 170 = .ok (.aload_n 0, 1) := by decide +kernel
theorem d_Mo_count_171 : decode M_Mo_count.2.1 171 = .ok (.getfield 239, 3) := by decide +kernel
theorem d_Mo_count_174 : decode M_Mo_count.2.1 174 = .ok (.ireturn, 1) := by decide +kernel
theorem d_Mo_count_175 : decode M_Mo_count.2.1 175 = .ok (.aload_n 0, 1) := by decide +kernel
theorem d_Mo_count_176 : decode M_Mo_count.2.1 176 = .ok (.getfield 137, 3) := by decide +kernel
theorem d_Mo_count_179 : decode M_Mo_count.2.1 179 = .ok (.iconst 0, 1) := by decide +kernel
theorem d_Mo_count_180 : decode M_Mo_count.2.1 180 = .ok (.baload, 1) := by decide +kernel
theorem d_Mo_count_181 : decode M_Mo_count.2.1 181 = .ok (.ifCond .eq 7, 3) := by decide +kernel
theorem d_Mo_count_184 : decode M_Mo_count.2.1 184 = .ok (.iconst 1, 1) := by decide +kernel
theorem d_Mo_count_185 : decode M_Mo_count.2.1 185 = .ok (.goto 4, 3) := by decide +kernel
theorem d_Mo_count_188 : decode M_Mo_count.2.1 188 = .ok (.iconst 0, 1) := by decide +kernel
theorem d_Mo_count_189 : decode M_Mo_count.2.1 189 = .ok (.aload_n 0, 1) := by decide +kernel
theorem d_Mo_count_190 : decode M_Mo_count.2.1 190 = .ok (.getfield 137, 3) := by decide +kernel
theorem d_Mo_count_193 : decode M_Mo_count.2.1 193 = .ok (.iconst 1, 1) := by decide +kernel
theorem d_Mo_count_194 : decode M_Mo_count.2.1 194 = .ok (.baload, 1) := by decide +kernel
theorem d_Mo_count_195 : decode M_Mo_count.2.1 195 = .ok (.ifCond .eq 7, 3) := by decide +kernel
theorem d_Mo_count_198 : decode M_Mo_count.2.1 198 = .ok (.iconst 1, 1) := by decide +kernel
theorem d_Mo_count_199 : decode M_Mo_count.2.1 199 = .ok (.goto 4, 3) := by decide +kernel
theorem d_Mo_count_202 : decode M_Mo_count.2.1 202 = .ok (.iconst 0, 1) := by decide +kernel
theorem d_Mo_count_203 : decode M_Mo_count.2.1 203 = .ok (.iadd, 1) := by decide +kernel
theorem d_Mo_count_204 : decode M_Mo_count.2.1 204 = .ok (.aload_n 0, 1) := by decide +kernel
theorem d_Mo_count_205 : decode M_Mo_count.2.1 205 = .ok (.getfield 137, 3) := by decide +kernel
theorem d_Mo_count_208 : decode M_Mo_count.2.1 208 = .ok (.iconst 2, 1) := by decide +kernel
theorem d_Mo_count_209 : decode M_Mo_count.2.1 209 = .ok (.baload, 1) := by decide +kernel
theorem d_Mo_count_210 : decode M_Mo_count.2.1 210 = .ok (.ifCond .eq 7, 3) := by decide +kernel
theorem d_Mo_count_213 : decode M_Mo_count.2.1 213 = .ok (.iconst 1, 1) := by decide +kernel
theorem d_Mo_count_214 : decode M_Mo_count.2.1 214 = .ok (.goto 4, 3) := by decide +kernel
theorem d_Mo_count_217 : decode M_Mo_count.2.1 217 = .ok (.iconst 0, 1) := by decide +kernel
theorem d_Mo_count_218 : decode M_Mo_count.2.1 218 = .ok (.iadd, 1) := by decide +kernel
theorem d_Mo_count_219 : decode M_Mo_count.2.1 219 = .ok (.ireturn, 1) := by decide +kernel
theorem d_Mo_count_220 : decode M_Mo_count.2.1 220 = .ok (.aload_n 0, 1) := by decide +kernel
theorem d_Mo_count_221 : decode M_Mo_count.2.1 221 = .ok (.invokevirtual 354, 3) := by decide +kernel
theorem d_Mo_count_224 : decode M_Mo_count.2.1 224 = .ok (.ireturn, 1) := by decide +kernel
theorem d_Mo_count_225 : decode M_Mo_count.2.1 225 = .ok (.iconst (-1), 1) := by decide +kernel
theorem d_Mo_count_226 : decode M_Mo_count.2.1 226 = .ok (.ireturn, 1) := by decide +kernel
