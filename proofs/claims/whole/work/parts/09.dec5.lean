theorem dX10_behind_0 : decode cX10_behind 0 = .ok (.iload_n 1, 1) := by decide +kernel
theorem dX10_behind_1 : decode cX10_behind 1 = .ok (.iload_n 0, 1) := by decide +kernel
theorem dX10_behind_2 : decode cX10_behind 2 = .ok (.isub, 1) := by decide +kernel
theorem dX10_behind_3 : decode cX10_behind 3 = .ok (.bipush 32, 2) := by decide +kernel
theorem dX10_behind_5 : decode cX10_behind 5 = .ok (.iadd, 1) := by decide +kernel
theorem dX10_behind_6 : decode cX10_behind 6 = .ok (.bipush 32, 2) := by decide +kernel
theorem dX10_behind_8 : decode cX10_behind 8 = .ok (.irem, 1) := by decide +kernel
theorem dX10_behind_9 : decode cX10_behind 9 = .ok (.istore_n 2, 1) := by decide +kernel
theorem dX10_behind_10 : decode cX10_behind 10 = .ok (.iload_n 2, 1) := by decide +kernel
theorem dX10_behind_11 : decode cX10_behind 11 = .ok (.ifCond .ne 8, 3) := by decide +kernel
theorem dX10_behind_14 : decode cX10_behind 14 = .ok (.bipush 32, 2) := by decide +kernel
theorem dX10_behind_16 : decode cX10_behind 16 = .ok (.goto 4, 3) := by decide +kernel
theorem dX10_behind_19 : decode cX10_behind 19 = .ok (.iload_n 2, 1) := by decide +kernel
theorem dX10_behind_20 : decode cX10_behind 20 = .ok (.ireturn, 1) := by decide +kernel
theorem dX10_polls_0 : decode cX10_polls 0 = .ok (.iload_n 1, 1) := by decide +kernel
theorem dX10_polls_1 : decode cX10_polls 1 = .ok (.aload_n 0, 1) := by decide +kernel
theorem dX10_polls_2 : decode cX10_polls 2 = .ok (.iload_n 1, 1) := by decide +kernel
theorem dX10_polls_3 : decode cX10_polls 3 = .ok (.iconst 3, 1) := by decide +kernel
theorem dX10_polls_4 : decode cX10_polls 4 = .ok (.invokevirtual 39, 3) := by decide +kernel
theorem dX10_polls_7 : decode cX10_polls 7 = .ok (.invokestatic 95, 3) := by decide +kernel
theorem dX10_polls_10 : decode cX10_polls 10 = .ok (.iconst 1, 1) := by decide +kernel
theorem dX10_polls_11 : decode cX10_polls 11 = .ok (.isub, 1) := by decide +kernel
theorem dX10_polls_12 : decode cX10_polls 12 = .ok (.istore_n 2, 1) := by decide +kernel
theorem dX10_polls_13 : decode cX10_polls 13 = .ok (.aload_n 0, 1) := by decide +kernel
theorem dX10_polls_14 : decode cX10_polls 14 = .ok (.iload_n 1, 1) := by decide +kernel
theorem dX10_polls_15 : decode cX10_polls 15 = .ok (.iconst 5, 1) := by decide +kernel
theorem dX10_polls_16 : decode cX10_polls 16 = .ok (.invokevirtual 39, 3) := by decide +kernel
theorem dX10_polls_19 : decode cX10_polls 19 = .ok (.aload_n 0, 1) := by decide +kernel
theorem dX10_polls_20 : decode cX10_polls 20 = .ok (.getfield 7, 3) := by decide +kernel
theorem dX10_polls_23 : decode cX10_polls 23 = .ok (.iconst 2, 1) := by decide +kernel
theorem dX10_polls_24 : decode cX10_polls 24 = .ok (.iaload, 1) := by decide +kernel
theorem dX10_polls_25 : decode cX10_polls 25 = .ok (.irem, 1) := by decide +kernel
theorem dX10_polls_26 : decode cX10_polls 26 = .ok (.ifCond .ne 7, 3) := by decide +kernel
theorem dX10_polls_29 : decode cX10_polls 29 = .ok (.iload_n 2, 1) := by decide +kernel
theorem dX10_polls_30 : decode cX10_polls 30 = .ok (.ifCond .ne 4, 3) := by decide +kernel
theorem dX10_polls_33 : decode cX10_polls 33 = .ok (.return_, 1) := by decide +kernel
theorem dX10_polls_34 : decode cX10_polls 34 = .ok (.aload_n 0, 1) := by decide +kernel
theorem dX10_polls_35 : decode cX10_polls 35 = .ok (.iload_n 1, 1) := by decide +kernel
theorem dX10_polls_36 : decode cX10_polls 36 = .ok (.iconst 4, 1) := by decide +kernel
theorem dX10_polls_37 : decode cX10_polls 37 = .ok (.invokevirtual 39, 3) := by decide +kernel
theorem dX10_polls_40 : decode cX10_polls 40 = .ok (.iconst 1, 1) := by decide +kernel
theorem dX10_polls_41 : decode cX10_polls 41 = .ok (.iadd, 1) := by decide +kernel
theorem dX10_polls_42 : decode cX10_polls 42 = .ok (.bipush 32, 2) := by decide +kernel
theorem dX10_polls_44 : decode cX10_polls 44 = .ok (.irem, 1) := by decide +kernel
theorem dX10_polls_45 : decode cX10_polls 45 = .ok (.istore_n 3, 1) := by decide +kernel
theorem dX10_polls_46 : decode cX10_polls 46 = .ok (.iload_n 1, 1) := by decide +kernel
theorem dX10_polls_47 : decode cX10_polls 47 = .ok (.iload_n 3, 1) := by decide +kernel
theorem dX10_polls_48 : decode cX10_polls 48 = .ok (.invokestatic 95, 3) := by decide +kernel
theorem dX10_polls_51 : decode cX10_polls 51 = .ok (.iload_n 2, 1) := by decide +kernel
theorem dX10_polls_52 : decode cX10_polls 52 = .ok (.if_icmp .gt 7, 3) := by decide +kernel
theorem dX10_polls_55 : decode cX10_polls 55 = .ok (.iload_n 3, 1) := by decide +kernel
theorem dX10_polls_56 : decode cX10_polls 56 = .ok (.goto 9, 3) := by decide +kernel
theorem dX10_polls_59 : decode cX10_polls 59 = .ok (.iload_n 1, 1) := by decide +kernel
theorem dX10_polls_60 : decode cX10_polls 60 = .ok (.iconst 1, 1) := by decide +kernel
theorem dX10_polls_61 : decode cX10_polls 61 = .ok (.iadd, 1) := by decide +kernel
theorem dX10_polls_62 : decode cX10_polls 62 = .ok (.bipush 32, 2) := by decide +kernel
theorem dX10_polls_64 : decode cX10_polls 64 = .ok (.irem, 1) := by decide +kernel
theorem dX10_polls_65 : decode cX10_polls 65 = .ok (.istore_n 3, 1) := by decide +kernel
theorem dX10_polls_66 : decode cX10_polls 66 = .ok (.aload_n 0, 1) := by decide +kernel
theorem dX10_polls_67 : decode cX10_polls 67 = .ok (.getfield 7, 3) := by decide +kernel
theorem dX10_polls_70 : decode cX10_polls 70 = .ok (.iload_n 1, 1) := by decide +kernel
theorem dX10_polls_71 : decode cX10_polls 71 = .ok (.iconst 4, 1) := by decide +kernel
theorem dX10_polls_72 : decode cX10_polls 72 = .ok (.invokestatic 29, 3) := by decide +kernel
theorem dX10_polls_75 : decode cX10_polls 75 = .ok (.iload_n 3, 1) := by decide +kernel
theorem dX10_polls_76 : decode cX10_polls 76 = .ok (.iastore, 1) := by decide +kernel
theorem dX10_polls_77 : decode cX10_polls 77 = .ok (.aload_n 0, 1) := by decide +kernel
theorem dX10_polls_78 : decode cX10_polls 78 = .ok (.iconst 1, 1) := by decide +kernel
theorem dX10_polls_79 : decode cX10_polls 79 = .ok (.invokevirtual 89, 3) := by decide +kernel
theorem dX10_polls_82 : decode cX10_polls 82 = .ok (.istore 4, 2) := by decide +kernel
theorem dX10_polls_84 : decode cX10_polls 84 = .ok (.iload 4, 2) := by decide +kernel
theorem dX10_polls_86 : decode cX10_polls 86 = .ok (.ifCond .ne 44, 3) := by decide +kernel
theorem dX10_polls_89 : decode cX10_polls 89 = .ok (.aload_n 0, 1) := by decide +kernel
theorem dX10_polls_90 : decode cX10_polls 90 = .ok (.iload_n 3, 1) := by decide +kernel
theorem dX10_polls_91 : decode cX10_polls 91 = .ok (.iconst 0, 1) := by decide +kernel
theorem dX10_polls_92 : decode cX10_polls 92 = .ok (.invokevirtual 39, 3) := by decide +kernel
theorem dX10_polls_95 : decode cX10_polls 95 = .ok (.iconst 1, 1) := by decide +kernel
theorem dX10_polls_96 : decode cX10_polls 96 = .ok (.if_icmp .ne 34, 3) := by decide +kernel
theorem dX10_polls_99 : decode cX10_polls 99 = .ok (.aload_n 0, 1) := by decide +kernel
theorem dX10_polls_100 : decode cX10_polls 100 = .ok (.iload_n 3, 1) := by decide +kernel
theorem dX10_polls_101 : decode cX10_polls 101 = .ok (.iconst 1, 1) := by decide +kernel
theorem dX10_polls_102 : decode cX10_polls 102 = .ok (.invokevirtual 39, 3) := by decide +kernel
theorem dX10_polls_105 : decode cX10_polls 105 = .ok (.iconst 1, 1) := by decide +kernel
theorem dX10_polls_106 : decode cX10_polls 106 = .ok (.if_icmp .ne 24, 3) := by decide +kernel
theorem dX10_polls_109 : decode cX10_polls 109 = .ok (.aload_n 0, 1) := by decide +kernel
theorem dX10_polls_110 : decode cX10_polls 110 = .ok (.iload_n 3, 1) := by decide +kernel
theorem dX10_polls_111 : decode cX10_polls 111 = .ok (.iconst 2, 1) := by decide +kernel
theorem dX10_polls_112 : decode cX10_polls 112 = .ok (.invokevirtual 39, 3) := by decide +kernel
theorem dX10_polls_115 : decode cX10_polls 115 = .ok (.ifCond .ne 15, 3) := by decide +kernel
theorem dX10_polls_118 : decode cX10_polls 118 = .ok (.aload_n 0, 1) := by decide +kernel
theorem dX10_polls_119 : decode cX10_polls 119 = .ok (.iconst 1, 1) := by decide +kernel
theorem dX10_polls_120 : decode cX10_polls 120 = .ok (.invokevirtual 89, 3) := by decide +kernel
theorem dX10_polls_123 : decode cX10_polls 123 = .ok (.ifCond .ne 7, 3) := by decide +kernel
theorem dX10_polls_126 : decode cX10_polls 126 = .ok (.iconst 1, 1) := by decide +kernel
theorem dX10_polls_127 : decode cX10_polls 127 = .ok (.goto 4, 3) := by decide +kernel
theorem dX10_polls_130 : decode cX10_polls 130 = .ok (.iconst 0, 1) := by decide +kernel
theorem dX10_polls_131 : decode cX10_polls 131 = .ok (.istore 5, 2) := by decide +kernel
theorem dX10_polls_133 : decode cX10_polls 133 = .ok (.iload 5, 2) := by decide +kernel
theorem dX10_polls_135 : decode cX10_polls 135 = .ok (.ifCond .eq 66, 3) := by decide +kernel
theorem dX10_polls_138 : decode cX10_polls 138 = .ok (.aload_n 0, 1) := by decide +kernel
theorem dX10_polls_139 : decode cX10_polls 139 = .ok (.getfield 7, 3) := by decide +kernel
theorem dX10_polls_142 : decode cX10_polls 142 = .ok (.iload_n 3, 1) := by decide +kernel
theorem dX10_polls_143 : decode cX10_polls 143 = .ok (.iconst 2, 1) := by decide +kernel
theorem dX10_polls_144 : decode cX10_polls 144 = .ok (.invokestatic 29, 3) := by decide +kernel
theorem dX10_polls_147 : decode cX10_polls 147 = .ok (.iconst 1, 1) := by decide +kernel
theorem dX10_polls_148 : decode cX10_polls 148 = .ok (.iastore, 1) := by decide +kernel
theorem dX10_polls_149 : decode cX10_polls 149 = .ok (.aload_n 0, 1) := by decide +kernel
theorem dX10_polls_150 : decode cX10_polls 150 = .ok (.getfield 7, 3) := by decide +kernel
theorem dX10_polls_153 : decode cX10_polls 153 = .ok (.iload_n 3, 1) := by decide +kernel
theorem dX10_polls_154 : decode cX10_polls 154 = .ok (.iconst 3, 1) := by decide +kernel
theorem dX10_polls_155 : decode cX10_polls 155 = .ok (.invokestatic 29, 3) := by decide +kernel
theorem dX10_polls_158 : decode cX10_polls 158 = .ok (.aload_n 0, 1) := by decide +kernel
theorem dX10_polls_159 : decode cX10_polls 159 = .ok (.iload_n 1, 1) := by decide +kernel
theorem dX10_polls_160 : decode cX10_polls 160 = .ok (.iconst 3, 1) := by decide +kernel
theorem dX10_polls_161 : decode cX10_polls 161 = .ok (.invokevirtual 39, 3) := by decide +kernel
theorem dX10_polls_164 : decode cX10_polls 164 = .ok (.iastore, 1) := by decide +kernel
theorem dX10_polls_165 : decode cX10_polls 165 = .ok (.aload_n 0, 1) := by decide +kernel
theorem dX10_polls_166 : decode cX10_polls 166 = .ok (.getfield 7, 3) := by decide +kernel
theorem dX10_polls_169 : decode cX10_polls 169 = .ok (.iload_n 3, 1) := by decide +kernel
theorem dX10_polls_170 : decode cX10_polls 170 = .ok (.iconst 4, 1) := by decide +kernel
theorem dX10_polls_171 : decode cX10_polls 171 = .ok (.invokestatic 29, 3) := by decide +kernel
theorem dX10_polls_174 : decode cX10_polls 174 = .ok (.iload_n 3, 1) := by decide +kernel
theorem dX10_polls_175 : decode cX10_polls 175 = .ok (.iastore, 1) := by decide +kernel
theorem dX10_polls_176 : decode cX10_polls 176 = .ok (.aload_n 0, 1) := by decide +kernel
theorem dX10_polls_177 : decode cX10_polls 177 = .ok (.getfield 7, 3) := by decide +kernel
theorem dX10_polls_180 : decode cX10_polls 180 = .ok (.iload_n 1, 1) := by decide +kernel
theorem dX10_polls_181 : decode cX10_polls 181 = .ok (.iconst 3, 1) := by decide +kernel
theorem dX10_polls_182 : decode cX10_polls 182 = .ok (.invokestatic 29, 3) := by decide +kernel
theorem dX10_polls_185 : decode cX10_polls 185 = .ok (.iload_n 3, 1) := by decide +kernel
theorem dX10_polls_186 : decode cX10_polls 186 = .ok (.iastore, 1) := by decide +kernel
theorem dX10_polls_187 : decode cX10_polls 187 = .ok (.aload_n 0, 1) := by decide +kernel
theorem dX10_polls_188 : decode cX10_polls 188 = .ok (.getfield 7, 3) := by decide +kernel
theorem dX10_polls_191 : decode cX10_polls 191 = .ok (.bipush 13, 2) := by decide +kernel
theorem dX10_polls_193 : decode cX10_polls 193 = .ok (.dup2, 1) := by decide +kernel
theorem dX10_polls_194 : decode cX10_polls 194 = .ok (.iaload, 1) := by decide +kernel
theorem dX10_polls_195 : decode cX10_polls 195 = .ok (.iconst 1, 1) := by decide +kernel
theorem dX10_polls_196 : decode cX10_polls 196 = .ok (.iadd, 1) := by decide +kernel
theorem dX10_polls_197 : decode cX10_polls 197 = .ok (.iastore, 1) := by decide +kernel
theorem dX10_polls_198 : decode cX10_polls 198 = .ok (.goto 18, 3) := by decide +kernel
theorem dX10_polls_201 : decode cX10_polls 201 = .ok (.aload_n 0, 1) := by decide +kernel
theorem dX10_polls_202 : decode cX10_polls 202 = .ok (.getfield 7, 3) := by decide +kernel
theorem dX10_polls_205 : decode cX10_polls 205 = .ok (.iconst 3, 1) := by decide +kernel
theorem dX10_polls_206 : decode cX10_polls 206 = .ok (.dup2, 1) := by decide +kernel
theorem dX10_polls_207 : decode cX10_polls 207 = .ok (.iaload, 1) := by decide +kernel
theorem dX10_polls_208 : decode cX10_polls 208 = .ok (.aload_n 0, 1) := by decide +kernel
theorem dX10_polls_209 : decode cX10_polls 209 = .ok (.getfield 7, 3) := by decide +kernel
theorem dX10_polls_212 : decode cX10_polls 212 = .ok (.iconst 1, 1) := by decide +kernel
theorem dX10_polls_213 : decode cX10_polls 213 = .ok (.iaload, 1) := by decide +kernel
theorem dX10_polls_214 : decode cX10_polls 214 = .ok (.iadd, 1) := by decide +kernel
theorem dX10_polls_215 : decode cX10_polls 215 = .ok (.iastore, 1) := by decide +kernel
theorem dX10_polls_216 : decode cX10_polls 216 = .ok (.return_, 1) := by decide +kernel
theorem dX10_passes_0 : decode cX10_passes 0 = .ok (.iconst 0, 1) := by decide +kernel
theorem dX10_passes_1 : decode cX10_passes 1 = .ok (.istore_n 2, 1) := by decide +kernel
theorem dX10_passes_2 : decode cX10_passes 2 = .ok (.iload_n 2, 1) := by decide +kernel
theorem dX10_passes_3 : decode cX10_passes 3 = .ok (.iconst 3, 1) := by decide +kernel
theorem dX10_passes_4 : decode cX10_passes 4 = .ok (.if_icmp .ge 55, 3) := by decide +kernel
theorem dX10_passes_7 : decode cX10_passes 7 = .ok (.aload_n 0, 1) := by decide +kernel
theorem dX10_passes_8 : decode cX10_passes 8 = .ok (.iload_n 1, 1) := by decide +kernel
theorem dX10_passes_9 : decode cX10_passes 9 = .ok (.iconst 3, 1) := by decide +kernel
theorem dX10_passes_10 : decode cX10_passes 10 = .ok (.invokevirtual 39, 3) := by decide +kernel
theorem dX10_passes_13 : decode cX10_passes 13 = .ok (.istore_n 3, 1) := by decide +kernel
theorem dX10_passes_14 : decode cX10_passes 14 = .ok (.aload_n 0, 1) := by decide +kernel
theorem dX10_passes_15 : decode cX10_passes 15 = .ok (.iconst 1, 1) := by decide +kernel
theorem dX10_passes_16 : decode cX10_passes 16 = .ok (.invokevirtual 89, 3) := by decide +kernel
theorem dX10_passes_19 : decode cX10_passes 19 = .ok (.ifCond .ne 19, 3) := by decide +kernel
theorem dX10_passes_22 : decode cX10_passes 22 = .ok (.aload_n 0, 1) := by decide +kernel
theorem dX10_passes_23 : decode cX10_passes 23 = .ok (.iload_n 3, 1) := by decide +kernel
theorem dX10_passes_24 : decode cX10_passes 24 = .ok (.invokevirtual 83, 3) := by decide +kernel
theorem dX10_passes_27 : decode cX10_passes 27 = .ok (.ifCond .eq 11, 3) := by decide +kernel
theorem dX10_passes_30 : decode cX10_passes 30 = .ok (.aload_n 0, 1) := by decide +kernel
theorem dX10_passes_31 : decode cX10_passes 31 = .ok (.getfield 7, 3) := by decide +kernel
theorem dX10_passes_34 : decode cX10_passes 34 = .ok (.iconst 4, 1) := by decide +kernel
theorem dX10_passes_35 : decode cX10_passes 35 = .ok (.iload_n 3, 1) := by decide +kernel
theorem dX10_passes_36 : decode cX10_passes 36 = .ok (.iastore, 1) := by decide +kernel
theorem dX10_passes_37 : decode cX10_passes 37 = .ok (.return_, 1) := by decide +kernel
theorem dX10_passes_38 : decode cX10_passes 38 = .ok (.aload_n 0, 1) := by decide +kernel
theorem dX10_passes_39 : decode cX10_passes 39 = .ok (.getfield 7, 3) := by decide +kernel
theorem dX10_passes_42 : decode cX10_passes 42 = .ok (.iconst 3, 1) := by decide +kernel
theorem dX10_passes_43 : decode cX10_passes 43 = .ok (.dup2, 1) := by decide +kernel
theorem dX10_passes_44 : decode cX10_passes 44 = .ok (.iaload, 1) := by decide +kernel
theorem dX10_passes_45 : decode cX10_passes 45 = .ok (.aload_n 0, 1) := by decide +kernel
theorem dX10_passes_46 : decode cX10_passes 46 = .ok (.getfield 7, 3) := by decide +kernel
theorem dX10_passes_49 : decode cX10_passes 49 = .ok (.iconst 1, 1) := by decide +kernel
theorem dX10_passes_50 : decode cX10_passes 50 = .ok (.iaload, 1) := by decide +kernel
theorem dX10_passes_51 : decode cX10_passes 51 = .ok (.iadd, 1) := by decide +kernel
theorem dX10_passes_52 : decode cX10_passes 52 = .ok (.iastore, 1) := by decide +kernel
theorem dX10_passes_53 : decode cX10_passes 53 = .ok (.iinc 2 1, 3) := by decide +kernel
theorem dX10_passes_56 : decode cX10_passes 56 = .ok (.goto (-54), 3) := by decide +kernel
theorem dX10_passes_59 : decode cX10_passes 59 = .ok (.aload_n 0, 1) := by decide +kernel
theorem dX10_passes_60 : decode cX10_passes 60 = .ok (.iload_n 1, 1) := by decide +kernel
theorem dX10_passes_61 : decode cX10_passes 61 = .ok (.iconst 3, 1) := by decide +kernel
theorem dX10_passes_62 : decode cX10_passes 62 = .ok (.invokevirtual 39, 3) := by decide +kernel
theorem dX10_passes_65 : decode cX10_passes 65 = .ok (.istore_n 2, 1) := by decide +kernel
theorem dX10_passes_66 : decode cX10_passes 66 = .ok (.iload_n 2, 1) := by decide +kernel
theorem dX10_passes_67 : decode cX10_passes 67 = .ok (.iload_n 1, 1) := by decide +kernel
theorem dX10_passes_68 : decode cX10_passes 68 = .ok (.if_icmp .eq 33, 3) := by decide +kernel
theorem dX10_passes_71 : decode cX10_passes 71 = .ok (.aload_n 0, 1) := by decide +kernel
theorem dX10_passes_72 : decode cX10_passes 72 = .ok (.iload_n 2, 1) := by decide +kernel
theorem dX10_passes_73 : decode cX10_passes 73 = .ok (.invokevirtual 83, 3) := by decide +kernel
theorem dX10_passes_76 : decode cX10_passes 76 = .ok (.ifCond .eq 25, 3) := by decide +kernel
theorem dX10_passes_79 : decode cX10_passes 79 = .ok (.aload_n 0, 1) := by decide +kernel
theorem dX10_passes_80 : decode cX10_passes 80 = .ok (.getfield 7, 3) := by decide +kernel
theorem dX10_passes_83 : decode cX10_passes 83 = .ok (.iload_n 2, 1) := by decide +kernel
theorem dX10_passes_84 : decode cX10_passes 84 = .ok (.iconst 2, 1) := by decide +kernel
theorem dX10_passes_85 : decode cX10_passes 85 = .ok (.invokestatic 29, 3) := by decide +kernel
theorem dX10_passes_88 : decode cX10_passes 88 = .ok (.iconst 0, 1) := by decide +kernel
theorem dX10_passes_89 : decode cX10_passes 89 = .ok (.iastore, 1) := by decide +kernel
theorem dX10_passes_90 : decode cX10_passes 90 = .ok (.aload_n 0, 1) := by decide +kernel
theorem dX10_passes_91 : decode cX10_passes 91 = .ok (.getfield 7, 3) := by decide +kernel
theorem dX10_passes_94 : decode cX10_passes 94 = .ok (.bipush 14, 2) := by decide +kernel
theorem dX10_passes_96 : decode cX10_passes 96 = .ok (.dup2, 1) := by decide +kernel
theorem dX10_passes_97 : decode cX10_passes 97 = .ok (.iaload, 1) := by decide +kernel
theorem dX10_passes_98 : decode cX10_passes 98 = .ok (.iconst 1, 1) := by decide +kernel
theorem dX10_passes_99 : decode cX10_passes 99 = .ok (.iadd, 1) := by decide +kernel
theorem dX10_passes_100 : decode cX10_passes 100 = .ok (.iastore, 1) := by decide +kernel
theorem dX10_passes_101 : decode cX10_passes 101 = .ok (.iload_n 2, 1) := by decide +kernel
theorem dX10_passes_102 : decode cX10_passes 102 = .ok (.iconst 1, 1) := by decide +kernel
theorem dX10_passes_103 : decode cX10_passes 103 = .ok (.iadd, 1) := by decide +kernel
theorem dX10_passes_104 : decode cX10_passes 104 = .ok (.bipush 32, 2) := by decide +kernel
theorem dX10_passes_106 : decode cX10_passes 106 = .ok (.irem, 1) := by decide +kernel
theorem dX10_passes_107 : decode cX10_passes 107 = .ok (.istore_n 3, 1) := by decide +kernel
theorem dX10_passes_108 : decode cX10_passes 108 = .ok (.iconst 0, 1) := by decide +kernel
theorem dX10_passes_109 : decode cX10_passes 109 = .ok (.istore 4, 2) := by decide +kernel
theorem dX10_passes_111 : decode cX10_passes 111 = .ok (.iload_n 3, 1) := by decide +kernel
theorem dX10_passes_112 : decode cX10_passes 112 = .ok (.iload_n 1, 1) := by decide +kernel
theorem dX10_passes_113 : decode cX10_passes 113 = .ok (.if_icmp .eq 61, 3) := by decide +kernel
theorem dX10_passes_116 : decode cX10_passes 116 = .ok (.iload 4, 2) := by decide +kernel
theorem dX10_passes_118 : decode cX10_passes 118 = .ok (.ifCond .ne 56, 3) := by decide +kernel
theorem dX10_passes_121 : decode cX10_passes 121 = .ok (.aload_n 0, 1) := by decide +kernel
theorem dX10_passes_122 : decode cX10_passes 122 = .ok (.iconst 1, 1) := by decide +kernel
theorem dX10_passes_123 : decode cX10_passes 123 = .ok (.invokevirtual 89, 3) := by decide +kernel
theorem dX10_passes_126 : decode cX10_passes 126 = .ok (.ifCond .ne 15, 3) := by decide +kernel
theorem dX10_passes_129 : decode cX10_passes 129 = .ok (.aload_n 0, 1) := by decide +kernel
theorem dX10_passes_130 : decode cX10_passes 130 = .ok (.iload_n 3, 1) := by decide +kernel
theorem dX10_passes_131 : decode cX10_passes 131 = .ok (.invokevirtual 83, 3) := by decide +kernel
theorem dX10_passes_134 : decode cX10_passes 134 = .ok (.ifCond .eq 7, 3) := by decide +kernel
theorem dX10_passes_137 : decode cX10_passes 137 = .ok (.iconst 1, 1) := by decide +kernel
theorem dX10_passes_138 : decode cX10_passes 138 = .ok (.goto 4, 3) := by decide +kernel
theorem dX10_passes_141 : decode cX10_passes 141 = .ok (.iconst 0, 1) := by decide +kernel
theorem dX10_passes_142 : decode cX10_passes 142 = .ok (.istore 4, 2) := by decide +kernel
theorem dX10_passes_144 : decode cX10_passes 144 = .ok (.iload 4, 2) := by decide +kernel
theorem dX10_passes_146 : decode cX10_passes 146 = .ok (.ifCond .ne (-35), 3) := by decide +kernel
theorem dX10_passes_149 : decode cX10_passes 149 = .ok (.aload_n 0, 1) := by decide +kernel
theorem dX10_passes_150 : decode cX10_passes 150 = .ok (.getfield 7, 3) := by decide +kernel
theorem dX10_passes_153 : decode cX10_passes 153 = .ok (.iconst 3, 1) := by decide +kernel
theorem dX10_passes_154 : decode cX10_passes 154 = .ok (.dup2, 1) := by decide +kernel
theorem dX10_passes_155 : decode cX10_passes 155 = .ok (.iaload, 1) := by decide +kernel
theorem dX10_passes_156 : decode cX10_passes 156 = .ok (.aload_n 0, 1) := by decide +kernel
theorem dX10_passes_157 : decode cX10_passes 157 = .ok (.getfield 7, 3) := by decide +kernel
theorem dX10_passes_160 : decode cX10_passes 160 = .ok (.iconst 1, 1) := by decide +kernel
theorem dX10_passes_161 : decode cX10_passes 161 = .ok (.iaload, 1) := by decide +kernel
theorem dX10_passes_162 : decode cX10_passes 162 = .ok (.iadd, 1) := by decide +kernel
theorem dX10_passes_163 : decode cX10_passes 163 = .ok (.iastore, 1) := by decide +kernel
theorem dX10_passes_164 : decode cX10_passes 164 = .ok (.iload_n 3, 1) := by decide +kernel
theorem dX10_passes_165 : decode cX10_passes 165 = .ok (.iconst 1, 1) := by decide +kernel
theorem dX10_passes_166 : decode cX10_passes 166 = .ok (.iadd, 1) := by decide +kernel
theorem dX10_passes_167 : decode cX10_passes 167 = .ok (.bipush 32, 2) := by decide +kernel
theorem dX10_passes_169 : decode cX10_passes 169 = .ok (.irem, 1) := by decide +kernel
theorem dX10_passes_170 : decode cX10_passes 170 = .ok (.istore_n 3, 1) := by decide +kernel
theorem dX10_passes_171 : decode cX10_passes 171 = .ok (.goto (-60), 3) := by decide +kernel
theorem dX10_passes_174 : decode cX10_passes 174 = .ok (.aload_n 0, 1) := by decide +kernel
theorem dX10_passes_175 : decode cX10_passes 175 = .ok (.getfield 7, 3) := by decide +kernel
theorem dX10_passes_178 : decode cX10_passes 178 = .ok (.iload_n 1, 1) := by decide +kernel
theorem dX10_passes_179 : decode cX10_passes 179 = .ok (.iconst 3, 1) := by decide +kernel
theorem dX10_passes_180 : decode cX10_passes 180 = .ok (.invokestatic 29, 3) := by decide +kernel
theorem dX10_passes_183 : decode cX10_passes 183 = .ok (.iload_n 3, 1) := by decide +kernel
theorem dX10_passes_184 : decode cX10_passes 184 = .ok (.iastore, 1) := by decide +kernel
theorem dX10_passes_185 : decode cX10_passes 185 = .ok (.aload_n 0, 1) := by decide +kernel
theorem dX10_passes_186 : decode cX10_passes 186 = .ok (.getfield 7, 3) := by decide +kernel
theorem dX10_passes_189 : decode cX10_passes 189 = .ok (.iconst 4, 1) := by decide +kernel
theorem dX10_passes_190 : decode cX10_passes 190 = .ok (.iload_n 3, 1) := by decide +kernel
theorem dX10_passes_191 : decode cX10_passes 191 = .ok (.iastore, 1) := by decide +kernel
theorem dX10_passes_192 : decode cX10_passes 192 = .ok (.return_, 1) := by decide +kernel
theorem dX10_visits_0 : decode cX10_visits 0 = .ok (.aload_n 0, 1) := by decide +kernel
theorem dX10_visits_1 : decode cX10_visits 1 = .ok (.getfield 7, 3) := by decide +kernel
theorem dX10_visits_4 : decode cX10_visits 4 = .ok (.iconst 4, 1) := by decide +kernel
theorem dX10_visits_5 : decode cX10_visits 5 = .ok (.iaload, 1) := by decide +kernel
theorem dX10_visits_6 : decode cX10_visits 6 = .ok (.iconst (-1), 1) := by decide +kernel
theorem dX10_visits_7 : decode cX10_visits 7 = .ok (.if_icmp .ne 11, 3) := by decide +kernel
theorem dX10_visits_10 : decode cX10_visits 10 = .ok (.aload_n 0, 1) := by decide +kernel
theorem dX10_visits_11 : decode cX10_visits 11 = .ok (.invokevirtual 98, 3) := by decide +kernel
theorem dX10_visits_14 : decode cX10_visits 14 = .ok (.ifCond .ne 4, 3) := by decide +kernel
theorem dX10_visits_17 : decode cX10_visits 17 = .ok (.return_, 1) := by decide +kernel
theorem dX10_visits_18 : decode cX10_visits 18 = .ok (.aload_n 0, 1) := by decide +kernel
theorem dX10_visits_19 : decode cX10_visits 19 = .ok (.getfield 7, 3) := by decide +kernel
theorem dX10_visits_22 : decode cX10_visits 22 = .ok (.iconst 4, 1) := by decide +kernel
theorem dX10_visits_23 : decode cX10_visits 23 = .ok (.iaload, 1) := by decide +kernel
theorem dX10_visits_24 : decode cX10_visits 24 = .ok (.istore_n 1, 1) := by decide +kernel
theorem dX10_visits_25 : decode cX10_visits 25 = .ok (.aload_n 0, 1) := by decide +kernel
theorem dX10_visits_26 : decode cX10_visits 26 = .ok (.getfield 7, 3) := by decide +kernel
theorem dX10_visits_29 : decode cX10_visits 29 = .ok (.iconst 3, 1) := by decide +kernel
theorem dX10_visits_30 : decode cX10_visits 30 = .ok (.iaload, 1) := by decide +kernel
theorem dX10_visits_31 : decode cX10_visits 31 = .ok (.istore_n 2, 1) := by decide +kernel
theorem dX10_visits_32 : decode cX10_visits 32 = .ok (.aload_n 0, 1) := by decide +kernel
theorem dX10_visits_33 : decode cX10_visits 33 = .ok (.iload_n 1, 1) := by decide +kernel
theorem dX10_visits_34 : decode cX10_visits 34 = .ok (.bipush 6, 2) := by decide +kernel
theorem dX10_visits_36 : decode cX10_visits 36 = .ok (.invokevirtual 39, 3) := by decide +kernel
theorem dX10_visits_39 : decode cX10_visits 39 = .ok (.iconst (-1), 1) := by decide +kernel
theorem dX10_visits_40 : decode cX10_visits 40 = .ok (.if_icmp .ne 7, 3) := by decide +kernel
theorem dX10_visits_43 : decode cX10_visits 43 = .ok (.iconst 0, 1) := by decide +kernel
theorem dX10_visits_44 : decode cX10_visits 44 = .ok (.goto 12, 3) := by decide +kernel
theorem dX10_visits_47 : decode cX10_visits 47 = .ok (.iload_n 2, 1) := by decide +kernel
theorem dX10_visits_48 : decode cX10_visits 48 = .ok (.aload_n 0, 1) := by decide +kernel
theorem dX10_visits_49 : decode cX10_visits 49 = .ok (.iload_n 1, 1) := by decide +kernel
theorem dX10_visits_50 : decode cX10_visits 50 = .ok (.bipush 6, 2) := by decide +kernel
theorem dX10_visits_52 : decode cX10_visits 52 = .ok (.invokevirtual 39, 3) := by decide +kernel
theorem dX10_visits_55 : decode cX10_visits 55 = .ok (.isub, 1) := by decide +kernel
theorem dX10_visits_56 : decode cX10_visits 56 = .ok (.istore_n 3, 1) := by decide +kernel
theorem dX10_visits_57 : decode cX10_visits 57 = .ok (.aload_n 0, 1) := by decide +kernel
theorem dX10_visits_58 : decode cX10_visits 58 = .ok (.getfield 7, 3) := by decide +kernel
theorem dX10_visits_61 : decode cX10_visits 61 = .ok (.iload_n 1, 1) := by decide +kernel
theorem dX10_visits_62 : decode cX10_visits 62 = .ok (.bipush 6, 2) := by decide +kernel
theorem dX10_visits_64 : decode cX10_visits 64 = .ok (.invokestatic 29, 3) := by decide +kernel
theorem dX10_visits_67 : decode cX10_visits 67 = .ok (.iload_n 2, 1) := by decide +kernel
theorem dX10_visits_68 : decode cX10_visits 68 = .ok (.iastore, 1) := by decide +kernel
theorem dX10_visits_69 : decode cX10_visits 69 = .ok (.aload_n 0, 1) := by decide +kernel
theorem dX10_visits_70 : decode cX10_visits 70 = .ok (.getfield 7, 3) := by decide +kernel
theorem dX10_visits_73 : decode cX10_visits 73 = .ok (.iload_n 1, 1) := by decide +kernel
theorem dX10_visits_74 : decode cX10_visits 74 = .ok (.iconst 5, 1) := by decide +kernel
theorem dX10_visits_75 : decode cX10_visits 75 = .ok (.invokestatic 29, 3) := by decide +kernel
theorem dX10_visits_78 : decode cX10_visits 78 = .ok (.dup2, 1) := by decide +kernel
theorem dX10_visits_79 : decode cX10_visits 79 = .ok (.iaload, 1) := by decide +kernel
theorem dX10_visits_80 : decode cX10_visits 80 = .ok (.iconst 1, 1) := by decide +kernel
theorem dX10_visits_81 : decode cX10_visits 81 = .ok (.iadd, 1) := by decide +kernel
theorem dX10_visits_82 : decode cX10_visits 82 = .ok (.iastore, 1) := by decide +kernel
theorem dX10_visits_83 : decode cX10_visits 83 = .ok (.aload_n 0, 1) := by decide +kernel
theorem dX10_visits_84 : decode cX10_visits 84 = .ok (.getfield 7, 3) := by decide +kernel
theorem dX10_visits_87 : decode cX10_visits 87 = .ok (.bipush 9, 2) := by decide +kernel
theorem dX10_visits_89 : decode cX10_visits 89 = .ok (.dup2, 1) := by decide +kernel
theorem dX10_visits_90 : decode cX10_visits 90 = .ok (.iaload, 1) := by decide +kernel
theorem dX10_visits_91 : decode cX10_visits 91 = .ok (.iconst 1, 1) := by decide +kernel
theorem dX10_visits_92 : decode cX10_visits 92 = .ok (.iadd, 1) := by decide +kernel
theorem dX10_visits_93 : decode cX10_visits 93 = .ok (.iastore, 1) := by decide +kernel
theorem dX10_visits_94 : decode cX10_visits 94 = .ok (.aload_n 0, 1) := by decide +kernel
theorem dX10_visits_95 : decode cX10_visits 95 = .ok (.getfield 7, 3) := by decide +kernel
theorem dX10_visits_98 : decode cX10_visits 98 = .ok (.bipush 8, 2) := by decide +kernel
theorem dX10_visits_100 : decode cX10_visits 100 = .ok (.iload_n 3, 1) := by decide +kernel
theorem dX10_visits_101 : decode cX10_visits 101 = .ok (.aload_n 0, 1) := by decide +kernel
theorem dX10_visits_102 : decode cX10_visits 102 = .ok (.getfield 7, 3) := by decide +kernel
theorem dX10_visits_105 : decode cX10_visits 105 = .ok (.bipush 8, 2) := by decide +kernel
theorem dX10_visits_107 : decode cX10_visits 107 = .ok (.iaload, 1) := by decide +kernel
theorem dX10_visits_108 : decode cX10_visits 108 = .ok (.if_icmp .le 7, 3) := by decide +kernel
theorem dX10_visits_111 : decode cX10_visits 111 = .ok (.iload_n 3, 1) := by decide +kernel
theorem dX10_visits_112 : decode cX10_visits 112 = .ok (.goto 10, 3) := by decide +kernel
theorem dX10_visits_115 : decode cX10_visits 115 = .ok (.aload_n 0, 1) := by decide +kernel
theorem dX10_visits_116 : decode cX10_visits 116 = .ok (.getfield 7, 3) := by decide +kernel
theorem dX10_visits_119 : decode cX10_visits 119 = .ok (.bipush 8, 2) := by decide +kernel
theorem dX10_visits_121 : decode cX10_visits 121 = .ok (.iaload, 1) := by decide +kernel
theorem dX10_visits_122 : decode cX10_visits 122 = .ok (.iastore, 1) := by decide +kernel
theorem dX10_visits_123 : decode cX10_visits 123 = .ok (.aload_n 0, 1) := by decide +kernel
theorem dX10_visits_124 : decode cX10_visits 124 = .ok (.getfield 7, 3) := by decide +kernel
theorem dX10_visits_127 : decode cX10_visits 127 = .ok (.bipush 10, 2) := by decide +kernel
theorem dX10_visits_129 : decode cX10_visits 129 = .ok (.iaload, 1) := by decide +kernel
theorem dX10_visits_130 : decode cX10_visits 130 = .ok (.istore 4, 2) := by decide +kernel
theorem dX10_visits_132 : decode cX10_visits 132 = .ok (.aload_n 0, 1) := by decide +kernel
theorem dX10_visits_133 : decode cX10_visits 133 = .ok (.iload_n 1, 1) := by decide +kernel
theorem dX10_visits_134 : decode cX10_visits 134 = .ok (.iload_n 2, 1) := by decide +kernel
theorem dX10_visits_135 : decode cX10_visits 135 = .ok (.aload_n 0, 1) := by decide +kernel
theorem dX10_visits_136 : decode cX10_visits 136 = .ok (.getfield 7, 3) := by decide +kernel
theorem dX10_visits_139 : decode cX10_visits 139 = .ok (.iconst 0, 1) := by decide +kernel
theorem dX10_visits_140 : decode cX10_visits 140 = .ok (.iaload, 1) := by decide +kernel
theorem dX10_visits_141 : decode cX10_visits 141 = .ok (.iload_n 3, 1) := by decide +kernel
theorem dX10_visits_142 : decode cX10_visits 142 = .ok (.isub, 1) := by decide +kernel
theorem dX10_visits_143 : decode cX10_visits 143 = .ok (.invokevirtual 102, 3) := by decide +kernel
theorem dX10_visits_146 : decode cX10_visits 146 = .ok (.aload_n 0, 1) := by decide +kernel
theorem dX10_visits_147 : decode cX10_visits 147 = .ok (.iload_n 2, 1) := by decide +kernel
theorem dX10_visits_148 : decode cX10_visits 148 = .ok (.iload_n 1, 1) := by decide +kernel
theorem dX10_visits_149 : decode cX10_visits 149 = .ok (.iload_n 3, 1) := by decide +kernel
theorem dX10_visits_150 : decode cX10_visits 150 = .ok (.aload_n 0, 1) := by decide +kernel
theorem dX10_visits_151 : decode cX10_visits 151 = .ok (.getfield 7, 3) := by decide +kernel
theorem dX10_visits_154 : decode cX10_visits 154 = .ok (.bipush 10, 2) := by decide +kernel
theorem dX10_visits_156 : decode cX10_visits 156 = .ok (.iaload, 1) := by decide +kernel
theorem dX10_visits_157 : decode cX10_visits 157 = .ok (.iload 4, 2) := by decide +kernel
theorem dX10_visits_159 : decode cX10_visits 159 = .ok (.isub, 1) := by decide +kernel
theorem dX10_visits_160 : decode cX10_visits 160 = .ok (.invokevirtual 106, 3) := by decide +kernel
theorem dX10_visits_163 : decode cX10_visits 163 = .ok (.aload_n 0, 1) := by decide +kernel
theorem dX10_visits_164 : decode cX10_visits 164 = .ok (.iload_n 1, 1) := by decide +kernel
theorem dX10_visits_165 : decode cX10_visits 165 = .ok (.invokevirtual 110, 3) := by decide +kernel
theorem dX10_visits_168 : decode cX10_visits 168 = .ok (.aload_n 0, 1) := by decide +kernel
theorem dX10_visits_169 : decode cX10_visits 169 = .ok (.iload_n 1, 1) := by decide +kernel
theorem dX10_visits_170 : decode cX10_visits 170 = .ok (.invokevirtual 113, 3) := by decide +kernel
theorem dX10_visits_173 : decode cX10_visits 173 = .ok (.return_, 1) := by decide +kernel
theorem dX10_logs_0 : decode cX10_logs 0 = .ok (.aload_n 0, 1) := by decide +kernel
theorem dX10_logs_1 : decode cX10_logs 1 = .ok (.getfield 7, 3) := by decide +kernel
theorem dX10_logs_4 : decode cX10_logs 4 = .ok (.bipush 7, 2) := by decide +kernel
theorem dX10_logs_6 : decode cX10_logs 6 = .ok (.iaload, 1) := by decide +kernel
theorem dX10_logs_7 : decode cX10_logs 7 = .ok (.bipush 40, 2) := by decide +kernel
theorem dX10_logs_9 : decode cX10_logs 9 = .ok (.if_icmp .ne 49, 3) := by decide +kernel
theorem dX10_logs_12 : decode cX10_logs 12 = .ok (.sipush 782, 3) := by decide +kernel
theorem dX10_logs_15 : decode cX10_logs 15 = .ok (.istore 5, 2) := by decide +kernel
theorem dX10_logs_17 : decode cX10_logs 17 = .ok (.iload 5, 2) := by decide +kernel
theorem dX10_logs_19 : decode cX10_logs 19 = .ok (.sipush 938, 3) := by decide +kernel
theorem dX10_logs_22 : decode cX10_logs 22 = .ok (.if_icmp .ge 25, 3) := by decide +kernel
theorem dX10_logs_25 : decode cX10_logs 25 = .ok (.aload_n 0, 1) := by decide +kernel
theorem dX10_logs_26 : decode cX10_logs 26 = .ok (.getfield 7, 3) := by decide +kernel
theorem dX10_logs_29 : decode cX10_logs 29 = .ok (.iload 5, 2) := by decide +kernel
theorem dX10_logs_31 : decode cX10_logs 31 = .ok (.aload_n 0, 1) := by decide +kernel
theorem dX10_logs_32 : decode cX10_logs 32 = .ok (.getfield 7, 3) := by decide +kernel
theorem dX10_logs_35 : decode cX10_logs 35 = .ok (.iload 5, 2) := by decide +kernel
theorem dX10_logs_37 : decode cX10_logs 37 = .ok (.iconst 4, 1) := by decide +kernel
theorem dX10_logs_38 : decode cX10_logs 38 = .ok (.iadd, 1) := by decide +kernel
theorem dX10_logs_39 : decode cX10_logs 39 = .ok (.iaload, 1) := by decide +kernel
theorem dX10_logs_40 : decode cX10_logs 40 = .ok (.iastore, 1) := by decide +kernel
theorem dX10_logs_41 : decode cX10_logs 41 = .ok (.iinc 5 1, 3) := by decide +kernel
theorem dX10_logs_44 : decode cX10_logs 44 = .ok (.goto (-27), 3) := by decide +kernel
theorem dX10_logs_47 : decode cX10_logs 47 = .ok (.aload_n 0, 1) := by decide +kernel
theorem dX10_logs_48 : decode cX10_logs 48 = .ok (.getfield 7, 3) := by decide +kernel
theorem dX10_logs_51 : decode cX10_logs 51 = .ok (.bipush 7, 2) := by decide +kernel
theorem dX10_logs_53 : decode cX10_logs 53 = .ok (.dup2, 1) := by decide +kernel
theorem dX10_logs_54 : decode cX10_logs 54 = .ok (.iaload, 1) := by decide +kernel
theorem dX10_logs_55 : decode cX10_logs 55 = .ok (.iconst 1, 1) := by decide +kernel
theorem dX10_logs_56 : decode cX10_logs 56 = .ok (.isub, 1) := by decide +kernel
theorem dX10_logs_57 : decode cX10_logs 57 = .ok (.iastore, 1) := by decide +kernel
theorem dX10_logs_58 : decode cX10_logs 58 = .ok (.sipush 782, 3) := by decide +kernel
theorem dX10_logs_61 : decode cX10_logs 61 = .ok (.iconst 4, 1) := by decide +kernel
theorem dX10_logs_62 : decode cX10_logs 62 = .ok (.aload_n 0, 1) := by decide +kernel
theorem dX10_logs_63 : decode cX10_logs 63 = .ok (.getfield 7, 3) := by decide +kernel
theorem dX10_logs_66 : decode cX10_logs 66 = .ok (.bipush 7, 2) := by decide +kernel
theorem dX10_logs_68 : decode cX10_logs 68 = .ok (.iaload, 1) := by decide +kernel
theorem dX10_logs_69 : decode cX10_logs 69 = .ok (.imul, 1) := by decide +kernel
theorem dX10_logs_70 : decode cX10_logs 70 = .ok (.iadd, 1) := by decide +kernel
theorem dX10_logs_71 : decode cX10_logs 71 = .ok (.istore 5, 2) := by decide +kernel
theorem dX10_logs_73 : decode cX10_logs 73 = .ok (.aload_n 0, 1) := by decide +kernel
theorem dX10_logs_74 : decode cX10_logs 74 = .ok (.getfield 7, 3) := by decide +kernel
theorem dX10_logs_77 : decode cX10_logs 77 = .ok (.iload 5, 2) := by decide +kernel
theorem dX10_logs_79 : decode cX10_logs 79 = .ok (.iload_n 1, 1) := by decide +kernel
theorem dX10_logs_80 : decode cX10_logs 80 = .ok (.iastore, 1) := by decide +kernel
theorem dX10_logs_81 : decode cX10_logs 81 = .ok (.aload_n 0, 1) := by decide +kernel
theorem dX10_logs_82 : decode cX10_logs 82 = .ok (.getfield 7, 3) := by decide +kernel
theorem dX10_logs_85 : decode cX10_logs 85 = .ok (.iload 5, 2) := by decide +kernel
theorem dX10_logs_87 : decode cX10_logs 87 = .ok (.iconst 1, 1) := by decide +kernel
theorem dX10_logs_88 : decode cX10_logs 88 = .ok (.iadd, 1) := by decide +kernel
theorem dX10_logs_89 : decode cX10_logs 89 = .ok (.iload_n 2, 1) := by decide +kernel
theorem dX10_logs_90 : decode cX10_logs 90 = .ok (.iastore, 1) := by decide +kernel
theorem dX10_logs_91 : decode cX10_logs 91 = .ok (.aload_n 0, 1) := by decide +kernel
theorem dX10_logs_92 : decode cX10_logs 92 = .ok (.getfield 7, 3) := by decide +kernel
theorem dX10_logs_95 : decode cX10_logs 95 = .ok (.iload 5, 2) := by decide +kernel
theorem dX10_logs_97 : decode cX10_logs 97 = .ok (.iconst 2, 1) := by decide +kernel
theorem dX10_logs_98 : decode cX10_logs 98 = .ok (.iadd, 1) := by decide +kernel
theorem dX10_logs_99 : decode cX10_logs 99 = .ok (.iload_n 3, 1) := by decide +kernel
theorem dX10_logs_100 : decode cX10_logs 100 = .ok (.iastore, 1) := by decide +kernel
theorem dX10_logs_101 : decode cX10_logs 101 = .ok (.aload_n 0, 1) := by decide +kernel
theorem dX10_logs_102 : decode cX10_logs 102 = .ok (.getfield 7, 3) := by decide +kernel
theorem dX10_logs_105 : decode cX10_logs 105 = .ok (.iload 5, 2) := by decide +kernel
theorem dX10_logs_107 : decode cX10_logs 107 = .ok (.iconst 3, 1) := by decide +kernel
theorem dX10_logs_108 : decode cX10_logs 108 = .ok (.iadd, 1) := by decide +kernel
theorem dX10_logs_109 : decode cX10_logs 109 = .ok (.iload 4, 2) := by decide +kernel
theorem dX10_logs_111 : decode cX10_logs 111 = .ok (.iastore, 1) := by decide +kernel
theorem dX10_logs_112 : decode cX10_logs 112 = .ok (.aload_n 0, 1) := by decide +kernel
theorem dX10_logs_113 : decode cX10_logs 113 = .ok (.getfield 7, 3) := by decide +kernel
theorem dX10_logs_116 : decode cX10_logs 116 = .ok (.bipush 7, 2) := by decide +kernel
theorem dX10_logs_118 : decode cX10_logs 118 = .ok (.dup2, 1) := by decide +kernel
theorem dX10_logs_119 : decode cX10_logs 119 = .ok (.iaload, 1) := by decide +kernel
theorem dX10_logs_120 : decode cX10_logs 120 = .ok (.iconst 1, 1) := by decide +kernel
theorem dX10_logs_121 : decode cX10_logs 121 = .ok (.iadd, 1) := by decide +kernel
theorem dX10_logs_122 : decode cX10_logs 122 = .ok (.iastore, 1) := by decide +kernel
theorem dX10_logs_123 : decode cX10_logs 123 = .ok (.return_, 1) := by decide +kernel
theorem dX10_run_0 : decode cX10_run 0 = .ok (.aload_n 0, 1) := by decide +kernel
theorem dX10_run_1 : decode cX10_run 1 = .ok (.iload_n 1, 1) := by decide +kernel
theorem dX10_run_2 : decode cX10_run 2 = .ok (.i2l, 1) := by decide +kernel
theorem dX10_run_3 : decode cX10_run 3 = .ok (.lconst 0, 1) := by decide +kernel
theorem dX10_run_4 : decode cX10_run 4 = .ok (.ldc2_w 116, 3) := by decide +kernel
theorem dX10_run_7 : decode cX10_run 7 = .ok (.invokestatic 35, 3) := by decide +kernel
theorem dX10_run_10 : decode cX10_run 10 = .ok (.aload_n 0, 1) := by decide +kernel
theorem dX10_run_11 : decode cX10_run 11 = .ok (.getfield 7, 3) := by decide +kernel
theorem dX10_run_14 : decode cX10_run 14 = .ok (.iconst 3, 1) := by decide +kernel
theorem dX10_run_15 : decode cX10_run 15 = .ok (.iaload, 1) := by decide +kernel
theorem dX10_run_16 : decode cX10_run 16 = .ok (.ldc 118, 2) := by decide +kernel
theorem dX10_run_18 : decode cX10_run 18 = .ok (.if_icmp .gt 7, 3) := by decide +kernel
theorem dX10_run_21 : decode cX10_run 21 = .ok (.iconst 1, 1) := by decide +kernel
theorem dX10_run_22 : decode cX10_run 22 = .ok (.goto 4, 3) := by decide +kernel
theorem dX10_run_25 : decode cX10_run 25 = .ok (.iconst 0, 1) := by decide +kernel
theorem dX10_run_26 : decode cX10_run 26 = .ok (.iconst 1, 1) := by decide +kernel
theorem dX10_run_27 : decode cX10_run 27 = .ok (.invokevirtual 53, 3) := by decide +kernel
theorem dX10_run_30 : decode cX10_run 30 = .ok (.ifCond .ne 5, 3) := by decide +kernel
theorem dX10_run_33 : decode cX10_run 33 = .ok (.iconst 0, 1) := by decide +kernel
theorem dX10_run_34 : decode cX10_run 34 = .ok (.ireturn, 1) := by decide +kernel
theorem dX10_run_35 : decode cX10_run 35 = .ok (.aload_n 0, 1) := by decide +kernel
theorem dX10_run_36 : decode cX10_run 36 = .ok (.invokevirtual 57, 3) := by decide +kernel
theorem dX10_run_39 : decode cX10_run 39 = .ok (.iconst 0, 1) := by decide +kernel
theorem dX10_run_40 : decode cX10_run 40 = .ok (.istore_n 2, 1) := by decide +kernel
theorem dX10_run_41 : decode cX10_run 41 = .ok (.iload_n 2, 1) := by decide +kernel
theorem dX10_run_42 : decode cX10_run 42 = .ok (.iload_n 1, 1) := by decide +kernel
theorem dX10_run_43 : decode cX10_run 43 = .ok (.if_icmp .ge 13, 3) := by decide +kernel
theorem dX10_run_46 : decode cX10_run 46 = .ok (.aload_n 0, 1) := by decide +kernel
theorem dX10_run_47 : decode cX10_run 47 = .ok (.invokevirtual 119, 3) := by decide +kernel
theorem dX10_run_50 : decode cX10_run 50 = .ok (.iinc 2 1, 3) := by decide +kernel
theorem dX10_run_53 : decode cX10_run 53 = .ok (.goto (-12), 3) := by decide +kernel
theorem dX10_run_56 : decode cX10_run 56 = .ok (.aload_n 0, 1) := by decide +kernel
theorem dX10_run_57 : decode cX10_run 57 = .ok (.getfield 7, 3) := by decide +kernel
theorem dX10_run_60 : decode cX10_run 60 = .ok (.iconst 3, 1) := by decide +kernel
theorem dX10_run_61 : decode cX10_run 61 = .ok (.iaload, 1) := by decide +kernel
theorem dX10_run_62 : decode cX10_run 62 = .ok (.ireturn, 1) := by decide +kernel
theorem dX10_loseToken_0 : decode cX10_loseToken 0 = .ok (.aload_n 0, 1) := by decide +kernel
theorem dX10_loseToken_1 : decode cX10_loseToken 1 = .ok (.iconst 0, 1) := by decide +kernel
theorem dX10_loseToken_2 : decode cX10_loseToken 2 = .ok (.putfield 22, 3) := by decide +kernel
theorem dX10_loseToken_5 : decode cX10_loseToken 5 = .ok (.aload_n 0, 1) := by decide +kernel
theorem dX10_loseToken_6 : decode cX10_loseToken 6 = .ok (.invokevirtual 57, 3) := by decide +kernel
theorem dX10_loseToken_9 : decode cX10_loseToken 9 = .ok (.aload_n 0, 1) := by decide +kernel
theorem dX10_loseToken_10 : decode cX10_loseToken 10 = .ok (.getfield 7, 3) := by decide +kernel
theorem dX10_loseToken_13 : decode cX10_loseToken 13 = .ok (.iconst 4, 1) := by decide +kernel
theorem dX10_loseToken_14 : decode cX10_loseToken 14 = .ok (.iaload, 1) := by decide +kernel
theorem dX10_loseToken_15 : decode cX10_loseToken 15 = .ok (.istore_n 1, 1) := by decide +kernel
theorem dX10_loseToken_16 : decode cX10_loseToken 16 = .ok (.aload_n 0, 1) := by decide +kernel
theorem dX10_loseToken_17 : decode cX10_loseToken 17 = .ok (.getfield 7, 3) := by decide +kernel
theorem dX10_loseToken_20 : decode cX10_loseToken 20 = .ok (.iconst 4, 1) := by decide +kernel
theorem dX10_loseToken_21 : decode cX10_loseToken 21 = .ok (.iconst (-1), 1) := by decide +kernel
theorem dX10_loseToken_22 : decode cX10_loseToken 22 = .ok (.iastore, 1) := by decide +kernel
theorem dX10_loseToken_23 : decode cX10_loseToken 23 = .ok (.iload_n 1, 1) := by decide +kernel
theorem dX10_loseToken_24 : decode cX10_loseToken 24 = .ok (.ireturn, 1) := by decide +kernel
theorem dX10_inRing_0 : decode cX10_inRing 0 = .ok (.iconst 0, 1) := by decide +kernel
theorem dX10_inRing_1 : decode cX10_inRing 1 = .ok (.istore_n 1, 1) := by decide +kernel
theorem dX10_inRing_2 : decode cX10_inRing 2 = .ok (.iconst 0, 1) := by decide +kernel
theorem dX10_inRing_3 : decode cX10_inRing 3 = .ok (.istore_n 2, 1) := by decide +kernel
theorem dX10_inRing_4 : decode cX10_inRing 4 = .ok (.iload_n 2, 1) := by decide +kernel
theorem dX10_inRing_5 : decode cX10_inRing 5 = .ok (.bipush 32, 2) := by decide +kernel
theorem dX10_inRing_7 : decode cX10_inRing 7 = .ok (.if_icmp .ge 25, 3) := by decide +kernel
theorem dX10_inRing_10 : decode cX10_inRing 10 = .ok (.iload_n 1, 1) := by decide +kernel
theorem dX10_inRing_11 : decode cX10_inRing 11 = .ok (.aload_n 0, 1) := by decide +kernel
theorem dX10_inRing_12 : decode cX10_inRing 12 = .ok (.iload_n 2, 1) := by decide +kernel
theorem dX10_inRing_13 : decode cX10_inRing 13 = .ok (.invokevirtual 83, 3) := by decide +kernel
theorem dX10_inRing_16 : decode cX10_inRing 16 = .ok (.ifCond .eq 7, 3) := by decide +kernel
theorem dX10_inRing_19 : decode cX10_inRing 19 = .ok (.iconst 1, 1) := by decide +kernel
theorem dX10_inRing_20 : decode cX10_inRing 20 = .ok (.goto 4, 3) := by decide +kernel
theorem dX10_inRing_23 : decode cX10_inRing 23 = .ok (.iconst 0, 1) := by decide +kernel
theorem dX10_inRing_24 : decode cX10_inRing 24 = .ok (.iadd, 1) := by decide +kernel
theorem dX10_inRing_25 : decode cX10_inRing 25 = .ok (.istore_n 1, 1) := by decide +kernel
theorem dX10_inRing_26 : decode cX10_inRing 26 = .ok (.iinc 2 1, 3) := by decide +kernel
theorem dX10_inRing_29 : decode cX10_inRing 29 = .ok (.goto (-25), 3) := by decide +kernel
theorem dX10_inRing_32 : decode cX10_inRing 32 = .ok (.iload_n 1, 1) := by decide +kernel
theorem dX10_inRing_33 : decode cX10_inRing 33 = .ok (.ireturn, 1) := by decide +kernel
theorem dX10_settingOf_0 : decode cX10_settingOf 0 = .ok (.iload_n 1, 1) := by decide +kernel
theorem dX10_settingOf_1 : decode cX10_settingOf 1 = .ok (.tableswitch 78 3 8 #[39, 44, 49, 57, 64, 71], 39) := by decide +kernel
theorem dX10_settingOf_40 : decode cX10_settingOf 40 = .ok (.aload_n 0, 1) := by decide +kernel
theorem dX10_settingOf_41 : decode cX10_settingOf 41 = .ok (.invokevirtual 49, 3) := by decide +kernel
theorem dX10_settingOf_44 : decode cX10_settingOf 44 = .ok (.ireturn, 1) := by decide +kernel
theorem dX10_settingOf_45 : decode cX10_settingOf 45 = .ok (.aload_n 0, 1) := by decide +kernel
theorem dX10_settingOf_46 : decode cX10_settingOf 46 = .ok (.invokevirtual 122, 3) := by decide +kernel
theorem dX10_settingOf_49 : decode cX10_settingOf 49 = .ok (.ireturn, 1) := by decide +kernel
theorem dX10_settingOf_50 : decode cX10_settingOf 50 = .ok (.aload_n 0, 1) := by decide +kernel
theorem dX10_settingOf_51 : decode cX10_settingOf 51 = .ok (.getfield 7, 3) := by decide +kernel
theorem dX10_settingOf_54 : decode cX10_settingOf 54 = .ok (.bipush 6, 2) := by decide +kernel
theorem dX10_settingOf_56 : decode cX10_settingOf 56 = .ok (.iaload, 1) := by decide +kernel
theorem dX10_settingOf_57 : decode cX10_settingOf 57 = .ok (.ireturn, 1) := by decide +kernel
theorem dX10_settingOf_58 : decode cX10_settingOf 58 = .ok (.aload_n 0, 1) := by decide +kernel
theorem dX10_settingOf_59 : decode cX10_settingOf 59 = .ok (.getfield 7, 3) := by decide +kernel
theorem dX10_settingOf_62 : decode cX10_settingOf 62 = .ok (.iconst 3, 1) := by decide +kernel
theorem dX10_settingOf_63 : decode cX10_settingOf 63 = .ok (.iaload, 1) := by decide +kernel
theorem dX10_settingOf_64 : decode cX10_settingOf 64 = .ok (.ireturn, 1) := by decide +kernel
theorem dX10_settingOf_65 : decode cX10_settingOf 65 = .ok (.aload_n 0, 1) := by decide +kernel
theorem dX10_settingOf_66 : decode cX10_settingOf 66 = .ok (.getfield 7, 3) := by decide +kernel
theorem dX10_settingOf_69 : decode cX10_settingOf 69 = .ok (.iconst 4, 1) := by decide +kernel
theorem dX10_settingOf_70 : decode cX10_settingOf 70 = .ok (.iaload, 1) := by decide +kernel
theorem dX10_settingOf_71 : decode cX10_settingOf 71 = .ok (.ireturn, 1) := by decide +kernel
theorem dX10_settingOf_72 : decode cX10_settingOf 72 = .ok (.aload_n 0, 1) := by decide +kernel
theorem dX10_settingOf_73 : decode cX10_settingOf 73 = .ok (.getfield 7, 3) := by decide +kernel
theorem dX10_settingOf_76 : decode cX10_settingOf 76 = .ok (.iconst 5, 1) := by decide +kernel
theorem dX10_settingOf_77 : decode cX10_settingOf 77 = .ok (.iaload, 1) := by decide +kernel
theorem dX10_settingOf_78 : decode cX10_settingOf 78 = .ok (.ireturn, 1) := by decide +kernel
theorem dX10_settingOf_79 : decode cX10_settingOf 79 = .ok (.aload_n 0, 1) := by decide +kernel
theorem dX10_settingOf_80 : decode cX10_settingOf 80 = .ok (.getfield 7, 3) := by decide +kernel
theorem dX10_settingOf_83 : decode cX10_settingOf 83 = .ok (.iload_n 1, 1) := by decide +kernel
theorem dX10_settingOf_84 : decode cX10_settingOf 84 = .ok (.iaload, 1) := by decide +kernel
theorem dX10_settingOf_85 : decode cX10_settingOf 85 = .ok (.ireturn, 1) := by decide +kernel
theorem dX10_setting_0 : decode cX10_setting 0 = .ok (.aload_n 0, 1) := by decide +kernel
theorem dX10_setting_1 : decode cX10_setting 1 = .ok (.iload_n 1, 1) := by decide +kernel
theorem dX10_setting_2 : decode cX10_setting 2 = .ok (.i2l, 1) := by decide +kernel
theorem dX10_setting_3 : decode cX10_setting 3 = .ok (.lconst 0, 1) := by decide +kernel
theorem dX10_setting_4 : decode cX10_setting 4 = .ok (.ldc2_w 125, 3) := by decide +kernel
theorem dX10_setting_7 : decode cX10_setting 7 = .ok (.invokestatic 35, 3) := by decide +kernel
theorem dX10_setting_10 : decode cX10_setting 10 = .ok (.iconst 1, 1) := by decide +kernel
theorem dX10_setting_11 : decode cX10_setting 11 = .ok (.iconst 1, 1) := by decide +kernel
theorem dX10_setting_12 : decode cX10_setting 12 = .ok (.invokevirtual 53, 3) := by decide +kernel
theorem dX10_setting_15 : decode cX10_setting 15 = .ok (.ifCond .eq 11, 3) := by decide +kernel
theorem dX10_setting_18 : decode cX10_setting 18 = .ok (.aload_n 0, 1) := by decide +kernel
theorem dX10_setting_19 : decode cX10_setting 19 = .ok (.iload_n 1, 1) := by decide +kernel
theorem dX10_setting_20 : decode cX10_setting 20 = .ok (.invokevirtual 127, 3) := by decide +kernel
theorem dX10_setting_23 : decode cX10_setting 23 = .ok (.goto 4, 3) := by decide +kernel
theorem dX10_setting_26 : decode cX10_setting 26 = .ok (.iconst 0, 1) := by decide +kernel
theorem dX10_setting_27 : decode cX10_setting 27 = .ok (.ireturn, 1) := by decide +kernel
theorem dX10_queueOf_0 : decode cX10_queueOf 0 = .ok (.iconst 0, 1) := by decide +kernel
theorem dX10_queueOf_1 : decode cX10_queueOf 1 = .ok (.istore_n 2, 1) := by decide +kernel
theorem dX10_queueOf_2 : decode cX10_queueOf 2 = .ok (.iconst 0, 1) := by decide +kernel
theorem dX10_queueOf_3 : decode cX10_queueOf 3 = .ok (.istore_n 3, 1) := by decide +kernel
theorem dX10_queueOf_4 : decode cX10_queueOf 4 = .ok (.iload_n 3, 1) := by decide +kernel
theorem dX10_queueOf_5 : decode cX10_queueOf 5 = .ok (.aload_n 0, 1) := by decide +kernel
theorem dX10_queueOf_6 : decode cX10_queueOf 6 = .ok (.getfield 7, 3) := by decide +kernel
theorem dX10_queueOf_9 : decode cX10_queueOf 9 = .ok (.iconst 5, 1) := by decide +kernel
theorem dX10_queueOf_10 : decode cX10_queueOf 10 = .ok (.iaload, 1) := by decide +kernel
theorem dX10_queueOf_11 : decode cX10_queueOf 11 = .ok (.if_icmp .ge 37, 3) := by decide +kernel
theorem dX10_queueOf_14 : decode cX10_queueOf 14 = .ok (.iload_n 2, 1) := by decide +kernel
theorem dX10_queueOf_15 : decode cX10_queueOf 15 = .ok (.aload_n 0, 1) := by decide +kernel
theorem dX10_queueOf_16 : decode cX10_queueOf 16 = .ok (.iload_n 3, 1) := by decide +kernel
theorem dX10_queueOf_17 : decode cX10_queueOf 17 = .ok (.iconst 2, 1) := by decide +kernel
theorem dX10_queueOf_18 : decode cX10_queueOf 18 = .ok (.invokevirtual 80, 3) := by decide +kernel
theorem dX10_queueOf_21 : decode cX10_queueOf 21 = .ok (.iload_n 1, 1) := by decide +kernel
theorem dX10_queueOf_22 : decode cX10_queueOf 22 = .ok (.if_icmp .ne 17, 3) := by decide +kernel
theorem dX10_queueOf_25 : decode cX10_queueOf 25 = .ok (.aload_n 0, 1) := by decide +kernel
theorem dX10_queueOf_26 : decode cX10_queueOf 26 = .ok (.iload_n 3, 1) := by decide +kernel
theorem dX10_queueOf_27 : decode cX10_queueOf 27 = .ok (.iconst 4, 1) := by decide +kernel
theorem dX10_queueOf_28 : decode cX10_queueOf 28 = .ok (.invokevirtual 80, 3) := by decide +kernel
theorem dX10_queueOf_31 : decode cX10_queueOf 31 = .ok (.iconst (-1), 1) := by decide +kernel
theorem dX10_queueOf_32 : decode cX10_queueOf 32 = .ok (.if_icmp .ne 7, 3) := by decide +kernel
theorem dX10_queueOf_35 : decode cX10_queueOf 35 = .ok (.iconst 1, 1) := by decide +kernel
theorem dX10_queueOf_36 : decode cX10_queueOf 36 = .ok (.goto 4, 3) := by decide +kernel
theorem dX10_queueOf_39 : decode cX10_queueOf 39 = .ok (.iconst 0, 1) := by decide +kernel
theorem dX10_queueOf_40 : decode cX10_queueOf 40 = .ok (.iadd, 1) := by decide +kernel
theorem dX10_queueOf_41 : decode cX10_queueOf 41 = .ok (.istore_n 2, 1) := by decide +kernel
theorem dX10_queueOf_42 : decode cX10_queueOf 42 = .ok (.iinc 3 1, 3) := by decide +kernel
theorem dX10_queueOf_45 : decode cX10_queueOf 45 = .ok (.goto (-41), 3) := by decide +kernel
theorem dX10_queueOf_48 : decode cX10_queueOf 48 = .ok (.iload_n 2, 1) := by decide +kernel
theorem dX10_queueOf_49 : decode cX10_queueOf 49 = .ok (.ireturn, 1) := by decide +kernel
theorem dX10_stationOf_0 : decode cX10_stationOf 0 = .ok (.iload_n 2, 1) := by decide +kernel
theorem dX10_stationOf_1 : decode cX10_stationOf 1 = .ok (.iconst 4, 1) := by decide +kernel
theorem dX10_stationOf_2 : decode cX10_stationOf 2 = .ok (.if_icmp .ne 11, 3) := by decide +kernel
theorem dX10_stationOf_5 : decode cX10_stationOf 5 = .ok (.aload_n 0, 1) := by decide +kernel
theorem dX10_stationOf_6 : decode cX10_stationOf 6 = .ok (.iload_n 1, 1) := by decide +kernel
theorem dX10_stationOf_7 : decode cX10_stationOf 7 = .ok (.invokevirtual 131, 3) := by decide +kernel
theorem dX10_stationOf_10 : decode cX10_stationOf 10 = .ok (.goto 20, 3) := by decide +kernel
theorem dX10_stationOf_13 : decode cX10_stationOf 13 = .ok (.aload_n 0, 1) := by decide +kernel
theorem dX10_stationOf_14 : decode cX10_stationOf 14 = .ok (.iload_n 1, 1) := by decide +kernel
theorem dX10_stationOf_15 : decode cX10_stationOf 15 = .ok (.iload_n 2, 1) := by decide +kernel
theorem dX10_stationOf_16 : decode cX10_stationOf 16 = .ok (.iconst 4, 1) := by decide +kernel
theorem dX10_stationOf_17 : decode cX10_stationOf 17 = .ok (.if_icmp .ge 9, 3) := by decide +kernel
theorem dX10_stationOf_20 : decode cX10_stationOf 20 = .ok (.iconst 1, 1) := by decide +kernel
theorem dX10_stationOf_21 : decode cX10_stationOf 21 = .ok (.iload_n 2, 1) := by decide +kernel
theorem dX10_stationOf_22 : decode cX10_stationOf 22 = .ok (.iadd, 1) := by decide +kernel
theorem dX10_stationOf_23 : decode cX10_stationOf 23 = .ok (.goto 4, 3) := by decide +kernel
theorem dX10_stationOf_26 : decode cX10_stationOf 26 = .ok (.iload_n 2, 1) := by decide +kernel
theorem dX10_stationOf_27 : decode cX10_stationOf 27 = .ok (.invokevirtual 39, 3) := by decide +kernel
theorem dX10_stationOf_30 : decode cX10_stationOf 30 = .ok (.ireturn, 1) := by decide +kernel
theorem dX10_station_0 : decode cX10_station 0 = .ok (.aload_n 0, 1) := by decide +kernel
theorem dX10_station_1 : decode cX10_station 1 = .ok (.aload_n 0, 1) := by decide +kernel
theorem dX10_station_2 : decode cX10_station 2 = .ok (.iload_n 1, 1) := by decide +kernel
theorem dX10_station_3 : decode cX10_station 3 = .ok (.invokevirtual 45, 3) := by decide +kernel
theorem dX10_station_6 : decode cX10_station 6 = .ok (.iload_n 2, 1) := by decide +kernel
theorem dX10_station_7 : decode cX10_station 7 = .ok (.i2l, 1) := by decide +kernel
theorem dX10_station_8 : decode cX10_station 8 = .ok (.lconst 0, 1) := by decide +kernel
theorem dX10_station_9 : decode cX10_station 9 = .ok (.ldc2_w 134, 3) := by decide +kernel
theorem dX10_station_12 : decode cX10_station 12 = .ok (.invokestatic 35, 3) := by decide +kernel
theorem dX10_station_15 : decode cX10_station 15 = .ok (.iconst 1, 1) := by decide +kernel
theorem dX10_station_16 : decode cX10_station 16 = .ok (.invokevirtual 53, 3) := by decide +kernel
theorem dX10_station_19 : decode cX10_station 19 = .ok (.ifCond .eq 12, 3) := by decide +kernel
theorem dX10_station_22 : decode cX10_station 22 = .ok (.aload_n 0, 1) := by decide +kernel
theorem dX10_station_23 : decode cX10_station 23 = .ok (.iload_n 1, 1) := by decide +kernel
theorem dX10_station_24 : decode cX10_station 24 = .ok (.iload_n 2, 1) := by decide +kernel
theorem dX10_station_25 : decode cX10_station 25 = .ok (.invokevirtual 136, 3) := by decide +kernel
theorem dX10_station_28 : decode cX10_station 28 = .ok (.goto 4, 3) := by decide +kernel
theorem dX10_station_31 : decode cX10_station 31 = .ok (.iconst 0, 1) := by decide +kernel
theorem dX10_station_32 : decode cX10_station 32 = .ok (.ireturn, 1) := by decide +kernel
theorem dX10_addressAt_0 : decode cX10_addressAt 0 = .ok (.aload_n 0, 1) := by decide +kernel
theorem dX10_addressAt_1 : decode cX10_addressAt 1 = .ok (.iload_n 1, 1) := by decide +kernel
theorem dX10_addressAt_2 : decode cX10_addressAt 2 = .ok (.i2l, 1) := by decide +kernel
theorem dX10_addressAt_3 : decode cX10_addressAt 3 = .ok (.lconst 0, 1) := by decide +kernel
theorem dX10_addressAt_4 : decode cX10_addressAt 4 = .ok (.aload_n 0, 1) := by decide +kernel
theorem dX10_addressAt_5 : decode cX10_addressAt 5 = .ok (.invokevirtual 49, 3) := by decide +kernel
theorem dX10_addressAt_8 : decode cX10_addressAt 8 = .ok (.i2l, 1) := by decide +kernel
theorem dX10_addressAt_9 : decode cX10_addressAt 9 = .ok (.lconst 1, 1) := by decide +kernel
theorem dX10_addressAt_10 : decode cX10_addressAt 10 = .ok (.lsub, 1) := by decide +kernel
theorem dX10_addressAt_11 : decode cX10_addressAt 11 = .ok (.invokestatic 35, 3) := by decide +kernel
theorem dX10_addressAt_14 : decode cX10_addressAt 14 = .ok (.iconst 1, 1) := by decide +kernel
theorem dX10_addressAt_15 : decode cX10_addressAt 15 = .ok (.iconst 1, 1) := by decide +kernel
theorem dX10_addressAt_16 : decode cX10_addressAt 16 = .ok (.invokevirtual 53, 3) := by decide +kernel
theorem dX10_addressAt_19 : decode cX10_addressAt 19 = .ok (.ifCond .ne 5, 3) := by decide +kernel
theorem dX10_addressAt_22 : decode cX10_addressAt 22 = .ok (.iconst 0, 1) := by decide +kernel
theorem dX10_addressAt_23 : decode cX10_addressAt 23 = .ok (.ireturn, 1) := by decide +kernel
theorem dX10_addressAt_24 : decode cX10_addressAt 24 = .ok (.iconst 0, 1) := by decide +kernel
theorem dX10_addressAt_25 : decode cX10_addressAt 25 = .ok (.istore_n 2, 1) := by decide +kernel
theorem dX10_addressAt_26 : decode cX10_addressAt 26 = .ok (.iload_n 1, 1) := by decide +kernel
theorem dX10_addressAt_27 : decode cX10_addressAt 27 = .ok (.istore_n 3, 1) := by decide +kernel
theorem dX10_addressAt_28 : decode cX10_addressAt 28 = .ok (.iload_n 3, 1) := by decide +kernel
theorem dX10_addressAt_29 : decode cX10_addressAt 29 = .ok (.ifCond .gt 12, 3) := by decide +kernel
theorem dX10_addressAt_32 : decode cX10_addressAt 32 = .ok (.aload_n 0, 1) := by decide +kernel
theorem dX10_addressAt_33 : decode cX10_addressAt 33 = .ok (.iload_n 2, 1) := by decide +kernel
theorem dX10_addressAt_34 : decode cX10_addressAt 34 = .ok (.iconst 0, 1) := by decide +kernel
theorem dX10_addressAt_35 : decode cX10_addressAt 35 = .ok (.invokevirtual 39, 3) := by decide +kernel
theorem dX10_addressAt_38 : decode cX10_addressAt 38 = .ok (.ifCond .ne 18, 3) := by decide +kernel
theorem dX10_addressAt_41 : decode cX10_addressAt 41 = .ok (.iload_n 3, 1) := by decide +kernel
theorem dX10_addressAt_42 : decode cX10_addressAt 42 = .ok (.aload_n 0, 1) := by decide +kernel
theorem dX10_addressAt_43 : decode cX10_addressAt 43 = .ok (.iload_n 2, 1) := by decide +kernel
theorem dX10_addressAt_44 : decode cX10_addressAt 44 = .ok (.iconst 0, 1) := by decide +kernel
theorem dX10_addressAt_45 : decode cX10_addressAt 45 = .ok (.invokevirtual 39, 3) := by decide +kernel
theorem dX10_addressAt_48 : decode cX10_addressAt 48 = .ok (.isub, 1) := by decide +kernel
theorem dX10_addressAt_49 : decode cX10_addressAt 49 = .ok (.istore_n 3, 1) := by decide +kernel
theorem dX10_addressAt_50 : decode cX10_addressAt 50 = .ok (.iinc 2 1, 3) := by decide +kernel
theorem dX10_addressAt_53 : decode cX10_addressAt 53 = .ok (.goto (-25), 3) := by decide +kernel
theorem dX10_addressAt_56 : decode cX10_addressAt 56 = .ok (.iload_n 2, 1) := by decide +kernel
theorem dX10_addressAt_57 : decode cX10_addressAt 57 = .ok (.ireturn, 1) := by decide +kernel
theorem dX10_queued_0 : decode cX10_queued 0 = .ok (.aload_n 0, 1) := by decide +kernel
theorem dX10_queued_1 : decode cX10_queued 1 = .ok (.iload_n 1, 1) := by decide +kernel
theorem dX10_queued_2 : decode cX10_queued 2 = .ok (.invokevirtual 45, 3) := by decide +kernel
theorem dX10_queued_5 : decode cX10_queued 5 = .ok (.istore_n 3, 1) := by decide +kernel
theorem dX10_queued_6 : decode cX10_queued 6 = .ok (.aload_n 0, 1) := by decide +kernel
theorem dX10_queued_7 : decode cX10_queued 7 = .ok (.iload_n 3, 1) := by decide +kernel
theorem dX10_queued_8 : decode cX10_queued 8 = .ok (.iload_n 3, 1) := by decide +kernel
theorem dX10_queued_9 : decode cX10_queued 9 = .ok (.ifCond .eq 24, 3) := by decide +kernel
theorem dX10_queued_12 : decode cX10_queued 12 = .ok (.iload_n 2, 1) := by decide +kernel
theorem dX10_queued_13 : decode cX10_queued 13 = .ok (.i2l, 1) := by decide +kernel
theorem dX10_queued_14 : decode cX10_queued 14 = .ok (.lconst 0, 1) := by decide +kernel
theorem dX10_queued_15 : decode cX10_queued 15 = .ok (.aload_n 0, 1) := by decide +kernel
theorem dX10_queued_16 : decode cX10_queued 16 = .ok (.iload_n 1, 1) := by decide +kernel
theorem dX10_queued_17 : decode cX10_queued 17 = .ok (.invokevirtual 131, 3) := by decide +kernel
theorem dX10_queued_20 : decode cX10_queued 20 = .ok (.i2l, 1) := by decide +kernel
theorem dX10_queued_21 : decode cX10_queued 21 = .ok (.lconst 1, 1) := by decide +kernel
theorem dX10_queued_22 : decode cX10_queued 22 = .ok (.lsub, 1) := by decide +kernel
theorem dX10_queued_23 : decode cX10_queued 23 = .ok (.invokestatic 35, 3) := by decide +kernel
theorem dX10_queued_26 : decode cX10_queued 26 = .ok (.ifCond .eq 7, 3) := by decide +kernel
theorem dX10_queued_29 : decode cX10_queued 29 = .ok (.iconst 1, 1) := by decide +kernel
theorem dX10_queued_30 : decode cX10_queued 30 = .ok (.goto 4, 3) := by decide +kernel
theorem dX10_queued_33 : decode cX10_queued 33 = .ok (.iconst 0, 1) := by decide +kernel
theorem dX10_queued_34 : decode cX10_queued 34 = .ok (.iconst 1, 1) := by decide +kernel
theorem dX10_queued_35 : decode cX10_queued 35 = .ok (.invokevirtual 53, 3) := by decide +kernel
theorem dX10_queued_38 : decode cX10_queued 38 = .ok (.ifCond .ne 5, 3) := by decide +kernel
theorem dX10_queued_41 : decode cX10_queued 41 = .ok (.iconst 0, 1) := by decide +kernel
theorem dX10_queued_42 : decode cX10_queued 42 = .ok (.ireturn, 1) := by decide +kernel
theorem dX10_queued_43 : decode cX10_queued 43 = .ok (.aload_n 0, 1) := by decide +kernel
theorem dX10_queued_44 : decode cX10_queued 44 = .ok (.iload_n 1, 1) := by decide +kernel
theorem dX10_queued_45 : decode cX10_queued 45 = .ok (.iconst (-1), 1) := by decide +kernel
theorem dX10_queued_46 : decode cX10_queued 46 = .ok (.invokevirtual 86, 3) := by decide +kernel
theorem dX10_queued_49 : decode cX10_queued 49 = .ok (.istore 4, 2) := by decide +kernel
theorem dX10_queued_51 : decode cX10_queued 51 = .ok (.iconst 0, 1) := by decide +kernel
theorem dX10_queued_52 : decode cX10_queued 52 = .ok (.istore 5, 2) := by decide +kernel
theorem dX10_queued_54 : decode cX10_queued 54 = .ok (.iload 5, 2) := by decide +kernel
theorem dX10_queued_56 : decode cX10_queued 56 = .ok (.iload_n 2, 1) := by decide +kernel
theorem dX10_queued_57 : decode cX10_queued 57 = .ok (.if_icmp .ge 18, 3) := by decide +kernel
theorem dX10_queued_60 : decode cX10_queued 60 = .ok (.aload_n 0, 1) := by decide +kernel
theorem dX10_queued_61 : decode cX10_queued 61 = .ok (.iload_n 1, 1) := by decide +kernel
theorem dX10_queued_62 : decode cX10_queued 62 = .ok (.iload 4, 2) := by decide +kernel
theorem dX10_queued_64 : decode cX10_queued 64 = .ok (.invokevirtual 86, 3) := by decide +kernel
theorem dX10_queued_67 : decode cX10_queued 67 = .ok (.istore 4, 2) := by decide +kernel
theorem dX10_queued_69 : decode cX10_queued 69 = .ok (.iinc 5 1, 3) := by decide +kernel
theorem dX10_queued_72 : decode cX10_queued 72 = .ok (.goto (-18), 3) := by decide +kernel
theorem dX10_queued_75 : decode cX10_queued 75 = .ok (.iload 4, 2) := by decide +kernel
theorem dX10_queued_77 : decode cX10_queued 77 = .ok (.ireturn, 1) := by decide +kernel
theorem dX10_message_0 : decode cX10_message 0 = .ok (.aload_n 0, 1) := by decide +kernel
theorem dX10_message_1 : decode cX10_message 1 = .ok (.iload_n 1, 1) := by decide +kernel
theorem dX10_message_2 : decode cX10_message 2 = .ok (.i2l, 1) := by decide +kernel
theorem dX10_message_3 : decode cX10_message 3 = .ok (.lconst 0, 1) := by decide +kernel
theorem dX10_message_4 : decode cX10_message 4 = .ok (.aload_n 0, 1) := by decide +kernel
theorem dX10_message_5 : decode cX10_message 5 = .ok (.getfield 7, 3) := by decide +kernel
theorem dX10_message_8 : decode cX10_message 8 = .ok (.iconst 5, 1) := by decide +kernel
theorem dX10_message_9 : decode cX10_message 9 = .ok (.iaload, 1) := by decide +kernel
theorem dX10_message_10 : decode cX10_message 10 = .ok (.i2l, 1) := by decide +kernel
theorem dX10_message_11 : decode cX10_message 11 = .ok (.lconst 1, 1) := by decide +kernel
theorem dX10_message_12 : decode cX10_message 12 = .ok (.lsub, 1) := by decide +kernel
theorem dX10_message_13 : decode cX10_message 13 = .ok (.invokestatic 35, 3) := by decide +kernel
theorem dX10_message_16 : decode cX10_message 16 = .ok (.iload_n 2, 1) := by decide +kernel
theorem dX10_message_17 : decode cX10_message 17 = .ok (.i2l, 1) := by decide +kernel
theorem dX10_message_18 : decode cX10_message 18 = .ok (.lconst 0, 1) := by decide +kernel
theorem dX10_message_19 : decode cX10_message 19 = .ok (.ldc2_w 139, 3) := by decide +kernel
theorem dX10_message_22 : decode cX10_message 22 = .ok (.invokestatic 35, 3) := by decide +kernel
theorem dX10_message_25 : decode cX10_message 25 = .ok (.iconst 1, 1) := by decide +kernel
theorem dX10_message_26 : decode cX10_message 26 = .ok (.invokevirtual 53, 3) := by decide +kernel
theorem dX10_message_29 : decode cX10_message 29 = .ok (.ifCond .eq 12, 3) := by decide +kernel
theorem dX10_message_32 : decode cX10_message 32 = .ok (.aload_n 0, 1) := by decide +kernel
theorem dX10_message_33 : decode cX10_message 33 = .ok (.iload_n 1, 1) := by decide +kernel
theorem dX10_message_34 : decode cX10_message 34 = .ok (.iload_n 2, 1) := by decide +kernel
theorem dX10_message_35 : decode cX10_message 35 = .ok (.invokevirtual 80, 3) := by decide +kernel
theorem dX10_message_38 : decode cX10_message 38 = .ok (.goto 4, 3) := by decide +kernel
theorem dX10_message_41 : decode cX10_message 41 = .ok (.iconst 0, 1) := by decide +kernel
theorem dX10_message_42 : decode cX10_message 42 = .ok (.ireturn, 1) := by decide +kernel
theorem dX10_count_0 : decode cX10_count 0 = .ok (.aload_n 0, 1) := by decide +kernel
theorem dX10_count_1 : decode cX10_count 1 = .ok (.iload_n 1, 1) := by decide +kernel
theorem dX10_count_2 : decode cX10_count 2 = .ok (.i2l, 1) := by decide +kernel
theorem dX10_count_3 : decode cX10_count 3 = .ok (.lconst 0, 1) := by decide +kernel
theorem dX10_count_4 : decode cX10_count 4 = .ok (.ldc2_w 134, 3) := by decide +kernel
theorem dX10_count_7 : decode cX10_count 7 = .ok (.invokestatic 35, 3) := by decide +kernel
theorem dX10_count_10 : decode cX10_count 10 = .ok (.iconst 1, 1) := by decide +kernel
theorem dX10_count_11 : decode cX10_count 11 = .ok (.iconst 1, 1) := by decide +kernel
theorem dX10_count_12 : decode cX10_count 12 = .ok (.invokevirtual 53, 3) := by decide +kernel
theorem dX10_count_15 : decode cX10_count 15 = .ok (.ifCond .eq 15, 3) := by decide +kernel
theorem dX10_count_18 : decode cX10_count 18 = .ok (.aload_n 0, 1) := by decide +kernel
theorem dX10_count_19 : decode cX10_count 19 = .ok (.getfield 7, 3) := by decide +kernel
theorem dX10_count_22 : decode cX10_count 22 = .ok (.bipush 9, 2) := by decide +kernel
theorem dX10_count_24 : decode cX10_count 24 = .ok (.iload_n 1, 1) := by decide +kernel
theorem dX10_count_25 : decode cX10_count 25 = .ok (.iadd, 1) := by decide +kernel
theorem dX10_count_26 : decode cX10_count 26 = .ok (.iaload, 1) := by decide +kernel
theorem dX10_count_27 : decode cX10_count 27 = .ok (.goto 4, 3) := by decide +kernel
theorem dX10_count_30 : decode cX10_count 30 = .ok (.iconst 0, 1) := by decide +kernel
theorem dX10_count_31 : decode cX10_count 31 = .ok (.ireturn, 1) := by decide +kernel
theorem dX10_isNoisy_0 : decode cX10_isNoisy 0 = .ok (.aload_n 0, 1) := by decide +kernel
theorem dX10_isNoisy_1 : decode cX10_isNoisy 1 = .ok (.iload_n 1, 1) := by decide +kernel
theorem dX10_isNoisy_2 : decode cX10_isNoisy 2 = .ok (.i2l, 1) := by decide +kernel
theorem dX10_isNoisy_3 : decode cX10_isNoisy 3 = .ok (.lconst 0, 1) := by decide +kernel
theorem dX10_isNoisy_4 : decode cX10_isNoisy 4 = .ok (.ldc2_w 74, 3) := by decide +kernel
theorem dX10_isNoisy_7 : decode cX10_isNoisy 7 = .ok (.invokestatic 35, 3) := by decide +kernel
theorem dX10_isNoisy_10 : decode cX10_isNoisy 10 = .ok (.iconst 1, 1) := by decide +kernel
theorem dX10_isNoisy_11 : decode cX10_isNoisy 11 = .ok (.iconst 1, 1) := by decide +kernel
theorem dX10_isNoisy_12 : decode cX10_isNoisy 12 = .ok (.invokevirtual 53, 3) := by decide +kernel
theorem dX10_isNoisy_15 : decode cX10_isNoisy 15 = .ok (.ifCond .eq 16, 3) := by decide +kernel
theorem dX10_isNoisy_18 : decode cX10_isNoisy 18 = .ok (.aload_n 0, 1) := by decide +kernel
theorem dX10_isNoisy_19 : decode cX10_isNoisy 19 = .ok (.iload_n 1, 1) := by decide +kernel
theorem dX10_isNoisy_20 : decode cX10_isNoisy 20 = .ok (.iload_n 1, 1) := by decide +kernel
theorem dX10_isNoisy_21 : decode cX10_isNoisy 21 = .ok (.invokevirtual 76, 3) := by decide +kernel
theorem dX10_isNoisy_24 : decode cX10_isNoisy 24 = .ok (.ifCond .eq 7, 3) := by decide +kernel
theorem dX10_isNoisy_27 : decode cX10_isNoisy 27 = .ok (.iconst 1, 1) := by decide +kernel
theorem dX10_isNoisy_28 : decode cX10_isNoisy 28 = .ok (.goto 4, 3) := by decide +kernel
theorem dX10_isNoisy_31 : decode cX10_isNoisy 31 = .ok (.iconst 0, 1) := by decide +kernel
theorem dX10_isNoisy_32 : decode cX10_isNoisy 32 = .ok (.ireturn, 1) := by decide +kernel
theorem dX10_logged_0 : decode cX10_logged 0 = .ok (.aload_n 0, 1) := by decide +kernel
theorem dX10_logged_1 : decode cX10_logged 1 = .ok (.iconst 0, 1) := by decide +kernel
theorem dX10_logged_2 : decode cX10_logged 2 = .ok (.putfield 22, 3) := by decide +kernel
theorem dX10_logged_5 : decode cX10_logged 5 = .ok (.aload_n 0, 1) := by decide +kernel
theorem dX10_logged_6 : decode cX10_logged 6 = .ok (.getfield 7, 3) := by decide +kernel
theorem dX10_logged_9 : decode cX10_logged 9 = .ok (.bipush 7, 2) := by decide +kernel
theorem dX10_logged_11 : decode cX10_logged 11 = .ok (.iaload, 1) := by decide +kernel
theorem dX10_logged_12 : decode cX10_logged 12 = .ok (.ireturn, 1) := by decide +kernel
theorem dX10_visit_0 : decode cX10_visit 0 = .ok (.aload_n 0, 1) := by decide +kernel
theorem dX10_visit_1 : decode cX10_visit 1 = .ok (.iload_n 1, 1) := by decide +kernel
theorem dX10_visit_2 : decode cX10_visit 2 = .ok (.i2l, 1) := by decide +kernel
theorem dX10_visit_3 : decode cX10_visit 3 = .ok (.lconst 0, 1) := by decide +kernel
theorem dX10_visit_4 : decode cX10_visit 4 = .ok (.aload_n 0, 1) := by decide +kernel
theorem dX10_visit_5 : decode cX10_visit 5 = .ok (.getfield 7, 3) := by decide +kernel
theorem dX10_visit_8 : decode cX10_visit 8 = .ok (.bipush 7, 2) := by decide +kernel
theorem dX10_visit_10 : decode cX10_visit 10 = .ok (.iaload, 1) := by decide +kernel
theorem dX10_visit_11 : decode cX10_visit 11 = .ok (.i2l, 1) := by decide +kernel
theorem dX10_visit_12 : decode cX10_visit 12 = .ok (.lconst 1, 1) := by decide +kernel
theorem dX10_visit_13 : decode cX10_visit 13 = .ok (.lsub, 1) := by decide +kernel
theorem dX10_visit_14 : decode cX10_visit 14 = .ok (.invokestatic 35, 3) := by decide +kernel
theorem dX10_visit_17 : decode cX10_visit 17 = .ok (.iload_n 2, 1) := by decide +kernel
theorem dX10_visit_18 : decode cX10_visit 18 = .ok (.i2l, 1) := by decide +kernel
theorem dX10_visit_19 : decode cX10_visit 19 = .ok (.lconst 0, 1) := by decide +kernel
theorem dX10_visit_20 : decode cX10_visit 20 = .ok (.ldc2_w 141, 3) := by decide +kernel
theorem dX10_visit_23 : decode cX10_visit 23 = .ok (.invokestatic 35, 3) := by decide +kernel
theorem dX10_visit_26 : decode cX10_visit 26 = .ok (.iconst 1, 1) := by decide +kernel
theorem dX10_visit_27 : decode cX10_visit 27 = .ok (.invokevirtual 53, 3) := by decide +kernel
theorem dX10_visit_30 : decode cX10_visit 30 = .ok (.ifCond .eq 20, 3) := by decide +kernel
theorem dX10_visit_33 : decode cX10_visit 33 = .ok (.aload_n 0, 1) := by decide +kernel
theorem dX10_visit_34 : decode cX10_visit 34 = .ok (.getfield 7, 3) := by decide +kernel
theorem dX10_visit_37 : decode cX10_visit 37 = .ok (.sipush 782, 3) := by decide +kernel
theorem dX10_visit_40 : decode cX10_visit 40 = .ok (.iconst 4, 1) := by decide +kernel
theorem dX10_visit_41 : decode cX10_visit 41 = .ok (.iload_n 1, 1) := by decide +kernel
theorem dX10_visit_42 : decode cX10_visit 42 = .ok (.imul, 1) := by decide +kernel
theorem dX10_visit_43 : decode cX10_visit 43 = .ok (.iadd, 1) := by decide +kernel
theorem dX10_visit_44 : decode cX10_visit 44 = .ok (.iload_n 2, 1) := by decide +kernel
theorem dX10_visit_45 : decode cX10_visit 45 = .ok (.iadd, 1) := by decide +kernel
theorem dX10_visit_46 : decode cX10_visit 46 = .ok (.iaload, 1) := by decide +kernel
theorem dX10_visit_47 : decode cX10_visit 47 = .ok (.goto 4, 3) := by decide +kernel
theorem dX10_visit_50 : decode cX10_visit 50 = .ok (.iconst 0, 1) := by decide +kernel
theorem dX10_visit_51 : decode cX10_visit 51 = .ok (.ireturn, 1) := by decide +kernel
theorem dX10_greatestRotation_0 : decode cX10_greatestRotation 0 = .ok (.aload_n 0, 1) := by decide +kernel
theorem dX10_greatestRotation_1 : decode cX10_greatestRotation 1 = .ok (.iconst 0, 1) := by decide +kernel
theorem dX10_greatestRotation_2 : decode cX10_greatestRotation 2 = .ok (.putfield 22, 3) := by decide +kernel
theorem dX10_greatestRotation_5 : decode cX10_greatestRotation 5 = .ok (.aload_n 0, 1) := by decide +kernel
theorem dX10_greatestRotation_6 : decode cX10_greatestRotation 6 = .ok (.getfield 7, 3) := by decide +kernel
theorem dX10_greatestRotation_9 : decode cX10_greatestRotation 9 = .ok (.bipush 8, 2) := by decide +kernel
theorem dX10_greatestRotation_11 : decode cX10_greatestRotation 11 = .ok (.iaload, 1) := by decide +kernel
theorem dX10_greatestRotation_12 : decode cX10_greatestRotation 12 = .ok (.ireturn, 1) := by decide +kernel
theorem dX10_waits_0 : decode cX10_waits 0 = .ok (.aload_n 0, 1) := by decide +kernel
theorem dX10_waits_1 : decode cX10_waits 1 = .ok (.iconst 0, 1) := by decide +kernel
theorem dX10_waits_2 : decode cX10_waits 2 = .ok (.putfield 22, 3) := by decide +kernel
theorem dX10_waits_5 : decode cX10_waits 5 = .ok (.iconst 0, 1) := by decide +kernel
theorem dX10_waits_6 : decode cX10_waits 6 = .ok (.istore_n 2, 1) := by decide +kernel
theorem dX10_waits_7 : decode cX10_waits 7 = .ok (.lconst 0, 1) := by decide +kernel
theorem dX10_waits_8 : decode cX10_waits 8 = .ok (.lstore_n 3, 1) := by decide +kernel
theorem dX10_waits_9 : decode cX10_waits 9 = .ok (.iconst 0, 1) := by decide +kernel
theorem dX10_waits_10 : decode cX10_waits 10 = .ok (.istore 5, 2) := by decide +kernel
theorem dX10_waits_12 : decode cX10_waits 12 = .ok (.iload 5, 2) := by decide +kernel
theorem dX10_waits_14 : decode cX10_waits 14 = .ok (.aload_n 0, 1) := by decide +kernel
theorem dX10_waits_15 : decode cX10_waits 15 = .ok (.getfield 7, 3) := by decide +kernel
theorem dX10_waits_18 : decode cX10_waits 18 = .ok (.iconst 5, 1) := by decide +kernel
theorem dX10_waits_19 : decode cX10_waits 19 = .ok (.iaload, 1) := by decide +kernel
theorem dX10_waits_20 : decode cX10_waits 20 = .ok (.if_icmp .ge 47, 3) := by decide +kernel
theorem dX10_waits_23 : decode cX10_waits 23 = .ok (.aload_n 0, 1) := by decide +kernel
theorem dX10_waits_24 : decode cX10_waits 24 = .ok (.iload 5, 2) := by decide +kernel
theorem dX10_waits_26 : decode cX10_waits 26 = .ok (.iconst 4, 1) := by decide +kernel
theorem dX10_waits_27 : decode cX10_waits 27 = .ok (.invokevirtual 80, 3) := by decide +kernel
theorem dX10_waits_30 : decode cX10_waits 30 = .ok (.istore 6, 2) := by decide +kernel
theorem dX10_waits_32 : decode cX10_waits 32 = .ok (.iload 6, 2) := by decide +kernel
theorem dX10_waits_34 : decode cX10_waits 34 = .ok (.iload_n 2, 1) := by decide +kernel
theorem dX10_waits_35 : decode cX10_waits 35 = .ok (.if_icmp .le 8, 3) := by decide +kernel
theorem dX10_waits_38 : decode cX10_waits 38 = .ok (.iload 6, 2) := by decide +kernel
theorem dX10_waits_40 : decode cX10_waits 40 = .ok (.goto 4, 3) := by decide +kernel
theorem dX10_waits_43 : decode cX10_waits 43 = .ok (.iload_n 2, 1) := by decide +kernel
theorem dX10_waits_44 : decode cX10_waits 44 = .ok (.istore_n 2, 1) := by decide +kernel
theorem dX10_waits_45 : decode cX10_waits 45 = .ok (.lload_n 3, 1) := by decide +kernel
theorem dX10_waits_46 : decode cX10_waits 46 = .ok (.iload 6, 2) := by decide +kernel
theorem dX10_waits_48 : decode cX10_waits 48 = .ok (.iconst (-1), 1) := by decide +kernel
theorem dX10_waits_49 : decode cX10_waits 49 = .ok (.if_icmp .ne 7, 3) := by decide +kernel
theorem dX10_waits_52 : decode cX10_waits 52 = .ok (.lconst 0, 1) := by decide +kernel
theorem dX10_waits_53 : decode cX10_waits 53 = .ok (.goto 6, 3) := by decide +kernel
theorem dX10_waits_56 : decode cX10_waits 56 = .ok (.iload 6, 2) := by decide +kernel
theorem dX10_waits_58 : decode cX10_waits 58 = .ok (.i2l, 1) := by decide +kernel
theorem dX10_waits_59 : decode cX10_waits 59 = .ok (.ladd, 1) := by decide +kernel
theorem dX10_waits_60 : decode cX10_waits 60 = .ok (.lstore_n 3, 1) := by decide +kernel
theorem dX10_waits_61 : decode cX10_waits 61 = .ok (.iinc 5 1, 3) := by decide +kernel
theorem dX10_waits_64 : decode cX10_waits 64 = .ok (.goto (-52), 3) := by decide +kernel
theorem dX10_waits_67 : decode cX10_waits 67 = .ok (.iload_n 1, 1) := by decide +kernel
theorem dX10_waits_68 : decode cX10_waits 68 = .ok (.ifCond .eq 8, 3) := by decide +kernel
theorem dX10_waits_71 : decode cX10_waits 71 = .ok (.iload_n 2, 1) := by decide +kernel
theorem dX10_waits_72 : decode cX10_waits 72 = .ok (.i2d, 1) := by decide +kernel
theorem dX10_waits_73 : decode cX10_waits 73 = .ok (.goto 28, 3) := by decide +kernel
theorem dX10_waits_76 : decode cX10_waits 76 = .ok (.aload_n 0, 1) := by decide +kernel
theorem dX10_waits_77 : decode cX10_waits 77 = .ok (.getfield 7, 3) := by decide +kernel
theorem dX10_waits_80 : decode cX10_waits 80 = .ok (.bipush 10, 2) := by decide +kernel
theorem dX10_waits_82 : decode cX10_waits 82 = .ok (.iaload, 1) := by decide +kernel
theorem dX10_waits_83 : decode cX10_waits 83 = .ok (.ifCond .ne 7, 3) := by decide +kernel
theorem dX10_waits_86 : decode cX10_waits 86 = .ok (.dconst 0, 1) := by decide +kernel
theorem dX10_waits_87 : decode cX10_waits 87 = .ok (.goto 14, 3) := by decide +kernel
theorem dX10_waits_90 : decode cX10_waits 90 = .ok (.lload_n 3, 1) := by decide +kernel
theorem dX10_waits_91 : decode cX10_waits 91 = .ok (.l2d, 1) := by decide +kernel
theorem dX10_waits_92 : decode cX10_waits 92 = .ok (.aload_n 0, 1) := by decide +kernel
theorem dX10_waits_93 : decode cX10_waits 93 = .ok (.getfield 7, 3) := by decide +kernel
theorem dX10_waits_96 : decode cX10_waits 96 = .ok (.bipush 10, 2) := by decide +kernel
theorem dX10_waits_98 : decode cX10_waits 98 = .ok (.iaload, 1) := by decide +kernel
theorem dX10_waits_99 : decode cX10_waits 99 = .ok (.i2d, 1) := by decide +kernel
theorem dX10_waits_100 : decode cX10_waits 100 = .ok (.ddiv, 1) := by decide +kernel
theorem dX10_waits_101 : decode cX10_waits 101 = .ok (.dreturn, 1) := by decide +kernel
theorem dX10_use_0 : decode cX10_use 0 = .ok (.aload_n 0, 1) := by decide +kernel
theorem dX10_use_1 : decode cX10_use 1 = .ok (.iconst 0, 1) := by decide +kernel
theorem dX10_use_2 : decode cX10_use 2 = .ok (.putfield 22, 3) := by decide +kernel
theorem dX10_use_5 : decode cX10_use 5 = .ok (.aload_n 0, 1) := by decide +kernel
theorem dX10_use_6 : decode cX10_use 6 = .ok (.getfield 7, 3) := by decide +kernel
theorem dX10_use_9 : decode cX10_use 9 = .ok (.iconst 3, 1) := by decide +kernel
theorem dX10_use_10 : decode cX10_use 10 = .ok (.iaload, 1) := by decide +kernel
theorem dX10_use_11 : decode cX10_use 11 = .ok (.ifCond .ne 7, 3) := by decide +kernel
theorem dX10_use_14 : decode cX10_use 14 = .ok (.dconst 0, 1) := by decide +kernel
theorem dX10_use_15 : decode cX10_use 15 = .ok (.goto 19, 3) := by decide +kernel
theorem dX10_use_18 : decode cX10_use 18 = .ok (.aload_n 0, 1) := by decide +kernel
theorem dX10_use_19 : decode cX10_use 19 = .ok (.getfield 7, 3) := by decide +kernel
theorem dX10_use_22 : decode cX10_use 22 = .ok (.bipush 15, 2) := by decide +kernel
theorem dX10_use_24 : decode cX10_use 24 = .ok (.iaload, 1) := by decide +kernel
theorem dX10_use_25 : decode cX10_use 25 = .ok (.i2d, 1) := by decide +kernel
theorem dX10_use_26 : decode cX10_use 26 = .ok (.aload_n 0, 1) := by decide +kernel
theorem dX10_use_27 : decode cX10_use 27 = .ok (.getfield 7, 3) := by decide +kernel
theorem dX10_use_30 : decode cX10_use 30 = .ok (.iconst 3, 1) := by decide +kernel
theorem dX10_use_31 : decode cX10_use 31 = .ok (.iaload, 1) := by decide +kernel
theorem dX10_use_32 : decode cX10_use 32 = .ok (.i2d, 1) := by decide +kernel
theorem dX10_use_33 : decode cX10_use 33 = .ok (.ddiv, 1) := by decide +kernel
theorem dX10_use_34 : decode cX10_use 34 = .ok (.dreturn, 1) := by decide +kernel
theorem dX10_waitOf_0 : decode cX10_waitOf 0 = .ok (.iload_n 1, 1) := by decide +kernel
theorem dX10_waitOf_1 : decode cX10_waitOf 1 = .ok (.i2l, 1) := by decide +kernel
theorem dX10_waitOf_2 : decode cX10_waitOf 2 = .ok (.lconst 0, 1) := by decide +kernel
theorem dX10_waitOf_3 : decode cX10_waitOf 3 = .ok (.aload_n 0, 1) := by decide +kernel
theorem dX10_waitOf_4 : decode cX10_waitOf 4 = .ok (.getfield 7, 3) := by decide +kernel
theorem dX10_waitOf_7 : decode cX10_waitOf 7 = .ok (.iconst 5, 1) := by decide +kernel
theorem dX10_waitOf_8 : decode cX10_waitOf 8 = .ok (.iaload, 1) := by decide +kernel
theorem dX10_waitOf_9 : decode cX10_waitOf 9 = .ok (.i2l, 1) := by decide +kernel
theorem dX10_waitOf_10 : decode cX10_waitOf 10 = .ok (.lconst 1, 1) := by decide +kernel
theorem dX10_waitOf_11 : decode cX10_waitOf 11 = .ok (.lsub, 1) := by decide +kernel
theorem dX10_waitOf_12 : decode cX10_waitOf 12 = .ok (.invokestatic 35, 3) := by decide +kernel
theorem dX10_waitOf_15 : decode cX10_waitOf 15 = .ok (.istore_n 2, 1) := by decide +kernel
theorem dX10_waitOf_16 : decode cX10_waitOf 16 = .ok (.aload_n 0, 1) := by decide +kernel
theorem dX10_waitOf_17 : decode cX10_waitOf 17 = .ok (.iload_n 2, 1) := by decide +kernel
theorem dX10_waitOf_18 : decode cX10_waitOf 18 = .ok (.iload_n 2, 1) := by decide +kernel
theorem dX10_waitOf_19 : decode cX10_waitOf 19 = .ok (.ifCond .eq 28, 3) := by decide +kernel
theorem dX10_waitOf_22 : decode cX10_waitOf 22 = .ok (.aload_n 0, 1) := by decide +kernel
theorem dX10_waitOf_23 : decode cX10_waitOf 23 = .ok (.iload_n 1, 1) := by decide +kernel
theorem dX10_waitOf_24 : decode cX10_waitOf 24 = .ok (.iconst 4, 1) := by decide +kernel
theorem dX10_waitOf_25 : decode cX10_waitOf 25 = .ok (.invokevirtual 80, 3) := by decide +kernel
theorem dX10_waitOf_28 : decode cX10_waitOf 28 = .ok (.iconst (-1), 1) := by decide +kernel
theorem dX10_waitOf_29 : decode cX10_waitOf 29 = .ok (.if_icmp .ne 18, 3) := by decide +kernel
theorem dX10_waitOf_32 : decode cX10_waitOf 32 = .ok (.aload_n 0, 1) := by decide +kernel
theorem dX10_waitOf_33 : decode cX10_waitOf 33 = .ok (.getfield 7, 3) := by decide +kernel
theorem dX10_waitOf_36 : decode cX10_waitOf 36 = .ok (.iconst 3, 1) := by decide +kernel
theorem dX10_waitOf_37 : decode cX10_waitOf 37 = .ok (.iaload, 1) := by decide +kernel
theorem dX10_waitOf_38 : decode cX10_waitOf 38 = .ok (.ldc 118, 2) := by decide +kernel
theorem dX10_waitOf_40 : decode cX10_waitOf 40 = .ok (.if_icmp .gt 7, 3) := by decide +kernel
theorem dX10_waitOf_43 : decode cX10_waitOf 43 = .ok (.iconst 1, 1) := by decide +kernel
theorem dX10_waitOf_44 : decode cX10_waitOf 44 = .ok (.goto 4, 3) := by decide +kernel
theorem dX10_waitOf_47 : decode cX10_waitOf 47 = .ok (.iconst 0, 1) := by decide +kernel
theorem dX10_waitOf_48 : decode cX10_waitOf 48 = .ok (.iconst 1, 1) := by decide +kernel
theorem dX10_waitOf_49 : decode cX10_waitOf 49 = .ok (.invokevirtual 53, 3) := by decide +kernel
theorem dX10_waitOf_52 : decode cX10_waitOf 52 = .ok (.ifCond .ne 5, 3) := by decide +kernel
theorem dX10_waitOf_55 : decode cX10_waitOf 55 = .ok (.iconst 0, 1) := by decide +kernel
theorem dX10_waitOf_56 : decode cX10_waitOf 56 = .ok (.ireturn, 1) := by decide +kernel
theorem dX10_waitOf_57 : decode cX10_waitOf 57 = .ok (.aload_n 0, 1) := by decide +kernel
theorem dX10_waitOf_58 : decode cX10_waitOf 58 = .ok (.invokevirtual 143, 3) := by decide +kernel
theorem dX10_waitOf_61 : decode cX10_waitOf 61 = .ok (.iconst 0, 1) := by decide +kernel
theorem dX10_waitOf_62 : decode cX10_waitOf 62 = .ok (.istore_n 3, 1) := by decide +kernel
theorem dX10_waitOf_63 : decode cX10_waitOf 63 = .ok (.iload_n 3, 1) := by decide +kernel
theorem dX10_waitOf_64 : decode cX10_waitOf 64 = .ok (.sipush 300, 3) := by decide +kernel
theorem dX10_waitOf_67 : decode cX10_waitOf 67 = .ok (.if_icmp .ge 23, 3) := by decide +kernel
theorem dX10_waitOf_70 : decode cX10_waitOf 70 = .ok (.aload_n 0, 1) := by decide +kernel
theorem dX10_waitOf_71 : decode cX10_waitOf 71 = .ok (.iload_n 1, 1) := by decide +kernel
theorem dX10_waitOf_72 : decode cX10_waitOf 72 = .ok (.iconst 4, 1) := by decide +kernel
theorem dX10_waitOf_73 : decode cX10_waitOf 73 = .ok (.invokevirtual 80, 3) := by decide +kernel
theorem dX10_waitOf_76 : decode cX10_waitOf 76 = .ok (.iconst (-1), 1) := by decide +kernel
theorem dX10_waitOf_77 : decode cX10_waitOf 77 = .ok (.if_icmp .ne 13, 3) := by decide +kernel
theorem dX10_waitOf_80 : decode cX10_waitOf 80 = .ok (.aload_n 0, 1) := by decide +kernel
theorem dX10_waitOf_81 : decode cX10_waitOf 81 = .ok (.invokevirtual 119, 3) := by decide +kernel
theorem dX10_waitOf_84 : decode cX10_waitOf 84 = .ok (.iinc 3 1, 3) := by decide +kernel
theorem dX10_waitOf_87 : decode cX10_waitOf 87 = .ok (.goto (-24), 3) := by decide +kernel
theorem dX10_waitOf_90 : decode cX10_waitOf 90 = .ok (.aload_n 0, 1) := by decide +kernel
theorem dX10_waitOf_91 : decode cX10_waitOf 91 = .ok (.iload_n 1, 1) := by decide +kernel
theorem dX10_waitOf_92 : decode cX10_waitOf 92 = .ok (.iconst 4, 1) := by decide +kernel
theorem dX10_waitOf_93 : decode cX10_waitOf 93 = .ok (.invokevirtual 80, 3) := by decide +kernel
theorem dX10_waitOf_96 : decode cX10_waitOf 96 = .ok (.istore_n 3, 1) := by decide +kernel
theorem dX10_waitOf_97 : decode cX10_waitOf 97 = .ok (.aload_n 0, 1) := by decide +kernel
theorem dX10_waitOf_98 : decode cX10_waitOf 98 = .ok (.invokevirtual 146, 3) := by decide +kernel
theorem dX10_waitOf_101 : decode cX10_waitOf 101 = .ok (.iload_n 3, 1) := by decide +kernel
theorem dX10_waitOf_102 : decode cX10_waitOf 102 = .ok (.ireturn, 1) := by decide +kernel
