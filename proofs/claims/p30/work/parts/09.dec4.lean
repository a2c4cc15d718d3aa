theorem dL_cell_1 : decode cL_cell 1 = .ok (.aload_n 0, 1) := by decide +kernel
theorem dL_cell_2 : decode cL_cell 2 = .ok (.arraylength, 1) := by decide +kernel
theorem dL_cell_3 : decode cL_cell 3 = .ok (.if_icmp .ge 9, 3) := by decide +kernel
theorem dL_cell_6 : decode cL_cell 6 = .ok (.aload_n 0, 1) := by decide +kernel
theorem dL_cell_7 : decode cL_cell 7 = .ok (.iload_n 1, 1) := by decide +kernel
theorem dL_cell_8 : decode cL_cell 8 = .ok (.iaload, 1) := by decide +kernel
theorem dL_cell_9 : decode cL_cell 9 = .ok (.goto 11, 3) := by decide +kernel
theorem dL_cell_12 : decode cL_cell 12 = .ok (.ldc 7, 2) := by decide +kernel
theorem dL_cell_14 : decode cL_cell 14 = .ok (.iload_n 1, 1) := by decide +kernel
theorem dL_cell_15 : decode cL_cell 15 = .ok (.sipush 491, 3) := by decide +kernel
theorem dL_cell_18 : decode cL_cell 18 = .ok (.iadd, 1) := by decide +kernel
theorem dL_cell_19 : decode cL_cell 19 = .ok (.imul, 1) := by decide +kernel
theorem dL_cell_20 : decode cL_cell 20 = .ok (.ireturn, 1) := by decide +kernel
theorem dL_up_0 : decode cL_up 0 = .ok (.iload_n 0, 1) := by decide +kernel
theorem dL_up_1 : decode cL_up 1 = .ok (.ldc 8, 2) := by decide +kernel
theorem dL_up_3 : decode cL_up 3 = .ok (.iand, 1) := by decide +kernel
theorem dL_up_4 : decode cL_up 4 = .ok (.iload_n 1, 1) := by decide +kernel
theorem dL_up_5 : decode cL_up 5 = .ok (.irem, 1) := by decide +kernel
theorem dL_up_6 : decode cL_up 6 = .ok (.ireturn, 1) := by decide +kernel
theorem dL_adds_0 : decode cL_adds 0 = .ok (.aload_n 2, 1) := by decide +kernel
theorem dL_adds_1 : decode cL_adds 1 = .ok (.iconst 0, 1) := by decide +kernel
theorem dL_adds_2 : decode cL_adds 2 = .ok (.invokestatic 9, 3) := by decide +kernel
theorem dL_adds_5 : decode cL_adds 5 = .ok (.iconst 1, 1) := by decide +kernel
theorem dL_adds_6 : decode cL_adds 6 = .ok (.iand, 1) := by decide +kernel
theorem dL_adds_7 : decode cL_adds 7 = .ok (.ifCond .ne 8, 3) := by decide +kernel
theorem dL_adds_10 : decode cL_adds 10 = .ok (.bipush 32, 2) := by decide +kernel
theorem dL_adds_12 : decode cL_adds 12 = .ok (.goto 5, 3) := by decide +kernel
theorem dL_adds_15 : decode cL_adds 15 = .ok (.bipush 10, 2) := by decide +kernel
theorem dL_adds_17 : decode cL_adds 17 = .ok (.istore_n 3, 1) := by decide +kernel
theorem dL_adds_18 : decode cL_adds 18 = .ok (.iconst 0, 1) := by decide +kernel
theorem dL_adds_19 : decode cL_adds 19 = .ok (.istore 4, 2) := by decide +kernel
theorem dL_adds_21 : decode cL_adds 21 = .ok (.iconst 1, 1) := by decide +kernel
theorem dL_adds_22 : decode cL_adds 22 = .ok (.istore 5, 2) := by decide +kernel
theorem dL_adds_24 : decode cL_adds 24 = .ok (.iconst 0, 1) := by decide +kernel
theorem dL_adds_25 : decode cL_adds 25 = .ok (.istore 6, 2) := by decide +kernel
theorem dL_adds_27 : decode cL_adds 27 = .ok (.iload 6, 2) := by decide +kernel
theorem dL_adds_29 : decode cL_adds 29 = .ok (.bipush 8, 2) := by decide +kernel
theorem dL_adds_31 : decode cL_adds 31 = .ok (.if_icmp .ge 69, 3) := by decide +kernel
theorem dL_adds_34 : decode cL_adds 34 = .ok (.aload_n 2, 1) := by decide +kernel
theorem dL_adds_35 : decode cL_adds 35 = .ok (.iconst 1, 1) := by decide +kernel
theorem dL_adds_36 : decode cL_adds 36 = .ok (.iload 6, 2) := by decide +kernel
theorem dL_adds_38 : decode cL_adds 38 = .ok (.iadd, 1) := by decide +kernel
theorem dL_adds_39 : decode cL_adds 39 = .ok (.invokestatic 9, 3) := by decide +kernel
theorem dL_adds_42 : decode cL_adds 42 = .ok (.iload_n 3, 1) := by decide +kernel
theorem dL_adds_43 : decode cL_adds 43 = .ok (.invokestatic 15, 3) := by decide +kernel
theorem dL_adds_46 : decode cL_adds 46 = .ok (.istore 7, 2) := by decide +kernel
theorem dL_adds_48 : decode cL_adds 48 = .ok (.iload 4, 2) := by decide +kernel
theorem dL_adds_50 : decode cL_adds 50 = .ok (.iload 7, 2) := by decide +kernel
theorem dL_adds_52 : decode cL_adds 52 = .ok (.ishr, 1) := by decide +kernel
theorem dL_adds_53 : decode cL_adds 53 = .ok (.iconst 1, 1) := by decide +kernel
theorem dL_adds_54 : decode cL_adds 54 = .ok (.iand, 1) := by decide +kernel
theorem dL_adds_55 : decode cL_adds 55 = .ok (.ifCond .ne 39, 3) := by decide +kernel
theorem dL_adds_58 : decode cL_adds 58 = .ok (.iload 4, 2) := by decide +kernel
theorem dL_adds_60 : decode cL_adds 60 = .ok (.iconst 1, 1) := by decide +kernel
theorem dL_adds_61 : decode cL_adds 61 = .ok (.iload 7, 2) := by decide +kernel
theorem dL_adds_63 : decode cL_adds 63 = .ok (.ishl, 1) := by decide +kernel
theorem dL_adds_64 : decode cL_adds 64 = .ok (.ior, 1) := by decide +kernel
theorem dL_adds_65 : decode cL_adds 65 = .ok (.istore 4, 2) := by decide +kernel
theorem dL_adds_67 : decode cL_adds 67 = .ok (.iload 5, 2) := by decide +kernel
theorem dL_adds_69 : decode cL_adds 69 = .ok (.ifCond .eq 22, 3) := by decide +kernel
theorem dL_adds_72 : decode cL_adds 72 = .ok (.aload_n 0, 1) := by decide +kernel
theorem dL_adds_73 : decode cL_adds 73 = .ok (.iload 7, 2) := by decide +kernel
theorem dL_adds_75 : decode cL_adds 75 = .ok (.invokevirtual 19, 3) := by decide +kernel
theorem dL_adds_78 : decode cL_adds 78 = .ok (.aload_n 1, 1) := by decide +kernel
theorem dL_adds_79 : decode cL_adds 79 = .ok (.iload 7, 2) := by decide +kernel
theorem dL_adds_81 : decode cL_adds 81 = .ok (.invokevirtual 19, 3) := by decide +kernel
theorem dL_adds_84 : decode cL_adds 84 = .ok (.if_icmp .ne 7, 3) := by decide +kernel
theorem dL_adds_87 : decode cL_adds 87 = .ok (.iconst 1, 1) := by decide +kernel
theorem dL_adds_88 : decode cL_adds 88 = .ok (.goto 4, 3) := by decide +kernel
theorem dL_adds_91 : decode cL_adds 91 = .ok (.iconst 0, 1) := by decide +kernel
theorem dL_adds_92 : decode cL_adds 92 = .ok (.istore 5, 2) := by decide +kernel
theorem dL_adds_94 : decode cL_adds 94 = .ok (.iinc 6 1, 3) := by decide +kernel
theorem dL_adds_97 : decode cL_adds 97 = .ok (.goto (-70), 3) := by decide +kernel
theorem dL_adds_100 : decode cL_adds 100 = .ok (.aload_n 2, 1) := by decide +kernel
theorem dL_adds_101 : decode cL_adds 101 = .ok (.bipush 9, 2) := by decide +kernel
theorem dL_adds_103 : decode cL_adds 103 = .ok (.invokestatic 9, 3) := by decide +kernel
theorem dL_adds_106 : decode cL_adds 106 = .ok (.istore 6, 2) := by decide +kernel
theorem dL_adds_108 : decode cL_adds 108 = .ok (.iload 5, 2) := by decide +kernel
theorem dL_adds_110 : decode cL_adds 110 = .ok (.ifCond .eq 93, 3) := by decide +kernel
theorem dL_adds_113 : decode cL_adds 113 = .ok (.aload_n 0, 1) := by decide +kernel
theorem dL_adds_114 : decode cL_adds 114 = .ok (.iconst 1, 1) := by decide +kernel
theorem dL_adds_115 : decode cL_adds 115 = .ok (.iload 6, 2) := by decide +kernel
theorem dL_adds_117 : decode cL_adds 117 = .ok (.sipush 300, 3) := by decide +kernel
theorem dL_adds_120 : decode cL_adds 120 = .ok (.invokestatic 15, 3) := by decide +kernel
theorem dL_adds_123 : decode cL_adds 123 = .ok (.iadd, 1) := by decide +kernel
theorem dL_adds_124 : decode cL_adds 124 = .ok (.iconst 1, 1) := by decide +kernel
theorem dL_adds_125 : decode cL_adds 125 = .ok (.iload 6, 2) := by decide +kernel
theorem dL_adds_127 : decode cL_adds 127 = .ok (.bipush 9, 2) := by decide +kernel
theorem dL_adds_129 : decode cL_adds 129 = .ok (.ishr, 1) := by decide +kernel
theorem dL_adds_130 : decode cL_adds 130 = .ok (.bipush 20, 2) := by decide +kernel
theorem dL_adds_132 : decode cL_adds 132 = .ok (.invokestatic 15, 3) := by decide +kernel
theorem dL_adds_135 : decode cL_adds 135 = .ok (.iadd, 1) := by decide +kernel
theorem dL_adds_136 : decode cL_adds 136 = .ok (.iconst 1, 1) := by decide +kernel
theorem dL_adds_137 : decode cL_adds 137 = .ok (.iload 6, 2) := by decide +kernel
theorem dL_adds_139 : decode cL_adds 139 = .ok (.bipush 14, 2) := by decide +kernel
theorem dL_adds_141 : decode cL_adds 141 = .ok (.ishr, 1) := by decide +kernel
theorem dL_adds_142 : decode cL_adds 142 = .ok (.bipush 6, 2) := by decide +kernel
theorem dL_adds_144 : decode cL_adds 144 = .ok (.invokestatic 15, 3) := by decide +kernel
theorem dL_adds_147 : decode cL_adds 147 = .ok (.iadd, 1) := by decide +kernel
theorem dL_adds_148 : decode cL_adds 148 = .ok (.invokevirtual 25, 3) := by decide +kernel
theorem dL_adds_151 : decode cL_adds 151 = .ok (.bipush 60, 2) := by decide +kernel
theorem dL_adds_153 : decode cL_adds 153 = .ok (.if_icmp .ne 50, 3) := by decide +kernel
theorem dL_adds_156 : decode cL_adds 156 = .ok (.aload_n 1, 1) := by decide +kernel
theorem dL_adds_157 : decode cL_adds 157 = .ok (.iconst 1, 1) := by decide +kernel
theorem dL_adds_158 : decode cL_adds 158 = .ok (.iload 6, 2) := by decide +kernel
theorem dL_adds_160 : decode cL_adds 160 = .ok (.sipush 300, 3) := by decide +kernel
theorem dL_adds_163 : decode cL_adds 163 = .ok (.invokestatic 15, 3) := by decide +kernel
theorem dL_adds_166 : decode cL_adds 166 = .ok (.iadd, 1) := by decide +kernel
theorem dL_adds_167 : decode cL_adds 167 = .ok (.iconst 1, 1) := by decide +kernel
theorem dL_adds_168 : decode cL_adds 168 = .ok (.iload 6, 2) := by decide +kernel
theorem dL_adds_170 : decode cL_adds 170 = .ok (.bipush 9, 2) := by decide +kernel
theorem dL_adds_172 : decode cL_adds 172 = .ok (.ishr, 1) := by decide +kernel
theorem dL_adds_173 : decode cL_adds 173 = .ok (.bipush 20, 2) := by decide +kernel
theorem dL_adds_175 : decode cL_adds 175 = .ok (.invokestatic 15, 3) := by decide +kernel
theorem dL_adds_178 : decode cL_adds 178 = .ok (.iadd, 1) := by decide +kernel
theorem dL_adds_179 : decode cL_adds 179 = .ok (.iconst 1, 1) := by decide +kernel
theorem dL_adds_180 : decode cL_adds 180 = .ok (.iload 6, 2) := by decide +kernel
theorem dL_adds_182 : decode cL_adds 182 = .ok (.bipush 14, 2) := by decide +kernel
theorem dL_adds_184 : decode cL_adds 184 = .ok (.ishr, 1) := by decide +kernel
theorem dL_adds_185 : decode cL_adds 185 = .ok (.bipush 6, 2) := by decide +kernel
theorem dL_adds_187 : decode cL_adds 187 = .ok (.invokestatic 15, 3) := by decide +kernel
theorem dL_adds_190 : decode cL_adds 190 = .ok (.iadd, 1) := by decide +kernel
theorem dL_adds_191 : decode cL_adds 191 = .ok (.invokevirtual 25, 3) := by decide +kernel
theorem dL_adds_194 : decode cL_adds 194 = .ok (.bipush 60, 2) := by decide +kernel
theorem dL_adds_196 : decode cL_adds 196 = .ok (.if_icmp .ne 7, 3) := by decide +kernel
theorem dL_adds_199 : decode cL_adds 199 = .ok (.iconst 1, 1) := by decide +kernel
theorem dL_adds_200 : decode cL_adds 200 = .ok (.goto 4, 3) := by decide +kernel
theorem dL_adds_203 : decode cL_adds 203 = .ok (.iconst 0, 1) := by decide +kernel
theorem dL_adds_204 : decode cL_adds 204 = .ok (.ireturn, 1) := by decide +kernel
theorem dL_isStep_0 : decode cL_isStep 0 = .ok (.aload_n 0, 1) := by decide +kernel
theorem dL_isStep_1 : decode cL_isStep 1 = .ok (.iload_n 2, 1) := by decide +kernel
theorem dL_isStep_2 : decode cL_isStep 2 = .ok (.iconst 4, 1) := by decide +kernel
theorem dL_isStep_3 : decode cL_isStep 3 = .ok (.ishr, 1) := by decide +kernel
theorem dL_isStep_4 : decode cL_isStep 4 = .ok (.aload_n 0, 1) := by decide +kernel
theorem dL_isStep_5 : decode cL_isStep 5 = .ok (.iconst 3, 1) := by decide +kernel
theorem dL_isStep_6 : decode cL_isStep 6 = .ok (.invokevirtual 29, 3) := by decide +kernel
theorem dL_isStep_9 : decode cL_isStep 9 = .ok (.invokestatic 15, 3) := by decide +kernel
theorem dL_isStep_12 : decode cL_isStep 12 = .ok (.invokevirtual 32, 3) := by decide +kernel
theorem dL_isStep_15 : decode cL_isStep 15 = .ok (.istore_n 3, 1) := by decide +kernel
theorem dL_isStep_16 : decode cL_isStep 16 = .ok (.iload_n 2, 1) := by decide +kernel
theorem dL_isStep_17 : decode cL_isStep 17 = .ok (.bipush 7, 2) := by decide +kernel
theorem dL_isStep_19 : decode cL_isStep 19 = .ok (.iand, 1) := by decide +kernel
theorem dL_isStep_20 : decode cL_isStep 20 = .ok (.tableswitch 276 0 5 #[40, 87, 87, 87, 157, 250], 40) := by decide +kernel
theorem dL_isStep_60 : decode cL_isStep 60 = .ok (.aload_n 0, 1) := by decide +kernel
theorem dL_isStep_61 : decode cL_isStep 61 = .ok (.iload_n 3, 1) := by decide +kernel
theorem dL_isStep_62 : decode cL_isStep 62 = .ok (.iload_n 2, 1) := by decide +kernel
theorem dL_isStep_63 : decode cL_isStep 63 = .ok (.bipush 8, 2) := by decide +kernel
theorem dL_isStep_65 : decode cL_isStep 65 = .ok (.ishr, 1) := by decide +kernel
theorem dL_isStep_66 : decode cL_isStep 66 = .ok (.iconst 3, 1) := by decide +kernel
theorem dL_isStep_67 : decode cL_isStep 67 = .ok (.iand, 1) := by decide +kernel
theorem dL_isStep_68 : decode cL_isStep 68 = .ok (.ifCond .le 7, 3) := by decide +kernel
theorem dL_isStep_71 : decode cL_isStep 71 = .ok (.iconst 1, 1) := by decide +kernel
theorem dL_isStep_72 : decode cL_isStep 72 = .ok (.goto 4, 3) := by decide +kernel
theorem dL_isStep_75 : decode cL_isStep 75 = .ok (.iconst 0, 1) := by decide +kernel
theorem dL_isStep_76 : decode cL_isStep 76 = .ok (.invokevirtual 35, 3) := by decide +kernel
theorem dL_isStep_79 : decode cL_isStep 79 = .ok (.aload_n 1, 1) := by decide +kernel
theorem dL_isStep_80 : decode cL_isStep 80 = .ok (.iload_n 3, 1) := by decide +kernel
theorem dL_isStep_81 : decode cL_isStep 81 = .ok (.iload_n 2, 1) := by decide +kernel
theorem dL_isStep_82 : decode cL_isStep 82 = .ok (.bipush 8, 2) := by decide +kernel
theorem dL_isStep_84 : decode cL_isStep 84 = .ok (.ishr, 1) := by decide +kernel
theorem dL_isStep_85 : decode cL_isStep 85 = .ok (.iconst 3, 1) := by decide +kernel
theorem dL_isStep_86 : decode cL_isStep 86 = .ok (.iand, 1) := by decide +kernel
theorem dL_isStep_87 : decode cL_isStep 87 = .ok (.ifCond .le 7, 3) := by decide +kernel
theorem dL_isStep_90 : decode cL_isStep 90 = .ok (.iconst 1, 1) := by decide +kernel
theorem dL_isStep_91 : decode cL_isStep 91 = .ok (.goto 4, 3) := by decide +kernel
theorem dL_isStep_94 : decode cL_isStep 94 = .ok (.iconst 0, 1) := by decide +kernel
theorem dL_isStep_95 : decode cL_isStep 95 = .ok (.invokevirtual 35, 3) := by decide +kernel
theorem dL_isStep_98 : decode cL_isStep 98 = .ok (.if_icmp .ne 7, 3) := by decide +kernel
theorem dL_isStep_101 : decode cL_isStep 101 = .ok (.iconst 1, 1) := by decide +kernel
theorem dL_isStep_102 : decode cL_isStep 102 = .ok (.goto 4, 3) := by decide +kernel
theorem dL_isStep_105 : decode cL_isStep 105 = .ok (.iconst 0, 1) := by decide +kernel
theorem dL_isStep_106 : decode cL_isStep 106 = .ok (.ireturn, 1) := by decide +kernel
theorem dL_isStep_107 : decode cL_isStep 107 = .ok (.aload_n 0, 1) := by decide +kernel
theorem dL_isStep_108 : decode cL_isStep 108 = .ok (.bipush 8, 2) := by decide +kernel
theorem dL_isStep_110 : decode cL_isStep 110 = .ok (.invokevirtual 29, 3) := by decide +kernel
theorem dL_isStep_113 : decode cL_isStep 113 = .ok (.bipush 99, 2) := by decide +kernel
theorem dL_isStep_115 : decode cL_isStep 115 = .ok (.if_icmp .gt 56, 3) := by decide +kernel
theorem dL_isStep_118 : decode cL_isStep 118 = .ok (.aload_n 0, 1) := by decide +kernel
theorem dL_isStep_119 : decode cL_isStep 119 = .ok (.iload_n 3, 1) := by decide +kernel
theorem dL_isStep_120 : decode cL_isStep 120 = .ok (.iconst 1, 1) := by decide +kernel
theorem dL_isStep_121 : decode cL_isStep 121 = .ok (.iload_n 2, 1) := by decide +kernel
theorem dL_isStep_122 : decode cL_isStep 122 = .ok (.bipush 8, 2) := by decide +kernel
theorem dL_isStep_124 : decode cL_isStep 124 = .ok (.ishr, 1) := by decide +kernel
theorem dL_isStep_125 : decode cL_isStep 125 = .ok (.bipush 20, 2) := by decide +kernel
theorem dL_isStep_127 : decode cL_isStep 127 = .ok (.invokestatic 15, 3) := by decide +kernel
theorem dL_isStep_130 : decode cL_isStep 130 = .ok (.iadd, 1) := by decide +kernel
theorem dL_isStep_131 : decode cL_isStep 131 = .ok (.iload_n 2, 1) := by decide +kernel
theorem dL_isStep_132 : decode cL_isStep 132 = .ok (.bipush 13, 2) := by decide +kernel
theorem dL_isStep_134 : decode cL_isStep 134 = .ok (.ishr, 1) := by decide +kernel
theorem dL_isStep_135 : decode cL_isStep 135 = .ok (.bipush 10, 2) := by decide +kernel
theorem dL_isStep_137 : decode cL_isStep 137 = .ok (.invokestatic 15, 3) := by decide +kernel
theorem dL_isStep_140 : decode cL_isStep 140 = .ok (.invokevirtual 39, 3) := by decide +kernel
theorem dL_isStep_143 : decode cL_isStep 143 = .ok (.aload_n 1, 1) := by decide +kernel
theorem dL_isStep_144 : decode cL_isStep 144 = .ok (.iload_n 3, 1) := by decide +kernel
theorem dL_isStep_145 : decode cL_isStep 145 = .ok (.iconst 1, 1) := by decide +kernel
theorem dL_isStep_146 : decode cL_isStep 146 = .ok (.iload_n 2, 1) := by decide +kernel
theorem dL_isStep_147 : decode cL_isStep 147 = .ok (.bipush 8, 2) := by decide +kernel
theorem dL_isStep_149 : decode cL_isStep 149 = .ok (.ishr, 1) := by decide +kernel
theorem dL_isStep_150 : decode cL_isStep 150 = .ok (.bipush 20, 2) := by decide +kernel
theorem dL_isStep_152 : decode cL_isStep 152 = .ok (.invokestatic 15, 3) := by decide +kernel
theorem dL_isStep_155 : decode cL_isStep 155 = .ok (.iadd, 1) := by decide +kernel
theorem dL_isStep_156 : decode cL_isStep 156 = .ok (.iload_n 2, 1) := by decide +kernel
theorem dL_isStep_157 : decode cL_isStep 157 = .ok (.bipush 13, 2) := by decide +kernel
theorem dL_isStep_159 : decode cL_isStep 159 = .ok (.ishr, 1) := by decide +kernel
theorem dL_isStep_160 : decode cL_isStep 160 = .ok (.bipush 10, 2) := by decide +kernel
theorem dL_isStep_162 : decode cL_isStep 162 = .ok (.invokestatic 15, 3) := by decide +kernel
theorem dL_isStep_165 : decode cL_isStep 165 = .ok (.invokevirtual 39, 3) := by decide +kernel
theorem dL_isStep_168 : decode cL_isStep 168 = .ok (.if_icmp .ne 7, 3) := by decide +kernel
theorem dL_isStep_171 : decode cL_isStep 171 = .ok (.iconst 1, 1) := by decide +kernel
theorem dL_isStep_172 : decode cL_isStep 172 = .ok (.goto 4, 3) := by decide +kernel
theorem dL_isStep_175 : decode cL_isStep 175 = .ok (.iconst 0, 1) := by decide +kernel
theorem dL_isStep_176 : decode cL_isStep 176 = .ok (.ireturn, 1) := by decide +kernel
theorem dL_isStep_177 : decode cL_isStep 177 = .ok (.aload_n 0, 1) := by decide +kernel
theorem dL_isStep_178 : decode cL_isStep 178 = .ok (.bipush 6, 2) := by decide +kernel
theorem dL_isStep_180 : decode cL_isStep 180 = .ok (.invokevirtual 29, 3) := by decide +kernel
theorem dL_isStep_183 : decode cL_isStep 183 = .ok (.iload_n 2, 1) := by decide +kernel
theorem dL_isStep_184 : decode cL_isStep 184 = .ok (.bipush 8, 2) := by decide +kernel
theorem dL_isStep_186 : decode cL_isStep 186 = .ok (.ishr, 1) := by decide +kernel
theorem dL_isStep_187 : decode cL_isStep 187 = .ok (.bipush 60, 2) := by decide +kernel
theorem dL_isStep_189 : decode cL_isStep 189 = .ok (.invokestatic 15, 3) := by decide +kernel
theorem dL_isStep_192 : decode cL_isStep 192 = .ok (.iadd, 1) := by decide +kernel
theorem dL_isStep_193 : decode cL_isStep 193 = .ok (.istore 4, 2) := by decide +kernel
theorem dL_isStep_195 : decode cL_isStep 195 = .ok (.iload 4, 2) := by decide +kernel
theorem dL_isStep_197 : decode cL_isStep 197 = .ok (.iload_n 2, 1) := by decide +kernel
theorem dL_isStep_198 : decode cL_isStep 198 = .ok (.bipush 14, 2) := by decide +kernel
theorem dL_isStep_200 : decode cL_isStep 200 = .ok (.ishr, 1) := by decide +kernel
theorem dL_isStep_201 : decode cL_isStep 201 = .ok (.iload_n 2, 1) := by decide +kernel
theorem dL_isStep_202 : decode cL_isStep 202 = .ok (.bipush 25, 2) := by decide +kernel
theorem dL_isStep_204 : decode cL_isStep 204 = .ok (.ishr, 1) := by decide +kernel
theorem dL_isStep_205 : decode cL_isStep 205 = .ok (.iconst 1, 1) := by decide +kernel
theorem dL_isStep_206 : decode cL_isStep 206 = .ok (.iand, 1) := by decide +kernel
theorem dL_isStep_207 : decode cL_isStep 207 = .ok (.ifCond .ne 7, 3) := by decide +kernel
theorem dL_isStep_210 : decode cL_isStep 210 = .ok (.iconst 3, 1) := by decide +kernel
theorem dL_isStep_211 : decode cL_isStep 211 = .ok (.goto 5, 3) := by decide +kernel
theorem dL_isStep_214 : decode cL_isStep 214 = .ok (.bipush 90, 2) := by decide +kernel
theorem dL_isStep_216 : decode cL_isStep 216 = .ok (.invokestatic 15, 3) := by decide +kernel
theorem dL_isStep_219 : decode cL_isStep 219 = .ok (.iadd, 1) := by decide +kernel
theorem dL_isStep_220 : decode cL_isStep 220 = .ok (.istore 5, 2) := by decide +kernel
theorem dL_isStep_222 : decode cL_isStep 222 = .ok (.aload_n 0, 1) := by decide +kernel
theorem dL_isStep_223 : decode cL_isStep 223 = .ok (.iconst 5, 1) := by decide +kernel
theorem dL_isStep_224 : decode cL_isStep 224 = .ok (.invokevirtual 29, 3) := by decide +kernel
theorem dL_isStep_227 : decode cL_isStep 227 = .ok (.bipush 18, 2) := by decide +kernel
theorem dL_isStep_229 : decode cL_isStep 229 = .ok (.if_icmp .gt 35, 3) := by decide +kernel
theorem dL_isStep_232 : decode cL_isStep 232 = .ok (.aload_n 0, 1) := by decide +kernel
theorem dL_isStep_233 : decode cL_isStep 233 = .ok (.iload 4, 2) := by decide +kernel
theorem dL_isStep_235 : decode cL_isStep 235 = .ok (.iload 5, 2) := by decide +kernel
theorem dL_isStep_237 : decode cL_isStep 237 = .ok (.invokevirtual 42, 3) := by decide +kernel
theorem dL_isStep_240 : decode cL_isStep 240 = .ok (.ifCond .le 28, 3) := by decide +kernel
theorem dL_isStep_243 : decode cL_isStep 243 = .ok (.aload_n 0, 1) := by decide +kernel
theorem dL_isStep_244 : decode cL_isStep 244 = .ok (.iload 4, 2) := by decide +kernel
theorem dL_isStep_246 : decode cL_isStep 246 = .ok (.iload 5, 2) := by decide +kernel
theorem dL_isStep_248 : decode cL_isStep 248 = .ok (.invokevirtual 42, 3) := by decide +kernel
theorem dL_isStep_251 : decode cL_isStep 251 = .ok (.iconst 2, 1) := by decide +kernel
theorem dL_isStep_252 : decode cL_isStep 252 = .ok (.aload_n 1, 1) := by decide +kernel
theorem dL_isStep_253 : decode cL_isStep 253 = .ok (.iload 4, 2) := by decide +kernel
theorem dL_isStep_255 : decode cL_isStep 255 = .ok (.iload 5, 2) := by decide +kernel
theorem dL_isStep_257 : decode cL_isStep 257 = .ok (.invokevirtual 42, 3) := by decide +kernel
theorem dL_isStep_260 : decode cL_isStep 260 = .ok (.imul, 1) := by decide +kernel
theorem dL_isStep_261 : decode cL_isStep 261 = .ok (.if_icmp .ne 7, 3) := by decide +kernel
theorem dL_isStep_264 : decode cL_isStep 264 = .ok (.iconst 1, 1) := by decide +kernel
theorem dL_isStep_265 : decode cL_isStep 265 = .ok (.goto 4, 3) := by decide +kernel
theorem dL_isStep_268 : decode cL_isStep 268 = .ok (.iconst 0, 1) := by decide +kernel
theorem dL_isStep_269 : decode cL_isStep 269 = .ok (.ireturn, 1) := by decide +kernel
theorem dL_isStep_270 : decode cL_isStep 270 = .ok (.iload_n 2, 1) := by decide +kernel
theorem dL_isStep_271 : decode cL_isStep 271 = .ok (.bipush 8, 2) := by decide +kernel
theorem dL_isStep_273 : decode cL_isStep 273 = .ok (.ishr, 1) := by decide +kernel
theorem dL_isStep_274 : decode cL_isStep 274 = .ok (.iconst 3, 1) := by decide +kernel
theorem dL_isStep_275 : decode cL_isStep 275 = .ok (.iand, 1) := by decide +kernel
theorem dL_isStep_276 : decode cL_isStep 276 = .ok (.ifCond .gt 14, 3) := by decide +kernel
theorem dL_isStep_279 : decode cL_isStep 279 = .ok (.aload_n 0, 1) := by decide +kernel
theorem dL_isStep_280 : decode cL_isStep 280 = .ok (.invokevirtual 45, 3) := by decide +kernel
theorem dL_isStep_283 : decode cL_isStep 283 = .ok (.aload_n 1, 1) := by decide +kernel
theorem dL_isStep_284 : decode cL_isStep 284 = .ok (.invokevirtual 45, 3) := by decide +kernel
theorem dL_isStep_287 : decode cL_isStep 287 = .ok (.if_icmp .ne 7, 3) := by decide +kernel
theorem dL_isStep_290 : decode cL_isStep 290 = .ok (.iconst 1, 1) := by decide +kernel
theorem dL_isStep_291 : decode cL_isStep 291 = .ok (.goto 4, 3) := by decide +kernel
theorem dL_isStep_294 : decode cL_isStep 294 = .ok (.iconst 0, 1) := by decide +kernel
theorem dL_isStep_295 : decode cL_isStep 295 = .ok (.ireturn, 1) := by decide +kernel
theorem dL_isStep_296 : decode cL_isStep 296 = .ok (.iload_n 2, 1) := by decide +kernel
theorem dL_isStep_297 : decode cL_isStep 297 = .ok (.bipush 8, 2) := by decide +kernel
theorem dL_isStep_299 : decode cL_isStep 299 = .ok (.ishr, 1) := by decide +kernel
theorem dL_isStep_300 : decode cL_isStep 300 = .ok (.bipush 60, 2) := by decide +kernel
theorem dL_isStep_302 : decode cL_isStep 302 = .ok (.invokestatic 15, 3) := by decide +kernel
theorem dL_isStep_305 : decode cL_isStep 305 = .ok (.istore 4, 2) := by decide +kernel
theorem dL_isStep_307 : decode cL_isStep 307 = .ok (.iload 4, 2) := by decide +kernel
theorem dL_isStep_309 : decode cL_isStep 309 = .ok (.ifCond .ne 7, 3) := by decide +kernel
theorem dL_isStep_312 : decode cL_isStep 312 = .ok (.iconst 0, 1) := by decide +kernel
theorem dL_isStep_313 : decode cL_isStep 313 = .ok (.goto 12, 3) := by decide +kernel
theorem dL_isStep_316 : decode cL_isStep 316 = .ok (.iload_n 2, 1) := by decide +kernel
theorem dL_isStep_317 : decode cL_isStep 317 = .ok (.bipush 16, 2) := by decide +kernel
theorem dL_isStep_319 : decode cL_isStep 319 = .ok (.ishr, 1) := by decide +kernel
theorem dL_isStep_320 : decode cL_isStep 320 = .ok (.iload 4, 2) := by decide +kernel
theorem dL_isStep_322 : decode cL_isStep 322 = .ok (.invokestatic 15, 3) := by decide +kernel
theorem dL_isStep_325 : decode cL_isStep 325 = .ok (.istore 5, 2) := by decide +kernel
theorem dL_isStep_327 : decode cL_isStep 327 = .ok (.aload_n 0, 1) := by decide +kernel
theorem dL_isStep_328 : decode cL_isStep 328 = .ok (.iload 4, 2) := by decide +kernel
theorem dL_isStep_330 : decode cL_isStep 330 = .ok (.invokevirtual 49, 3) := by decide +kernel
theorem dL_isStep_333 : decode cL_isStep 333 = .ok (.istore 6, 2) := by decide +kernel
theorem dL_isStep_335 : decode cL_isStep 335 = .ok (.aload_n 1, 1) := by decide +kernel
theorem dL_isStep_336 : decode cL_isStep 336 = .ok (.iload 5, 2) := by decide +kernel
theorem dL_isStep_338 : decode cL_isStep 338 = .ok (.invokevirtual 49, 3) := by decide +kernel
theorem dL_isStep_341 : decode cL_isStep 341 = .ok (.iload 6, 2) := by decide +kernel
theorem dL_isStep_343 : decode cL_isStep 343 = .ok (.if_icmp .gt 21, 3) := by decide +kernel
theorem dL_isStep_346 : decode cL_isStep 346 = .ok (.aload_n 1, 1) := by decide +kernel
theorem dL_isStep_347 : decode cL_isStep 347 = .ok (.iload 4, 2) := by decide +kernel
theorem dL_isStep_349 : decode cL_isStep 349 = .ok (.iload 5, 2) := by decide +kernel
theorem dL_isStep_351 : decode cL_isStep 351 = .ok (.isub, 1) := by decide +kernel
theorem dL_isStep_352 : decode cL_isStep 352 = .ok (.invokevirtual 49, 3) := by decide +kernel
theorem dL_isStep_355 : decode cL_isStep 355 = .ok (.iload 6, 2) := by decide +kernel
theorem dL_isStep_357 : decode cL_isStep 357 = .ok (.if_icmp .ne 7, 3) := by decide +kernel
theorem dL_isStep_360 : decode cL_isStep 360 = .ok (.iconst 1, 1) := by decide +kernel
theorem dL_isStep_361 : decode cL_isStep 361 = .ok (.goto 4, 3) := by decide +kernel
theorem dL_isStep_364 : decode cL_isStep 364 = .ok (.iconst 0, 1) := by decide +kernel
theorem dL_isStep_365 : decode cL_isStep 365 = .ok (.ireturn, 1) := by decide +kernel
theorem dL_areAlike_0 : decode cL_areAlike 0 = .ok (.aload_n 0, 1) := by decide +kernel
theorem dL_areAlike_1 : decode cL_areAlike 1 = .ok (.iconst 4, 1) := by decide +kernel
theorem dL_areAlike_2 : decode cL_areAlike 2 = .ok (.invokevirtual 29, 3) := by decide +kernel
theorem dL_areAlike_5 : decode cL_areAlike 5 = .ok (.aload_n 1, 1) := by decide +kernel
theorem dL_areAlike_6 : decode cL_areAlike 6 = .ok (.iconst 4, 1) := by decide +kernel
theorem dL_areAlike_7 : decode cL_areAlike 7 = .ok (.invokevirtual 29, 3) := by decide +kernel
theorem dL_areAlike_10 : decode cL_areAlike 10 = .ok (.if_icmp .ne 67, 3) := by decide +kernel
theorem dL_areAlike_13 : decode cL_areAlike 13 = .ok (.aload_n 0, 1) := by decide +kernel
theorem dL_areAlike_14 : decode cL_areAlike 14 = .ok (.bipush 6, 2) := by decide +kernel
theorem dL_areAlike_16 : decode cL_areAlike 16 = .ok (.invokevirtual 29, 3) := by decide +kernel
theorem dL_areAlike_19 : decode cL_areAlike 19 = .ok (.aload_n 1, 1) := by decide +kernel
theorem dL_areAlike_20 : decode cL_areAlike 20 = .ok (.bipush 6, 2) := by decide +kernel
theorem dL_areAlike_22 : decode cL_areAlike 22 = .ok (.invokevirtual 29, 3) := by decide +kernel
theorem dL_areAlike_25 : decode cL_areAlike 25 = .ok (.if_icmp .ne 52, 3) := by decide +kernel
theorem dL_areAlike_28 : decode cL_areAlike 28 = .ok (.aload_n 0, 1) := by decide +kernel
theorem dL_areAlike_29 : decode cL_areAlike 29 = .ok (.bipush 7, 2) := by decide +kernel
theorem dL_areAlike_31 : decode cL_areAlike 31 = .ok (.invokevirtual 29, 3) := by decide +kernel
theorem dL_areAlike_34 : decode cL_areAlike 34 = .ok (.aload_n 1, 1) := by decide +kernel
theorem dL_areAlike_35 : decode cL_areAlike 35 = .ok (.bipush 7, 2) := by decide +kernel
theorem dL_areAlike_37 : decode cL_areAlike 37 = .ok (.invokevirtual 29, 3) := by decide +kernel
theorem dL_areAlike_40 : decode cL_areAlike 40 = .ok (.if_icmp .ne 37, 3) := by decide +kernel
theorem dL_areAlike_43 : decode cL_areAlike 43 = .ok (.aload_n 0, 1) := by decide +kernel
theorem dL_areAlike_44 : decode cL_areAlike 44 = .ok (.bipush 8, 2) := by decide +kernel
theorem dL_areAlike_46 : decode cL_areAlike 46 = .ok (.invokevirtual 29, 3) := by decide +kernel
theorem dL_areAlike_49 : decode cL_areAlike 49 = .ok (.aload_n 1, 1) := by decide +kernel
theorem dL_areAlike_50 : decode cL_areAlike 50 = .ok (.bipush 8, 2) := by decide +kernel
theorem dL_areAlike_52 : decode cL_areAlike 52 = .ok (.invokevirtual 29, 3) := by decide +kernel
theorem dL_areAlike_55 : decode cL_areAlike 55 = .ok (.if_icmp .ne 22, 3) := by decide +kernel
theorem dL_areAlike_58 : decode cL_areAlike 58 = .ok (.aload_n 0, 1) := by decide +kernel
theorem dL_areAlike_59 : decode cL_areAlike 59 = .ok (.iconst 5, 1) := by decide +kernel
theorem dL_areAlike_60 : decode cL_areAlike 60 = .ok (.invokevirtual 29, 3) := by decide +kernel
theorem dL_areAlike_63 : decode cL_areAlike 63 = .ok (.iconst 2, 1) := by decide +kernel
theorem dL_areAlike_64 : decode cL_areAlike 64 = .ok (.aload_n 1, 1) := by decide +kernel
theorem dL_areAlike_65 : decode cL_areAlike 65 = .ok (.iconst 5, 1) := by decide +kernel
theorem dL_areAlike_66 : decode cL_areAlike 66 = .ok (.invokevirtual 29, 3) := by decide +kernel
theorem dL_areAlike_69 : decode cL_areAlike 69 = .ok (.imul, 1) := by decide +kernel
theorem dL_areAlike_70 : decode cL_areAlike 70 = .ok (.if_icmp .ne 7, 3) := by decide +kernel
theorem dL_areAlike_73 : decode cL_areAlike 73 = .ok (.iconst 1, 1) := by decide +kernel
theorem dL_areAlike_74 : decode cL_areAlike 74 = .ok (.goto 4, 3) := by decide +kernel
theorem dL_areAlike_77 : decode cL_areAlike 77 = .ok (.iconst 0, 1) := by decide +kernel
theorem dL_areAlike_78 : decode cL_areAlike 78 = .ok (.istore_n 2, 1) := by decide +kernel
theorem dL_areAlike_79 : decode cL_areAlike 79 = .ok (.iconst 0, 1) := by decide +kernel
theorem dL_areAlike_80 : decode cL_areAlike 80 = .ok (.istore_n 3, 1) := by decide +kernel
theorem dL_areAlike_81 : decode cL_areAlike 81 = .ok (.iload_n 3, 1) := by decide +kernel
theorem dL_areAlike_82 : decode cL_areAlike 82 = .ok (.bipush 7, 2) := by decide +kernel
theorem dL_areAlike_84 : decode cL_areAlike 84 = .ok (.if_icmp .ge 32, 3) := by decide +kernel
theorem dL_areAlike_87 : decode cL_areAlike 87 = .ok (.iload_n 2, 1) := by decide +kernel
theorem dL_areAlike_88 : decode cL_areAlike 88 = .ok (.ifCond .eq 20, 3) := by decide +kernel
theorem dL_areAlike_91 : decode cL_areAlike 91 = .ok (.aload_n 0, 1) := by decide +kernel
theorem dL_areAlike_92 : decode cL_areAlike 92 = .ok (.iload_n 3, 1) := by decide +kernel
theorem dL_areAlike_93 : decode cL_areAlike 93 = .ok (.invokevirtual 52, 3) := by decide +kernel
theorem dL_areAlike_96 : decode cL_areAlike 96 = .ok (.aload_n 1, 1) := by decide +kernel
theorem dL_areAlike_97 : decode cL_areAlike 97 = .ok (.iload_n 3, 1) := by decide +kernel
theorem dL_areAlike_98 : decode cL_areAlike 98 = .ok (.invokevirtual 52, 3) := by decide +kernel
theorem dL_areAlike_101 : decode cL_areAlike 101 = .ok (.if_icmp .ne 7, 3) := by decide +kernel
theorem dL_areAlike_104 : decode cL_areAlike 104 = .ok (.iconst 1, 1) := by decide +kernel
theorem dL_areAlike_105 : decode cL_areAlike 105 = .ok (.goto 4, 3) := by decide +kernel
theorem dL_areAlike_108 : decode cL_areAlike 108 = .ok (.iconst 0, 1) := by decide +kernel
theorem dL_areAlike_109 : decode cL_areAlike 109 = .ok (.istore_n 2, 1) := by decide +kernel
theorem dL_areAlike_110 : decode cL_areAlike 110 = .ok (.iinc 3 1, 3) := by decide +kernel
theorem dL_areAlike_113 : decode cL_areAlike 113 = .ok (.goto (-32), 3) := by decide +kernel
theorem dL_areAlike_116 : decode cL_areAlike 116 = .ok (.iconst 0, 1) := by decide +kernel
theorem dL_areAlike_117 : decode cL_areAlike 117 = .ok (.istore_n 3, 1) := by decide +kernel
theorem dL_areAlike_118 : decode cL_areAlike 118 = .ok (.iload_n 3, 1) := by decide +kernel
theorem dL_areAlike_119 : decode cL_areAlike 119 = .ok (.aload_n 0, 1) := by decide +kernel
theorem dL_areAlike_120 : decode cL_areAlike 120 = .ok (.iconst 3, 1) := by decide +kernel
theorem dL_areAlike_121 : decode cL_areAlike 121 = .ok (.invokevirtual 29, 3) := by decide +kernel
theorem dL_areAlike_124 : decode cL_areAlike 124 = .ok (.if_icmp .ge 61, 3) := by decide +kernel
theorem dL_areAlike_127 : decode cL_areAlike 127 = .ok (.aload_n 0, 1) := by decide +kernel
theorem dL_areAlike_128 : decode cL_areAlike 128 = .ok (.iload_n 3, 1) := by decide +kernel
theorem dL_areAlike_129 : decode cL_areAlike 129 = .ok (.invokevirtual 32, 3) := by decide +kernel
theorem dL_areAlike_132 : decode cL_areAlike 132 = .ok (.istore 4, 2) := by decide +kernel
theorem dL_areAlike_134 : decode cL_areAlike 134 = .ok (.iconst 0, 1) := by decide +kernel
theorem dL_areAlike_135 : decode cL_areAlike 135 = .ok (.istore 5, 2) := by decide +kernel
theorem dL_areAlike_137 : decode cL_areAlike 137 = .ok (.iload 5, 2) := by decide +kernel
theorem dL_areAlike_139 : decode cL_areAlike 139 = .ok (.bipush 7, 2) := by decide +kernel
theorem dL_areAlike_141 : decode cL_areAlike 141 = .ok (.if_icmp .ge 38, 3) := by decide +kernel
theorem dL_areAlike_144 : decode cL_areAlike 144 = .ok (.iload_n 2, 1) := by decide +kernel
theorem dL_areAlike_145 : decode cL_areAlike 145 = .ok (.ifCond .eq 26, 3) := by decide +kernel
theorem dL_areAlike_148 : decode cL_areAlike 148 = .ok (.aload_n 0, 1) := by decide +kernel
theorem dL_areAlike_149 : decode cL_areAlike 149 = .ok (.iload 4, 2) := by decide +kernel
theorem dL_areAlike_151 : decode cL_areAlike 151 = .ok (.iload 5, 2) := by decide +kernel
theorem dL_areAlike_153 : decode cL_areAlike 153 = .ok (.invokevirtual 55, 3) := by decide +kernel
theorem dL_areAlike_156 : decode cL_areAlike 156 = .ok (.aload_n 1, 1) := by decide +kernel
theorem dL_areAlike_157 : decode cL_areAlike 157 = .ok (.iload 4, 2) := by decide +kernel
theorem dL_areAlike_159 : decode cL_areAlike 159 = .ok (.iload 5, 2) := by decide +kernel
theorem dL_areAlike_161 : decode cL_areAlike 161 = .ok (.invokevirtual 55, 3) := by decide +kernel
theorem dL_areAlike_164 : decode cL_areAlike 164 = .ok (.if_icmp .ne 7, 3) := by decide +kernel
theorem dL_areAlike_167 : decode cL_areAlike 167 = .ok (.iconst 1, 1) := by decide +kernel
theorem dL_areAlike_168 : decode cL_areAlike 168 = .ok (.goto 4, 3) := by decide +kernel
theorem dL_areAlike_171 : decode cL_areAlike 171 = .ok (.iconst 0, 1) := by decide +kernel
theorem dL_areAlike_172 : decode cL_areAlike 172 = .ok (.istore_n 2, 1) := by decide +kernel
theorem dL_areAlike_173 : decode cL_areAlike 173 = .ok (.iinc 5 1, 3) := by decide +kernel
theorem dL_areAlike_176 : decode cL_areAlike 176 = .ok (.goto (-39), 3) := by decide +kernel
theorem dL_areAlike_179 : decode cL_areAlike 179 = .ok (.iinc 3 1, 3) := by decide +kernel
theorem dL_areAlike_182 : decode cL_areAlike 182 = .ok (.goto (-64), 3) := by decide +kernel
theorem dL_areAlike_185 : decode cL_areAlike 185 = .ok (.iconst 0, 1) := by decide +kernel
theorem dL_areAlike_186 : decode cL_areAlike 186 = .ok (.istore_n 3, 1) := by decide +kernel
theorem dL_areAlike_187 : decode cL_areAlike 187 = .ok (.iload_n 3, 1) := by decide +kernel
theorem dL_areAlike_188 : decode cL_areAlike 188 = .ok (.aload_n 0, 1) := by decide +kernel
theorem dL_areAlike_189 : decode cL_areAlike 189 = .ok (.invokevirtual 58, 3) := by decide +kernel
theorem dL_areAlike_192 : decode cL_areAlike 192 = .ok (.if_icmp .ge 55, 3) := by decide +kernel
theorem dL_areAlike_195 : decode cL_areAlike 195 = .ok (.iload_n 2, 1) := by decide +kernel
theorem dL_areAlike_196 : decode cL_areAlike 196 = .ok (.ifCond .eq 51, 3) := by decide +kernel
theorem dL_areAlike_199 : decode cL_areAlike 199 = .ok (.iconst 0, 1) := by decide +kernel
theorem dL_areAlike_200 : decode cL_areAlike 200 = .ok (.istore 4, 2) := by decide +kernel
theorem dL_areAlike_202 : decode cL_areAlike 202 = .ok (.iload 4, 2) := by decide +kernel
theorem dL_areAlike_204 : decode cL_areAlike 204 = .ok (.iconst 4, 1) := by decide +kernel
theorem dL_areAlike_205 : decode cL_areAlike 205 = .ok (.if_icmp .ge 36, 3) := by decide +kernel
theorem dL_areAlike_208 : decode cL_areAlike 208 = .ok (.iload_n 2, 1) := by decide +kernel
theorem dL_areAlike_209 : decode cL_areAlike 209 = .ok (.ifCond .eq 24, 3) := by decide +kernel
theorem dL_areAlike_212 : decode cL_areAlike 212 = .ok (.aload_n 0, 1) := by decide +kernel
theorem dL_areAlike_213 : decode cL_areAlike 213 = .ok (.iload_n 3, 1) := by decide +kernel
theorem dL_areAlike_214 : decode cL_areAlike 214 = .ok (.iload 4, 2) := by decide +kernel
theorem dL_areAlike_216 : decode cL_areAlike 216 = .ok (.invokevirtual 61, 3) := by decide +kernel
theorem dL_areAlike_219 : decode cL_areAlike 219 = .ok (.aload_n 1, 1) := by decide +kernel
theorem dL_areAlike_220 : decode cL_areAlike 220 = .ok (.iload_n 3, 1) := by decide +kernel
theorem dL_areAlike_221 : decode cL_areAlike 221 = .ok (.iload 4, 2) := by decide +kernel
theorem dL_areAlike_223 : decode cL_areAlike 223 = .ok (.invokevirtual 61, 3) := by decide +kernel
theorem dL_areAlike_226 : decode cL_areAlike 226 = .ok (.if_icmp .ne 7, 3) := by decide +kernel
theorem dL_areAlike_229 : decode cL_areAlike 229 = .ok (.iconst 1, 1) := by decide +kernel
theorem dL_areAlike_230 : decode cL_areAlike 230 = .ok (.goto 4, 3) := by decide +kernel
theorem dL_areAlike_233 : decode cL_areAlike 233 = .ok (.iconst 0, 1) := by decide +kernel
theorem dL_areAlike_234 : decode cL_areAlike 234 = .ok (.istore_n 2, 1) := by decide +kernel
theorem dL_areAlike_235 : decode cL_areAlike 235 = .ok (.iinc 4 1, 3) := by decide +kernel
theorem dL_areAlike_238 : decode cL_areAlike 238 = .ok (.goto (-36), 3) := by decide +kernel
theorem dL_areAlike_241 : decode cL_areAlike 241 = .ok (.iinc 3 1, 3) := by decide +kernel
theorem dL_areAlike_244 : decode cL_areAlike 244 = .ok (.goto (-57), 3) := by decide +kernel
theorem dL_areAlike_247 : decode cL_areAlike 247 = .ok (.iload_n 2, 1) := by decide +kernel
theorem dL_areAlike_248 : decode cL_areAlike 248 = .ok (.ifCond .eq 58, 3) := by decide +kernel
theorem dL_areAlike_251 : decode cL_areAlike 251 = .ok (.aload_n 0, 1) := by decide +kernel
theorem dL_areAlike_252 : decode cL_areAlike 252 = .ok (.invokevirtual 58, 3) := by decide +kernel
theorem dL_areAlike_255 : decode cL_areAlike 255 = .ok (.aload_n 1, 1) := by decide +kernel
theorem dL_areAlike_256 : decode cL_areAlike 256 = .ok (.invokevirtual 58, 3) := by decide +kernel
theorem dL_areAlike_259 : decode cL_areAlike 259 = .ok (.if_icmp .ne 47, 3) := by decide +kernel
theorem dL_areAlike_262 : decode cL_areAlike 262 = .ok (.aload_n 0, 1) := by decide +kernel
theorem dL_areAlike_263 : decode cL_areAlike 263 = .ok (.iconst 1, 1) := by decide +kernel
theorem dL_areAlike_264 : decode cL_areAlike 264 = .ok (.invokevirtual 64, 3) := by decide +kernel
theorem dL_areAlike_267 : decode cL_areAlike 267 = .ok (.aload_n 1, 1) := by decide +kernel
theorem dL_areAlike_268 : decode cL_areAlike 268 = .ok (.iconst 1, 1) := by decide +kernel
theorem dL_areAlike_269 : decode cL_areAlike 269 = .ok (.invokevirtual 64, 3) := by decide +kernel
theorem dL_areAlike_272 : decode cL_areAlike 272 = .ok (.dcmp .l, 1) := by decide +kernel
theorem dL_areAlike_273 : decode cL_areAlike 273 = .ok (.ifCond .ne 33, 3) := by decide +kernel
theorem dL_areAlike_276 : decode cL_areAlike 276 = .ok (.aload_n 0, 1) := by decide +kernel
theorem dL_areAlike_277 : decode cL_areAlike 277 = .ok (.iconst 0, 1) := by decide +kernel
theorem dL_areAlike_278 : decode cL_areAlike 278 = .ok (.invokevirtual 64, 3) := by decide +kernel
theorem dL_areAlike_281 : decode cL_areAlike 281 = .ok (.aload_n 1, 1) := by decide +kernel
theorem dL_areAlike_282 : decode cL_areAlike 282 = .ok (.iconst 0, 1) := by decide +kernel
theorem dL_areAlike_283 : decode cL_areAlike 283 = .ok (.invokevirtual 64, 3) := by decide +kernel
theorem dL_areAlike_286 : decode cL_areAlike 286 = .ok (.dcmp .l, 1) := by decide +kernel
theorem dL_areAlike_287 : decode cL_areAlike 287 = .ok (.ifCond .ne 19, 3) := by decide +kernel
theorem dL_areAlike_290 : decode cL_areAlike 290 = .ok (.aload_n 0, 1) := by decide +kernel
theorem dL_areAlike_291 : decode cL_areAlike 291 = .ok (.invokevirtual 68, 3) := by decide +kernel
theorem dL_areAlike_294 : decode cL_areAlike 294 = .ok (.aload_n 1, 1) := by decide +kernel
theorem dL_areAlike_295 : decode cL_areAlike 295 = .ok (.invokevirtual 68, 3) := by decide +kernel
theorem dL_areAlike_298 : decode cL_areAlike 298 = .ok (.dcmp .l, 1) := by decide +kernel
theorem dL_areAlike_299 : decode cL_areAlike 299 = .ok (.ifCond .ne 7, 3) := by decide +kernel
theorem dL_areAlike_302 : decode cL_areAlike 302 = .ok (.iconst 1, 1) := by decide +kernel
theorem dL_areAlike_303 : decode cL_areAlike 303 = .ok (.goto 4, 3) := by decide +kernel
theorem dL_areAlike_306 : decode cL_areAlike 306 = .ok (.iconst 0, 1) := by decide +kernel
theorem dL_areAlike_307 : decode cL_areAlike 307 = .ok (.ireturn, 1) := by decide +kernel
theorem dL_isSound_0 : decode cL_isSound 0 = .ok (.iconst 0, 1) := by decide +kernel
theorem dL_isSound_1 : decode cL_isSound 1 = .ok (.istore_n 1, 1) := by decide +kernel
theorem dL_isSound_2 : decode cL_isSound 2 = .ok (.iconst 0, 1) := by decide +kernel
theorem dL_isSound_3 : decode cL_isSound 3 = .ok (.istore_n 2, 1) := by decide +kernel
theorem dL_isSound_4 : decode cL_isSound 4 = .ok (.iconst 1, 1) := by decide +kernel
theorem dL_isSound_5 : decode cL_isSound 5 = .ok (.istore_n 3, 1) := by decide +kernel
theorem dL_isSound_6 : decode cL_isSound 6 = .ok (.iconst 0, 1) := by decide +kernel
theorem dL_isSound_7 : decode cL_isSound 7 = .ok (.istore 4, 2) := by decide +kernel
theorem dL_isSound_9 : decode cL_isSound 9 = .ok (.iload 4, 2) := by decide +kernel
theorem dL_isSound_11 : decode cL_isSound 11 = .ok (.aload_n 0, 1) := by decide +kernel
theorem dL_isSound_12 : decode cL_isSound 12 = .ok (.iconst 3, 1) := by decide +kernel
theorem dL_isSound_13 : decode cL_isSound 13 = .ok (.invokevirtual 29, 3) := by decide +kernel
theorem dL_isSound_16 : decode cL_isSound 16 = .ok (.if_icmp .ge 116, 3) := by decide +kernel
theorem dL_isSound_19 : decode cL_isSound 19 = .ok (.aload_n 0, 1) := by decide +kernel
theorem dL_isSound_20 : decode cL_isSound 20 = .ok (.iload 4, 2) := by decide +kernel
theorem dL_isSound_22 : decode cL_isSound 22 = .ok (.invokevirtual 32, 3) := by decide +kernel
theorem dL_isSound_25 : decode cL_isSound 25 = .ok (.istore 5, 2) := by decide +kernel
theorem dL_isSound_27 : decode cL_isSound 27 = .ok (.iload_n 1, 1) := by decide +kernel
theorem dL_isSound_28 : decode cL_isSound 28 = .ok (.aload_n 0, 1) := by decide +kernel
theorem dL_isSound_29 : decode cL_isSound 29 = .ok (.iload 5, 2) := by decide +kernel
theorem dL_isSound_31 : decode cL_isSound 31 = .ok (.iconst 4, 1) := by decide +kernel
theorem dL_isSound_32 : decode cL_isSound 32 = .ok (.invokevirtual 55, 3) := by decide +kernel
theorem dL_isSound_35 : decode cL_isSound 35 = .ok (.iadd, 1) := by decide +kernel
theorem dL_isSound_36 : decode cL_isSound 36 = .ok (.istore_n 1, 1) := by decide +kernel
theorem dL_isSound_37 : decode cL_isSound 37 = .ok (.iload_n 2, 1) := by decide +kernel
theorem dL_isSound_38 : decode cL_isSound 38 = .ok (.aload_n 0, 1) := by decide +kernel
theorem dL_isSound_39 : decode cL_isSound 39 = .ok (.iload 5, 2) := by decide +kernel
theorem dL_isSound_41 : decode cL_isSound 41 = .ok (.iconst 5, 1) := by decide +kernel
theorem dL_isSound_42 : decode cL_isSound 42 = .ok (.invokevirtual 55, 3) := by decide +kernel
theorem dL_isSound_45 : decode cL_isSound 45 = .ok (.iadd, 1) := by decide +kernel
theorem dL_isSound_46 : decode cL_isSound 46 = .ok (.istore_n 2, 1) := by decide +kernel
theorem dL_isSound_47 : decode cL_isSound 47 = .ok (.iload_n 3, 1) := by decide +kernel
theorem dL_isSound_48 : decode cL_isSound 48 = .ok (.ifCond .eq 76, 3) := by decide +kernel
theorem dL_isSound_51 : decode cL_isSound 51 = .ok (.iload 4, 2) := by decide +kernel
theorem dL_isSound_53 : decode cL_isSound 53 = .ok (.ifCond .eq 16, 3) := by decide +kernel
theorem dL_isSound_56 : decode cL_isSound 56 = .ok (.iload 5, 2) := by decide +kernel
theorem dL_isSound_58 : decode cL_isSound 58 = .ok (.aload_n 0, 1) := by decide +kernel
theorem dL_isSound_59 : decode cL_isSound 59 = .ok (.iload 4, 2) := by decide +kernel
theorem dL_isSound_61 : decode cL_isSound 61 = .ok (.iconst 1, 1) := by decide +kernel
theorem dL_isSound_62 : decode cL_isSound 62 = .ok (.isub, 1) := by decide +kernel
theorem dL_isSound_63 : decode cL_isSound 63 = .ok (.invokevirtual 32, 3) := by decide +kernel
theorem dL_isSound_66 : decode cL_isSound 66 = .ok (.if_icmp .le 58, 3) := by decide +kernel
theorem dL_isSound_69 : decode cL_isSound 69 = .ok (.aload_n 0, 1) := by decide +kernel
theorem dL_isSound_70 : decode cL_isSound 70 = .ok (.iload 5, 2) := by decide +kernel
theorem dL_isSound_72 : decode cL_isSound 72 = .ok (.iconst 1, 1) := by decide +kernel
theorem dL_isSound_73 : decode cL_isSound 73 = .ok (.invokevirtual 55, 3) := by decide +kernel
theorem dL_isSound_76 : decode cL_isSound 76 = .ok (.aload_n 0, 1) := by decide +kernel
theorem dL_isSound_77 : decode cL_isSound 77 = .ok (.iload 5, 2) := by decide +kernel
theorem dL_isSound_79 : decode cL_isSound 79 = .ok (.iconst 0, 1) := by decide +kernel
theorem dL_isSound_80 : decode cL_isSound 80 = .ok (.invokevirtual 55, 3) := by decide +kernel
theorem dL_isSound_83 : decode cL_isSound 83 = .ok (.if_icmp .gt 41, 3) := by decide +kernel
theorem dL_isSound_86 : decode cL_isSound 86 = .ok (.aload_n 0, 1) := by decide +kernel
theorem dL_isSound_87 : decode cL_isSound 87 = .ok (.iload 5, 2) := by decide +kernel
theorem dL_isSound_89 : decode cL_isSound 89 = .ok (.iconst 5, 1) := by decide +kernel
theorem dL_isSound_90 : decode cL_isSound 90 = .ok (.invokevirtual 55, 3) := by decide +kernel
theorem dL_isSound_93 : decode cL_isSound 93 = .ok (.ifCond .le 7, 3) := by decide +kernel
theorem dL_isSound_96 : decode cL_isSound 96 = .ok (.iconst 1, 1) := by decide +kernel
theorem dL_isSound_97 : decode cL_isSound 97 = .ok (.goto 4, 3) := by decide +kernel
theorem dL_isSound_100 : decode cL_isSound 100 = .ok (.iconst 0, 1) := by decide +kernel
theorem dL_isSound_101 : decode cL_isSound 101 = .ok (.aload_n 0, 1) := by decide +kernel
theorem dL_isSound_102 : decode cL_isSound 102 = .ok (.iload 5, 2) := by decide +kernel
theorem dL_isSound_104 : decode cL_isSound 104 = .ok (.bipush 6, 2) := by decide +kernel
theorem dL_isSound_106 : decode cL_isSound 106 = .ok (.invokevirtual 55, 3) := by decide +kernel
theorem dL_isSound_109 : decode cL_isSound 109 = .ok (.ifCond .lt 7, 3) := by decide +kernel
theorem dL_isSound_112 : decode cL_isSound 112 = .ok (.iconst 1, 1) := by decide +kernel
theorem dL_isSound_113 : decode cL_isSound 113 = .ok (.goto 4, 3) := by decide +kernel
theorem dL_isSound_116 : decode cL_isSound 116 = .ok (.iconst 0, 1) := by decide +kernel
theorem dL_isSound_117 : decode cL_isSound 117 = .ok (.if_icmp .ne 7, 3) := by decide +kernel
theorem dL_isSound_120 : decode cL_isSound 120 = .ok (.iconst 1, 1) := by decide +kernel
theorem dL_isSound_121 : decode cL_isSound 121 = .ok (.goto 4, 3) := by decide +kernel
theorem dL_isSound_124 : decode cL_isSound 124 = .ok (.iconst 0, 1) := by decide +kernel
theorem dL_isSound_125 : decode cL_isSound 125 = .ok (.istore_n 3, 1) := by decide +kernel
theorem dL_isSound_126 : decode cL_isSound 126 = .ok (.iinc 4 1, 3) := by decide +kernel
theorem dL_isSound_129 : decode cL_isSound 129 = .ok (.goto (-120), 3) := by decide +kernel
theorem dL_isSound_132 : decode cL_isSound 132 = .ok (.aload_n 0, 1) := by decide +kernel
theorem dL_isSound_133 : decode cL_isSound 133 = .ok (.bipush 7, 2) := by decide +kernel
theorem dL_isSound_135 : decode cL_isSound 135 = .ok (.invokevirtual 29, 3) := by decide +kernel
theorem dL_isSound_138 : decode cL_isSound 138 = .ok (.istore 4, 2) := by decide +kernel
theorem dL_isSound_140 : decode cL_isSound 140 = .ok (.iload_n 3, 1) := by decide +kernel
theorem dL_isSound_141 : decode cL_isSound 141 = .ok (.ifCond .eq 66, 3) := by decide +kernel
theorem dL_isSound_144 : decode cL_isSound 144 = .ok (.iload 4, 2) := by decide +kernel
theorem dL_isSound_146 : decode cL_isSound 146 = .ok (.ifCond .lt 14, 3) := by decide +kernel
theorem dL_isSound_149 : decode cL_isSound 149 = .ok (.aload_n 0, 1) := by decide +kernel
theorem dL_isSound_150 : decode cL_isSound 150 = .ok (.iload 4, 2) := by decide +kernel
theorem dL_isSound_152 : decode cL_isSound 152 = .ok (.iconst 1, 1) := by decide +kernel
theorem dL_isSound_153 : decode cL_isSound 153 = .ok (.invokevirtual 55, 3) := by decide +kernel
theorem dL_isSound_156 : decode cL_isSound 156 = .ok (.iconst 1, 1) := by decide +kernel
theorem dL_isSound_157 : decode cL_isSound 157 = .ok (.if_icmp .ne 50, 3) := by decide +kernel
theorem dL_isSound_160 : decode cL_isSound 160 = .ok (.iload_n 1, 1) := by decide +kernel
theorem dL_isSound_161 : decode cL_isSound 161 = .ok (.aload_n 0, 1) := by decide +kernel
theorem dL_isSound_162 : decode cL_isSound 162 = .ok (.iconst 1, 1) := by decide +kernel
theorem dL_isSound_163 : decode cL_isSound 163 = .ok (.invokevirtual 52, 3) := by decide +kernel
theorem dL_isSound_166 : decode cL_isSound 166 = .ok (.iadd, 1) := by decide +kernel
theorem dL_isSound_167 : decode cL_isSound 167 = .ok (.aload_n 0, 1) := by decide +kernel
theorem dL_isSound_168 : decode cL_isSound 168 = .ok (.bipush 8, 2) := by decide +kernel
theorem dL_isSound_170 : decode cL_isSound 170 = .ok (.invokevirtual 29, 3) := by decide +kernel
theorem dL_isSound_173 : decode cL_isSound 173 = .ok (.if_icmp .ne 34, 3) := by decide +kernel
theorem dL_isSound_176 : decode cL_isSound 176 = .ok (.iload_n 2, 1) := by decide +kernel
theorem dL_isSound_177 : decode cL_isSound 177 = .ok (.aload_n 0, 1) := by decide +kernel
theorem dL_isSound_178 : decode cL_isSound 178 = .ok (.iconst 0, 1) := by decide +kernel
theorem dL_isSound_179 : decode cL_isSound 179 = .ok (.invokevirtual 52, 3) := by decide +kernel
theorem dL_isSound_182 : decode cL_isSound 182 = .ok (.if_icmp .ne 25, 3) := by decide +kernel
theorem dL_isSound_185 : decode cL_isSound 185 = .ok (.aload_n 0, 1) := by decide +kernel
theorem dL_isSound_186 : decode cL_isSound 186 = .ok (.invokevirtual 58, 3) := by decide +kernel
theorem dL_isSound_189 : decode cL_isSound 189 = .ok (.bipush 40, 2) := by decide +kernel
theorem dL_isSound_191 : decode cL_isSound 191 = .ok (.if_icmp .gt 16, 3) := by decide +kernel
theorem dL_isSound_194 : decode cL_isSound 194 = .ok (.aload_n 0, 1) := by decide +kernel
theorem dL_isSound_195 : decode cL_isSound 195 = .ok (.invokevirtual 68, 3) := by decide +kernel
theorem dL_isSound_198 : decode cL_isSound 198 = .ok (.dconst 1, 1) := by decide +kernel
theorem dL_isSound_199 : decode cL_isSound 199 = .ok (.dcmp .g, 1) := by decide +kernel
theorem dL_isSound_200 : decode cL_isSound 200 = .ok (.ifCond .gt 7, 3) := by decide +kernel
theorem dL_isSound_203 : decode cL_isSound 203 = .ok (.iconst 1, 1) := by decide +kernel
theorem dL_isSound_204 : decode cL_isSound 204 = .ok (.goto 4, 3) := by decide +kernel
theorem dL_isSound_207 : decode cL_isSound 207 = .ok (.iconst 0, 1) := by decide +kernel
theorem dL_isSound_208 : decode cL_isSound 208 = .ok (.istore_n 3, 1) := by decide +kernel
theorem dL_isSound_209 : decode cL_isSound 209 = .ok (.iconst 0, 1) := by decide +kernel
theorem dL_isSound_210 : decode cL_isSound 210 = .ok (.istore 5, 2) := by decide +kernel
theorem dL_isSound_212 : decode cL_isSound 212 = .ok (.iload 5, 2) := by decide +kernel
theorem dL_isSound_214 : decode cL_isSound 214 = .ok (.aload_n 0, 1) := by decide +kernel
theorem dL_isSound_215 : decode cL_isSound 215 = .ok (.invokevirtual 58, 3) := by decide +kernel
theorem dL_isSound_218 : decode cL_isSound 218 = .ok (.if_icmp .ge 69, 3) := by decide +kernel
theorem dL_isSound_221 : decode cL_isSound 221 = .ok (.iload_n 3, 1) := by decide +kernel
theorem dL_isSound_222 : decode cL_isSound 222 = .ok (.ifCond .eq 57, 3) := by decide +kernel
theorem dL_isSound_225 : decode cL_isSound 225 = .ok (.aload_n 0, 1) := by decide +kernel
theorem dL_isSound_226 : decode cL_isSound 226 = .ok (.iload 5, 2) := by decide +kernel
theorem dL_isSound_228 : decode cL_isSound 228 = .ok (.iconst 2, 1) := by decide +kernel
theorem dL_isSound_229 : decode cL_isSound 229 = .ok (.invokevirtual 61, 3) := by decide +kernel
theorem dL_isSound_232 : decode cL_isSound 232 = .ok (.aload_n 0, 1) := by decide +kernel
theorem dL_isSound_233 : decode cL_isSound 233 = .ok (.invokevirtual 72, 3) := by decide +kernel
theorem dL_isSound_236 : decode cL_isSound 236 = .ok (.if_icmp .gt 43, 3) := by decide +kernel
theorem dL_isSound_239 : decode cL_isSound 239 = .ok (.aload_n 0, 1) := by decide +kernel
theorem dL_isSound_240 : decode cL_isSound 240 = .ok (.iload 5, 2) := by decide +kernel
theorem dL_isSound_242 : decode cL_isSound 242 = .ok (.iconst 3, 1) := by decide +kernel
theorem dL_isSound_243 : decode cL_isSound 243 = .ok (.invokevirtual 61, 3) := by decide +kernel
theorem dL_isSound_246 : decode cL_isSound 246 = .ok (.bipush 100, 2) := by decide +kernel
theorem dL_isSound_248 : decode cL_isSound 248 = .ok (.if_icmp .gt 31, 3) := by decide +kernel
theorem dL_isSound_251 : decode cL_isSound 251 = .ok (.iload 5, 2) := by decide +kernel
theorem dL_isSound_253 : decode cL_isSound 253 = .ok (.ifCond .eq 22, 3) := by decide +kernel
theorem dL_isSound_256 : decode cL_isSound 256 = .ok (.aload_n 0, 1) := by decide +kernel
theorem dL_isSound_257 : decode cL_isSound 257 = .ok (.iload 5, 2) := by decide +kernel
theorem dL_isSound_259 : decode cL_isSound 259 = .ok (.iconst 0, 1) := by decide +kernel
theorem dL_isSound_260 : decode cL_isSound 260 = .ok (.invokevirtual 61, 3) := by decide +kernel
theorem dL_isSound_263 : decode cL_isSound 263 = .ok (.aload_n 0, 1) := by decide +kernel
theorem dL_isSound_264 : decode cL_isSound 264 = .ok (.iload 5, 2) := by decide +kernel
theorem dL_isSound_266 : decode cL_isSound 266 = .ok (.iconst 1, 1) := by decide +kernel
theorem dL_isSound_267 : decode cL_isSound 267 = .ok (.isub, 1) := by decide +kernel
theorem dL_isSound_268 : decode cL_isSound 268 = .ok (.iconst 0, 1) := by decide +kernel
theorem dL_isSound_269 : decode cL_isSound 269 = .ok (.invokevirtual 61, 3) := by decide +kernel
theorem dL_isSound_272 : decode cL_isSound 272 = .ok (.if_icmp .le 7, 3) := by decide +kernel
theorem dL_isSound_275 : decode cL_isSound 275 = .ok (.iconst 1, 1) := by decide +kernel
theorem dL_isSound_276 : decode cL_isSound 276 = .ok (.goto 4, 3) := by decide +kernel
theorem dL_isSound_279 : decode cL_isSound 279 = .ok (.iconst 0, 1) := by decide +kernel
theorem dL_isSound_280 : decode cL_isSound 280 = .ok (.istore_n 3, 1) := by decide +kernel
theorem dL_isSound_281 : decode cL_isSound 281 = .ok (.iinc 5 1, 3) := by decide +kernel
theorem dL_isSound_284 : decode cL_isSound 284 = .ok (.goto (-72), 3) := by decide +kernel
theorem dL_isSound_287 : decode cL_isSound 287 = .ok (.iload_n 3, 1) := by decide +kernel
theorem dL_isSound_288 : decode cL_isSound 288 = .ok (.ifCond .eq 37, 3) := by decide +kernel
theorem dL_isSound_291 : decode cL_isSound 291 = .ok (.aload_n 0, 1) := by decide +kernel
theorem dL_isSound_292 : decode cL_isSound 292 = .ok (.iconst 5, 1) := by decide +kernel
theorem dL_isSound_293 : decode cL_isSound 293 = .ok (.invokevirtual 29, 3) := by decide +kernel
theorem dL_isSound_296 : decode cL_isSound 296 = .ok (.ifCond .gt 11, 3) := by decide +kernel
theorem dL_isSound_299 : decode cL_isSound 299 = .ok (.aload_n 0, 1) := by decide +kernel
theorem dL_isSound_300 : decode cL_isSound 300 = .ok (.iconst 2, 1) := by decide +kernel
theorem dL_isSound_301 : decode cL_isSound 301 = .ok (.invokevirtual 52, 3) := by decide +kernel
theorem dL_isSound_304 : decode cL_isSound 304 = .ok (.ifCond .ne 21, 3) := by decide +kernel
theorem dL_isSound_307 : decode cL_isSound 307 = .ok (.aload_n 0, 1) := by decide +kernel
theorem dL_isSound_308 : decode cL_isSound 308 = .ok (.iconst 0, 1) := by decide +kernel
theorem dL_isSound_309 : decode cL_isSound 309 = .ok (.invokevirtual 64, 3) := by decide +kernel
theorem dL_isSound_312 : decode cL_isSound 312 = .ok (.aload_n 0, 1) := by decide +kernel
theorem dL_isSound_313 : decode cL_isSound 313 = .ok (.iconst 1, 1) := by decide +kernel
theorem dL_isSound_314 : decode cL_isSound 314 = .ok (.invokevirtual 64, 3) := by decide +kernel
theorem dL_isSound_317 : decode cL_isSound 317 = .ok (.dcmp .g, 1) := by decide +kernel
theorem dL_isSound_318 : decode cL_isSound 318 = .ok (.ifCond .gt 7, 3) := by decide +kernel
theorem dL_isSound_321 : decode cL_isSound 321 = .ok (.iconst 1, 1) := by decide +kernel
theorem dL_isSound_322 : decode cL_isSound 322 = .ok (.goto 4, 3) := by decide +kernel
theorem dL_isSound_325 : decode cL_isSound 325 = .ok (.iconst 0, 1) := by decide +kernel
theorem dL_isSound_326 : decode cL_isSound 326 = .ok (.ireturn, 1) := by decide +kernel
theorem dL_law_0 : decode cL_law 0 = .ok (.new 20, 3) := by decide +kernel
theorem dL_law_3 : decode cL_law 3 = .ok (.dup, 1) := by decide +kernel
theorem dL_law_4 : decode cL_law 4 = .ok (.invokespecial 75, 3) := by decide +kernel
theorem dL_law_7 : decode cL_law 7 = .ok (.astore_n 1, 1) := by decide +kernel
theorem dL_law_8 : decode cL_law 8 = .ok (.new 20, 3) := by decide +kernel
theorem dL_law_11 : decode cL_law 11 = .ok (.dup, 1) := by decide +kernel
theorem dL_law_12 : decode cL_law 12 = .ok (.invokespecial 75, 3) := by decide +kernel
theorem dL_law_15 : decode cL_law 15 = .ok (.astore_n 2, 1) := by decide +kernel
theorem dL_law_16 : decode cL_law 16 = .ok (.aload_n 1, 1) := by decide +kernel
theorem dL_law_17 : decode cL_law 17 = .ok (.aload_n 2, 1) := by decide +kernel
theorem dL_law_18 : decode cL_law 18 = .ok (.aload_n 0, 1) := by decide +kernel
theorem dL_law_19 : decode cL_law 19 = .ok (.invokestatic 76, 3) := by decide +kernel
theorem dL_law_22 : decode cL_law 22 = .ok (.istore_n 3, 1) := by decide +kernel
theorem dL_law_23 : decode cL_law 23 = .ok (.iconst 0, 1) := by decide +kernel
theorem dL_law_24 : decode cL_law 24 = .ok (.istore 4, 2) := by decide +kernel
theorem dL_law_26 : decode cL_law 26 = .ok (.iload 4, 2) := by decide +kernel
theorem dL_law_28 : decode cL_law 28 = .ok (.bipush 16, 2) := by decide +kernel
theorem dL_law_30 : decode cL_law 30 = .ok (.if_icmp .ge 51, 3) := by decide +kernel
theorem dL_law_33 : decode cL_law 33 = .ok (.iload_n 3, 1) := by decide +kernel
theorem dL_law_34 : decode cL_law 34 = .ok (.ifCond .eq 47, 3) := by decide +kernel
theorem dL_law_37 : decode cL_law 37 = .ok (.aload_n 1, 1) := by decide +kernel
theorem dL_law_38 : decode cL_law 38 = .ok (.aload_n 2, 1) := by decide +kernel
theorem dL_law_39 : decode cL_law 39 = .ok (.aload_n 0, 1) := by decide +kernel
theorem dL_law_40 : decode cL_law 40 = .ok (.bipush 10, 2) := by decide +kernel
theorem dL_law_42 : decode cL_law 42 = .ok (.iload 4, 2) := by decide +kernel
theorem dL_law_44 : decode cL_law 44 = .ok (.iadd, 1) := by decide +kernel
theorem dL_law_45 : decode cL_law 45 = .ok (.invokestatic 9, 3) := by decide +kernel
theorem dL_law_48 : decode cL_law 48 = .ok (.invokestatic 80, 3) := by decide +kernel
theorem dL_law_51 : decode cL_law 51 = .ok (.ifCond .eq 22, 3) := by decide +kernel
theorem dL_law_54 : decode cL_law 54 = .ok (.aload_n 1, 1) := by decide +kernel
theorem dL_law_55 : decode cL_law 55 = .ok (.aload_n 2, 1) := by decide +kernel
theorem dL_law_56 : decode cL_law 56 = .ok (.invokestatic 84, 3) := by decide +kernel
theorem dL_law_59 : decode cL_law 59 = .ok (.ifCond .eq 14, 3) := by decide +kernel
theorem dL_law_62 : decode cL_law 62 = .ok (.aload_n 1, 1) := by decide +kernel
theorem dL_law_63 : decode cL_law 63 = .ok (.invokestatic 88, 3) := by decide +kernel
theorem dL_law_66 : decode cL_law 66 = .ok (.ifCond .eq 7, 3) := by decide +kernel
theorem dL_law_69 : decode cL_law 69 = .ok (.iconst 1, 1) := by decide +kernel
theorem dL_law_70 : decode cL_law 70 = .ok (.goto 4, 3) := by decide +kernel
theorem dL_law_73 : decode cL_law 73 = .ok (.iconst 0, 1) := by decide +kernel
theorem dL_law_74 : decode cL_law 74 = .ok (.istore_n 3, 1) := by decide +kernel
theorem dL_law_75 : decode cL_law 75 = .ok (.iinc 4 1, 3) := by decide +kernel
theorem dL_law_78 : decode cL_law 78 = .ok (.goto (-52), 3) := by decide +kernel
theorem dL_law_81 : decode cL_law 81 = .ok (.aload_n 0, 1) := by decide +kernel
theorem dL_law_82 : decode cL_law 82 = .ok (.bipush 30, 2) := by decide +kernel
theorem dL_law_84 : decode cL_law 84 = .ok (.invokestatic 9, 3) := by decide +kernel
theorem dL_law_87 : decode cL_law 87 = .ok (.bipush 100, 2) := by decide +kernel
theorem dL_law_89 : decode cL_law 89 = .ok (.invokestatic 15, 3) := by decide +kernel
theorem dL_law_92 : decode cL_law 92 = .ok (.istore 4, 2) := by decide +kernel
theorem dL_law_94 : decode cL_law 94 = .ok (.iload_n 3, 1) := by decide +kernel
theorem dL_law_95 : decode cL_law 95 = .ok (.ifCond .eq 33, 3) := by decide +kernel
theorem dL_law_98 : decode cL_law 98 = .ok (.aload_n 1, 1) := by decide +kernel
theorem dL_law_99 : decode cL_law 99 = .ok (.invokevirtual 92, 3) := by decide +kernel
theorem dL_law_102 : decode cL_law 102 = .ok (.aload_n 2, 1) := by decide +kernel
theorem dL_law_103 : decode cL_law 103 = .ok (.invokevirtual 92, 3) := by decide +kernel
theorem dL_law_106 : decode cL_law 106 = .ok (.if_icmp .ne 22, 3) := by decide +kernel
theorem dL_law_109 : decode cL_law 109 = .ok (.aload_n 1, 1) := by decide +kernel
theorem dL_law_110 : decode cL_law 110 = .ok (.iload 4, 2) := by decide +kernel
theorem dL_law_112 : decode cL_law 112 = .ok (.invokevirtual 95, 3) := by decide +kernel
theorem dL_law_115 : decode cL_law 115 = .ok (.aload_n 2, 1) := by decide +kernel
theorem dL_law_116 : decode cL_law 116 = .ok (.iload 4, 2) := by decide +kernel
theorem dL_law_118 : decode cL_law 118 = .ok (.invokevirtual 95, 3) := by decide +kernel
theorem dL_law_121 : decode cL_law 121 = .ok (.if_icmp .ne 7, 3) := by decide +kernel
theorem dL_law_124 : decode cL_law 124 = .ok (.iconst 1, 1) := by decide +kernel
theorem dL_law_125 : decode cL_law 125 = .ok (.goto 4, 3) := by decide +kernel
theorem dL_law_128 : decode cL_law 128 = .ok (.iconst 0, 1) := by decide +kernel
theorem dL_law_129 : decode cL_law 129 = .ok (.istore_n 3, 1) := by decide +kernel
theorem dL_law_130 : decode cL_law 130 = .ok (.iconst 0, 1) := by decide +kernel
theorem dL_law_131 : decode cL_law 131 = .ok (.istore 5, 2) := by decide +kernel
theorem dL_law_133 : decode cL_law 133 = .ok (.iload 5, 2) := by decide +kernel
theorem dL_law_135 : decode cL_law 135 = .ok (.aload_n 1, 1) := by decide +kernel
theorem dL_law_136 : decode cL_law 136 = .ok (.bipush 8, 2) := by decide +kernel
theorem dL_law_138 : decode cL_law 138 = .ok (.invokevirtual 29, 3) := by decide +kernel
theorem dL_law_141 : decode cL_law 141 = .ok (.if_icmp .ge 70, 3) := by decide +kernel
theorem dL_law_144 : decode cL_law 144 = .ok (.iload_n 3, 1) := by decide +kernel
theorem dL_law_145 : decode cL_law 145 = .ok (.ifCond .eq 66, 3) := by decide +kernel
theorem dL_law_148 : decode cL_law 148 = .ok (.iload 5, 2) := by decide +kernel
theorem dL_law_150 : decode cL_law 150 = .ok (.iconst 5, 1) := by decide +kernel
theorem dL_law_151 : decode cL_law 151 = .ok (.if_icmp .ge 60, 3) := by decide +kernel
theorem dL_law_154 : decode cL_law 154 = .ok (.aload_n 0, 1) := by decide +kernel
theorem dL_law_155 : decode cL_law 155 = .ok (.bipush 31, 2) := by decide +kernel
theorem dL_law_157 : decode cL_law 157 = .ok (.iload 5, 2) := by decide +kernel
theorem dL_law_159 : decode cL_law 159 = .ok (.iadd, 1) := by decide +kernel
theorem dL_law_160 : decode cL_law 160 = .ok (.invokestatic 9, 3) := by decide +kernel
theorem dL_law_163 : decode cL_law 163 = .ok (.aload_n 1, 1) := by decide +kernel
theorem dL_law_164 : decode cL_law 164 = .ok (.bipush 8, 2) := by decide +kernel
theorem dL_law_166 : decode cL_law 166 = .ok (.invokevirtual 29, 3) := by decide +kernel
theorem dL_law_169 : decode cL_law 169 = .ok (.invokestatic 15, 3) := by decide +kernel
theorem dL_law_172 : decode cL_law 172 = .ok (.istore 6, 2) := by decide +kernel
theorem dL_law_174 : decode cL_law 174 = .ok (.aload_n 1, 1) := by decide +kernel
theorem dL_law_175 : decode cL_law 175 = .ok (.iload 6, 2) := by decide +kernel
theorem dL_law_177 : decode cL_law 177 = .ok (.iconst 4, 1) := by decide +kernel
theorem dL_law_178 : decode cL_law 178 = .ok (.invokevirtual 98, 3) := by decide +kernel
theorem dL_law_181 : decode cL_law 181 = .ok (.ifCond .ge 18, 3) := by decide +kernel
theorem dL_law_184 : decode cL_law 184 = .ok (.aload_n 1, 1) := by decide +kernel
theorem dL_law_185 : decode cL_law 185 = .ok (.iload 6, 2) := by decide +kernel
theorem dL_law_187 : decode cL_law 187 = .ok (.invokevirtual 101, 3) := by decide +kernel
theorem dL_law_190 : decode cL_law 190 = .ok (.aload_n 2, 1) := by decide +kernel
theorem dL_law_191 : decode cL_law 191 = .ok (.iload 6, 2) := by decide +kernel
theorem dL_law_193 : decode cL_law 193 = .ok (.invokevirtual 101, 3) := by decide +kernel
theorem dL_law_196 : decode cL_law 196 = .ok (.if_icmp .ne 7, 3) := by decide +kernel
theorem dL_law_199 : decode cL_law 199 = .ok (.iconst 1, 1) := by decide +kernel
theorem dL_law_200 : decode cL_law 200 = .ok (.goto 4, 3) := by decide +kernel
theorem dL_law_203 : decode cL_law 203 = .ok (.iconst 0, 1) := by decide +kernel
theorem dL_law_204 : decode cL_law 204 = .ok (.istore_n 3, 1) := by decide +kernel
theorem dL_law_205 : decode cL_law 205 = .ok (.iinc 5 1, 3) := by decide +kernel
theorem dL_law_208 : decode cL_law 208 = .ok (.goto (-75), 3) := by decide +kernel
theorem dL_law_211 : decode cL_law 211 = .ok (.iload_n 3, 1) := by decide +kernel
theorem dL_law_212 : decode cL_law 212 = .ok (.ifCond .eq 12, 3) := by decide +kernel
theorem dL_law_215 : decode cL_law 215 = .ok (.aload_n 1, 1) := by decide +kernel
theorem dL_law_216 : decode cL_law 216 = .ok (.iload 4, 2) := by decide +kernel
theorem dL_law_218 : decode cL_law 218 = .ok (.invokevirtual 95, 3) := by decide +kernel
theorem dL_law_221 : decode cL_law 221 = .ok (.goto 4, 3) := by decide +kernel
theorem dL_law_224 : decode cL_law 224 = .ok (.iconst 0, 1) := by decide +kernel
theorem dL_law_225 : decode cL_law 225 = .ok (.istore 5, 2) := by decide +kernel
theorem dL_law_227 : decode cL_law 227 = .ok (.iload_n 3, 1) := by decide +kernel
theorem dL_law_228 : decode cL_law 228 = .ok (.ifCond .eq 35, 3) := by decide +kernel
theorem dL_law_231 : decode cL_law 231 = .ok (.iload 5, 2) := by decide +kernel
theorem dL_law_233 : decode cL_law 233 = .ok (.ifCond .lt 26, 3) := by decide +kernel
theorem dL_law_236 : decode cL_law 236 = .ok (.iload 5, 2) := by decide +kernel
theorem dL_law_238 : decode cL_law 238 = .ok (.bipush 20, 2) := by decide +kernel
theorem dL_law_240 : decode cL_law 240 = .ok (.if_icmp .lt 23, 3) := by decide +kernel
theorem dL_law_243 : decode cL_law 243 = .ok (.iload 5, 2) := by decide +kernel
theorem dL_law_245 : decode cL_law 245 = .ok (.sipush 400, 3) := by decide +kernel
theorem dL_law_248 : decode cL_law 248 = .ok (.if_icmp .gt 15, 3) := by decide +kernel
theorem dL_law_251 : decode cL_law 251 = .ok (.iload 5, 2) := by decide +kernel
theorem dL_law_253 : decode cL_law 253 = .ok (.bipush 20, 2) := by decide +kernel
theorem dL_law_255 : decode cL_law 255 = .ok (.irem, 1) := by decide +kernel
theorem dL_law_256 : decode cL_law 256 = .ok (.ifCond .ne 7, 3) := by decide +kernel
theorem dL_law_259 : decode cL_law 259 = .ok (.iconst 1, 1) := by decide +kernel
theorem dL_law_260 : decode cL_law 260 = .ok (.goto 4, 3) := by decide +kernel
theorem dL_law_263 : decode cL_law 263 = .ok (.iconst 0, 1) := by decide +kernel
theorem dL_law_264 : decode cL_law 264 = .ok (.istore_n 3, 1) := by decide +kernel
theorem dL_law_265 : decode cL_law 265 = .ok (.aload_n 1, 1) := by decide +kernel
theorem dL_law_266 : decode cL_law 266 = .ok (.invokevirtual 104, 3) := by decide +kernel
theorem dL_law_269 : decode cL_law 269 = .ok (.lstore 6, 2) := by decide +kernel
theorem dL_law_271 : decode cL_law 271 = .ok (.iload_n 3, 1) := by decide +kernel
theorem dL_law_272 : decode cL_law 272 = .ok (.ifCond .eq 30, 3) := by decide +kernel
theorem dL_law_275 : decode cL_law 275 = .ok (.aload_n 1, 1) := by decide +kernel
theorem dL_law_276 : decode cL_law 276 = .ok (.iload 4, 2) := by decide +kernel
theorem dL_law_278 : decode cL_law 278 = .ok (.invokevirtual 49, 3) := by decide +kernel
theorem dL_law_281 : decode cL_law 281 = .ok (.ifCond .lt 21, 3) := by decide +kernel
theorem dL_law_284 : decode cL_law 284 = .ok (.aload_n 1, 1) := by decide +kernel
theorem dL_law_285 : decode cL_law 285 = .ok (.invokestatic 88, 3) := by decide +kernel
theorem dL_law_288 : decode cL_law 288 = .ok (.ifCond .eq 14, 3) := by decide +kernel
theorem dL_law_291 : decode cL_law 291 = .ok (.aload_n 1, 1) := by decide +kernel
theorem dL_law_292 : decode cL_law 292 = .ok (.invokevirtual 108, 3) := by decide +kernel
theorem dL_law_295 : decode cL_law 295 = .ok (.ifCond .lt 7, 3) := by decide +kernel
theorem dL_law_298 : decode cL_law 298 = .ok (.iconst 1, 1) := by decide +kernel
theorem dL_law_299 : decode cL_law 299 = .ok (.goto 4, 3) := by decide +kernel
theorem dL_law_302 : decode cL_law 302 = .ok (.iconst 0, 1) := by decide +kernel
theorem dL_law_303 : decode cL_law 303 = .ok (.istore_n 3, 1) := by decide +kernel
theorem dL_law_304 : decode cL_law 304 = .ok (.iload_n 3, 1) := by decide +kernel
theorem dL_law_305 : decode cL_law 305 = .ok (.ifCond .eq 29, 3) := by decide +kernel
theorem dL_law_308 : decode cL_law 308 = .ok (.aload_n 1, 1) := by decide +kernel
theorem dL_law_309 : decode cL_law 309 = .ok (.invokevirtual 104, 3) := by decide +kernel
theorem dL_law_312 : decode cL_law 312 = .ok (.lload 6, 2) := by decide +kernel
theorem dL_law_314 : decode cL_law 314 = .ok (.lcmp, 1) := by decide +kernel
theorem dL_law_315 : decode cL_law 315 = .ok (.ifCond .eq 15, 3) := by decide +kernel
theorem dL_law_318 : decode cL_law 318 = .ok (.aload_n 1, 1) := by decide +kernel
theorem dL_law_319 : decode cL_law 319 = .ok (.invokevirtual 104, 3) := by decide +kernel
theorem dL_law_322 : decode cL_law 322 = .ok (.lload 6, 2) := by decide +kernel
theorem dL_law_324 : decode cL_law 324 = .ok (.lconst 1, 1) := by decide +kernel
theorem dL_law_325 : decode cL_law 325 = .ok (.lsub, 1) := by decide +kernel
theorem dL_law_326 : decode cL_law 326 = .ok (.lcmp, 1) := by decide +kernel
theorem dL_law_327 : decode cL_law 327 = .ok (.ifCond .ne 7, 3) := by decide +kernel
theorem dL_law_330 : decode cL_law 330 = .ok (.iconst 1, 1) := by decide +kernel
theorem dL_law_331 : decode cL_law 331 = .ok (.goto 4, 3) := by decide +kernel
theorem dL_law_334 : decode cL_law 334 = .ok (.iconst 0, 1) := by decide +kernel
theorem dL_law_335 : decode cL_law 335 = .ok (.ireturn, 1) := by decide +kernel
