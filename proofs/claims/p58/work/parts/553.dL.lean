/-! the law's code, 2 -/
theorem dL_predicted_122 : decode cL_predicted 122 = .ok (.iload 5, 2) := by decide +kernel
theorem dL_predicted_124 : decode cL_predicted 124 = .ok (.invokestatic 289, 3) := by decide +kernel
theorem dL_predicted_127 : decode cL_predicted 127 = .ok (.aload_n 3, 1) := by decide +kernel
theorem dL_predicted_128 : decode cL_predicted 128 = .ok (.iload 7, 2) := by decide +kernel
theorem dL_predicted_130 : decode cL_predicted 130 = .ok (.aaload, 1) := by decide +kernel
theorem dL_predicted_131 : decode cL_predicted 131 = .ok (.iconst 1, 1) := by decide +kernel
theorem dL_predicted_132 : decode cL_predicted 132 = .ok (.iaload, 1) := by decide +kernel
theorem dL_predicted_133 : decode cL_predicted 133 = .ok (.if_icmp .eq 5, 3) := by decide +kernel
theorem dL_predicted_136 : decode cL_predicted 136 = .ok (.iconst 0, 1) := by decide +kernel
theorem dL_predicted_137 : decode cL_predicted 137 = .ok (.ireturn, 1) := by decide +kernel
theorem dL_predicted_138 : decode cL_predicted 138 = .ok (.iinc 7 1, 3) := by decide +kernel
theorem dL_predicted_141 : decode cL_predicted 141 = .ok (.goto (-61), 3) := by decide +kernel
theorem dL_predicted_144 : decode cL_predicted 144 = .ok (.iinc 5 1, 3) := by decide +kernel
theorem dL_predicted_147 : decode cL_predicted 147 = .ok (.goto (-94), 3) := by decide +kernel
theorem dL_predicted_150 : decode cL_predicted 150 = .ok (.iconst 0, 1) := by decide +kernel
theorem dL_predicted_151 : decode cL_predicted 151 = .ok (.istore 5, 2) := by decide +kernel
theorem dL_predicted_153 : decode cL_predicted 153 = .ok (.iload 5, 2) := by decide +kernel
theorem dL_predicted_155 : decode cL_predicted 155 = .ok (.iload_n 1, 1) := by decide +kernel
theorem dL_predicted_156 : decode cL_predicted 156 = .ok (.if_icmp .ge 49, 3) := by decide +kernel
theorem dL_predicted_159 : decode cL_predicted 159 = .ok (.aload_n 0, 1) := by decide +kernel
theorem dL_predicted_160 : decode cL_predicted 160 = .ok (.iload 5, 2) := by decide +kernel
theorem dL_predicted_162 : decode cL_predicted 162 = .ok (.invokestatic 291, 3) := by decide +kernel
theorem dL_predicted_165 : decode cL_predicted 165 = .ok (.aload_n 2, 1) := by decide +kernel
theorem dL_predicted_166 : decode cL_predicted 166 = .ok (.iload 5, 2) := by decide +kernel
theorem dL_predicted_168 : decode cL_predicted 168 = .ok (.iaload, 1) := by decide +kernel
theorem dL_predicted_169 : decode cL_predicted 169 = .ok (.if_icmp .ne 28, 3) := by decide +kernel
theorem dL_predicted_172 : decode cL_predicted 172 = .ok (.aload_n 0, 1) := by decide +kernel
theorem dL_predicted_173 : decode cL_predicted 173 = .ok (.iload 5, 2) := by decide +kernel
theorem dL_predicted_175 : decode cL_predicted 175 = .ok (.bipush 61, 2) := by decide +kernel
theorem dL_predicted_177 : decode cL_predicted 177 = .ok (.invokestatic 289, 3) := by decide +kernel
theorem dL_predicted_180 : decode cL_predicted 180 = .ok (.bipush (-12), 2) := by decide +kernel
theorem dL_predicted_182 : decode cL_predicted 182 = .ok (.if_icmp .ne 15, 3) := by decide +kernel
theorem dL_predicted_185 : decode cL_predicted 185 = .ok (.aload_n 0, 1) := by decide +kernel
theorem dL_predicted_186 : decode cL_predicted 186 = .ok (.iload 5, 2) := by decide +kernel
theorem dL_predicted_188 : decode cL_predicted 188 = .ok (.iconst (-1), 1) := by decide +kernel
theorem dL_predicted_189 : decode cL_predicted 189 = .ok (.invokestatic 289, 3) := by decide +kernel
theorem dL_predicted_192 : decode cL_predicted 192 = .ok (.bipush (-12), 2) := by decide +kernel
theorem dL_predicted_194 : decode cL_predicted 194 = .ok (.if_icmp .eq 5, 3) := by decide +kernel
theorem dL_predicted_197 : decode cL_predicted 197 = .ok (.iconst 0, 1) := by decide +kernel
theorem dL_predicted_198 : decode cL_predicted 198 = .ok (.ireturn, 1) := by decide +kernel
theorem dL_predicted_199 : decode cL_predicted 199 = .ok (.iinc 5 1, 3) := by decide +kernel
theorem dL_predicted_202 : decode cL_predicted 202 = .ok (.goto (-49), 3) := by decide +kernel
theorem dL_predicted_205 : decode cL_predicted 205 = .ok (.aload_n 0, 1) := by decide +kernel
theorem dL_predicted_206 : decode cL_predicted 206 = .ok (.iload_n 1, 1) := by decide +kernel
theorem dL_predicted_207 : decode cL_predicted 207 = .ok (.invokestatic 291, 3) := by decide +kernel
theorem dL_predicted_210 : decode cL_predicted 210 = .ok (.bipush (-11), 2) := by decide +kernel
theorem dL_predicted_212 : decode cL_predicted 212 = .ok (.if_icmp .ne 26, 3) := by decide +kernel
theorem dL_predicted_215 : decode cL_predicted 215 = .ok (.aload_n 0, 1) := by decide +kernel
theorem dL_predicted_216 : decode cL_predicted 216 = .ok (.iload_n 1, 1) := by decide +kernel
theorem dL_predicted_217 : decode cL_predicted 217 = .ok (.bipush 99, 2) := by decide +kernel
theorem dL_predicted_219 : decode cL_predicted 219 = .ok (.invokestatic 289, 3) := by decide +kernel
theorem dL_predicted_222 : decode cL_predicted 222 = .ok (.bipush (-11), 2) := by decide +kernel
theorem dL_predicted_224 : decode cL_predicted 224 = .ok (.if_icmp .ne 14, 3) := by decide +kernel
theorem dL_predicted_227 : decode cL_predicted 227 = .ok (.aload_n 0, 1) := by decide +kernel
theorem dL_predicted_228 : decode cL_predicted 228 = .ok (.invokevirtual 294, 3) := by decide +kernel
theorem dL_predicted_231 : decode cL_predicted 231 = .ok (.ifCond .eq 7, 3) := by decide +kernel
theorem dL_predicted_234 : decode cL_predicted 234 = .ok (.iconst 1, 1) := by decide +kernel
theorem dL_predicted_235 : decode cL_predicted 235 = .ok (.goto 4, 3) := by decide +kernel
theorem dL_predicted_238 : decode cL_predicted 238 = .ok (.iconst 0, 1) := by decide +kernel
theorem dL_predicted_239 : decode cL_predicted 239 = .ok (.ireturn, 1) := by decide +kernel
theorem dL_ducks_0 : decode cL_ducks 0 = .ok (.aload_n 0, 1) := by decide +kernel
theorem dL_ducks_1 : decode cL_ducks 1 = .ok (.invokevirtual 298, 3) := by decide +kernel
theorem dL_ducks_4 : decode cL_ducks 4 = .ok (.istore_n 1, 1) := by decide +kernel
theorem dL_ducks_5 : decode cL_ducks 5 = .ok (.iconst 0, 1) := by decide +kernel
theorem dL_ducks_6 : decode cL_ducks 6 = .ok (.istore_n 2, 1) := by decide +kernel
theorem dL_ducks_7 : decode cL_ducks 7 = .ok (.iconst 0, 1) := by decide +kernel
theorem dL_ducks_8 : decode cL_ducks 8 = .ok (.istore_n 3, 1) := by decide +kernel
theorem dL_ducks_9 : decode cL_ducks 9 = .ok (.iload_n 3, 1) := by decide +kernel
theorem dL_ducks_10 : decode cL_ducks 10 = .ok (.iload_n 1, 1) := by decide +kernel
theorem dL_ducks_11 : decode cL_ducks 11 = .ok (.if_icmp .ge 88, 3) := by decide +kernel
theorem dL_ducks_14 : decode cL_ducks 14 = .ok (.aload_n 0, 1) := by decide +kernel
theorem dL_ducks_15 : decode cL_ducks 15 = .ok (.aload_n 0, 1) := by decide +kernel
theorem dL_ducks_16 : decode cL_ducks 16 = .ok (.iload_n 3, 1) := by decide +kernel
theorem dL_ducks_17 : decode cL_ducks 17 = .ok (.invokestatic 301, 3) := by decide +kernel
theorem dL_ducks_20 : decode cL_ducks 20 = .ok (.invokestatic 239, 3) := by decide +kernel
theorem dL_ducks_23 : decode cL_ducks 23 = .ok (.istore 4, 2) := by decide +kernel
theorem dL_ducks_25 : decode cL_ducks 25 = .ok (.iload 4, 2) := by decide +kernel
theorem dL_ducks_27 : decode cL_ducks 27 = .ok (.aload_n 0, 1) := by decide +kernel
theorem dL_ducks_28 : decode cL_ducks 28 = .ok (.iload_n 3, 1) := by decide +kernel
theorem dL_ducks_29 : decode cL_ducks 29 = .ok (.invokestatic 304, 3) := by decide +kernel
theorem dL_ducks_32 : decode cL_ducks 32 = .ok (.if_icmp .lt 17, 3) := by decide +kernel
theorem dL_ducks_35 : decode cL_ducks 35 = .ok (.iload 4, 2) := by decide +kernel
theorem dL_ducks_37 : decode cL_ducks 37 = .ok (.aload_n 0, 1) := by decide +kernel
theorem dL_ducks_38 : decode cL_ducks 38 = .ok (.iload_n 3, 1) := by decide +kernel
theorem dL_ducks_39 : decode cL_ducks 39 = .ok (.invokestatic 307, 3) := by decide +kernel
theorem dL_ducks_42 : decode cL_ducks 42 = .ok (.if_icmp .gt 7, 3) := by decide +kernel
theorem dL_ducks_45 : decode cL_ducks 45 = .ok (.iconst 1, 1) := by decide +kernel
theorem dL_ducks_46 : decode cL_ducks 46 = .ok (.goto 4, 3) := by decide +kernel
theorem dL_ducks_49 : decode cL_ducks 49 = .ok (.iconst 0, 1) := by decide +kernel
theorem dL_ducks_50 : decode cL_ducks 50 = .ok (.istore 5, 2) := by decide +kernel
theorem dL_ducks_52 : decode cL_ducks 52 = .ok (.iload_n 2, 1) := by decide +kernel
theorem dL_ducks_53 : decode cL_ducks 53 = .ok (.iload 5, 2) := by decide +kernel
theorem dL_ducks_55 : decode cL_ducks 55 = .ok (.ifCond .eq 7, 3) := by decide +kernel
theorem dL_ducks_58 : decode cL_ducks 58 = .ok (.iconst 1, 1) := by decide +kernel
theorem dL_ducks_59 : decode cL_ducks 59 = .ok (.goto 4, 3) := by decide +kernel
theorem dL_ducks_62 : decode cL_ducks 62 = .ok (.iconst 0, 1) := by decide +kernel
theorem dL_ducks_63 : decode cL_ducks 63 = .ok (.iadd, 1) := by decide +kernel
theorem dL_ducks_64 : decode cL_ducks 64 = .ok (.istore_n 2, 1) := by decide +kernel
theorem dL_ducks_65 : decode cL_ducks 65 = .ok (.aload_n 0, 1) := by decide +kernel
theorem dL_ducks_66 : decode cL_ducks 66 = .ok (.iload_n 3, 1) := by decide +kernel
theorem dL_ducks_67 : decode cL_ducks 67 = .ok (.invokestatic 310, 3) := by decide +kernel
theorem dL_ducks_70 : decode cL_ducks 70 = .ok (.iload 5, 2) := by decide +kernel
theorem dL_ducks_72 : decode cL_ducks 72 = .ok (.ifCond .eq 7, 3) := by decide +kernel
theorem dL_ducks_75 : decode cL_ducks 75 = .ok (.iconst 1, 1) := by decide +kernel
theorem dL_ducks_76 : decode cL_ducks 76 = .ok (.goto 4, 3) := by decide +kernel
theorem dL_ducks_79 : decode cL_ducks 79 = .ok (.iconst 0, 1) := by decide +kernel
theorem dL_ducks_80 : decode cL_ducks 80 = .ok (.if_icmp .ne 11, 3) := by decide +kernel
theorem dL_ducks_83 : decode cL_ducks 83 = .ok (.aload_n 0, 1) := by decide +kernel
theorem dL_ducks_84 : decode cL_ducks 84 = .ok (.iload_n 3, 1) := by decide +kernel
theorem dL_ducks_85 : decode cL_ducks 85 = .ok (.invokestatic 312, 3) := by decide +kernel
theorem dL_ducks_88 : decode cL_ducks 88 = .ok (.ifCond .ge 5, 3) := by decide +kernel
theorem dL_ducks_91 : decode cL_ducks 91 = .ok (.iconst 0, 1) := by decide +kernel
theorem dL_ducks_92 : decode cL_ducks 92 = .ok (.ireturn, 1) := by decide +kernel
theorem dL_ducks_93 : decode cL_ducks 93 = .ok (.iinc 3 1, 3) := by decide +kernel
theorem dL_ducks_96 : decode cL_ducks 96 = .ok (.goto (-87), 3) := by decide +kernel
theorem dL_ducks_99 : decode cL_ducks 99 = .ok (.iconst 1, 1) := by decide +kernel
theorem dL_ducks_100 : decode cL_ducks 100 = .ok (.istore_n 3, 1) := by decide +kernel
theorem dL_ducks_101 : decode cL_ducks 101 = .ok (.iload_n 3, 1) := by decide +kernel
theorem dL_ducks_102 : decode cL_ducks 102 = .ok (.iload_n 1, 1) := by decide +kernel
theorem dL_ducks_103 : decode cL_ducks 103 = .ok (.if_icmp .ge 75, 3) := by decide +kernel
theorem dL_ducks_106 : decode cL_ducks 106 = .ok (.aload_n 0, 1) := by decide +kernel
theorem dL_ducks_107 : decode cL_ducks 107 = .ok (.iload_n 3, 1) := by decide +kernel
theorem dL_ducks_108 : decode cL_ducks 108 = .ok (.iconst 1, 1) := by decide +kernel
theorem dL_ducks_109 : decode cL_ducks 109 = .ok (.isub, 1) := by decide +kernel
theorem dL_ducks_110 : decode cL_ducks 110 = .ok (.invokestatic 314, 3) := by decide +kernel
theorem dL_ducks_113 : decode cL_ducks 113 = .ok (.istore 4, 2) := by decide +kernel
theorem dL_ducks_115 : decode cL_ducks 115 = .ok (.aload_n 0, 1) := by decide +kernel
theorem dL_ducks_116 : decode cL_ducks 116 = .ok (.iload_n 3, 1) := by decide +kernel
theorem dL_ducks_117 : decode cL_ducks 117 = .ok (.invokestatic 314, 3) := by decide +kernel
theorem dL_ducks_120 : decode cL_ducks 120 = .ok (.istore 5, 2) := by decide +kernel
theorem dL_ducks_122 : decode cL_ducks 122 = .ok (.iconst 2, 1) := by decide +kernel
theorem dL_ducks_123 : decode cL_ducks 123 = .ok (.aload_n 0, 1) := by decide +kernel
theorem dL_ducks_124 : decode cL_ducks 124 = .ok (.iload 4, 2) := by decide +kernel
theorem dL_ducks_126 : decode cL_ducks 126 = .ok (.invokestatic 312, 3) := by decide +kernel
theorem dL_ducks_129 : decode cL_ducks 129 = .ok (.aload_n 0, 1) := by decide +kernel
theorem dL_ducks_130 : decode cL_ducks 130 = .ok (.iload 5, 2) := by decide +kernel
theorem dL_ducks_132 : decode cL_ducks 132 = .ok (.invokestatic 312, 3) := by decide +kernel
theorem dL_ducks_135 : decode cL_ducks 135 = .ok (.isub, 1) := by decide +kernel
theorem dL_ducks_136 : decode cL_ducks 136 = .ok (.imul, 1) := by decide +kernel
theorem dL_ducks_137 : decode cL_ducks 137 = .ok (.aload_n 0, 1) := by decide +kernel
theorem dL_ducks_138 : decode cL_ducks 138 = .ok (.iload 4, 2) := by decide +kernel
theorem dL_ducks_140 : decode cL_ducks 140 = .ok (.invokestatic 310, 3) := by decide +kernel
theorem dL_ducks_143 : decode cL_ducks 143 = .ok (.iadd, 1) := by decide +kernel
theorem dL_ducks_144 : decode cL_ducks 144 = .ok (.aload_n 0, 1) := by decide +kernel
theorem dL_ducks_145 : decode cL_ducks 145 = .ok (.iload 5, 2) := by decide +kernel
theorem dL_ducks_147 : decode cL_ducks 147 = .ok (.invokestatic 310, 3) := by decide +kernel
theorem dL_ducks_150 : decode cL_ducks 150 = .ok (.isub, 1) := by decide +kernel
theorem dL_ducks_151 : decode cL_ducks 151 = .ok (.istore 6, 2) := by decide +kernel
theorem dL_ducks_153 : decode cL_ducks 153 = .ok (.iload 6, 2) := by decide +kernel
theorem dL_ducks_155 : decode cL_ducks 155 = .ok (.ifCond .lt 15, 3) := by decide +kernel
theorem dL_ducks_158 : decode cL_ducks 158 = .ok (.iload 6, 2) := by decide +kernel
theorem dL_ducks_160 : decode cL_ducks 160 = .ok (.ifCond .ne 12, 3) := by decide +kernel
theorem dL_ducks_163 : decode cL_ducks 163 = .ok (.iload 4, 2) := by decide +kernel
theorem dL_ducks_165 : decode cL_ducks 165 = .ok (.iload 5, 2) := by decide +kernel
theorem dL_ducks_167 : decode cL_ducks 167 = .ok (.if_icmp .le 5, 3) := by decide +kernel
theorem dL_ducks_170 : decode cL_ducks 170 = .ok (.iconst 0, 1) := by decide +kernel
theorem dL_ducks_171 : decode cL_ducks 171 = .ok (.ireturn, 1) := by decide +kernel
theorem dL_ducks_172 : decode cL_ducks 172 = .ok (.iinc 3 1, 3) := by decide +kernel
theorem dL_ducks_175 : decode cL_ducks 175 = .ok (.goto (-74), 3) := by decide +kernel
theorem dL_ducks_178 : decode cL_ducks 178 = .ok (.iload_n 1, 1) := by decide +kernel
theorem dL_ducks_179 : decode cL_ducks 179 = .ok (.ifCond .eq 16, 3) := by decide +kernel
theorem dL_ducks_182 : decode cL_ducks 182 = .ok (.aload_n 0, 1) := by decide +kernel
theorem dL_ducks_183 : decode cL_ducks 183 = .ok (.invokevirtual 317, 3) := by decide +kernel
theorem dL_ducks_186 : decode cL_ducks 186 = .ok (.iload_n 2, 1) := by decide +kernel
theorem dL_ducks_187 : decode cL_ducks 187 = .ok (.i2f, 1) := by decide +kernel
theorem dL_ducks_188 : decode cL_ducks 188 = .ok (.iload_n 1, 1) := by decide +kernel
theorem dL_ducks_189 : decode cL_ducks 189 = .ok (.i2f, 1) := by decide +kernel
theorem dL_ducks_190 : decode cL_ducks 190 = .ok (.fdiv, 1) := by decide +kernel
theorem dL_ducks_191 : decode cL_ducks 191 = .ok (.fcmp .l, 1) := by decide +kernel
theorem dL_ducks_192 : decode cL_ducks 192 = .ok (.ifCond .ne 67, 3) := by decide +kernel
theorem dL_ducks_195 : decode cL_ducks 195 = .ok (.aload_n 0, 1) := by decide +kernel
theorem dL_ducks_196 : decode cL_ducks 196 = .ok (.iload_n 1, 1) := by decide +kernel
theorem dL_ducks_197 : decode cL_ducks 197 = .ok (.invokestatic 314, 3) := by decide +kernel
theorem dL_ducks_200 : decode cL_ducks 200 = .ok (.bipush (-13), 2) := by decide +kernel
theorem dL_ducks_202 : decode cL_ducks 202 = .ok (.if_icmp .ne 57, 3) := by decide +kernel
theorem dL_ducks_205 : decode cL_ducks 205 = .ok (.aload_n 0, 1) := by decide +kernel
theorem dL_ducks_206 : decode cL_ducks 206 = .ok (.iload_n 1, 1) := by decide +kernel
theorem dL_ducks_207 : decode cL_ducks 207 = .ok (.invokestatic 301, 3) := by decide +kernel
theorem dL_ducks_210 : decode cL_ducks 210 = .ok (.bipush (-11), 2) := by decide +kernel
theorem dL_ducks_212 : decode cL_ducks 212 = .ok (.if_icmp .ne 47, 3) := by decide +kernel
theorem dL_ducks_215 : decode cL_ducks 215 = .ok (.aload_n 0, 1) := by decide +kernel
theorem dL_ducks_216 : decode cL_ducks 216 = .ok (.iload_n 1, 1) := by decide +kernel
theorem dL_ducks_217 : decode cL_ducks 217 = .ok (.invokestatic 304, 3) := by decide +kernel
theorem dL_ducks_220 : decode cL_ducks 220 = .ok (.bipush (-11), 2) := by decide +kernel
theorem dL_ducks_222 : decode cL_ducks 222 = .ok (.if_icmp .ne 37, 3) := by decide +kernel
theorem dL_ducks_225 : decode cL_ducks 225 = .ok (.aload_n 0, 1) := by decide +kernel
theorem dL_ducks_226 : decode cL_ducks 226 = .ok (.iconst (-1), 1) := by decide +kernel
theorem dL_ducks_227 : decode cL_ducks 227 = .ok (.invokestatic 307, 3) := by decide +kernel
theorem dL_ducks_230 : decode cL_ducks 230 = .ok (.bipush (-11), 2) := by decide +kernel
theorem dL_ducks_232 : decode cL_ducks 232 = .ok (.if_icmp .ne 27, 3) := by decide +kernel
theorem dL_ducks_235 : decode cL_ducks 235 = .ok (.aload_n 0, 1) := by decide +kernel
theorem dL_ducks_236 : decode cL_ducks 236 = .ok (.iload_n 1, 1) := by decide +kernel
theorem dL_ducks_237 : decode cL_ducks 237 = .ok (.invokestatic 310, 3) := by decide +kernel
theorem dL_ducks_240 : decode cL_ducks 240 = .ok (.bipush (-11), 2) := by decide +kernel
theorem dL_ducks_242 : decode cL_ducks 242 = .ok (.if_icmp .ne 17, 3) := by decide +kernel
theorem dL_ducks_245 : decode cL_ducks 245 = .ok (.aload_n 0, 1) := by decide +kernel
theorem dL_ducks_246 : decode cL_ducks 246 = .ok (.iload_n 1, 1) := by decide +kernel
theorem dL_ducks_247 : decode cL_ducks 247 = .ok (.invokestatic 312, 3) := by decide +kernel
theorem dL_ducks_250 : decode cL_ducks 250 = .ok (.bipush (-11), 2) := by decide +kernel
theorem dL_ducks_252 : decode cL_ducks 252 = .ok (.if_icmp .ne 7, 3) := by decide +kernel
theorem dL_ducks_255 : decode cL_ducks 255 = .ok (.iconst 1, 1) := by decide +kernel
theorem dL_ducks_256 : decode cL_ducks 256 = .ok (.goto 4, 3) := by decide +kernel
theorem dL_ducks_259 : decode cL_ducks 259 = .ok (.iconst 0, 1) := by decide +kernel
theorem dL_ducks_260 : decode cL_ducks 260 = .ok (.ireturn, 1) := by decide +kernel
theorem dL_spells_0 : decode cL_spells 0 = .ok (.iload_n 1, 1) := by decide +kernel
theorem dL_spells_1 : decode cL_spells 1 = .ok (.aload_n 2, 1) := by decide +kernel
theorem dL_spells_2 : decode cL_spells 2 = .ok (.invokevirtual 143, 3) := by decide +kernel
theorem dL_spells_5 : decode cL_spells 5 = .ok (.if_icmp .ne 7, 3) := by decide +kernel
theorem dL_spells_8 : decode cL_spells 8 = .ok (.iconst 1, 1) := by decide +kernel
theorem dL_spells_9 : decode cL_spells 9 = .ok (.goto 4, 3) := by decide +kernel
theorem dL_spells_12 : decode cL_spells 12 = .ok (.iconst 0, 1) := by decide +kernel
theorem dL_spells_13 : decode cL_spells 13 = .ok (.istore_n 3, 1) := by decide +kernel
theorem dL_spells_14 : decode cL_spells 14 = .ok (.iconst 0, 1) := by decide +kernel
theorem dL_spells_15 : decode cL_spells 15 = .ok (.istore 4, 2) := by decide +kernel
theorem dL_spells_17 : decode cL_spells 17 = .ok (.iload 4, 2) := by decide +kernel
theorem dL_spells_19 : decode cL_spells 19 = .ok (.aload_n 2, 1) := by decide +kernel
theorem dL_spells_20 : decode cL_spells 20 = .ok (.invokevirtual 143, 3) := by decide +kernel
theorem dL_spells_23 : decode cL_spells 23 = .ok (.if_icmp .ge 34, 3) := by decide +kernel
theorem dL_spells_26 : decode cL_spells 26 = .ok (.iload_n 3, 1) := by decide +kernel
theorem dL_spells_27 : decode cL_spells 27 = .ok (.ifCond .eq 30, 3) := by decide +kernel
theorem dL_spells_30 : decode cL_spells 30 = .ok (.aload_n 0, 1) := by decide +kernel
theorem dL_spells_31 : decode cL_spells 31 = .ok (.iload 4, 2) := by decide +kernel
theorem dL_spells_33 : decode cL_spells 33 = .ok (.invokestatic 321, 3) := by decide +kernel
theorem dL_spells_36 : decode cL_spells 36 = .ok (.aload_n 2, 1) := by decide +kernel
theorem dL_spells_37 : decode cL_spells 37 = .ok (.iload 4, 2) := by decide +kernel
theorem dL_spells_39 : decode cL_spells 39 = .ok (.invokevirtual 148, 3) := by decide +kernel
theorem dL_spells_42 : decode cL_spells 42 = .ok (.if_icmp .ne 7, 3) := by decide +kernel
theorem dL_spells_45 : decode cL_spells 45 = .ok (.iconst 1, 1) := by decide +kernel
theorem dL_spells_46 : decode cL_spells 46 = .ok (.goto 4, 3) := by decide +kernel
theorem dL_spells_49 : decode cL_spells 49 = .ok (.iconst 0, 1) := by decide +kernel
theorem dL_spells_50 : decode cL_spells 50 = .ok (.istore_n 3, 1) := by decide +kernel
theorem dL_spells_51 : decode cL_spells 51 = .ok (.iinc 4 1, 3) := by decide +kernel
theorem dL_spells_54 : decode cL_spells 54 = .ok (.goto (-37), 3) := by decide +kernel
theorem dL_spells_57 : decode cL_spells 57 = .ok (.iload_n 3, 1) := by decide +kernel
theorem dL_spells_58 : decode cL_spells 58 = .ok (.ifCond .eq 17, 3) := by decide +kernel
theorem dL_spells_61 : decode cL_spells 61 = .ok (.aload_n 0, 1) := by decide +kernel
theorem dL_spells_62 : decode cL_spells 62 = .ok (.iload_n 1, 1) := by decide +kernel
theorem dL_spells_63 : decode cL_spells 63 = .ok (.invokestatic 321, 3) := by decide +kernel
theorem dL_spells_66 : decode cL_spells 66 = .ok (.bipush (-11), 2) := by decide +kernel
theorem dL_spells_68 : decode cL_spells 68 = .ok (.if_icmp .ne 7, 3) := by decide +kernel
theorem dL_spells_71 : decode cL_spells 71 = .ok (.iconst 1, 1) := by decide +kernel
theorem dL_spells_72 : decode cL_spells 72 = .ok (.goto 4, 3) := by decide +kernel
theorem dL_spells_75 : decode cL_spells 75 = .ok (.iconst 0, 1) := by decide +kernel
theorem dL_spells_76 : decode cL_spells 76 = .ok (.ireturn, 1) := by decide +kernel
theorem dL_texts_0 : decode cL_texts 0 = .ok (.iconst 0, 1) := by decide +kernel
theorem dL_texts_1 : decode cL_texts 1 = .ok (.istore_n 1, 1) := by decide +kernel
theorem dL_texts_2 : decode cL_texts 2 = .ok (.iload_n 1, 1) := by decide +kernel
theorem dL_texts_3 : decode cL_texts 3 = .ok (.aload_n 0, 1) := by decide +kernel
theorem dL_texts_4 : decode cL_texts 4 = .ok (.invokevirtual 182, 3) := by decide +kernel
theorem dL_texts_7 : decode cL_texts 7 = .ok (.if_icmp .ge 140, 3) := by decide +kernel
theorem dL_texts_10 : decode cL_texts 10 = .ok (.new 323, 3) := by decide +kernel
theorem dL_texts_13 : decode cL_texts 13 = .ok (.dup, 1) := by decide +kernel
theorem dL_texts_14 : decode cL_texts 14 = .ok (.invokespecial 325, 3) := by decide +kernel
theorem dL_texts_17 : decode cL_texts 17 = .ok (.iload_n 1, 1) := by decide +kernel
theorem dL_texts_18 : decode cL_texts 18 = .ok (.invokevirtual 326, 3) := by decide +kernel
theorem dL_texts_21 : decode cL_texts 21 = .ok (.ldc_w 330, 3) := by decide +kernel
theorem dL_texts_24 : decode cL_texts 24 = .ok (.invokevirtual 332, 3) := by decide +kernel
theorem dL_texts_27 : decode cL_texts 27 = .ok (.aload_n 0, 1) := by decide +kernel
theorem dL_texts_28 : decode cL_texts 28 = .ok (.iload_n 1, 1) := by decide +kernel
theorem dL_texts_29 : decode cL_texts 29 = .ok (.invokevirtual 48, 3) := by decide +kernel
theorem dL_texts_32 : decode cL_texts 32 = .ok (.invokevirtual 326, 3) := by decide +kernel
theorem dL_texts_35 : decode cL_texts 35 = .ok (.ldc_w 335, 3) := by decide +kernel
theorem dL_texts_38 : decode cL_texts 38 = .ok (.invokevirtual 332, 3) := by decide +kernel
theorem dL_texts_41 : decode cL_texts 41 = .ok (.aload_n 0, 1) := by decide +kernel
theorem dL_texts_42 : decode cL_texts 42 = .ok (.iload_n 1, 1) := by decide +kernel
theorem dL_texts_43 : decode cL_texts 43 = .ok (.invokevirtual 48, 3) := by decide +kernel
theorem dL_texts_46 : decode cL_texts 46 = .ok (.ifCond .le 30, 3) := by decide +kernel
theorem dL_texts_49 : decode cL_texts 49 = .ok (.new 323, 3) := by decide +kernel
theorem dL_texts_52 : decode cL_texts 52 = .ok (.dup, 1) := by decide +kernel
theorem dL_texts_53 : decode cL_texts 53 = .ok (.invokespecial 325, 3) := by decide +kernel
theorem dL_texts_56 : decode cL_texts 56 = .ok (.aload_n 0, 1) := by decide +kernel
theorem dL_texts_57 : decode cL_texts 57 = .ok (.iload_n 1, 1) := by decide +kernel
theorem dL_texts_58 : decode cL_texts 58 = .ok (.invokevirtual 54, 3) := by decide +kernel
theorem dL_texts_61 : decode cL_texts 61 = .ok (.invokevirtual 326, 3) := by decide +kernel
theorem dL_texts_64 : decode cL_texts 64 = .ok (.ldc_w 337, 3) := by decide +kernel
theorem dL_texts_67 : decode cL_texts 67 = .ok (.invokevirtual 332, 3) := by decide +kernel
theorem dL_texts_70 : decode cL_texts 70 = .ok (.invokevirtual 339, 3) := by decide +kernel
theorem dL_texts_73 : decode cL_texts 73 = .ok (.goto 6, 3) := by decide +kernel
theorem dL_texts_76 : decode cL_texts 76 = .ok (.ldc_w 343, 3) := by decide +kernel
theorem dL_texts_79 : decode cL_texts 79 = .ok (.invokevirtual 332, 3) := by decide +kernel
theorem dL_texts_82 : decode cL_texts 82 = .ok (.aload_n 0, 1) := by decide +kernel
theorem dL_texts_83 : decode cL_texts 83 = .ok (.iload_n 1, 1) := by decide +kernel
theorem dL_texts_84 : decode cL_texts 84 = .ok (.invokevirtual 61, 3) := by decide +kernel
theorem dL_texts_87 : decode cL_texts 87 = .ok (.ifCond .eq 9, 3) := by decide +kernel
theorem dL_texts_90 : decode cL_texts 90 = .ok (.ldc_w 345, 3) := by decide +kernel
theorem dL_texts_93 : decode cL_texts 93 = .ok (.goto 6, 3) := by decide +kernel
theorem dL_texts_96 : decode cL_texts 96 = .ok (.ldc_w 347, 3) := by decide +kernel
theorem dL_texts_99 : decode cL_texts 99 = .ok (.invokevirtual 332, 3) := by decide +kernel
theorem dL_texts_102 : decode cL_texts 102 = .ok (.aload_n 0, 1) := by decide +kernel
theorem dL_texts_103 : decode cL_texts 103 = .ok (.iload_n 1, 1) := by decide +kernel
theorem dL_texts_104 : decode cL_texts 104 = .ok (.invokevirtual 74, 3) := by decide +kernel
theorem dL_texts_107 : decode cL_texts 107 = .ok (.ifCond .eq 9, 3) := by decide +kernel
theorem dL_texts_110 : decode cL_texts 110 = .ok (.ldc_w 349, 3) := by decide +kernel
theorem dL_texts_113 : decode cL_texts 113 = .ok (.goto 6, 3) := by decide +kernel
theorem dL_texts_116 : decode cL_texts 116 = .ok (.ldc_w 343, 3) := by decide +kernel
theorem dL_texts_119 : decode cL_texts 119 = .ok (.invokevirtual 332, 3) := by decide +kernel
theorem dL_texts_122 : decode cL_texts 122 = .ok (.invokevirtual 339, 3) := by decide +kernel
theorem dL_texts_125 : decode cL_texts 125 = .ok (.astore_n 2, 1) := by decide +kernel
theorem dL_texts_126 : decode cL_texts 126 = .ok (.aload_n 0, 1) := by decide +kernel
theorem dL_texts_127 : decode cL_texts 127 = .ok (.aload_n 0, 1) := by decide +kernel
theorem dL_texts_128 : decode cL_texts 128 = .ok (.iload_n 1, 1) := by decide +kernel
theorem dL_texts_129 : decode cL_texts 129 = .ok (.invokestatic 351, 3) := by decide +kernel
theorem dL_texts_132 : decode cL_texts 132 = .ok (.aload_n 2, 1) := by decide +kernel
theorem dL_texts_133 : decode cL_texts 133 = .ok (.invokestatic 353, 3) := by decide +kernel
theorem dL_texts_136 : decode cL_texts 136 = .ok (.ifCond .ne 5, 3) := by decide +kernel
theorem dL_texts_139 : decode cL_texts 139 = .ok (.iconst 0, 1) := by decide +kernel
theorem dL_texts_140 : decode cL_texts 140 = .ok (.ireturn, 1) := by decide +kernel
theorem dL_texts_141 : decode cL_texts 141 = .ok (.iinc 1 1, 3) := by decide +kernel
theorem dL_texts_144 : decode cL_texts 144 = .ok (.goto (-142), 3) := by decide +kernel
theorem dL_texts_147 : decode cL_texts 147 = .ok (.aload_n 0, 1) := by decide +kernel
theorem dL_texts_148 : decode cL_texts 148 = .ok (.invokevirtual 357, 3) := by decide +kernel
theorem dL_texts_151 : decode cL_texts 151 = .ok (.istore_n 1, 1) := by decide +kernel
theorem dL_texts_152 : decode cL_texts 152 = .ok (.iconst 0, 1) := by decide +kernel
theorem dL_texts_153 : decode cL_texts 153 = .ok (.istore_n 2, 1) := by decide +kernel
theorem dL_texts_154 : decode cL_texts 154 = .ok (.iload_n 2, 1) := by decide +kernel
theorem dL_texts_155 : decode cL_texts 155 = .ok (.iload_n 1, 1) := by decide +kernel
theorem dL_texts_156 : decode cL_texts 156 = .ok (.if_icmp .ge 94, 3) := by decide +kernel
theorem dL_texts_159 : decode cL_texts 159 = .ok (.aload_n 0, 1) := by decide +kernel
theorem dL_texts_160 : decode cL_texts 160 = .ok (.iload_n 2, 1) := by decide +kernel
theorem dL_texts_161 : decode cL_texts 161 = .ok (.invokestatic 360, 3) := by decide +kernel
theorem dL_texts_164 : decode cL_texts 164 = .ok (.istore_n 3, 1) := by decide +kernel
theorem dL_texts_165 : decode cL_texts 165 = .ok (.iload_n 3, 1) := by decide +kernel
theorem dL_texts_166 : decode cL_texts 166 = .ok (.bipush 116, 2) := by decide +kernel
theorem dL_texts_168 : decode cL_texts 168 = .ok (.if_icmp .eq 9, 3) := by decide +kernel
theorem dL_texts_171 : decode cL_texts 171 = .ok (.iload_n 3, 1) := by decide +kernel
theorem dL_texts_172 : decode cL_texts 172 = .ok (.bipush 112, 2) := by decide +kernel
theorem dL_texts_174 : decode cL_texts 174 = .ok (.if_icmp .ne 7, 3) := by decide +kernel
theorem dL_texts_177 : decode cL_texts 177 = .ok (.iconst 1, 1) := by decide +kernel
theorem dL_texts_178 : decode cL_texts 178 = .ok (.goto 4, 3) := by decide +kernel
theorem dL_texts_181 : decode cL_texts 181 = .ok (.iconst 0, 1) := by decide +kernel
theorem dL_texts_182 : decode cL_texts 182 = .ok (.istore 4, 2) := by decide +kernel
theorem dL_texts_184 : decode cL_texts 184 = .ok (.ldc_w 362, 3) := by decide +kernel
theorem dL_texts_187 : decode cL_texts 187 = .ok (.iload_n 3, 1) := by decide +kernel
theorem dL_texts_188 : decode cL_texts 188 = .ok (.i2c, 1) := by decide +kernel
theorem dL_texts_189 : decode cL_texts 189 = .ok (.invokevirtual 364, 3) := by decide +kernel
theorem dL_texts_192 : decode cL_texts 192 = .ok (.ifCond .lt 50, 3) := by decide +kernel
theorem dL_texts_195 : decode cL_texts 195 = .ok (.aload_n 0, 1) := by decide +kernel
theorem dL_texts_196 : decode cL_texts 196 = .ok (.iload_n 2, 1) := by decide +kernel
theorem dL_texts_197 : decode cL_texts 197 = .ok (.invokestatic 367, 3) := by decide +kernel
theorem dL_texts_200 : decode cL_texts 200 = .ok (.ifCond .lt 42, 3) := by decide +kernel
theorem dL_texts_203 : decode cL_texts 203 = .ok (.aload_n 0, 1) := by decide +kernel
theorem dL_texts_204 : decode cL_texts 204 = .ok (.iload_n 2, 1) := by decide +kernel
theorem dL_texts_205 : decode cL_texts 205 = .ok (.invokestatic 367, 3) := by decide +kernel
theorem dL_texts_208 : decode cL_texts 208 = .ok (.aload_n 0, 1) := by decide +kernel
theorem dL_texts_209 : decode cL_texts 209 = .ok (.invokevirtual 182, 3) := by decide +kernel
theorem dL_texts_212 : decode cL_texts 212 = .ok (.if_icmp .ge 30, 3) := by decide +kernel
theorem dL_texts_215 : decode cL_texts 215 = .ok (.iload 4, 2) := by decide +kernel
theorem dL_texts_217 : decode cL_texts 217 = .ok (.ifCond .eq 15, 3) := by decide +kernel
theorem dL_texts_220 : decode cL_texts 220 = .ok (.aload_n 0, 1) := by decide +kernel
theorem dL_texts_221 : decode cL_texts 221 = .ok (.iload_n 2, 1) := by decide +kernel
theorem dL_texts_222 : decode cL_texts 222 = .ok (.invokestatic 369, 3) := by decide +kernel
theorem dL_texts_225 : decode cL_texts 225 = .ok (.iconst 1, 1) := by decide +kernel
theorem dL_texts_226 : decode cL_texts 226 = .ok (.if_icmp .ge 18, 3) := by decide +kernel
theorem dL_texts_229 : decode cL_texts 229 = .ok (.goto 13, 3) := by decide +kernel
theorem dL_texts_232 : decode cL_texts 232 = .ok (.aload_n 0, 1) := by decide +kernel
theorem dL_texts_233 : decode cL_texts 233 = .ok (.iload_n 2, 1) := by decide +kernel
theorem dL_texts_234 : decode cL_texts 234 = .ok (.invokestatic 369, 3) := by decide +kernel
theorem dL_texts_237 : decode cL_texts 237 = .ok (.bipush (-13), 2) := by decide +kernel
theorem dL_texts_239 : decode cL_texts 239 = .ok (.if_icmp .eq 5, 3) := by decide +kernel
theorem dL_texts_242 : decode cL_texts 242 = .ok (.iconst 0, 1) := by decide +kernel
theorem dL_texts_243 : decode cL_texts 243 = .ok (.ireturn, 1) := by decide +kernel
theorem dL_texts_244 : decode cL_texts 244 = .ok (.iinc 2 1, 3) := by decide +kernel
theorem dL_texts_247 : decode cL_texts 247 = .ok (.goto (-93), 3) := by decide +kernel
theorem dL_texts_250 : decode cL_texts 250 = .ok (.iload_n 1, 1) := by decide +kernel
theorem dL_texts_251 : decode cL_texts 251 = .ok (.bipush 10, 2) := by decide +kernel
theorem dL_texts_253 : decode cL_texts 253 = .ok (.if_icmp .gt 50, 3) := by decide +kernel
theorem dL_texts_256 : decode cL_texts 256 = .ok (.aload_n 0, 1) := by decide +kernel
theorem dL_texts_257 : decode cL_texts 257 = .ok (.iload_n 1, 1) := by decide +kernel
theorem dL_texts_258 : decode cL_texts 258 = .ok (.invokestatic 360, 3) := by decide +kernel
theorem dL_texts_261 : decode cL_texts 261 = .ok (.bipush (-13), 2) := by decide +kernel
theorem dL_texts_263 : decode cL_texts 263 = .ok (.if_icmp .ne 40, 3) := by decide +kernel
theorem dL_texts_266 : decode cL_texts 266 = .ok (.aload_n 0, 1) := by decide +kernel
theorem dL_texts_267 : decode cL_texts 267 = .ok (.iload_n 1, 1) := by decide +kernel
theorem dL_texts_268 : decode cL_texts 268 = .ok (.invokestatic 367, 3) := by decide +kernel
theorem dL_texts_271 : decode cL_texts 271 = .ok (.bipush (-13), 2) := by decide +kernel
theorem dL_texts_273 : decode cL_texts 273 = .ok (.if_icmp .ne 30, 3) := by decide +kernel
theorem dL_texts_276 : decode cL_texts 276 = .ok (.aload_n 0, 1) := by decide +kernel
theorem dL_texts_277 : decode cL_texts 277 = .ok (.iconst (-1), 1) := by decide +kernel
theorem dL_texts_278 : decode cL_texts 278 = .ok (.invokestatic 369, 3) := by decide +kernel
theorem dL_texts_281 : decode cL_texts 281 = .ok (.bipush (-13), 2) := by decide +kernel
theorem dL_texts_283 : decode cL_texts 283 = .ok (.if_icmp .ne 20, 3) := by decide +kernel
theorem dL_texts_286 : decode cL_texts 286 = .ok (.aload_n 0, 1) := by decide +kernel
theorem dL_texts_287 : decode cL_texts 287 = .ok (.aload_n 0, 1) := by decide +kernel
theorem dL_texts_288 : decode cL_texts 288 = .ok (.invokevirtual 182, 3) := by decide +kernel
theorem dL_texts_291 : decode cL_texts 291 = .ok (.invokestatic 351, 3) := by decide +kernel
theorem dL_texts_294 : decode cL_texts 294 = .ok (.bipush (-11), 2) := by decide +kernel
theorem dL_texts_296 : decode cL_texts 296 = .ok (.if_icmp .ne 7, 3) := by decide +kernel
theorem dL_texts_299 : decode cL_texts 299 = .ok (.iconst 1, 1) := by decide +kernel
theorem dL_texts_300 : decode cL_texts 300 = .ok (.goto 4, 3) := by decide +kernel
theorem dL_texts_303 : decode cL_texts 303 = .ok (.iconst 0, 1) := by decide +kernel
theorem dL_texts_304 : decode cL_texts 304 = .ok (.ireturn, 1) := by decide +kernel
theorem dL_sum_0 : decode cL_sum 0 = .ok (.ldc2_w 371, 3) := by decide +kernel
theorem dL_sum_3 : decode cL_sum 3 = .ok (.aload_n 0, 1) := by decide +kernel
theorem dL_sum_4 : decode cL_sum 4 = .ok (.invokevirtual 373, 3) := by decide +kernel
theorem dL_sum_7 : decode cL_sum 7 = .ok (.i2l, 1) := by decide +kernel
theorem dL_sum_8 : decode cL_sum 8 = .ok (.ladd, 1) := by decide +kernel
theorem dL_sum_9 : decode cL_sum 9 = .ok (.lstore_n 1, 1) := by decide +kernel
theorem dL_sum_10 : decode cL_sum 10 = .ok (.ldc2_w 376, 3) := by decide +kernel
theorem dL_sum_13 : decode cL_sum 13 = .ok (.lload_n 1, 1) := by decide +kernel
theorem dL_sum_14 : decode cL_sum 14 = .ok (.lmul, 1) := by decide +kernel
theorem dL_sum_15 : decode cL_sum 15 = .ok (.aload_n 0, 1) := by decide +kernel
theorem dL_sum_16 : decode cL_sum 16 = .ok (.invokevirtual 378, 3) := by decide +kernel
theorem dL_sum_19 : decode cL_sum 19 = .ok (.i2l, 1) := by decide +kernel
theorem dL_sum_20 : decode cL_sum 20 = .ok (.ladd, 1) := by decide +kernel
theorem dL_sum_21 : decode cL_sum 21 = .ok (.lstore_n 1, 1) := by decide +kernel
theorem dL_sum_22 : decode cL_sum 22 = .ok (.ldc2_w 376, 3) := by decide +kernel
theorem dL_sum_25 : decode cL_sum 25 = .ok (.lload_n 1, 1) := by decide +kernel
theorem dL_sum_26 : decode cL_sum 26 = .ok (.lmul, 1) := by decide +kernel
theorem dL_sum_27 : decode cL_sum 27 = .ok (.aload_n 0, 1) := by decide +kernel
theorem dL_sum_28 : decode cL_sum 28 = .ok (.invokevirtual 381, 3) := by decide +kernel
theorem dL_sum_31 : decode cL_sum 31 = .ok (.i2l, 1) := by decide +kernel
theorem dL_sum_32 : decode cL_sum 32 = .ok (.ladd, 1) := by decide +kernel
theorem dL_sum_33 : decode cL_sum 33 = .ok (.lstore_n 1, 1) := by decide +kernel
theorem dL_sum_34 : decode cL_sum 34 = .ok (.ldc2_w 376, 3) := by decide +kernel
theorem dL_sum_37 : decode cL_sum 37 = .ok (.lload_n 1, 1) := by decide +kernel
theorem dL_sum_38 : decode cL_sum 38 = .ok (.lmul, 1) := by decide +kernel
theorem dL_sum_39 : decode cL_sum 39 = .ok (.aload_n 0, 1) := by decide +kernel
theorem dL_sum_40 : decode cL_sum 40 = .ok (.invokevirtual 384, 3) := by decide +kernel
theorem dL_sum_43 : decode cL_sum 43 = .ok (.i2l, 1) := by decide +kernel
theorem dL_sum_44 : decode cL_sum 44 = .ok (.ladd, 1) := by decide +kernel
theorem dL_sum_45 : decode cL_sum 45 = .ok (.lstore_n 1, 1) := by decide +kernel
theorem dL_sum_46 : decode cL_sum 46 = .ok (.ldc2_w 376, 3) := by decide +kernel
theorem dL_sum_49 : decode cL_sum 49 = .ok (.lload_n 1, 1) := by decide +kernel
theorem dL_sum_50 : decode cL_sum 50 = .ok (.lmul, 1) := by decide +kernel
theorem dL_sum_51 : decode cL_sum 51 = .ok (.aload_n 0, 1) := by decide +kernel
theorem dL_sum_52 : decode cL_sum 52 = .ok (.invokevirtual 387, 3) := by decide +kernel
theorem dL_sum_55 : decode cL_sum 55 = .ok (.i2l, 1) := by decide +kernel
theorem dL_sum_56 : decode cL_sum 56 = .ok (.ladd, 1) := by decide +kernel
theorem dL_sum_57 : decode cL_sum 57 = .ok (.lstore_n 1, 1) := by decide +kernel
theorem dL_sum_58 : decode cL_sum 58 = .ok (.ldc2_w 376, 3) := by decide +kernel
theorem dL_sum_61 : decode cL_sum 61 = .ok (.lload_n 1, 1) := by decide +kernel
theorem dL_sum_62 : decode cL_sum 62 = .ok (.lmul, 1) := by decide +kernel
theorem dL_sum_63 : decode cL_sum 63 = .ok (.aload_n 0, 1) := by decide +kernel
theorem dL_sum_64 : decode cL_sum 64 = .ok (.invokevirtual 390, 3) := by decide +kernel
theorem dL_sum_67 : decode cL_sum 67 = .ok (.i2l, 1) := by decide +kernel
theorem dL_sum_68 : decode cL_sum 68 = .ok (.ladd, 1) := by decide +kernel
theorem dL_sum_69 : decode cL_sum 69 = .ok (.lstore_n 1, 1) := by decide +kernel
theorem dL_sum_70 : decode cL_sum 70 = .ok (.aload_n 0, 1) := by decide +kernel
theorem dL_sum_71 : decode cL_sum 71 = .ok (.invokestatic 235, 3) := by decide +kernel
theorem dL_sum_74 : decode cL_sum 74 = .ok (.astore_n 3, 1) := by decide +kernel
theorem dL_sum_75 : decode cL_sum 75 = .ok (.aload_n 3, 1) := by decide +kernel
theorem dL_sum_76 : decode cL_sum 76 = .ok (.arraylength, 1) := by decide +kernel
theorem dL_sum_77 : decode cL_sum 77 = .ok (.istore 4, 2) := by decide +kernel
theorem dL_sum_79 : decode cL_sum 79 = .ok (.iconst 0, 1) := by decide +kernel
theorem dL_sum_80 : decode cL_sum 80 = .ok (.istore 5, 2) := by decide +kernel
theorem dL_sum_82 : decode cL_sum 82 = .ok (.iload 5, 2) := by decide +kernel
theorem dL_sum_84 : decode cL_sum 84 = .ok (.iload 4, 2) := by decide +kernel
theorem dL_sum_86 : decode cL_sum 86 = .ok (.if_icmp .ge 53, 3) := by decide +kernel
theorem dL_sum_89 : decode cL_sum 89 = .ok (.aload_n 3, 1) := by decide +kernel
theorem dL_sum_90 : decode cL_sum 90 = .ok (.iload 5, 2) := by decide +kernel
theorem dL_sum_92 : decode cL_sum 92 = .ok (.aaload, 1) := by decide +kernel
theorem dL_sum_93 : decode cL_sum 93 = .ok (.astore 6, 2) := by decide +kernel
theorem dL_sum_95 : decode cL_sum 95 = .ok (.ldc2_w 393, 3) := by decide +kernel
theorem dL_sum_98 : decode cL_sum 98 = .ok (.lload_n 1, 1) := by decide +kernel
theorem dL_sum_99 : decode cL_sum 99 = .ok (.lmul, 1) := by decide +kernel
theorem dL_sum_100 : decode cL_sum 100 = .ok (.sipush 10000, 3) := by decide +kernel
theorem dL_sum_103 : decode cL_sum 103 = .ok (.aload 6, 2) := by decide +kernel
theorem dL_sum_105 : decode cL_sum 105 = .ok (.iconst 0, 1) := by decide +kernel
theorem dL_sum_106 : decode cL_sum 106 = .ok (.iaload, 1) := by decide +kernel
theorem dL_sum_107 : decode cL_sum 107 = .ok (.imul, 1) := by decide +kernel
theorem dL_sum_108 : decode cL_sum 108 = .ok (.i2l, 1) := by decide +kernel
theorem dL_sum_109 : decode cL_sum 109 = .ok (.ladd, 1) := by decide +kernel
theorem dL_sum_110 : decode cL_sum 110 = .ok (.iconst 4, 1) := by decide +kernel
theorem dL_sum_111 : decode cL_sum 111 = .ok (.aload 6, 2) := by decide +kernel
theorem dL_sum_113 : decode cL_sum 113 = .ok (.iconst 1, 1) := by decide +kernel
theorem dL_sum_114 : decode cL_sum 114 = .ok (.iaload, 1) := by decide +kernel
theorem dL_sum_115 : decode cL_sum 115 = .ok (.imul, 1) := by decide +kernel
theorem dL_sum_116 : decode cL_sum 116 = .ok (.i2l, 1) := by decide +kernel
theorem dL_sum_117 : decode cL_sum 117 = .ok (.ladd, 1) := by decide +kernel
theorem dL_sum_118 : decode cL_sum 118 = .ok (.iconst 2, 1) := by decide +kernel
theorem dL_sum_119 : decode cL_sum 119 = .ok (.aload 6, 2) := by decide +kernel
theorem dL_sum_121 : decode cL_sum 121 = .ok (.iconst 2, 1) := by decide +kernel
theorem dL_sum_122 : decode cL_sum 122 = .ok (.iaload, 1) := by decide +kernel
theorem dL_sum_123 : decode cL_sum 123 = .ok (.imul, 1) := by decide +kernel
theorem dL_sum_124 : decode cL_sum 124 = .ok (.i2l, 1) := by decide +kernel
theorem dL_sum_125 : decode cL_sum 125 = .ok (.ladd, 1) := by decide +kernel
theorem dL_sum_126 : decode cL_sum 126 = .ok (.aload 6, 2) := by decide +kernel
theorem dL_sum_128 : decode cL_sum 128 = .ok (.iconst 3, 1) := by decide +kernel
theorem dL_sum_129 : decode cL_sum 129 = .ok (.iaload, 1) := by decide +kernel
theorem dL_sum_130 : decode cL_sum 130 = .ok (.i2l, 1) := by decide +kernel
theorem dL_sum_131 : decode cL_sum 131 = .ok (.ladd, 1) := by decide +kernel
theorem dL_sum_132 : decode cL_sum 132 = .ok (.lstore_n 1, 1) := by decide +kernel
theorem dL_sum_133 : decode cL_sum 133 = .ok (.iinc 5 1, 3) := by decide +kernel
theorem dL_sum_136 : decode cL_sum 136 = .ok (.goto (-54), 3) := by decide +kernel
theorem dL_sum_139 : decode cL_sum 139 = .ok (.iconst 0, 1) := by decide +kernel
theorem dL_sum_140 : decode cL_sum 140 = .ok (.istore_n 3, 1) := by decide +kernel
theorem dL_sum_141 : decode cL_sum 141 = .ok (.iload_n 3, 1) := by decide +kernel
theorem dL_sum_142 : decode cL_sum 142 = .ok (.aload_n 0, 1) := by decide +kernel
theorem dL_sum_143 : decode cL_sum 143 = .ok (.invokevirtual 298, 3) := by decide +kernel
theorem dL_sum_146 : decode cL_sum 146 = .ok (.if_icmp .ge 56, 3) := by decide +kernel
theorem dL_sum_149 : decode cL_sum 149 = .ok (.ldc2_w 395, 3) := by decide +kernel
theorem dL_sum_152 : decode cL_sum 152 = .ok (.lload_n 1, 1) := by decide +kernel
theorem dL_sum_153 : decode cL_sum 153 = .ok (.lmul, 1) := by decide +kernel
theorem dL_sum_154 : decode cL_sum 154 = .ok (.sipush 10000, 3) := by decide +kernel
theorem dL_sum_157 : decode cL_sum 157 = .ok (.aload_n 0, 1) := by decide +kernel
theorem dL_sum_158 : decode cL_sum 158 = .ok (.iload_n 3, 1) := by decide +kernel
theorem dL_sum_159 : decode cL_sum 159 = .ok (.invokevirtual 93, 3) := by decide +kernel
theorem dL_sum_162 : decode cL_sum 162 = .ok (.imul, 1) := by decide +kernel
theorem dL_sum_163 : decode cL_sum 163 = .ok (.i2l, 1) := by decide +kernel
theorem dL_sum_164 : decode cL_sum 164 = .ok (.ladd, 1) := by decide +kernel
theorem dL_sum_165 : decode cL_sum 165 = .ok (.bipush 100, 2) := by decide +kernel
theorem dL_sum_167 : decode cL_sum 167 = .ok (.aload_n 0, 1) := by decide +kernel
theorem dL_sum_168 : decode cL_sum 168 = .ok (.iload_n 3, 1) := by decide +kernel
theorem dL_sum_169 : decode cL_sum 169 = .ok (.invokevirtual 96, 3) := by decide +kernel
theorem dL_sum_172 : decode cL_sum 172 = .ok (.imul, 1) := by decide +kernel
theorem dL_sum_173 : decode cL_sum 173 = .ok (.i2l, 1) := by decide +kernel
theorem dL_sum_174 : decode cL_sum 174 = .ok (.ladd, 1) := by decide +kernel
theorem dL_sum_175 : decode cL_sum 175 = .ok (.aload_n 0, 1) := by decide +kernel
theorem dL_sum_176 : decode cL_sum 176 = .ok (.iload_n 3, 1) := by decide +kernel
theorem dL_sum_177 : decode cL_sum 177 = .ok (.invokevirtual 99, 3) := by decide +kernel
theorem dL_sum_180 : decode cL_sum 180 = .ok (.i2l, 1) := by decide +kernel
theorem dL_sum_181 : decode cL_sum 181 = .ok (.ladd, 1) := by decide +kernel
theorem dL_sum_182 : decode cL_sum 182 = .ok (.lstore_n 1, 1) := by decide +kernel
theorem dL_sum_183 : decode cL_sum 183 = .ok (.ldc2_w 397, 3) := by decide +kernel
theorem dL_sum_186 : decode cL_sum 186 = .ok (.lload_n 1, 1) := by decide +kernel
theorem dL_sum_187 : decode cL_sum 187 = .ok (.lmul, 1) := by decide +kernel
theorem dL_sum_188 : decode cL_sum 188 = .ok (.aload_n 0, 1) := by decide +kernel
theorem dL_sum_189 : decode cL_sum 189 = .ok (.iload_n 3, 1) := by decide +kernel
theorem dL_sum_190 : decode cL_sum 190 = .ok (.invokevirtual 105, 3) := by decide +kernel
theorem dL_sum_193 : decode cL_sum 193 = .ok (.i2l, 1) := by decide +kernel
theorem dL_sum_194 : decode cL_sum 194 = .ok (.ladd, 1) := by decide +kernel
theorem dL_sum_195 : decode cL_sum 195 = .ok (.lstore_n 1, 1) := by decide +kernel
theorem dL_sum_196 : decode cL_sum 196 = .ok (.iinc 3 1, 3) := by decide +kernel
theorem dL_sum_199 : decode cL_sum 199 = .ok (.goto (-58), 3) := by decide +kernel
theorem dL_sum_202 : decode cL_sum 202 = .ok (.iconst 0, 1) := by decide +kernel
theorem dL_sum_203 : decode cL_sum 203 = .ok (.istore_n 3, 1) := by decide +kernel
theorem dL_sum_204 : decode cL_sum 204 = .ok (.iload_n 3, 1) := by decide +kernel
theorem dL_sum_205 : decode cL_sum 205 = .ok (.aload_n 0, 1) := by decide +kernel
theorem dL_sum_206 : decode cL_sum 206 = .ok (.invokevirtual 357, 3) := by decide +kernel
theorem dL_sum_209 : decode cL_sum 209 = .ok (.if_icmp .ge 43, 3) := by decide +kernel
theorem dL_sum_212 : decode cL_sum 212 = .ok (.ldc2_w 399, 3) := by decide +kernel
theorem dL_sum_215 : decode cL_sum 215 = .ok (.lload_n 1, 1) := by decide +kernel
theorem dL_sum_216 : decode cL_sum 216 = .ok (.lmul, 1) := by decide +kernel
theorem dL_sum_217 : decode cL_sum 217 = .ok (.sipush 10000, 3) := by decide +kernel
theorem dL_sum_220 : decode cL_sum 220 = .ok (.aload_n 0, 1) := by decide +kernel
theorem dL_sum_221 : decode cL_sum 221 = .ok (.iload_n 3, 1) := by decide +kernel
theorem dL_sum_222 : decode cL_sum 222 = .ok (.invokestatic 360, 3) := by decide +kernel
theorem dL_sum_225 : decode cL_sum 225 = .ok (.imul, 1) := by decide +kernel
theorem dL_sum_226 : decode cL_sum 226 = .ok (.i2l, 1) := by decide +kernel
theorem dL_sum_227 : decode cL_sum 227 = .ok (.ladd, 1) := by decide +kernel
theorem dL_sum_228 : decode cL_sum 228 = .ok (.bipush 100, 2) := by decide +kernel
theorem dL_sum_230 : decode cL_sum 230 = .ok (.aload_n 0, 1) := by decide +kernel
theorem dL_sum_231 : decode cL_sum 231 = .ok (.iload_n 3, 1) := by decide +kernel
theorem dL_sum_232 : decode cL_sum 232 = .ok (.invokestatic 367, 3) := by decide +kernel
theorem dL_sum_235 : decode cL_sum 235 = .ok (.imul, 1) := by decide +kernel
theorem dL_sum_236 : decode cL_sum 236 = .ok (.i2l, 1) := by decide +kernel
theorem dL_sum_237 : decode cL_sum 237 = .ok (.ladd, 1) := by decide +kernel
theorem dL_sum_238 : decode cL_sum 238 = .ok (.aload_n 0, 1) := by decide +kernel
theorem dL_sum_239 : decode cL_sum 239 = .ok (.iload_n 3, 1) := by decide +kernel
theorem dL_sum_240 : decode cL_sum 240 = .ok (.invokestatic 369, 3) := by decide +kernel
theorem dL_sum_243 : decode cL_sum 243 = .ok (.i2l, 1) := by decide +kernel
theorem dL_sum_244 : decode cL_sum 244 = .ok (.ladd, 1) := by decide +kernel
theorem dL_sum_245 : decode cL_sum 245 = .ok (.lstore_n 1, 1) := by decide +kernel
theorem dL_sum_246 : decode cL_sum 246 = .ok (.iinc 3 1, 3) := by decide +kernel
theorem dL_sum_249 : decode cL_sum 249 = .ok (.goto (-45), 3) := by decide +kernel
theorem dL_sum_252 : decode cL_sum 252 = .ok (.lload_n 1, 1) := by decide +kernel
theorem dL_sum_253 : decode cL_sum 253 = .ok (.lreturn, 1) := by decide +kernel
theorem dL_undone_0 : decode cL_undone 0 = .ok (.bipush 9, 2) := by decide +kernel
theorem dL_undone_2 : decode cL_undone 2 = .ok (.newarray .long, 2) := by decide +kernel
theorem dL_undone_4 : decode cL_undone 4 = .ok (.astore_n 2, 1) := by decide +kernel
theorem dL_undone_5 : decode cL_undone 5 = .ok (.iconst 0, 1) := by decide +kernel
theorem dL_undone_6 : decode cL_undone 6 = .ok (.istore_n 3, 1) := by decide +kernel
theorem dL_undone_7 : decode cL_undone 7 = .ok (.iconst 0, 1) := by decide +kernel
theorem dL_undone_8 : decode cL_undone 8 = .ok (.istore 4, 2) := by decide +kernel
theorem dL_undone_10 : decode cL_undone 10 = .ok (.iload 4, 2) := by decide +kernel
theorem dL_undone_12 : decode cL_undone 12 = .ok (.bipush 7, 2) := by decide +kernel
theorem dL_undone_14 : decode cL_undone 14 = .ok (.if_icmp .ge 353, 3) := by decide +kernel
theorem dL_undone_17 : decode cL_undone 17 = .ok (.aload_n 0, 1) := by decide +kernel
theorem dL_undone_18 : decode cL_undone 18 = .ok (.bipush 13, 2) := by decide +kernel
theorem dL_undone_20 : decode cL_undone 20 = .ok (.iload 4, 2) := by decide +kernel
theorem dL_undone_22 : decode cL_undone 22 = .ok (.iadd, 1) := by decide +kernel
theorem dL_undone_23 : decode cL_undone 23 = .ok (.invokestatic 161, 3) := by decide +kernel
theorem dL_undone_26 : decode cL_undone 26 = .ok (.iconst 1, 1) := by decide +kernel
theorem dL_undone_27 : decode cL_undone 27 = .ok (.iushr, 1) := by decide +kernel
theorem dL_undone_28 : decode cL_undone 28 = .ok (.istore 5, 2) := by decide +kernel
theorem dL_undone_30 : decode cL_undone 30 = .ok (.iload 5, 2) := by decide +kernel
theorem dL_undone_32 : decode cL_undone 32 = .ok (.iconst 4, 1) := by decide +kernel
theorem dL_undone_33 : decode cL_undone 33 = .ok (.iushr, 1) := by decide +kernel
theorem dL_undone_34 : decode cL_undone 34 = .ok (.istore 6, 2) := by decide +kernel
theorem dL_undone_36 : decode cL_undone 36 = .ok (.aload_n 2, 1) := by decide +kernel
theorem dL_undone_37 : decode cL_undone 37 = .ok (.iload_n 3, 1) := by decide +kernel
theorem dL_undone_38 : decode cL_undone 38 = .ok (.aload_n 1, 1) := by decide +kernel
theorem dL_undone_39 : decode cL_undone 39 = .ok (.invokestatic 401, 3) := by decide +kernel
theorem dL_undone_42 : decode cL_undone 42 = .ok (.lastore, 1) := by decide +kernel
theorem dL_undone_43 : decode cL_undone 43 = .ok (.iload 5, 2) := by decide +kernel
theorem dL_undone_45 : decode cL_undone 45 = .ok (.bipush 9, 2) := by decide +kernel
theorem dL_undone_47 : decode cL_undone 47 = .ok (.irem, 1) := by decide +kernel
theorem dL_undone_48 : decode cL_undone 48 = .ok (.tableswitch 213 0 7 #[48, 57, 84, 113, 142, 171, 185, 199], 48) := by decide +kernel
theorem dL_undone_96 : decode cL_undone 96 = .ok (.aload_n 1, 1) := by decide +kernel
theorem dL_undone_97 : decode cL_undone 97 = .ok (.invokestatic 165, 3) := by decide +kernel
theorem dL_undone_100 : decode cL_undone 100 = .ok (.istore 7, 2) := by decide +kernel
theorem dL_undone_102 : decode cL_undone 102 = .ok (.goto 228, 3) := by decide +kernel
theorem dL_undone_105 : decode cL_undone 105 = .ok (.aload_n 1, 1) := by decide +kernel
theorem dL_undone_106 : decode cL_undone 106 = .ok (.iload 6, 2) := by decide +kernel
theorem dL_undone_108 : decode cL_undone 108 = .ok (.bipush 6, 2) := by decide +kernel
theorem dL_undone_110 : decode cL_undone 110 = .ok (.irem, 1) := by decide +kernel
theorem dL_undone_111 : decode cL_undone 111 = .ok (.iload 6, 2) := by decide +kernel
theorem dL_undone_113 : decode cL_undone 113 = .ok (.iconst 3, 1) := by decide +kernel
theorem dL_undone_114 : decode cL_undone 114 = .ok (.iushr, 1) := by decide +kernel
theorem dL_undone_115 : decode cL_undone 115 = .ok (.iconst 4, 1) := by decide +kernel
theorem dL_undone_116 : decode cL_undone 116 = .ok (.irem, 1) := by decide +kernel
theorem dL_undone_117 : decode cL_undone 117 = .ok (.iload 6, 2) := by decide +kernel
theorem dL_undone_119 : decode cL_undone 119 = .ok (.iconst 5, 1) := by decide +kernel
theorem dL_undone_120 : decode cL_undone 120 = .ok (.iushr, 1) := by decide +kernel
theorem dL_undone_121 : decode cL_undone 121 = .ok (.bipush 22, 2) := by decide +kernel
theorem dL_undone_123 : decode cL_undone 123 = .ok (.irem, 1) := by decide +kernel
theorem dL_undone_124 : decode cL_undone 124 = .ok (.invokestatic 167, 3) := by decide +kernel
theorem dL_undone_127 : decode cL_undone 127 = .ok (.istore 7, 2) := by decide +kernel
theorem dL_undone_129 : decode cL_undone 129 = .ok (.goto 201, 3) := by decide +kernel
theorem dL_undone_132 : decode cL_undone 132 = .ok (.aload_n 1, 1) := by decide +kernel
theorem dL_undone_133 : decode cL_undone 133 = .ok (.iload 6, 2) := by decide +kernel
theorem dL_undone_135 : decode cL_undone 135 = .ok (.bipush 6, 2) := by decide +kernel
theorem dL_undone_137 : decode cL_undone 137 = .ok (.irem, 1) := by decide +kernel
theorem dL_undone_138 : decode cL_undone 138 = .ok (.iload 5, 2) := by decide +kernel
theorem dL_undone_140 : decode cL_undone 140 = .ok (.bipush 18, 2) := by decide +kernel
theorem dL_undone_142 : decode cL_undone 142 = .ok (.irem, 1) := by decide +kernel
theorem dL_undone_143 : decode cL_undone 143 = .ok (.bipush 9, 2) := by decide +kernel
theorem dL_undone_145 : decode cL_undone 145 = .ok (.if_icmp .ge 7, 3) := by decide +kernel
theorem dL_undone_148 : decode cL_undone 148 = .ok (.iconst 1, 1) := by decide +kernel
theorem dL_undone_149 : decode cL_undone 149 = .ok (.goto 4, 3) := by decide +kernel
theorem dL_undone_152 : decode cL_undone 152 = .ok (.iconst 0, 1) := by decide +kernel
theorem dL_undone_153 : decode cL_undone 153 = .ok (.invokestatic 170, 3) := by decide +kernel
theorem dL_undone_156 : decode cL_undone 156 = .ok (.istore 7, 2) := by decide +kernel
theorem dL_undone_158 : decode cL_undone 158 = .ok (.goto 172, 3) := by decide +kernel
theorem dL_undone_161 : decode cL_undone 161 = .ok (.aload_n 1, 1) := by decide +kernel
theorem dL_undone_162 : decode cL_undone 162 = .ok (.iload 6, 2) := by decide +kernel
theorem dL_undone_164 : decode cL_undone 164 = .ok (.bipush 6, 2) := by decide +kernel
theorem dL_undone_166 : decode cL_undone 166 = .ok (.irem, 1) := by decide +kernel
theorem dL_undone_167 : decode cL_undone 167 = .ok (.iload 6, 2) := by decide +kernel
theorem dL_undone_169 : decode cL_undone 169 = .ok (.iconst 3, 1) := by decide +kernel
theorem dL_undone_170 : decode cL_undone 170 = .ok (.iushr, 1) := by decide +kernel
theorem dL_undone_171 : decode cL_undone 171 = .ok (.bipush 6, 2) := by decide +kernel
theorem dL_undone_173 : decode cL_undone 173 = .ok (.irem, 1) := by decide +kernel
theorem dL_undone_174 : decode cL_undone 174 = .ok (.iload 6, 2) := by decide +kernel
theorem dL_undone_176 : decode cL_undone 176 = .ok (.bipush 6, 2) := by decide +kernel
theorem dL_undone_178 : decode cL_undone 178 = .ok (.iushr, 1) := by decide +kernel
theorem dL_undone_179 : decode cL_undone 179 = .ok (.bipush 30, 2) := by decide +kernel
theorem dL_undone_181 : decode cL_undone 181 = .ok (.irem, 1) := by decide +kernel
theorem dL_undone_182 : decode cL_undone 182 = .ok (.invokestatic 178, 3) := by decide +kernel
theorem dL_undone_185 : decode cL_undone 185 = .ok (.istore 7, 2) := by decide +kernel
theorem dL_undone_187 : decode cL_undone 187 = .ok (.goto 143, 3) := by decide +kernel
theorem dL_undone_190 : decode cL_undone 190 = .ok (.aload_n 1, 1) := by decide +kernel
theorem dL_undone_191 : decode cL_undone 191 = .ok (.iload 6, 2) := by decide +kernel
theorem dL_undone_193 : decode cL_undone 193 = .ok (.bipush 6, 2) := by decide +kernel
theorem dL_undone_195 : decode cL_undone 195 = .ok (.irem, 1) := by decide +kernel
theorem dL_undone_196 : decode cL_undone 196 = .ok (.iload 6, 2) := by decide +kernel
theorem dL_undone_198 : decode cL_undone 198 = .ok (.iconst 3, 1) := by decide +kernel
theorem dL_undone_199 : decode cL_undone 199 = .ok (.iushr, 1) := by decide +kernel
theorem dL_undone_200 : decode cL_undone 200 = .ok (.bipush 50, 2) := by decide +kernel
theorem dL_undone_202 : decode cL_undone 202 = .ok (.irem, 1) := by decide +kernel
theorem dL_undone_203 : decode cL_undone 203 = .ok (.iload 6, 2) := by decide +kernel
theorem dL_undone_205 : decode cL_undone 205 = .ok (.bipush 9, 2) := by decide +kernel
theorem dL_undone_207 : decode cL_undone 207 = .ok (.iushr, 1) := by decide +kernel
theorem dL_undone_208 : decode cL_undone 208 = .ok (.bipush 101, 2) := by decide +kernel
theorem dL_undone_210 : decode cL_undone 210 = .ok (.irem, 1) := by decide +kernel
theorem dL_undone_211 : decode cL_undone 211 = .ok (.invokestatic 176, 3) := by decide +kernel
theorem dL_undone_214 : decode cL_undone 214 = .ok (.istore 7, 2) := by decide +kernel
theorem dL_undone_216 : decode cL_undone 216 = .ok (.goto 114, 3) := by decide +kernel
theorem dL_undone_219 : decode cL_undone 219 = .ok (.aload_n 1, 1) := by decide +kernel
theorem dL_undone_220 : decode cL_undone 220 = .ok (.iload 6, 2) := by decide +kernel
theorem dL_undone_222 : decode cL_undone 222 = .ok (.bipush 6, 2) := by decide +kernel
theorem dL_undone_224 : decode cL_undone 224 = .ok (.irem, 1) := by decide +kernel
theorem dL_undone_225 : decode cL_undone 225 = .ok (.invokestatic 173, 3) := by decide +kernel
theorem dL_undone_228 : decode cL_undone 228 = .ok (.istore 7, 2) := by decide +kernel
theorem dL_undone_230 : decode cL_undone 230 = .ok (.goto 100, 3) := by decide +kernel
theorem dL_undone_233 : decode cL_undone 233 = .ok (.aload_n 1, 1) := by decide +kernel
theorem dL_undone_234 : decode cL_undone 234 = .ok (.iload 6, 2) := by decide +kernel
theorem dL_undone_236 : decode cL_undone 236 = .ok (.bipush 6, 2) := by decide +kernel
theorem dL_undone_238 : decode cL_undone 238 = .ok (.irem, 1) := by decide +kernel
theorem dL_undone_239 : decode cL_undone 239 = .ok (.invokestatic 405, 3) := by decide +kernel
theorem dL_undone_242 : decode cL_undone 242 = .ok (.istore 7, 2) := by decide +kernel
theorem dL_undone_244 : decode cL_undone 244 = .ok (.goto 86, 3) := by decide +kernel
theorem dL_undone_247 : decode cL_undone 247 = .ok (.aload_n 1, 1) := by decide +kernel
theorem dL_undone_248 : decode cL_undone 248 = .ok (.iload 6, 2) := by decide +kernel
theorem dL_undone_250 : decode cL_undone 250 = .ok (.bipush 22, 2) := by decide +kernel
theorem dL_undone_252 : decode cL_undone 252 = .ok (.irem, 1) := by decide +kernel
theorem dL_undone_253 : decode cL_undone 253 = .ok (.invokestatic 180, 3) := by decide +kernel
theorem dL_undone_256 : decode cL_undone 256 = .ok (.istore 7, 2) := by decide +kernel
theorem dL_undone_258 : decode cL_undone 258 = .ok (.goto 72, 3) := by decide +kernel
theorem dL_undone_261 : decode cL_undone 261 = .ok (.aload_n 1, 1) := by decide +kernel
theorem dL_undone_262 : decode cL_undone 262 = .ok (.new 323, 3) := by decide +kernel
theorem dL_undone_265 : decode cL_undone 265 = .ok (.dup, 1) := by decide +kernel
theorem dL_undone_266 : decode cL_undone 266 = .ok (.invokespecial 325, 3) := by decide +kernel
theorem dL_undone_269 : decode cL_undone 269 = .ok (.ldc_w 407, 3) := by decide +kernel
theorem dL_undone_272 : decode cL_undone 272 = .ok (.invokevirtual 332, 3) := by decide +kernel
theorem dL_undone_275 : decode cL_undone 275 = .ok (.iload 6, 2) := by decide +kernel
theorem dL_undone_277 : decode cL_undone 277 = .ok (.bipush 6, 2) := by decide +kernel
theorem dL_undone_279 : decode cL_undone 279 = .ok (.irem, 1) := by decide +kernel
theorem dL_undone_280 : decode cL_undone 280 = .ok (.invokevirtual 326, 3) := by decide +kernel
theorem dL_undone_283 : decode cL_undone 283 = .ok (.ldc_w 409, 3) := by decide +kernel
theorem dL_undone_286 : decode cL_undone 286 = .ok (.invokevirtual 332, 3) := by decide +kernel
theorem dL_undone_289 : decode cL_undone 289 = .ok (.iload 6, 2) := by decide +kernel
theorem dL_undone_291 : decode cL_undone 291 = .ok (.iconst 3, 1) := by decide +kernel
theorem dL_undone_292 : decode cL_undone 292 = .ok (.iushr, 1) := by decide +kernel
theorem dL_undone_293 : decode cL_undone 293 = .ok (.bipush 6, 2) := by decide +kernel
theorem dL_undone_295 : decode cL_undone 295 = .ok (.irem, 1) := by decide +kernel
theorem dL_undone_296 : decode cL_undone 296 = .ok (.invokevirtual 326, 3) := by decide +kernel
theorem dL_undone_299 : decode cL_undone 299 = .ok (.ldc_w 411, 3) := by decide +kernel
theorem dL_undone_302 : decode cL_undone 302 = .ok (.invokevirtual 332, 3) := by decide +kernel
theorem dL_undone_305 : decode cL_undone 305 = .ok (.iload 6, 2) := by decide +kernel
theorem dL_undone_307 : decode cL_undone 307 = .ok (.bipush 6, 2) := by decide +kernel
theorem dL_undone_309 : decode cL_undone 309 = .ok (.iushr, 1) := by decide +kernel
theorem dL_undone_310 : decode cL_undone 310 = .ok (.bipush 21, 2) := by decide +kernel
theorem dL_undone_312 : decode cL_undone 312 = .ok (.irem, 1) := by decide +kernel
theorem dL_undone_313 : decode cL_undone 313 = .ok (.invokevirtual 326, 3) := by decide +kernel
theorem dL_undone_316 : decode cL_undone 316 = .ok (.ldc_w 413, 3) := by decide +kernel
theorem dL_undone_319 : decode cL_undone 319 = .ok (.invokevirtual 332, 3) := by decide +kernel
theorem dL_undone_322 : decode cL_undone 322 = .ok (.invokevirtual 339, 3) := by decide +kernel
theorem dL_undone_325 : decode cL_undone 325 = .ok (.invokestatic 415, 3) := by decide +kernel
theorem dL_undone_328 : decode cL_undone 328 = .ok (.istore 7, 2) := by decide +kernel
theorem dL_undone_330 : decode cL_undone 330 = .ok (.iload 7, 2) := by decide +kernel
theorem dL_undone_332 : decode cL_undone 332 = .ok (.ifCond .ge 16, 3) := by decide +kernel
theorem dL_undone_335 : decode cL_undone 335 = .ok (.aload_n 1, 1) := by decide +kernel
theorem dL_undone_336 : decode cL_undone 336 = .ok (.invokestatic 401, 3) := by decide +kernel
theorem dL_undone_339 : decode cL_undone 339 = .ok (.aload_n 2, 1) := by decide +kernel
theorem dL_undone_340 : decode cL_undone 340 = .ok (.iload_n 3, 1) := by decide +kernel
theorem dL_undone_341 : decode cL_undone 341 = .ok (.laload, 1) := by decide +kernel
theorem dL_undone_342 : decode cL_undone 342 = .ok (.lcmp, 1) := by decide +kernel
theorem dL_undone_343 : decode cL_undone 343 = .ok (.ifCond .eq 5, 3) := by decide +kernel
theorem dL_undone_346 : decode cL_undone 346 = .ok (.iconst 0, 1) := by decide +kernel
theorem dL_undone_347 : decode cL_undone 347 = .ok (.ireturn, 1) := by decide +kernel
theorem dL_undone_348 : decode cL_undone 348 = .ok (.iload_n 3, 1) := by decide +kernel
theorem dL_undone_349 : decode cL_undone 349 = .ok (.iload 7, 2) := by decide +kernel
theorem dL_undone_351 : decode cL_undone 351 = .ok (.ifCond .ge 7, 3) := by decide +kernel
theorem dL_undone_354 : decode cL_undone 354 = .ok (.iconst 0, 1) := by decide +kernel
theorem dL_undone_355 : decode cL_undone 355 = .ok (.goto 4, 3) := by decide +kernel
theorem dL_undone_358 : decode cL_undone 358 = .ok (.iconst 1, 1) := by decide +kernel
theorem dL_undone_359 : decode cL_undone 359 = .ok (.iadd, 1) := by decide +kernel
theorem dL_undone_360 : decode cL_undone 360 = .ok (.istore_n 3, 1) := by decide +kernel
theorem dL_undone_361 : decode cL_undone 361 = .ok (.iinc 4 1, 3) := by decide +kernel
theorem dL_undone_364 : decode cL_undone 364 = .ok (.goto (-354), 3) := by decide +kernel
theorem dL_undone_367 : decode cL_undone 367 = .ok (.iload_n 3, 1) := by decide +kernel
theorem dL_undone_368 : decode cL_undone 368 = .ok (.iconst 1, 1) := by decide +kernel
theorem dL_undone_369 : decode cL_undone 369 = .ok (.isub, 1) := by decide +kernel
theorem dL_undone_370 : decode cL_undone 370 = .ok (.istore 4, 2) := by decide +kernel
theorem dL_undone_372 : decode cL_undone 372 = .ok (.iload 4, 2) := by decide +kernel
theorem dL_undone_374 : decode cL_undone 374 = .ok (.ifCond .lt 30, 3) := by decide +kernel
theorem dL_undone_377 : decode cL_undone 377 = .ok (.aload_n 1, 1) := by decide +kernel
theorem dL_undone_378 : decode cL_undone 378 = .ok (.invokestatic 419, 3) := by decide +kernel
theorem dL_undone_381 : decode cL_undone 381 = .ok (.ifCond .lt 15, 3) := by decide +kernel
theorem dL_undone_384 : decode cL_undone 384 = .ok (.aload_n 1, 1) := by decide +kernel
theorem dL_undone_385 : decode cL_undone 385 = .ok (.invokestatic 401, 3) := by decide +kernel
theorem dL_undone_388 : decode cL_undone 388 = .ok (.aload_n 2, 1) := by decide +kernel
theorem dL_undone_389 : decode cL_undone 389 = .ok (.iload 4, 2) := by decide +kernel
theorem dL_undone_391 : decode cL_undone 391 = .ok (.laload, 1) := by decide +kernel
theorem dL_undone_392 : decode cL_undone 392 = .ok (.lcmp, 1) := by decide +kernel
theorem dL_undone_393 : decode cL_undone 393 = .ok (.ifCond .eq 5, 3) := by decide +kernel
theorem dL_undone_396 : decode cL_undone 396 = .ok (.iconst 0, 1) := by decide +kernel
theorem dL_undone_397 : decode cL_undone 397 = .ok (.ireturn, 1) := by decide +kernel
theorem dL_undone_398 : decode cL_undone 398 = .ok (.iinc 4 (-1), 3) := by decide +kernel
theorem dL_undone_401 : decode cL_undone 401 = .ok (.goto (-29), 3) := by decide +kernel
theorem dL_undone_404 : decode cL_undone 404 = .ok (.iconst 1, 1) := by decide +kernel
theorem dL_undone_405 : decode cL_undone 405 = .ok (.ireturn, 1) := by decide +kernel
