/-! the law's code, 1 -/
theorem dL_share_16 : decode cL_share 16 = .ok (.ldc2_w 195, 3) := by decide +kernel
theorem dL_share_19 : decode cL_share 19 = .ok (.aload_n 1, 1) := by decide +kernel
theorem dL_share_20 : decode cL_share 20 = .ok (.aload_n 2, 1) := by decide +kernel
theorem dL_share_21 : decode cL_share 21 = .ok (.invokestatic 187, 3) := by decide +kernel
theorem dL_share_24 : decode cL_share 24 = .ok (.aload_n 1, 1) := by decide +kernel
theorem dL_share_25 : decode cL_share 25 = .ok (.iconst 0, 1) := by decide +kernel
theorem dL_share_26 : decode cL_share 26 = .ok (.iaload, 1) := by decide +kernel
theorem dL_share_27 : decode cL_share 27 = .ok (.aload_n 2, 1) := by decide +kernel
theorem dL_share_28 : decode cL_share 28 = .ok (.iconst 0, 1) := by decide +kernel
theorem dL_share_29 : decode cL_share 29 = .ok (.iaload, 1) := by decide +kernel
theorem dL_share_30 : decode cL_share 30 = .ok (.iadd, 1) := by decide +kernel
theorem dL_share_31 : decode cL_share 31 = .ok (.i2l, 1) := by decide +kernel
theorem dL_share_32 : decode cL_share 32 = .ok (.ldiv, 1) := by decide +kernel
theorem dL_share_33 : decode cL_share 33 = .ok (.invokestatic 197, 3) := by decide +kernel
theorem dL_share_36 : decode cL_share 36 = .ok (.l2i, 1) := by decide +kernel
theorem dL_share_37 : decode cL_share 37 = .ok (.ireturn, 1) := by decide +kernel
theorem dL_tick_0 : decode cL_tick 0 = .ok (.aload_n 0, 1) := by decide +kernel
theorem dL_tick_1 : decode cL_tick 1 = .ok (.astore_n 2, 1) := by decide +kernel
theorem dL_tick_2 : decode cL_tick 2 = .ok (.aload_n 2, 1) := by decide +kernel
theorem dL_tick_3 : decode cL_tick 3 = .ok (.arraylength, 1) := by decide +kernel
theorem dL_tick_4 : decode cL_tick 4 = .ok (.istore_n 3, 1) := by decide +kernel
theorem dL_tick_5 : decode cL_tick 5 = .ok (.iconst 0, 1) := by decide +kernel
theorem dL_tick_6 : decode cL_tick 6 = .ok (.istore 4, 2) := by decide +kernel
theorem dL_tick_8 : decode cL_tick 8 = .ok (.iload 4, 2) := by decide +kernel
theorem dL_tick_10 : decode cL_tick 10 = .ok (.iload_n 3, 1) := by decide +kernel
theorem dL_tick_11 : decode cL_tick 11 = .ok (.if_icmp .ge 56, 3) := by decide +kernel
theorem dL_tick_14 : decode cL_tick 14 = .ok (.aload_n 2, 1) := by decide +kernel
theorem dL_tick_15 : decode cL_tick 15 = .ok (.iload 4, 2) := by decide +kernel
theorem dL_tick_17 : decode cL_tick 17 = .ok (.aaload, 1) := by decide +kernel
theorem dL_tick_18 : decode cL_tick 18 = .ok (.astore 5, 2) := by decide +kernel
theorem dL_tick_20 : decode cL_tick 20 = .ok (.aload 5, 2) := by decide +kernel
theorem dL_tick_22 : decode cL_tick 22 = .ok (.iconst 0, 1) := by decide +kernel
theorem dL_tick_23 : decode cL_tick 23 = .ok (.iaload, 1) := by decide +kernel
theorem dL_tick_24 : decode cL_tick 24 = .ok (.ifCond .le 37, 3) := by decide +kernel
theorem dL_tick_27 : decode cL_tick 27 = .ok (.aload 5, 2) := by decide +kernel
theorem dL_tick_29 : decode cL_tick 29 = .ok (.iconst 1, 1) := by decide +kernel
theorem dL_tick_30 : decode cL_tick 30 = .ok (.iaload, 1) := by decide +kernel
theorem dL_tick_31 : decode cL_tick 31 = .ok (.bipush 20, 2) := by decide +kernel
theorem dL_tick_33 : decode cL_tick 33 = .ok (.aload 5, 2) := by decide +kernel
theorem dL_tick_35 : decode cL_tick 35 = .ok (.iconst 0, 1) := by decide +kernel
theorem dL_tick_36 : decode cL_tick 36 = .ok (.iaload, 1) := by decide +kernel
theorem dL_tick_37 : decode cL_tick 37 = .ok (.imul, 1) := by decide +kernel
theorem dL_tick_38 : decode cL_tick 38 = .ok (.isub, 1) := by decide +kernel
theorem dL_tick_39 : decode cL_tick 39 = .ok (.bipush 10, 2) := by decide +kernel
theorem dL_tick_41 : decode cL_tick 41 = .ok (.idiv, 1) := by decide +kernel
theorem dL_tick_42 : decode cL_tick 42 = .ok (.istore 6, 2) := by decide +kernel
theorem dL_tick_44 : decode cL_tick 44 = .ok (.aload 5, 2) := by decide +kernel
theorem dL_tick_46 : decode cL_tick 46 = .ok (.iconst 1, 1) := by decide +kernel
theorem dL_tick_47 : decode cL_tick 47 = .ok (.dup2, 1) := by decide +kernel
theorem dL_tick_48 : decode cL_tick 48 = .ok (.iaload, 1) := by decide +kernel
theorem dL_tick_49 : decode cL_tick 49 = .ok (.iload 6, 2) := by decide +kernel
theorem dL_tick_51 : decode cL_tick 51 = .ok (.isub, 1) := by decide +kernel
theorem dL_tick_52 : decode cL_tick 52 = .ok (.iastore, 1) := by decide +kernel
theorem dL_tick_53 : decode cL_tick 53 = .ok (.aload_n 1, 1) := by decide +kernel
theorem dL_tick_54 : decode cL_tick 54 = .ok (.iconst 1, 1) := by decide +kernel
theorem dL_tick_55 : decode cL_tick 55 = .ok (.dup2, 1) := by decide +kernel
theorem dL_tick_56 : decode cL_tick 56 = .ok (.iaload, 1) := by decide +kernel
theorem dL_tick_57 : decode cL_tick 57 = .ok (.iload 6, 2) := by decide +kernel
theorem dL_tick_59 : decode cL_tick 59 = .ok (.iadd, 1) := by decide +kernel
theorem dL_tick_60 : decode cL_tick 60 = .ok (.iastore, 1) := by decide +kernel
theorem dL_tick_61 : decode cL_tick 61 = .ok (.iinc 4 1, 3) := by decide +kernel
theorem dL_tick_64 : decode cL_tick 64 = .ok (.goto (-56), 3) := by decide +kernel
theorem dL_tick_67 : decode cL_tick 67 = .ok (.aload_n 0, 1) := by decide +kernel
theorem dL_tick_68 : decode cL_tick 68 = .ok (.astore_n 2, 1) := by decide +kernel
theorem dL_tick_69 : decode cL_tick 69 = .ok (.aload_n 2, 1) := by decide +kernel
theorem dL_tick_70 : decode cL_tick 70 = .ok (.arraylength, 1) := by decide +kernel
theorem dL_tick_71 : decode cL_tick 71 = .ok (.istore_n 3, 1) := by decide +kernel
theorem dL_tick_72 : decode cL_tick 72 = .ok (.iconst 0, 1) := by decide +kernel
theorem dL_tick_73 : decode cL_tick 73 = .ok (.istore 4, 2) := by decide +kernel
theorem dL_tick_75 : decode cL_tick 75 = .ok (.iload 4, 2) := by decide +kernel
theorem dL_tick_77 : decode cL_tick 77 = .ok (.iload_n 3, 1) := by decide +kernel
theorem dL_tick_78 : decode cL_tick 78 = .ok (.if_icmp .ge 95, 3) := by decide +kernel
theorem dL_tick_81 : decode cL_tick 81 = .ok (.aload_n 2, 1) := by decide +kernel
theorem dL_tick_82 : decode cL_tick 82 = .ok (.iload 4, 2) := by decide +kernel
theorem dL_tick_84 : decode cL_tick 84 = .ok (.aaload, 1) := by decide +kernel
theorem dL_tick_85 : decode cL_tick 85 = .ok (.astore 5, 2) := by decide +kernel
theorem dL_tick_87 : decode cL_tick 87 = .ok (.aload 5, 2) := by decide +kernel
theorem dL_tick_89 : decode cL_tick 89 = .ok (.iconst 0, 1) := by decide +kernel
theorem dL_tick_90 : decode cL_tick 90 = .ok (.iaload, 1) := by decide +kernel
theorem dL_tick_91 : decode cL_tick 91 = .ok (.ifCond .le 76, 3) := by decide +kernel
theorem dL_tick_94 : decode cL_tick 94 = .ok (.aload 5, 2) := by decide +kernel
theorem dL_tick_96 : decode cL_tick 96 = .ok (.iconst 2, 1) := by decide +kernel
theorem dL_tick_97 : decode cL_tick 97 = .ok (.iaload, 1) := by decide +kernel
theorem dL_tick_98 : decode cL_tick 98 = .ok (.ifCond .ne 69, 3) := by decide +kernel
theorem dL_tick_101 : decode cL_tick 101 = .ok (.aload 5, 2) := by decide +kernel
theorem dL_tick_103 : decode cL_tick 103 = .ok (.iconst 0, 1) := by decide +kernel
theorem dL_tick_104 : decode cL_tick 104 = .ok (.iaload, 1) := by decide +kernel
theorem dL_tick_105 : decode cL_tick 105 = .ok (.iconst 3, 1) := by decide +kernel
theorem dL_tick_106 : decode cL_tick 106 = .ok (.if_icmp .ge 10, 3) := by decide +kernel
theorem dL_tick_109 : decode cL_tick 109 = .ok (.aload 5, 2) := by decide +kernel
theorem dL_tick_111 : decode cL_tick 111 = .ok (.iconst 0, 1) := by decide +kernel
theorem dL_tick_112 : decode cL_tick 112 = .ok (.iaload, 1) := by decide +kernel
theorem dL_tick_113 : decode cL_tick 113 = .ok (.goto 4, 3) := by decide +kernel
theorem dL_tick_116 : decode cL_tick 116 = .ok (.iconst 3, 1) := by decide +kernel
theorem dL_tick_117 : decode cL_tick 117 = .ok (.istore 6, 2) := by decide +kernel
theorem dL_tick_119 : decode cL_tick 119 = .ok (.aload 5, 2) := by decide +kernel
theorem dL_tick_121 : decode cL_tick 121 = .ok (.iconst 1, 1) := by decide +kernel
theorem dL_tick_122 : decode cL_tick 122 = .ok (.iaload, 1) := by decide +kernel
theorem dL_tick_123 : decode cL_tick 123 = .ok (.iload 6, 2) := by decide +kernel
theorem dL_tick_125 : decode cL_tick 125 = .ok (.imul, 1) := by decide +kernel
theorem dL_tick_126 : decode cL_tick 126 = .ok (.aload 5, 2) := by decide +kernel
theorem dL_tick_128 : decode cL_tick 128 = .ok (.iconst 0, 1) := by decide +kernel
theorem dL_tick_129 : decode cL_tick 129 = .ok (.iaload, 1) := by decide +kernel
theorem dL_tick_130 : decode cL_tick 130 = .ok (.idiv, 1) := by decide +kernel
theorem dL_tick_131 : decode cL_tick 131 = .ok (.istore 7, 2) := by decide +kernel
theorem dL_tick_133 : decode cL_tick 133 = .ok (.aload 5, 2) := by decide +kernel
theorem dL_tick_135 : decode cL_tick 135 = .ok (.iconst 0, 1) := by decide +kernel
theorem dL_tick_136 : decode cL_tick 136 = .ok (.dup2, 1) := by decide +kernel
theorem dL_tick_137 : decode cL_tick 137 = .ok (.iaload, 1) := by decide +kernel
theorem dL_tick_138 : decode cL_tick 138 = .ok (.iload 6, 2) := by decide +kernel
theorem dL_tick_140 : decode cL_tick 140 = .ok (.isub, 1) := by decide +kernel
theorem dL_tick_141 : decode cL_tick 141 = .ok (.iastore, 1) := by decide +kernel
theorem dL_tick_142 : decode cL_tick 142 = .ok (.aload 5, 2) := by decide +kernel
theorem dL_tick_144 : decode cL_tick 144 = .ok (.iconst 1, 1) := by decide +kernel
theorem dL_tick_145 : decode cL_tick 145 = .ok (.dup2, 1) := by decide +kernel
theorem dL_tick_146 : decode cL_tick 146 = .ok (.iaload, 1) := by decide +kernel
theorem dL_tick_147 : decode cL_tick 147 = .ok (.iload 7, 2) := by decide +kernel
theorem dL_tick_149 : decode cL_tick 149 = .ok (.isub, 1) := by decide +kernel
theorem dL_tick_150 : decode cL_tick 150 = .ok (.iastore, 1) := by decide +kernel
theorem dL_tick_151 : decode cL_tick 151 = .ok (.aload_n 1, 1) := by decide +kernel
theorem dL_tick_152 : decode cL_tick 152 = .ok (.iconst 0, 1) := by decide +kernel
theorem dL_tick_153 : decode cL_tick 153 = .ok (.dup2, 1) := by decide +kernel
theorem dL_tick_154 : decode cL_tick 154 = .ok (.iaload, 1) := by decide +kernel
theorem dL_tick_155 : decode cL_tick 155 = .ok (.iload 6, 2) := by decide +kernel
theorem dL_tick_157 : decode cL_tick 157 = .ok (.iadd, 1) := by decide +kernel
theorem dL_tick_158 : decode cL_tick 158 = .ok (.iastore, 1) := by decide +kernel
theorem dL_tick_159 : decode cL_tick 159 = .ok (.aload_n 1, 1) := by decide +kernel
theorem dL_tick_160 : decode cL_tick 160 = .ok (.iconst 1, 1) := by decide +kernel
theorem dL_tick_161 : decode cL_tick 161 = .ok (.dup2, 1) := by decide +kernel
theorem dL_tick_162 : decode cL_tick 162 = .ok (.iaload, 1) := by decide +kernel
theorem dL_tick_163 : decode cL_tick 163 = .ok (.iload 7, 2) := by decide +kernel
theorem dL_tick_165 : decode cL_tick 165 = .ok (.iadd, 1) := by decide +kernel
theorem dL_tick_166 : decode cL_tick 166 = .ok (.iastore, 1) := by decide +kernel
theorem dL_tick_167 : decode cL_tick 167 = .ok (.iinc 4 1, 3) := by decide +kernel
theorem dL_tick_170 : decode cL_tick 170 = .ok (.goto (-95), 3) := by decide +kernel
theorem dL_tick_173 : decode cL_tick 173 = .ok (.aload_n 0, 1) := by decide +kernel
theorem dL_tick_174 : decode cL_tick 174 = .ok (.invokestatic 203, 3) := by decide +kernel
theorem dL_tick_177 : decode cL_tick 177 = .ok (.iconst 1, 1) := by decide +kernel
theorem dL_tick_178 : decode cL_tick 178 = .ok (.if_icmp .le 40, 3) := by decide +kernel
theorem dL_tick_181 : decode cL_tick 181 = .ok (.aload_n 0, 1) := by decide +kernel
theorem dL_tick_182 : decode cL_tick 182 = .ok (.invokestatic 207, 3) := by decide +kernel
theorem dL_tick_185 : decode cL_tick 185 = .ok (.istore_n 2, 1) := by decide +kernel
theorem dL_tick_186 : decode cL_tick 186 = .ok (.aload_n 0, 1) := by decide +kernel
theorem dL_tick_187 : decode cL_tick 187 = .ok (.iconst 1, 1) := by decide +kernel
theorem dL_tick_188 : decode cL_tick 188 = .ok (.invokestatic 191, 3) := by decide +kernel
theorem dL_tick_191 : decode cL_tick 191 = .ok (.istore_n 3, 1) := by decide +kernel
theorem dL_tick_192 : decode cL_tick 192 = .ok (.aload_n 0, 1) := by decide +kernel
theorem dL_tick_193 : decode cL_tick 193 = .ok (.iconst 0, 1) := by decide +kernel
theorem dL_tick_194 : decode cL_tick 194 = .ok (.invokestatic 191, 3) := by decide +kernel
theorem dL_tick_197 : decode cL_tick 197 = .ok (.istore 4, 2) := by decide +kernel
theorem dL_tick_199 : decode cL_tick 199 = .ok (.aload_n 0, 1) := by decide +kernel
theorem dL_tick_200 : decode cL_tick 200 = .ok (.iload_n 3, 1) := by decide +kernel
theorem dL_tick_201 : decode cL_tick 201 = .ok (.aaload, 1) := by decide +kernel
theorem dL_tick_202 : decode cL_tick 202 = .ok (.iconst 1, 1) := by decide +kernel
theorem dL_tick_203 : decode cL_tick 203 = .ok (.dup2, 1) := by decide +kernel
theorem dL_tick_204 : decode cL_tick 204 = .ok (.iaload, 1) := by decide +kernel
theorem dL_tick_205 : decode cL_tick 205 = .ok (.iload_n 2, 1) := by decide +kernel
theorem dL_tick_206 : decode cL_tick 206 = .ok (.isub, 1) := by decide +kernel
theorem dL_tick_207 : decode cL_tick 207 = .ok (.iastore, 1) := by decide +kernel
theorem dL_tick_208 : decode cL_tick 208 = .ok (.aload_n 0, 1) := by decide +kernel
theorem dL_tick_209 : decode cL_tick 209 = .ok (.iload 4, 2) := by decide +kernel
theorem dL_tick_211 : decode cL_tick 211 = .ok (.aaload, 1) := by decide +kernel
theorem dL_tick_212 : decode cL_tick 212 = .ok (.iconst 1, 1) := by decide +kernel
theorem dL_tick_213 : decode cL_tick 213 = .ok (.dup2, 1) := by decide +kernel
theorem dL_tick_214 : decode cL_tick 214 = .ok (.iaload, 1) := by decide +kernel
theorem dL_tick_215 : decode cL_tick 215 = .ok (.iload_n 2, 1) := by decide +kernel
theorem dL_tick_216 : decode cL_tick 216 = .ok (.iadd, 1) := by decide +kernel
theorem dL_tick_217 : decode cL_tick 217 = .ok (.iastore, 1) := by decide +kernel
theorem dL_tick_218 : decode cL_tick 218 = .ok (.iconst 0, 1) := by decide +kernel
theorem dL_tick_219 : decode cL_tick 219 = .ok (.istore_n 2, 1) := by decide +kernel
theorem dL_tick_220 : decode cL_tick 220 = .ok (.iconst 0, 1) := by decide +kernel
theorem dL_tick_221 : decode cL_tick 221 = .ok (.istore_n 3, 1) := by decide +kernel
theorem dL_tick_222 : decode cL_tick 222 = .ok (.iload_n 3, 1) := by decide +kernel
theorem dL_tick_223 : decode cL_tick 223 = .ok (.aload_n 0, 1) := by decide +kernel
theorem dL_tick_224 : decode cL_tick 224 = .ok (.arraylength, 1) := by decide +kernel
theorem dL_tick_225 : decode cL_tick 225 = .ok (.if_icmp .ge 54, 3) := by decide +kernel
theorem dL_tick_228 : decode cL_tick 228 = .ok (.aload_n 0, 1) := by decide +kernel
theorem dL_tick_229 : decode cL_tick 229 = .ok (.iload_n 3, 1) := by decide +kernel
theorem dL_tick_230 : decode cL_tick 230 = .ok (.aaload, 1) := by decide +kernel
theorem dL_tick_231 : decode cL_tick 231 = .ok (.iconst 3, 1) := by decide +kernel
theorem dL_tick_232 : decode cL_tick 232 = .ok (.iaload, 1) := by decide +kernel
theorem dL_tick_233 : decode cL_tick 233 = .ok (.iconst 1, 1) := by decide +kernel
theorem dL_tick_234 : decode cL_tick 234 = .ok (.if_icmp .ne 39, 3) := by decide +kernel
theorem dL_tick_237 : decode cL_tick 237 = .ok (.aload_n 0, 1) := by decide +kernel
theorem dL_tick_238 : decode cL_tick 238 = .ok (.iload_n 3, 1) := by decide +kernel
theorem dL_tick_239 : decode cL_tick 239 = .ok (.aaload, 1) := by decide +kernel
theorem dL_tick_240 : decode cL_tick 240 = .ok (.iconst 0, 1) := by decide +kernel
theorem dL_tick_241 : decode cL_tick 241 = .ok (.iaload, 1) := by decide +kernel
theorem dL_tick_242 : decode cL_tick 242 = .ok (.ifCond .eq 19, 3) := by decide +kernel
theorem dL_tick_245 : decode cL_tick 245 = .ok (.aload_n 0, 1) := by decide +kernel
theorem dL_tick_246 : decode cL_tick 246 = .ok (.iload_n 3, 1) := by decide +kernel
theorem dL_tick_247 : decode cL_tick 247 = .ok (.aaload, 1) := by decide +kernel
theorem dL_tick_248 : decode cL_tick 248 = .ok (.iconst 1, 1) := by decide +kernel
theorem dL_tick_249 : decode cL_tick 249 = .ok (.iaload, 1) := by decide +kernel
theorem dL_tick_250 : decode cL_tick 250 = .ok (.aload_n 0, 1) := by decide +kernel
theorem dL_tick_251 : decode cL_tick 251 = .ok (.iload_n 3, 1) := by decide +kernel
theorem dL_tick_252 : decode cL_tick 252 = .ok (.aaload, 1) := by decide +kernel
theorem dL_tick_253 : decode cL_tick 253 = .ok (.iconst 0, 1) := by decide +kernel
theorem dL_tick_254 : decode cL_tick 254 = .ok (.iaload, 1) := by decide +kernel
theorem dL_tick_255 : decode cL_tick 255 = .ok (.idiv, 1) := by decide +kernel
theorem dL_tick_256 : decode cL_tick 256 = .ok (.bipush 25, 2) := by decide +kernel
theorem dL_tick_258 : decode cL_tick 258 = .ok (.if_icmp .ge 15, 3) := by decide +kernel
theorem dL_tick_261 : decode cL_tick 261 = .ok (.aload_n 0, 1) := by decide +kernel
theorem dL_tick_262 : decode cL_tick 262 = .ok (.iload_n 3, 1) := by decide +kernel
theorem dL_tick_263 : decode cL_tick 263 = .ok (.aaload, 1) := by decide +kernel
theorem dL_tick_264 : decode cL_tick 264 = .ok (.iconst 3, 1) := by decide +kernel
theorem dL_tick_265 : decode cL_tick 265 = .ok (.iconst 0, 1) := by decide +kernel
theorem dL_tick_266 : decode cL_tick 266 = .ok (.iastore, 1) := by decide +kernel
theorem dL_tick_267 : decode cL_tick 267 = .ok (.iload_n 2, 1) := by decide +kernel
theorem dL_tick_268 : decode cL_tick 268 = .ok (.iconst 1, 1) := by decide +kernel
theorem dL_tick_269 : decode cL_tick 269 = .ok (.iload_n 3, 1) := by decide +kernel
theorem dL_tick_270 : decode cL_tick 270 = .ok (.ishl, 1) := by decide +kernel
theorem dL_tick_271 : decode cL_tick 271 = .ok (.ior, 1) := by decide +kernel
theorem dL_tick_272 : decode cL_tick 272 = .ok (.istore_n 2, 1) := by decide +kernel
theorem dL_tick_273 : decode cL_tick 273 = .ok (.iinc 3 1, 3) := by decide +kernel
theorem dL_tick_276 : decode cL_tick 276 = .ok (.goto (-54), 3) := by decide +kernel
theorem dL_tick_279 : decode cL_tick 279 = .ok (.iload_n 2, 1) := by decide +kernel
theorem dL_tick_280 : decode cL_tick 280 = .ok (.ireturn, 1) := by decide +kernel
theorem dL_law_0 : decode cL_law 0 = .ok (.aload_n 0, 1) := by decide +kernel
theorem dL_law_1 : decode cL_law 1 = .ok (.invokestatic 210, 3) := by decide +kernel
theorem dL_law_4 : decode cL_law 4 = .ok (.astore_n 1, 1) := by decide +kernel
theorem dL_law_5 : decode cL_law 5 = .ok (.aload_n 1, 1) := by decide +kernel
theorem dL_law_6 : decode cL_law 6 = .ok (.ifnull 51, 3) := by decide +kernel
theorem dL_law_9 : decode cL_law 9 = .ok (.aload_n 1, 1) := by decide +kernel
theorem dL_law_10 : decode cL_law 10 = .ok (.aload_n 0, 1) := by decide +kernel
theorem dL_law_11 : decode cL_law 11 = .ok (.invokestatic 214, 3) := by decide +kernel
theorem dL_law_14 : decode cL_law 14 = .ok (.ifCond .eq 43, 3) := by decide +kernel
theorem dL_law_17 : decode cL_law 17 = .ok (.aload_n 1, 1) := by decide +kernel
theorem dL_law_18 : decode cL_law 18 = .ok (.invokestatic 218, 3) := by decide +kernel
theorem dL_law_21 : decode cL_law 21 = .ok (.ifCond .eq 36, 3) := by decide +kernel
theorem dL_law_24 : decode cL_law 24 = .ok (.aload_n 1, 1) := by decide +kernel
theorem dL_law_25 : decode cL_law 25 = .ok (.invokestatic 222, 3) := by decide +kernel
theorem dL_law_28 : decode cL_law 28 = .ok (.ifCond .eq 29, 3) := by decide +kernel
theorem dL_law_31 : decode cL_law 31 = .ok (.aload_n 1, 1) := by decide +kernel
theorem dL_law_32 : decode cL_law 32 = .ok (.invokestatic 225, 3) := by decide +kernel
theorem dL_law_35 : decode cL_law 35 = .ok (.ifCond .eq 22, 3) := by decide +kernel
theorem dL_law_38 : decode cL_law 38 = .ok (.aload_n 1, 1) := by decide +kernel
theorem dL_law_39 : decode cL_law 39 = .ok (.invokestatic 228, 3) := by decide +kernel
theorem dL_law_42 : decode cL_law 42 = .ok (.ifCond .eq 15, 3) := by decide +kernel
theorem dL_law_45 : decode cL_law 45 = .ok (.aload_n 0, 1) := by decide +kernel
theorem dL_law_46 : decode cL_law 46 = .ok (.aload_n 1, 1) := by decide +kernel
theorem dL_law_47 : decode cL_law 47 = .ok (.invokestatic 231, 3) := by decide +kernel
theorem dL_law_50 : decode cL_law 50 = .ok (.ifCond .eq 7, 3) := by decide +kernel
theorem dL_law_53 : decode cL_law 53 = .ok (.iconst 1, 1) := by decide +kernel
theorem dL_law_54 : decode cL_law 54 = .ok (.goto 4, 3) := by decide +kernel
theorem dL_law_57 : decode cL_law 57 = .ok (.iconst 0, 1) := by decide +kernel
theorem dL_law_58 : decode cL_law 58 = .ok (.ireturn, 1) := by decide +kernel
theorem dL_warmed_0 : decode cL_warmed 0 = .ok (.aload_n 0, 1) := by decide +kernel
theorem dL_warmed_1 : decode cL_warmed 1 = .ok (.invokestatic 235, 3) := by decide +kernel
theorem dL_warmed_4 : decode cL_warmed 4 = .ok (.astore_n 2, 1) := by decide +kernel
theorem dL_warmed_5 : decode cL_warmed 5 = .ok (.aload_n 2, 1) := by decide +kernel
theorem dL_warmed_6 : decode cL_warmed 6 = .ok (.arraylength, 1) := by decide +kernel
theorem dL_warmed_7 : decode cL_warmed 7 = .ok (.istore_n 3, 1) := by decide +kernel
theorem dL_warmed_8 : decode cL_warmed 8 = .ok (.iconst 0, 1) := by decide +kernel
theorem dL_warmed_9 : decode cL_warmed 9 = .ok (.istore 4, 2) := by decide +kernel
theorem dL_warmed_11 : decode cL_warmed 11 = .ok (.iload 4, 2) := by decide +kernel
theorem dL_warmed_13 : decode cL_warmed 13 = .ok (.iload_n 3, 1) := by decide +kernel
theorem dL_warmed_14 : decode cL_warmed 14 = .ok (.if_icmp .ge 349, 3) := by decide +kernel
theorem dL_warmed_17 : decode cL_warmed 17 = .ok (.aload_n 2, 1) := by decide +kernel
theorem dL_warmed_18 : decode cL_warmed 18 = .ok (.iload 4, 2) := by decide +kernel
theorem dL_warmed_20 : decode cL_warmed 20 = .ok (.aaload, 1) := by decide +kernel
theorem dL_warmed_21 : decode cL_warmed 21 = .ok (.iconst 0, 1) := by decide +kernel
theorem dL_warmed_22 : decode cL_warmed 22 = .ok (.iaload, 1) := by decide +kernel
theorem dL_warmed_23 : decode cL_warmed 23 = .ok (.ifCond .le 7, 3) := by decide +kernel
theorem dL_warmed_26 : decode cL_warmed 26 = .ok (.iconst 1, 1) := by decide +kernel
theorem dL_warmed_27 : decode cL_warmed 27 = .ok (.goto 4, 3) := by decide +kernel
theorem dL_warmed_30 : decode cL_warmed 30 = .ok (.iconst 0, 1) := by decide +kernel
theorem dL_warmed_31 : decode cL_warmed 31 = .ok (.istore 5, 2) := by decide +kernel
theorem dL_warmed_33 : decode cL_warmed 33 = .ok (.aload_n 0, 1) := by decide +kernel
theorem dL_warmed_34 : decode cL_warmed 34 = .ok (.iload 4, 2) := by decide +kernel
theorem dL_warmed_36 : decode cL_warmed 36 = .ok (.invokestatic 239, 3) := by decide +kernel
theorem dL_warmed_39 : decode cL_warmed 39 = .ok (.iload 5, 2) := by decide +kernel
theorem dL_warmed_41 : decode cL_warmed 41 = .ok (.ifCond .eq 19, 3) := by decide +kernel
theorem dL_warmed_44 : decode cL_warmed 44 = .ok (.aload_n 2, 1) := by decide +kernel
theorem dL_warmed_45 : decode cL_warmed 45 = .ok (.iload 4, 2) := by decide +kernel
theorem dL_warmed_47 : decode cL_warmed 47 = .ok (.aaload, 1) := by decide +kernel
theorem dL_warmed_48 : decode cL_warmed 48 = .ok (.iconst 1, 1) := by decide +kernel
theorem dL_warmed_49 : decode cL_warmed 49 = .ok (.iaload, 1) := by decide +kernel
theorem dL_warmed_50 : decode cL_warmed 50 = .ok (.aload_n 2, 1) := by decide +kernel
theorem dL_warmed_51 : decode cL_warmed 51 = .ok (.iload 4, 2) := by decide +kernel
theorem dL_warmed_53 : decode cL_warmed 53 = .ok (.aaload, 1) := by decide +kernel
theorem dL_warmed_54 : decode cL_warmed 54 = .ok (.iconst 0, 1) := by decide +kernel
theorem dL_warmed_55 : decode cL_warmed 55 = .ok (.iaload, 1) := by decide +kernel
theorem dL_warmed_56 : decode cL_warmed 56 = .ok (.idiv, 1) := by decide +kernel
theorem dL_warmed_57 : decode cL_warmed 57 = .ok (.goto 5, 3) := by decide +kernel
theorem dL_warmed_60 : decode cL_warmed 60 = .ok (.bipush (-13), 2) := by decide +kernel
theorem dL_warmed_62 : decode cL_warmed 62 = .ok (.if_icmp .ne 47, 3) := by decide +kernel
theorem dL_warmed_65 : decode cL_warmed 65 = .ok (.iload 5, 2) := by decide +kernel
theorem dL_warmed_67 : decode cL_warmed 67 = .ok (.ifCond .eq 28, 3) := by decide +kernel
theorem dL_warmed_70 : decode cL_warmed 70 = .ok (.aload_n 0, 1) := by decide +kernel
theorem dL_warmed_71 : decode cL_warmed 71 = .ok (.iload 4, 2) := by decide +kernel
theorem dL_warmed_73 : decode cL_warmed 73 = .ok (.invokevirtual 241, 3) := by decide +kernel
theorem dL_warmed_76 : decode cL_warmed 76 = .ok (.aload_n 2, 1) := by decide +kernel
theorem dL_warmed_77 : decode cL_warmed 77 = .ok (.iload 4, 2) := by decide +kernel
theorem dL_warmed_79 : decode cL_warmed 79 = .ok (.aaload, 1) := by decide +kernel
theorem dL_warmed_80 : decode cL_warmed 80 = .ok (.iconst 1, 1) := by decide +kernel
theorem dL_warmed_81 : decode cL_warmed 81 = .ok (.iaload, 1) := by decide +kernel
theorem dL_warmed_82 : decode cL_warmed 82 = .ok (.i2d, 1) := by decide +kernel
theorem dL_warmed_83 : decode cL_warmed 83 = .ok (.aload_n 2, 1) := by decide +kernel
theorem dL_warmed_84 : decode cL_warmed 84 = .ok (.iload 4, 2) := by decide +kernel
theorem dL_warmed_86 : decode cL_warmed 86 = .ok (.aaload, 1) := by decide +kernel
theorem dL_warmed_87 : decode cL_warmed 87 = .ok (.iconst 0, 1) := by decide +kernel
theorem dL_warmed_88 : decode cL_warmed 88 = .ok (.iaload, 1) := by decide +kernel
theorem dL_warmed_89 : decode cL_warmed 89 = .ok (.i2d, 1) := by decide +kernel
theorem dL_warmed_90 : decode cL_warmed 90 = .ok (.ddiv, 1) := by decide +kernel
theorem dL_warmed_91 : decode cL_warmed 91 = .ok (.dcmp .l, 1) := by decide +kernel
theorem dL_warmed_92 : decode cL_warmed 92 = .ok (.ifCond .ne 17, 3) := by decide +kernel
theorem dL_warmed_95 : decode cL_warmed 95 = .ok (.iload 5, 2) := by decide +kernel
theorem dL_warmed_97 : decode cL_warmed 97 = .ok (.ifCond .ne 14, 3) := by decide +kernel
theorem dL_warmed_100 : decode cL_warmed 100 = .ok (.aload_n 2, 1) := by decide +kernel
theorem dL_warmed_101 : decode cL_warmed 101 = .ok (.iload 4, 2) := by decide +kernel
theorem dL_warmed_103 : decode cL_warmed 103 = .ok (.aaload, 1) := by decide +kernel
theorem dL_warmed_104 : decode cL_warmed 104 = .ok (.iconst 1, 1) := by decide +kernel
theorem dL_warmed_105 : decode cL_warmed 105 = .ok (.iaload, 1) := by decide +kernel
theorem dL_warmed_106 : decode cL_warmed 106 = .ok (.ifCond .eq 5, 3) := by decide +kernel
theorem dL_warmed_109 : decode cL_warmed 109 = .ok (.iconst 0, 1) := by decide +kernel
theorem dL_warmed_110 : decode cL_warmed 110 = .ok (.ireturn, 1) := by decide +kernel
theorem dL_warmed_111 : decode cL_warmed 111 = .ok (.iconst 0, 1) := by decide +kernel
theorem dL_warmed_112 : decode cL_warmed 112 = .ok (.istore 6, 2) := by decide +kernel
theorem dL_warmed_114 : decode cL_warmed 114 = .ok (.iload 6, 2) := by decide +kernel
theorem dL_warmed_116 : decode cL_warmed 116 = .ok (.iload_n 3, 1) := by decide +kernel
theorem dL_warmed_117 : decode cL_warmed 117 = .ok (.if_icmp .ge 74, 3) := by decide +kernel
theorem dL_warmed_120 : decode cL_warmed 120 = .ok (.iload 5, 2) := by decide +kernel
theorem dL_warmed_122 : decode cL_warmed 122 = .ok (.ifCond .eq 16, 3) := by decide +kernel
theorem dL_warmed_125 : decode cL_warmed 125 = .ok (.aload_n 2, 1) := by decide +kernel
theorem dL_warmed_126 : decode cL_warmed 126 = .ok (.iload 6, 2) := by decide +kernel
theorem dL_warmed_128 : decode cL_warmed 128 = .ok (.aaload, 1) := by decide +kernel
theorem dL_warmed_129 : decode cL_warmed 129 = .ok (.iconst 0, 1) := by decide +kernel
theorem dL_warmed_130 : decode cL_warmed 130 = .ok (.iaload, 1) := by decide +kernel
theorem dL_warmed_131 : decode cL_warmed 131 = .ok (.ifCond .le 7, 3) := by decide +kernel
theorem dL_warmed_134 : decode cL_warmed 134 = .ok (.iconst 1, 1) := by decide +kernel
theorem dL_warmed_135 : decode cL_warmed 135 = .ok (.goto 4, 3) := by decide +kernel
theorem dL_warmed_138 : decode cL_warmed 138 = .ok (.iconst 0, 1) := by decide +kernel
theorem dL_warmed_139 : decode cL_warmed 139 = .ok (.istore 7, 2) := by decide +kernel
theorem dL_warmed_141 : decode cL_warmed 141 = .ok (.aload_n 0, 1) := by decide +kernel
theorem dL_warmed_142 : decode cL_warmed 142 = .ok (.iload 4, 2) := by decide +kernel
theorem dL_warmed_144 : decode cL_warmed 144 = .ok (.iload 6, 2) := by decide +kernel
theorem dL_warmed_146 : decode cL_warmed 146 = .ok (.invokestatic 245, 3) := by decide +kernel
theorem dL_warmed_149 : decode cL_warmed 149 = .ok (.iload 7, 2) := by decide +kernel
theorem dL_warmed_151 : decode cL_warmed 151 = .ok (.ifCond .ne 8, 3) := by decide +kernel
theorem dL_warmed_154 : decode cL_warmed 154 = .ok (.bipush (-13), 2) := by decide +kernel
theorem dL_warmed_156 : decode cL_warmed 156 = .ok (.goto 24, 3) := by decide +kernel
theorem dL_warmed_159 : decode cL_warmed 159 = .ok (.aload_n 2, 1) := by decide +kernel
theorem dL_warmed_160 : decode cL_warmed 160 = .ok (.iload 4, 2) := by decide +kernel
theorem dL_warmed_162 : decode cL_warmed 162 = .ok (.aaload, 1) := by decide +kernel
theorem dL_warmed_163 : decode cL_warmed 163 = .ok (.aload_n 2, 1) := by decide +kernel
theorem dL_warmed_164 : decode cL_warmed 164 = .ok (.iload 6, 2) := by decide +kernel
theorem dL_warmed_166 : decode cL_warmed 166 = .ok (.aaload, 1) := by decide +kernel
theorem dL_warmed_167 : decode cL_warmed 167 = .ok (.invokestatic 187, 3) := by decide +kernel
theorem dL_warmed_170 : decode cL_warmed 170 = .ok (.lconst 0, 1) := by decide +kernel
theorem dL_warmed_171 : decode cL_warmed 171 = .ok (.lcmp, 1) := by decide +kernel
theorem dL_warmed_172 : decode cL_warmed 172 = .ok (.ifCond .le 7, 3) := by decide +kernel
theorem dL_warmed_175 : decode cL_warmed 175 = .ok (.iconst 1, 1) := by decide +kernel
theorem dL_warmed_176 : decode cL_warmed 176 = .ok (.goto 4, 3) := by decide +kernel
theorem dL_warmed_179 : decode cL_warmed 179 = .ok (.iconst 0, 1) := by decide +kernel
theorem dL_warmed_180 : decode cL_warmed 180 = .ok (.if_icmp .eq 5, 3) := by decide +kernel
theorem dL_warmed_183 : decode cL_warmed 183 = .ok (.iconst 0, 1) := by decide +kernel
theorem dL_warmed_184 : decode cL_warmed 184 = .ok (.ireturn, 1) := by decide +kernel
theorem dL_warmed_185 : decode cL_warmed 185 = .ok (.iinc 6 1, 3) := by decide +kernel
theorem dL_warmed_188 : decode cL_warmed 188 = .ok (.goto (-74), 3) := by decide +kernel
theorem dL_warmed_191 : decode cL_warmed 191 = .ok (.iconst 0, 1) := by decide +kernel
theorem dL_warmed_192 : decode cL_warmed 192 = .ok (.istore 6, 2) := by decide +kernel
theorem dL_warmed_194 : decode cL_warmed 194 = .ok (.iload 6, 2) := by decide +kernel
theorem dL_warmed_196 : decode cL_warmed 196 = .ok (.iconst 3, 1) := by decide +kernel
theorem dL_warmed_197 : decode cL_warmed 197 = .ok (.if_icmp .ge 160, 3) := by decide +kernel
theorem dL_warmed_200 : decode cL_warmed 200 = .ok (.aload_n 1, 1) := by decide +kernel
theorem dL_warmed_201 : decode cL_warmed 201 = .ok (.iconst 2, 1) := by decide +kernel
theorem dL_warmed_202 : decode cL_warmed 202 = .ok (.iload 4, 2) := by decide +kernel
theorem dL_warmed_204 : decode cL_warmed 204 = .ok (.iadd, 1) := by decide +kernel
theorem dL_warmed_205 : decode cL_warmed 205 = .ok (.invokestatic 161, 3) := by decide +kernel
theorem dL_warmed_208 : decode cL_warmed 208 = .ok (.iconst 3, 1) := by decide +kernel
theorem dL_warmed_209 : decode cL_warmed 209 = .ok (.iushr, 1) := by decide +kernel
theorem dL_warmed_210 : decode cL_warmed 210 = .ok (.bipush 100, 2) := by decide +kernel
theorem dL_warmed_212 : decode cL_warmed 212 = .ok (.irem, 1) := by decide +kernel
theorem dL_warmed_213 : decode cL_warmed 213 = .ok (.istore 7, 2) := by decide +kernel
theorem dL_warmed_215 : decode cL_warmed 215 = .ok (.iload 5, 2) := by decide +kernel
theorem dL_warmed_217 : decode cL_warmed 217 = .ok (.ifCond .eq 8, 3) := by decide +kernel
theorem dL_warmed_220 : decode cL_warmed 220 = .ok (.bipush (-15), 2) := by decide +kernel
theorem dL_warmed_222 : decode cL_warmed 222 = .ok (.goto 5, 3) := by decide +kernel
theorem dL_warmed_225 : decode cL_warmed 225 = .ok (.bipush (-13), 2) := by decide +kernel
theorem dL_warmed_227 : decode cL_warmed 227 = .ok (.istore 8, 2) := by decide +kernel
theorem dL_warmed_229 : decode cL_warmed 229 = .ok (.bipush 100, 2) := by decide +kernel
theorem dL_warmed_231 : decode cL_warmed 231 = .ok (.aload_n 2, 1) := by decide +kernel
theorem dL_warmed_232 : decode cL_warmed 232 = .ok (.iload 4, 2) := by decide +kernel
theorem dL_warmed_234 : decode cL_warmed 234 = .ok (.aaload, 1) := by decide +kernel
theorem dL_warmed_235 : decode cL_warmed 235 = .ok (.iconst 0, 1) := by decide +kernel
theorem dL_warmed_236 : decode cL_warmed 236 = .ok (.iaload, 1) := by decide +kernel
theorem dL_warmed_237 : decode cL_warmed 237 = .ok (.isub, 1) := by decide +kernel
theorem dL_warmed_238 : decode cL_warmed 238 = .ok (.istore 9, 2) := by decide +kernel
theorem dL_warmed_240 : decode cL_warmed 240 = .ok (.iload 9, 2) := by decide +kernel
theorem dL_warmed_242 : decode cL_warmed 242 = .ok (.ifCond .lt 77, 3) := by decide +kernel
theorem dL_warmed_245 : decode cL_warmed 245 = .ok (.iload 5, 2) := by decide +kernel
theorem dL_warmed_247 : decode cL_warmed 247 = .ok (.ifCond .eq 72, 3) := by decide +kernel
theorem dL_warmed_250 : decode cL_warmed 250 = .ok (.aload_n 2, 1) := by decide +kernel
theorem dL_warmed_251 : decode cL_warmed 251 = .ok (.iload 4, 2) := by decide +kernel
theorem dL_warmed_253 : decode cL_warmed 253 = .ok (.aaload, 1) := by decide +kernel
theorem dL_warmed_254 : decode cL_warmed 254 = .ok (.iconst 1, 1) := by decide +kernel
theorem dL_warmed_255 : decode cL_warmed 255 = .ok (.iaload, 1) := by decide +kernel
theorem dL_warmed_256 : decode cL_warmed 256 = .ok (.iload 9, 2) := by decide +kernel
theorem dL_warmed_258 : decode cL_warmed 258 = .ok (.bipush 10, 2) := by decide +kernel
theorem dL_warmed_260 : decode cL_warmed 260 = .ok (.bipush 30, 2) := by decide +kernel
theorem dL_warmed_262 : decode cL_warmed 262 = .ok (.iload 6, 2) := by decide +kernel
theorem dL_warmed_264 : decode cL_warmed 264 = .ok (.imul, 1) := by decide +kernel
theorem dL_warmed_265 : decode cL_warmed 265 = .ok (.iadd, 1) := by decide +kernel
theorem dL_warmed_266 : decode cL_warmed 266 = .ok (.imul, 1) := by decide +kernel
theorem dL_warmed_267 : decode cL_warmed 267 = .ok (.iadd, 1) := by decide +kernel
theorem dL_warmed_268 : decode cL_warmed 268 = .ok (.aload_n 2, 1) := by decide +kernel
theorem dL_warmed_269 : decode cL_warmed 269 = .ok (.iload 4, 2) := by decide +kernel
theorem dL_warmed_271 : decode cL_warmed 271 = .ok (.aaload, 1) := by decide +kernel
theorem dL_warmed_272 : decode cL_warmed 272 = .ok (.iconst 0, 1) := by decide +kernel
theorem dL_warmed_273 : decode cL_warmed 273 = .ok (.iaload, 1) := by decide +kernel
theorem dL_warmed_274 : decode cL_warmed 274 = .ok (.iload 9, 2) := by decide +kernel
theorem dL_warmed_276 : decode cL_warmed 276 = .ok (.iadd, 1) := by decide +kernel
theorem dL_warmed_277 : decode cL_warmed 277 = .ok (.idiv, 1) := by decide +kernel
theorem dL_warmed_278 : decode cL_warmed 278 = .ok (.istore 10, 2) := by decide +kernel
theorem dL_warmed_280 : decode cL_warmed 280 = .ok (.iload 6, 2) := by decide +kernel
theorem dL_warmed_282 : decode cL_warmed 282 = .ok (.ifCond .ne 10, 3) := by decide +kernel
theorem dL_warmed_285 : decode cL_warmed 285 = .ok (.iload 10, 2) := by decide +kernel
theorem dL_warmed_287 : decode cL_warmed 287 = .ok (.iload 7, 2) := by decide +kernel
theorem dL_warmed_289 : decode cL_warmed 289 = .ok (.if_icmp .le 15, 3) := by decide +kernel
theorem dL_warmed_292 : decode cL_warmed 292 = .ok (.iload 6, 2) := by decide +kernel
theorem dL_warmed_294 : decode cL_warmed 294 = .ok (.ifCond .le 15, 3) := by decide +kernel
theorem dL_warmed_297 : decode cL_warmed 297 = .ok (.iload 10, 2) := by decide +kernel
theorem dL_warmed_299 : decode cL_warmed 299 = .ok (.iload 7, 2) := by decide +kernel
theorem dL_warmed_301 : decode cL_warmed 301 = .ok (.if_icmp .lt 8, 3) := by decide +kernel
theorem dL_warmed_304 : decode cL_warmed 304 = .ok (.iload 9, 2) := by decide +kernel
theorem dL_warmed_306 : decode cL_warmed 306 = .ok (.goto 5, 3) := by decide +kernel
theorem dL_warmed_309 : decode cL_warmed 309 = .ok (.iload 8, 2) := by decide +kernel
theorem dL_warmed_311 : decode cL_warmed 311 = .ok (.istore 8, 2) := by decide +kernel
theorem dL_warmed_313 : decode cL_warmed 313 = .ok (.iinc 9 (-1), 3) := by decide +kernel
theorem dL_warmed_316 : decode cL_warmed 316 = .ok (.goto (-76), 3) := by decide +kernel
theorem dL_warmed_319 : decode cL_warmed 319 = .ok (.aload_n 0, 1) := by decide +kernel
theorem dL_warmed_320 : decode cL_warmed 320 = .ok (.iload 4, 2) := by decide +kernel
theorem dL_warmed_322 : decode cL_warmed 322 = .ok (.iload 6, 2) := by decide +kernel
theorem dL_warmed_324 : decode cL_warmed 324 = .ok (.iload 7, 2) := by decide +kernel
theorem dL_warmed_326 : decode cL_warmed 326 = .ok (.invokestatic 248, 3) := by decide +kernel
theorem dL_warmed_329 : decode cL_warmed 329 = .ok (.iload 8, 2) := by decide +kernel
theorem dL_warmed_331 : decode cL_warmed 331 = .ok (.if_icmp .ne 18, 3) := by decide +kernel
theorem dL_warmed_334 : decode cL_warmed 334 = .ok (.aload_n 0, 1) := by decide +kernel
theorem dL_warmed_335 : decode cL_warmed 335 = .ok (.iload 4, 2) := by decide +kernel
theorem dL_warmed_337 : decode cL_warmed 337 = .ok (.iload 6, 2) := by decide +kernel
theorem dL_warmed_339 : decode cL_warmed 339 = .ok (.iload 7, 2) := by decide +kernel
theorem dL_warmed_341 : decode cL_warmed 341 = .ok (.invokestatic 251, 3) := by decide +kernel
theorem dL_warmed_344 : decode cL_warmed 344 = .ok (.iload 8, 2) := by decide +kernel
theorem dL_warmed_346 : decode cL_warmed 346 = .ok (.if_icmp .eq 5, 3) := by decide +kernel
theorem dL_warmed_349 : decode cL_warmed 349 = .ok (.iconst 0, 1) := by decide +kernel
theorem dL_warmed_350 : decode cL_warmed 350 = .ok (.ireturn, 1) := by decide +kernel
theorem dL_warmed_351 : decode cL_warmed 351 = .ok (.iinc 6 1, 3) := by decide +kernel
theorem dL_warmed_354 : decode cL_warmed 354 = .ok (.goto (-160), 3) := by decide +kernel
theorem dL_warmed_357 : decode cL_warmed 357 = .ok (.iinc 4 1, 3) := by decide +kernel
theorem dL_warmed_360 : decode cL_warmed 360 = .ok (.goto (-349), 3) := by decide +kernel
theorem dL_warmed_363 : decode cL_warmed 363 = .ok (.iconst 1, 1) := by decide +kernel
theorem dL_warmed_364 : decode cL_warmed 364 = .ok (.istore 4, 2) := by decide +kernel
theorem dL_warmed_366 : decode cL_warmed 366 = .ok (.iload 4, 2) := by decide +kernel
theorem dL_warmed_368 : decode cL_warmed 368 = .ok (.iload_n 3, 1) := by decide +kernel
theorem dL_warmed_369 : decode cL_warmed 369 = .ok (.if_icmp .ge 131, 3) := by decide +kernel
theorem dL_warmed_372 : decode cL_warmed 372 = .ok (.aload_n 0, 1) := by decide +kernel
theorem dL_warmed_373 : decode cL_warmed 373 = .ok (.iload 4, 2) := by decide +kernel
theorem dL_warmed_375 : decode cL_warmed 375 = .ok (.iconst 1, 1) := by decide +kernel
theorem dL_warmed_376 : decode cL_warmed 376 = .ok (.isub, 1) := by decide +kernel
theorem dL_warmed_377 : decode cL_warmed 377 = .ok (.invokestatic 254, 3) := by decide +kernel
theorem dL_warmed_380 : decode cL_warmed 380 = .ok (.istore 5, 2) := by decide +kernel
theorem dL_warmed_382 : decode cL_warmed 382 = .ok (.aload_n 0, 1) := by decide +kernel
theorem dL_warmed_383 : decode cL_warmed 383 = .ok (.iload 4, 2) := by decide +kernel
theorem dL_warmed_385 : decode cL_warmed 385 = .ok (.invokestatic 254, 3) := by decide +kernel
theorem dL_warmed_388 : decode cL_warmed 388 = .ok (.istore 6, 2) := by decide +kernel
theorem dL_warmed_390 : decode cL_warmed 390 = .ok (.aload_n 2, 1) := by decide +kernel
theorem dL_warmed_391 : decode cL_warmed 391 = .ok (.iload 6, 2) := by decide +kernel
theorem dL_warmed_393 : decode cL_warmed 393 = .ok (.aaload, 1) := by decide +kernel
theorem dL_warmed_394 : decode cL_warmed 394 = .ok (.iconst 0, 1) := by decide +kernel
theorem dL_warmed_395 : decode cL_warmed 395 = .ok (.iaload, 1) := by decide +kernel
theorem dL_warmed_396 : decode cL_warmed 396 = .ok (.ifCond .le 7, 3) := by decide +kernel
theorem dL_warmed_399 : decode cL_warmed 399 = .ok (.iconst 1, 1) := by decide +kernel
theorem dL_warmed_400 : decode cL_warmed 400 = .ok (.goto 4, 3) := by decide +kernel
theorem dL_warmed_403 : decode cL_warmed 403 = .ok (.iconst 0, 1) := by decide +kernel
theorem dL_warmed_404 : decode cL_warmed 404 = .ok (.istore 7, 2) := by decide +kernel
theorem dL_warmed_406 : decode cL_warmed 406 = .ok (.aload_n 2, 1) := by decide +kernel
theorem dL_warmed_407 : decode cL_warmed 407 = .ok (.iload 5, 2) := by decide +kernel
theorem dL_warmed_409 : decode cL_warmed 409 = .ok (.aaload, 1) := by decide +kernel
theorem dL_warmed_410 : decode cL_warmed 410 = .ok (.iconst 0, 1) := by decide +kernel
theorem dL_warmed_411 : decode cL_warmed 411 = .ok (.iaload, 1) := by decide +kernel
theorem dL_warmed_412 : decode cL_warmed 412 = .ok (.ifCond .le 7, 3) := by decide +kernel
theorem dL_warmed_415 : decode cL_warmed 415 = .ok (.iconst 1, 1) := by decide +kernel
theorem dL_warmed_416 : decode cL_warmed 416 = .ok (.goto 4, 3) := by decide +kernel
theorem dL_warmed_419 : decode cL_warmed 419 = .ok (.iconst 0, 1) := by decide +kernel
theorem dL_warmed_420 : decode cL_warmed 420 = .ok (.istore 8, 2) := by decide +kernel
theorem dL_warmed_422 : decode cL_warmed 422 = .ok (.iload 7, 2) := by decide +kernel
theorem dL_warmed_424 : decode cL_warmed 424 = .ok (.ifCond .eq 22, 3) := by decide +kernel
theorem dL_warmed_427 : decode cL_warmed 427 = .ok (.iload 8, 2) := by decide +kernel
theorem dL_warmed_429 : decode cL_warmed 429 = .ok (.ifCond .eq 17, 3) := by decide +kernel
theorem dL_warmed_432 : decode cL_warmed 432 = .ok (.aload_n 2, 1) := by decide +kernel
theorem dL_warmed_433 : decode cL_warmed 433 = .ok (.iload 5, 2) := by decide +kernel
theorem dL_warmed_435 : decode cL_warmed 435 = .ok (.aaload, 1) := by decide +kernel
theorem dL_warmed_436 : decode cL_warmed 436 = .ok (.aload_n 2, 1) := by decide +kernel
theorem dL_warmed_437 : decode cL_warmed 437 = .ok (.iload 6, 2) := by decide +kernel
theorem dL_warmed_439 : decode cL_warmed 439 = .ok (.aaload, 1) := by decide +kernel
theorem dL_warmed_440 : decode cL_warmed 440 = .ok (.invokestatic 187, 3) := by decide +kernel
theorem dL_warmed_443 : decode cL_warmed 443 = .ok (.goto 26, 3) := by decide +kernel
theorem dL_warmed_446 : decode cL_warmed 446 = .ok (.iload 8, 2) := by decide +kernel
theorem dL_warmed_448 : decode cL_warmed 448 = .ok (.iload 7, 2) := by decide +kernel
theorem dL_warmed_450 : decode cL_warmed 450 = .ok (.if_icmp .ne 7, 3) := by decide +kernel
theorem dL_warmed_453 : decode cL_warmed 453 = .ok (.lconst 0, 1) := by decide +kernel
theorem dL_warmed_454 : decode cL_warmed 454 = .ok (.goto 15, 3) := by decide +kernel
theorem dL_warmed_457 : decode cL_warmed 457 = .ok (.iload 8, 2) := by decide +kernel
theorem dL_warmed_459 : decode cL_warmed 459 = .ok (.ifCond .eq 7, 3) := by decide +kernel
theorem dL_warmed_462 : decode cL_warmed 462 = .ok (.lconst 1, 1) := by decide +kernel
theorem dL_warmed_463 : decode cL_warmed 463 = .ok (.goto 6, 3) := by decide +kernel
theorem dL_warmed_466 : decode cL_warmed 466 = .ok (.ldc2_w 257, 3) := by decide +kernel
theorem dL_warmed_469 : decode cL_warmed 469 = .ok (.lstore 9, 2) := by decide +kernel
theorem dL_warmed_471 : decode cL_warmed 471 = .ok (.lload 9, 2) := by decide +kernel
theorem dL_warmed_473 : decode cL_warmed 473 = .ok (.lconst 0, 1) := by decide +kernel
theorem dL_warmed_474 : decode cL_warmed 474 = .ok (.lcmp, 1) := by decide +kernel
theorem dL_warmed_475 : decode cL_warmed 475 = .ok (.ifCond .lt 17, 3) := by decide +kernel
theorem dL_warmed_478 : decode cL_warmed 478 = .ok (.lload 9, 2) := by decide +kernel
theorem dL_warmed_480 : decode cL_warmed 480 = .ok (.lconst 0, 1) := by decide +kernel
theorem dL_warmed_481 : decode cL_warmed 481 = .ok (.lcmp, 1) := by decide +kernel
theorem dL_warmed_482 : decode cL_warmed 482 = .ok (.ifCond .ne 12, 3) := by decide +kernel
theorem dL_warmed_485 : decode cL_warmed 485 = .ok (.iload 5, 2) := by decide +kernel
theorem dL_warmed_487 : decode cL_warmed 487 = .ok (.iload 6, 2) := by decide +kernel
theorem dL_warmed_489 : decode cL_warmed 489 = .ok (.if_icmp .le 5, 3) := by decide +kernel
theorem dL_warmed_492 : decode cL_warmed 492 = .ok (.iconst 0, 1) := by decide +kernel
theorem dL_warmed_493 : decode cL_warmed 493 = .ok (.ireturn, 1) := by decide +kernel
theorem dL_warmed_494 : decode cL_warmed 494 = .ok (.iinc 4 1, 3) := by decide +kernel
theorem dL_warmed_497 : decode cL_warmed 497 = .ok (.goto (-131), 3) := by decide +kernel
theorem dL_warmed_500 : decode cL_warmed 500 = .ok (.aload_n 0, 1) := by decide +kernel
theorem dL_warmed_501 : decode cL_warmed 501 = .ok (.iload_n 3, 1) := by decide +kernel
theorem dL_warmed_502 : decode cL_warmed 502 = .ok (.invokestatic 254, 3) := by decide +kernel
theorem dL_warmed_505 : decode cL_warmed 505 = .ok (.bipush (-13), 2) := by decide +kernel
theorem dL_warmed_507 : decode cL_warmed 507 = .ok (.if_icmp .ne 130, 3) := by decide +kernel
theorem dL_warmed_510 : decode cL_warmed 510 = .ok (.aload_n 0, 1) := by decide +kernel
theorem dL_warmed_511 : decode cL_warmed 511 = .ok (.iconst (-1), 1) := by decide +kernel
theorem dL_warmed_512 : decode cL_warmed 512 = .ok (.invokestatic 254, 3) := by decide +kernel
theorem dL_warmed_515 : decode cL_warmed 515 = .ok (.bipush (-13), 2) := by decide +kernel
theorem dL_warmed_517 : decode cL_warmed 517 = .ok (.if_icmp .ne 120, 3) := by decide +kernel
theorem dL_warmed_520 : decode cL_warmed 520 = .ok (.aload_n 0, 1) := by decide +kernel
theorem dL_warmed_521 : decode cL_warmed 521 = .ok (.iload_n 3, 1) := by decide +kernel
theorem dL_warmed_522 : decode cL_warmed 522 = .ok (.invokestatic 239, 3) := by decide +kernel
theorem dL_warmed_525 : decode cL_warmed 525 = .ok (.bipush (-11), 2) := by decide +kernel
theorem dL_warmed_527 : decode cL_warmed 527 = .ok (.if_icmp .ne 110, 3) := by decide +kernel
theorem dL_warmed_530 : decode cL_warmed 530 = .ok (.aload_n 0, 1) := by decide +kernel
theorem dL_warmed_531 : decode cL_warmed 531 = .ok (.iconst 0, 1) := by decide +kernel
theorem dL_warmed_532 : decode cL_warmed 532 = .ok (.iload_n 3, 1) := by decide +kernel
theorem dL_warmed_533 : decode cL_warmed 533 = .ok (.invokestatic 245, 3) := by decide +kernel
theorem dL_warmed_536 : decode cL_warmed 536 = .ok (.bipush (-11), 2) := by decide +kernel
theorem dL_warmed_538 : decode cL_warmed 538 = .ok (.if_icmp .ne 99, 3) := by decide +kernel
theorem dL_warmed_541 : decode cL_warmed 541 = .ok (.aload_n 0, 1) := by decide +kernel
theorem dL_warmed_542 : decode cL_warmed 542 = .ok (.iload_n 3, 1) := by decide +kernel
theorem dL_warmed_543 : decode cL_warmed 543 = .ok (.invokestatic 259, 3) := by decide +kernel
theorem dL_warmed_546 : decode cL_warmed 546 = .ok (.bipush (-11), 2) := by decide +kernel
theorem dL_warmed_548 : decode cL_warmed 548 = .ok (.if_icmp .ne 89, 3) := by decide +kernel
theorem dL_warmed_551 : decode cL_warmed 551 = .ok (.aload_n 0, 1) := by decide +kernel
theorem dL_warmed_552 : decode cL_warmed 552 = .ok (.iload_n 3, 1) := by decide +kernel
theorem dL_warmed_553 : decode cL_warmed 553 = .ok (.invokestatic 261, 3) := by decide +kernel
theorem dL_warmed_556 : decode cL_warmed 556 = .ok (.bipush (-11), 2) := by decide +kernel
theorem dL_warmed_558 : decode cL_warmed 558 = .ok (.if_icmp .ne 79, 3) := by decide +kernel
theorem dL_warmed_561 : decode cL_warmed 561 = .ok (.aload_n 0, 1) := by decide +kernel
theorem dL_warmed_562 : decode cL_warmed 562 = .ok (.iconst (-1), 1) := by decide +kernel
theorem dL_warmed_563 : decode cL_warmed 563 = .ok (.invokestatic 263, 3) := by decide +kernel
theorem dL_warmed_566 : decode cL_warmed 566 = .ok (.bipush (-11), 2) := by decide +kernel
theorem dL_warmed_568 : decode cL_warmed 568 = .ok (.if_icmp .ne 69, 3) := by decide +kernel
theorem dL_warmed_571 : decode cL_warmed 571 = .ok (.aload_n 0, 1) := by decide +kernel
theorem dL_warmed_572 : decode cL_warmed 572 = .ok (.iload_n 3, 1) := by decide +kernel
theorem dL_warmed_573 : decode cL_warmed 573 = .ok (.bipush 9, 2) := by decide +kernel
theorem dL_warmed_575 : decode cL_warmed 575 = .ok (.iconst 0, 1) := by decide +kernel
theorem dL_warmed_576 : decode cL_warmed 576 = .ok (.invokestatic 248, 3) := by decide +kernel
theorem dL_warmed_579 : decode cL_warmed 579 = .ok (.bipush (-11), 2) := by decide +kernel
theorem dL_warmed_581 : decode cL_warmed 581 = .ok (.if_icmp .ne 56, 3) := by decide +kernel
theorem dL_warmed_584 : decode cL_warmed 584 = .ok (.aload_n 0, 1) := by decide +kernel
theorem dL_warmed_585 : decode cL_warmed 585 = .ok (.iconst 0, 1) := by decide +kernel
theorem dL_warmed_586 : decode cL_warmed 586 = .ok (.iconst 3, 1) := by decide +kernel
theorem dL_warmed_587 : decode cL_warmed 587 = .ok (.iconst 0, 1) := by decide +kernel
theorem dL_warmed_588 : decode cL_warmed 588 = .ok (.invokestatic 248, 3) := by decide +kernel
theorem dL_warmed_591 : decode cL_warmed 591 = .ok (.bipush (-12), 2) := by decide +kernel
theorem dL_warmed_593 : decode cL_warmed 593 = .ok (.if_icmp .ne 44, 3) := by decide +kernel
theorem dL_warmed_596 : decode cL_warmed 596 = .ok (.aload_n 0, 1) := by decide +kernel
theorem dL_warmed_597 : decode cL_warmed 597 = .ok (.iconst 0, 1) := by decide +kernel
theorem dL_warmed_598 : decode cL_warmed 598 = .ok (.iconst 0, 1) := by decide +kernel
theorem dL_warmed_599 : decode cL_warmed 599 = .ok (.bipush 100, 2) := by decide +kernel
theorem dL_warmed_601 : decode cL_warmed 601 = .ok (.invokestatic 251, 3) := by decide +kernel
theorem dL_warmed_604 : decode cL_warmed 604 = .ok (.bipush (-12), 2) := by decide +kernel
theorem dL_warmed_606 : decode cL_warmed 606 = .ok (.if_icmp .ne 31, 3) := by decide +kernel
theorem dL_warmed_609 : decode cL_warmed 609 = .ok (.aload_n 0, 1) := by decide +kernel
theorem dL_warmed_610 : decode cL_warmed 610 = .ok (.iconst 0, 1) := by decide +kernel
theorem dL_warmed_611 : decode cL_warmed 611 = .ok (.iconst (-1), 1) := by decide +kernel
theorem dL_warmed_612 : decode cL_warmed 612 = .ok (.iconst 5, 1) := by decide +kernel
theorem dL_warmed_613 : decode cL_warmed 613 = .ok (.invokestatic 251, 3) := by decide +kernel
theorem dL_warmed_616 : decode cL_warmed 616 = .ok (.bipush (-12), 2) := by decide +kernel
theorem dL_warmed_618 : decode cL_warmed 618 = .ok (.if_icmp .ne 19, 3) := by decide +kernel
theorem dL_warmed_621 : decode cL_warmed 621 = .ok (.aload_n 0, 1) := by decide +kernel
theorem dL_warmed_622 : decode cL_warmed 622 = .ok (.iconst (-1), 1) := by decide +kernel
theorem dL_warmed_623 : decode cL_warmed 623 = .ok (.iconst 0, 1) := by decide +kernel
theorem dL_warmed_624 : decode cL_warmed 624 = .ok (.iconst 0, 1) := by decide +kernel
theorem dL_warmed_625 : decode cL_warmed 625 = .ok (.invokestatic 251, 3) := by decide +kernel
theorem dL_warmed_628 : decode cL_warmed 628 = .ok (.bipush (-11), 2) := by decide +kernel
theorem dL_warmed_630 : decode cL_warmed 630 = .ok (.if_icmp .ne 7, 3) := by decide +kernel
theorem dL_warmed_633 : decode cL_warmed 633 = .ok (.iconst 1, 1) := by decide +kernel
theorem dL_warmed_634 : decode cL_warmed 634 = .ok (.goto 4, 3) := by decide +kernel
theorem dL_warmed_637 : decode cL_warmed 637 = .ok (.iconst 0, 1) := by decide +kernel
theorem dL_warmed_638 : decode cL_warmed 638 = .ok (.ireturn, 1) := by decide +kernel
theorem dL_league_0 : decode cL_league 0 = .ok (.aload_n 0, 1) := by decide +kernel
theorem dL_league_1 : decode cL_league 1 = .ok (.invokestatic 235, 3) := by decide +kernel
theorem dL_league_4 : decode cL_league 4 = .ok (.astore_n 1, 1) := by decide +kernel
theorem dL_league_5 : decode cL_league 5 = .ok (.iconst 0, 1) := by decide +kernel
theorem dL_league_6 : decode cL_league 6 = .ok (.istore_n 2, 1) := by decide +kernel
theorem dL_league_7 : decode cL_league 7 = .ok (.iconst 0, 1) := by decide +kernel
theorem dL_league_8 : decode cL_league 8 = .ok (.istore_n 3, 1) := by decide +kernel
theorem dL_league_9 : decode cL_league 9 = .ok (.aload_n 1, 1) := by decide +kernel
theorem dL_league_10 : decode cL_league 10 = .ok (.astore 4, 2) := by decide +kernel
theorem dL_league_12 : decode cL_league 12 = .ok (.aload 4, 2) := by decide +kernel
theorem dL_league_14 : decode cL_league 14 = .ok (.arraylength, 1) := by decide +kernel
theorem dL_league_15 : decode cL_league 15 = .ok (.istore 5, 2) := by decide +kernel
theorem dL_league_17 : decode cL_league 17 = .ok (.iconst 0, 1) := by decide +kernel
theorem dL_league_18 : decode cL_league 18 = .ok (.istore 6, 2) := by decide +kernel
theorem dL_league_20 : decode cL_league 20 = .ok (.iload 6, 2) := by decide +kernel
theorem dL_league_22 : decode cL_league 22 = .ok (.iload 5, 2) := by decide +kernel
theorem dL_league_24 : decode cL_league 24 = .ok (.if_icmp .ge 35, 3) := by decide +kernel
theorem dL_league_27 : decode cL_league 27 = .ok (.aload 4, 2) := by decide +kernel
theorem dL_league_29 : decode cL_league 29 = .ok (.iload 6, 2) := by decide +kernel
theorem dL_league_31 : decode cL_league 31 = .ok (.aaload, 1) := by decide +kernel
theorem dL_league_32 : decode cL_league 32 = .ok (.astore 7, 2) := by decide +kernel
theorem dL_league_34 : decode cL_league 34 = .ok (.iload_n 2, 1) := by decide +kernel
theorem dL_league_35 : decode cL_league 35 = .ok (.aload 7, 2) := by decide +kernel
theorem dL_league_37 : decode cL_league 37 = .ok (.iconst 3, 1) := by decide +kernel
theorem dL_league_38 : decode cL_league 38 = .ok (.iaload, 1) := by decide +kernel
theorem dL_league_39 : decode cL_league 39 = .ok (.iadd, 1) := by decide +kernel
theorem dL_league_40 : decode cL_league 40 = .ok (.istore_n 2, 1) := by decide +kernel
theorem dL_league_41 : decode cL_league 41 = .ok (.iload_n 3, 1) := by decide +kernel
theorem dL_league_42 : decode cL_league 42 = .ok (.aload 7, 2) := by decide +kernel
theorem dL_league_44 : decode cL_league 44 = .ok (.iconst 3, 1) := by decide +kernel
theorem dL_league_45 : decode cL_league 45 = .ok (.iaload, 1) := by decide +kernel
theorem dL_league_46 : decode cL_league 46 = .ok (.aload 7, 2) := by decide +kernel
theorem dL_league_48 : decode cL_league 48 = .ok (.iconst 1, 1) := by decide +kernel
theorem dL_league_49 : decode cL_league 49 = .ok (.iaload, 1) := by decide +kernel
theorem dL_league_50 : decode cL_league 50 = .ok (.imul, 1) := by decide +kernel
theorem dL_league_51 : decode cL_league 51 = .ok (.iadd, 1) := by decide +kernel
theorem dL_league_52 : decode cL_league 52 = .ok (.istore_n 3, 1) := by decide +kernel
theorem dL_league_53 : decode cL_league 53 = .ok (.iinc 6 1, 3) := by decide +kernel
theorem dL_league_56 : decode cL_league 56 = .ok (.goto (-36), 3) := by decide +kernel
theorem dL_league_59 : decode cL_league 59 = .ok (.aload_n 0, 1) := by decide +kernel
theorem dL_league_60 : decode cL_league 60 = .ok (.invokevirtual 265, 3) := by decide +kernel
theorem dL_league_63 : decode cL_league 63 = .ok (.iload_n 2, 1) := by decide +kernel
theorem dL_league_64 : decode cL_league 64 = .ok (.if_icmp .ne 82, 3) := by decide +kernel
theorem dL_league_67 : decode cL_league 67 = .ok (.aload_n 0, 1) := by decide +kernel
theorem dL_league_68 : decode cL_league 68 = .ok (.invokevirtual 268, 3) := by decide +kernel
theorem dL_league_71 : decode cL_league 71 = .ok (.iload_n 3, 1) := by decide +kernel
theorem dL_league_72 : decode cL_league 72 = .ok (.if_icmp .ne 74, 3) := by decide +kernel
theorem dL_league_75 : decode cL_league 75 = .ok (.aload_n 0, 1) := by decide +kernel
theorem dL_league_76 : decode cL_league 76 = .ok (.invokevirtual 271, 3) := by decide +kernel
theorem dL_league_79 : decode cL_league 79 = .ok (.iload_n 3, 1) := by decide +kernel
theorem dL_league_80 : decode cL_league 80 = .ok (.if_icmp .ne 66, 3) := by decide +kernel
theorem dL_league_83 : decode cL_league 83 = .ok (.aload_n 0, 1) := by decide +kernel
theorem dL_league_84 : decode cL_league 84 = .ok (.invokestatic 274, 3) := by decide +kernel
theorem dL_league_87 : decode cL_league 87 = .ok (.aload_n 1, 1) := by decide +kernel
theorem dL_league_88 : decode cL_league 88 = .ok (.iconst 1, 1) := by decide +kernel
theorem dL_league_89 : decode cL_league 89 = .ok (.invokestatic 191, 3) := by decide +kernel
theorem dL_league_92 : decode cL_league 92 = .ok (.if_icmp .ne 54, 3) := by decide +kernel
theorem dL_league_95 : decode cL_league 95 = .ok (.aload_n 0, 1) := by decide +kernel
theorem dL_league_96 : decode cL_league 96 = .ok (.invokestatic 277, 3) := by decide +kernel
theorem dL_league_99 : decode cL_league 99 = .ok (.aload_n 1, 1) := by decide +kernel
theorem dL_league_100 : decode cL_league 100 = .ok (.iconst 0, 1) := by decide +kernel
theorem dL_league_101 : decode cL_league 101 = .ok (.invokestatic 191, 3) := by decide +kernel
theorem dL_league_104 : decode cL_league 104 = .ok (.if_icmp .ne 42, 3) := by decide +kernel
theorem dL_league_107 : decode cL_league 107 = .ok (.aload_n 0, 1) := by decide +kernel
theorem dL_league_108 : decode cL_league 108 = .ok (.invokestatic 280, 3) := by decide +kernel
theorem dL_league_111 : decode cL_league 111 = .ok (.aload_n 1, 1) := by decide +kernel
theorem dL_league_112 : decode cL_league 112 = .ok (.invokestatic 203, 3) := by decide +kernel
theorem dL_league_115 : decode cL_league 115 = .ok (.iconst 2, 1) := by decide +kernel
theorem dL_league_116 : decode cL_league 116 = .ok (.if_icmp .ge 8, 3) := by decide +kernel
theorem dL_league_119 : decode cL_league 119 = .ok (.bipush (-13), 2) := by decide +kernel
theorem dL_league_121 : decode cL_league 121 = .ok (.goto 7, 3) := by decide +kernel
theorem dL_league_124 : decode cL_league 124 = .ok (.aload_n 1, 1) := by decide +kernel
theorem dL_league_125 : decode cL_league 125 = .ok (.invokestatic 207, 3) := by decide +kernel
theorem dL_league_128 : decode cL_league 128 = .ok (.if_icmp .ne 18, 3) := by decide +kernel
theorem dL_league_131 : decode cL_league 131 = .ok (.aload_n 0, 1) := by decide +kernel
theorem dL_league_132 : decode cL_league 132 = .ok (.aload_n 1, 1) := by decide +kernel
theorem dL_league_133 : decode cL_league 133 = .ok (.arraylength, 1) := by decide +kernel
theorem dL_league_134 : decode cL_league 134 = .ok (.invokestatic 283, 3) := by decide +kernel
theorem dL_league_137 : decode cL_league 137 = .ok (.bipush (-11), 2) := by decide +kernel
theorem dL_league_139 : decode cL_league 139 = .ok (.if_icmp .ne 7, 3) := by decide +kernel
theorem dL_league_142 : decode cL_league 142 = .ok (.iconst 1, 1) := by decide +kernel
theorem dL_league_143 : decode cL_league 143 = .ok (.goto 4, 3) := by decide +kernel
theorem dL_league_146 : decode cL_league 146 = .ok (.iconst 0, 1) := by decide +kernel
theorem dL_league_147 : decode cL_league 147 = .ok (.ireturn, 1) := by decide +kernel
theorem dL_predicted_0 : decode cL_predicted 0 = .ok (.aload_n 0, 1) := by decide +kernel
theorem dL_predicted_1 : decode cL_predicted 1 = .ok (.invokevirtual 182, 3) := by decide +kernel
theorem dL_predicted_4 : decode cL_predicted 4 = .ok (.istore_n 1, 1) := by decide +kernel
theorem dL_predicted_5 : decode cL_predicted 5 = .ok (.iload_n 1, 1) := by decide +kernel
theorem dL_predicted_6 : decode cL_predicted 6 = .ok (.newarray .int, 2) := by decide +kernel
theorem dL_predicted_8 : decode cL_predicted 8 = .ok (.astore_n 2, 1) := by decide +kernel
theorem dL_predicted_9 : decode cL_predicted 9 = .ok (.iconst 0, 1) := by decide +kernel
theorem dL_predicted_10 : decode cL_predicted 10 = .ok (.istore_n 3, 1) := by decide +kernel
theorem dL_predicted_11 : decode cL_predicted 11 = .ok (.iload_n 3, 1) := by decide +kernel
theorem dL_predicted_12 : decode cL_predicted 12 = .ok (.iload_n 1, 1) := by decide +kernel
theorem dL_predicted_13 : decode cL_predicted 13 = .ok (.if_icmp .ge 27, 3) := by decide +kernel
theorem dL_predicted_16 : decode cL_predicted 16 = .ok (.aload_n 2, 1) := by decide +kernel
theorem dL_predicted_17 : decode cL_predicted 17 = .ok (.iload_n 3, 1) := by decide +kernel
theorem dL_predicted_18 : decode cL_predicted 18 = .ok (.aload_n 0, 1) := by decide +kernel
theorem dL_predicted_19 : decode cL_predicted 19 = .ok (.iload_n 3, 1) := by decide +kernel
theorem dL_predicted_20 : decode cL_predicted 20 = .ok (.invokevirtual 74, 3) := by decide +kernel
theorem dL_predicted_23 : decode cL_predicted 23 = .ok (.ifCond .eq 8, 3) := by decide +kernel
theorem dL_predicted_26 : decode cL_predicted 26 = .ok (.bipush (-13), 2) := by decide +kernel
theorem dL_predicted_28 : decode cL_predicted 28 = .ok (.goto 5, 3) := by decide +kernel
theorem dL_predicted_31 : decode cL_predicted 31 = .ok (.bipush (-14), 2) := by decide +kernel
theorem dL_predicted_33 : decode cL_predicted 33 = .ok (.iastore, 1) := by decide +kernel
theorem dL_predicted_34 : decode cL_predicted 34 = .ok (.iinc 3 1, 3) := by decide +kernel
theorem dL_predicted_37 : decode cL_predicted 37 = .ok (.goto (-26), 3) := by decide +kernel
theorem dL_predicted_40 : decode cL_predicted 40 = .ok (.aload_n 0, 1) := by decide +kernel
theorem dL_predicted_41 : decode cL_predicted 41 = .ok (.invokestatic 235, 3) := by decide +kernel
theorem dL_predicted_44 : decode cL_predicted 44 = .ok (.astore_n 3, 1) := by decide +kernel
theorem dL_predicted_45 : decode cL_predicted 45 = .ok (.iconst 2, 1) := by decide +kernel
theorem dL_predicted_46 : decode cL_predicted 46 = .ok (.newarray .int, 2) := by decide +kernel
theorem dL_predicted_48 : decode cL_predicted 48 = .ok (.astore 4, 2) := by decide +kernel
theorem dL_predicted_50 : decode cL_predicted 50 = .ok (.iconst 0, 1) := by decide +kernel
theorem dL_predicted_51 : decode cL_predicted 51 = .ok (.istore 5, 2) := by decide +kernel
theorem dL_predicted_53 : decode cL_predicted 53 = .ok (.iload 5, 2) := by decide +kernel
theorem dL_predicted_55 : decode cL_predicted 55 = .ok (.bipush 60, 2) := by decide +kernel
theorem dL_predicted_57 : decode cL_predicted 57 = .ok (.if_icmp .gt 93, 3) := by decide +kernel
theorem dL_predicted_60 : decode cL_predicted 60 = .ok (.iload 5, 2) := by decide +kernel
theorem dL_predicted_62 : decode cL_predicted 62 = .ok (.ifCond .ne 7, 3) := by decide +kernel
theorem dL_predicted_65 : decode cL_predicted 65 = .ok (.iconst 0, 1) := by decide +kernel
theorem dL_predicted_66 : decode cL_predicted 66 = .ok (.goto 9, 3) := by decide +kernel
theorem dL_predicted_69 : decode cL_predicted 69 = .ok (.aload_n 3, 1) := by decide +kernel
theorem dL_predicted_70 : decode cL_predicted 70 = .ok (.aload 4, 2) := by decide +kernel
theorem dL_predicted_72 : decode cL_predicted 72 = .ok (.invokestatic 285, 3) := by decide +kernel
theorem dL_predicted_75 : decode cL_predicted 75 = .ok (.istore 6, 2) := by decide +kernel
theorem dL_predicted_77 : decode cL_predicted 77 = .ok (.iconst 0, 1) := by decide +kernel
theorem dL_predicted_78 : decode cL_predicted 78 = .ok (.istore 7, 2) := by decide +kernel
theorem dL_predicted_80 : decode cL_predicted 80 = .ok (.iload 7, 2) := by decide +kernel
theorem dL_predicted_82 : decode cL_predicted 82 = .ok (.iload_n 1, 1) := by decide +kernel
theorem dL_predicted_83 : decode cL_predicted 83 = .ok (.if_icmp .ge 61, 3) := by decide +kernel
theorem dL_predicted_86 : decode cL_predicted 86 = .ok (.aload_n 2, 1) := by decide +kernel
theorem dL_predicted_87 : decode cL_predicted 87 = .ok (.iload 7, 2) := by decide +kernel
theorem dL_predicted_89 : decode cL_predicted 89 = .ok (.iload 6, 2) := by decide +kernel
theorem dL_predicted_91 : decode cL_predicted 91 = .ok (.iload 7, 2) := by decide +kernel
theorem dL_predicted_93 : decode cL_predicted 93 = .ok (.ishr, 1) := by decide +kernel
theorem dL_predicted_94 : decode cL_predicted 94 = .ok (.iconst 1, 1) := by decide +kernel
theorem dL_predicted_95 : decode cL_predicted 95 = .ok (.iand, 1) := by decide +kernel
theorem dL_predicted_96 : decode cL_predicted 96 = .ok (.iconst 1, 1) := by decide +kernel
theorem dL_predicted_97 : decode cL_predicted 97 = .ok (.if_icmp .ne 8, 3) := by decide +kernel
theorem dL_predicted_100 : decode cL_predicted 100 = .ok (.iload 5, 2) := by decide +kernel
theorem dL_predicted_102 : decode cL_predicted 102 = .ok (.goto 7, 3) := by decide +kernel
theorem dL_predicted_105 : decode cL_predicted 105 = .ok (.aload_n 2, 1) := by decide +kernel
theorem dL_predicted_106 : decode cL_predicted 106 = .ok (.iload 7, 2) := by decide +kernel
theorem dL_predicted_108 : decode cL_predicted 108 = .ok (.iaload, 1) := by decide +kernel
theorem dL_predicted_109 : decode cL_predicted 109 = .ok (.iastore, 1) := by decide +kernel
theorem dL_predicted_110 : decode cL_predicted 110 = .ok (.iload 5, 2) := by decide +kernel
theorem dL_predicted_112 : decode cL_predicted 112 = .ok (.bipush 9, 2) := by decide +kernel
theorem dL_predicted_114 : decode cL_predicted 114 = .ok (.irem, 1) := by decide +kernel
theorem dL_predicted_115 : decode cL_predicted 115 = .ok (.iconst 2, 1) := by decide +kernel
theorem dL_predicted_116 : decode cL_predicted 116 = .ok (.if_icmp .ge 22, 3) := by decide +kernel
theorem dL_predicted_119 : decode cL_predicted 119 = .ok (.aload_n 0, 1) := by decide +kernel
theorem dL_predicted_120 : decode cL_predicted 120 = .ok (.iload 7, 2) := by decide +kernel
