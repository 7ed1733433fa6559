theorem dX12_laysRuns_62 : decode cX12_laysRuns 62 = .ok (.ifCond .ne 10, 3) := by decide +kernel
theorem dX12_laysRuns_65 : decode cX12_laysRuns 65 = .ok (.aload_n 0, 1) := by decide +kernel
theorem dX12_laysRuns_66 : decode cX12_laysRuns 66 = .ok (.getfield 142, 3) := by decide +kernel
theorem dX12_laysRuns_69 : decode cX12_laysRuns 69 = .ok (.goto 10, 3) := by decide +kernel
theorem dX12_laysRuns_72 : decode cX12_laysRuns 72 = .ok (.aload_n 0, 1) := by decide +kernel
theorem dX12_laysRuns_73 : decode cX12_laysRuns 73 = .ok (.iload_n 2, 1) := by decide +kernel
theorem dX12_laysRuns_74 : decode cX12_laysRuns 74 = .ok (.iload_n 3, 1) := by decide +kernel
theorem dX12_laysRuns_75 : decode cX12_laysRuns 75 = .ok (.iadd, 1) := by decide +kernel
theorem dX12_laysRuns_76 : decode cX12_laysRuns 76 = .ok (.invokevirtual 176, 3) := by decide +kernel
theorem dX12_laysRuns_79 : decode cX12_laysRuns 79 = .ok (.istore 4, 2) := by decide +kernel
theorem dX12_laysRuns_81 : decode cX12_laysRuns 81 = .ok (.iload 4, 2) := by decide +kernel
theorem dX12_laysRuns_83 : decode cX12_laysRuns 83 = .ok (.ifCond .ge 9, 3) := by decide +kernel
theorem dX12_laysRuns_86 : decode cX12_laysRuns 86 = .ok (.iload 4, 2) := by decide +kernel
theorem dX12_laysRuns_88 : decode cX12_laysRuns 88 = .ok (.ineg, 1) := by decide +kernel
theorem dX12_laysRuns_89 : decode cX12_laysRuns 89 = .ok (.goto 5, 3) := by decide +kernel
theorem dX12_laysRuns_92 : decode cX12_laysRuns 92 = .ok (.iload 4, 2) := by decide +kernel
theorem dX12_laysRuns_94 : decode cX12_laysRuns 94 = .ok (.istore 5, 2) := by decide +kernel
theorem dX12_laysRuns_96 : decode cX12_laysRuns 96 = .ok (.iload 5, 2) := by decide +kernel
theorem dX12_laysRuns_98 : decode cX12_laysRuns 98 = .ok (.aload_n 0, 1) := by decide +kernel
theorem dX12_laysRuns_99 : decode cX12_laysRuns 99 = .ok (.getfield 142, 3) := by decide +kernel
theorem dX12_laysRuns_102 : decode cX12_laysRuns 102 = .ok (.iload_n 3, 1) := by decide +kernel
theorem dX12_laysRuns_103 : decode cX12_laysRuns 103 = .ok (.isub, 1) := by decide +kernel
theorem dX12_laysRuns_104 : decode cX12_laysRuns 104 = .ok (.if_icmp .ge 8, 3) := by decide +kernel
theorem dX12_laysRuns_107 : decode cX12_laysRuns 107 = .ok (.iload 5, 2) := by decide +kernel
theorem dX12_laysRuns_109 : decode cX12_laysRuns 109 = .ok (.goto 9, 3) := by decide +kernel
theorem dX12_laysRuns_112 : decode cX12_laysRuns 112 = .ok (.aload_n 0, 1) := by decide +kernel
theorem dX12_laysRuns_113 : decode cX12_laysRuns 113 = .ok (.getfield 142, 3) := by decide +kernel
theorem dX12_laysRuns_116 : decode cX12_laysRuns 116 = .ok (.iload_n 3, 1) := by decide +kernel
theorem dX12_laysRuns_117 : decode cX12_laysRuns 117 = .ok (.isub, 1) := by decide +kernel
theorem dX12_laysRuns_118 : decode cX12_laysRuns 118 = .ok (.istore 5, 2) := by decide +kernel
theorem dX12_laysRuns_120 : decode cX12_laysRuns 120 = .ok (.iload 4, 2) := by decide +kernel
theorem dX12_laysRuns_122 : decode cX12_laysRuns 122 = .ok (.ifCond .le 34, 3) := by decide +kernel
theorem dX12_laysRuns_125 : decode cX12_laysRuns 125 = .ok (.aload_n 0, 1) := by decide +kernel
theorem dX12_laysRuns_126 : decode cX12_laysRuns 126 = .ok (.getfield 37, 3) := by decide +kernel
theorem dX12_laysRuns_129 : decode cX12_laysRuns 129 = .ok (.aload_n 0, 1) := by decide +kernel
theorem dX12_laysRuns_130 : decode cX12_laysRuns 130 = .ok (.getfield 169, 3) := by decide +kernel
theorem dX12_laysRuns_133 : decode cX12_laysRuns 133 = .ok (.iload_n 3, 1) := by decide +kernel
theorem dX12_laysRuns_134 : decode cX12_laysRuns 134 = .ok (.iastore, 1) := by decide +kernel
theorem dX12_laysRuns_135 : decode cX12_laysRuns 135 = .ok (.aload_n 0, 1) := by decide +kernel
theorem dX12_laysRuns_136 : decode cX12_laysRuns 136 = .ok (.getfield 40, 3) := by decide +kernel
theorem dX12_laysRuns_139 : decode cX12_laysRuns 139 = .ok (.aload_n 0, 1) := by decide +kernel
theorem dX12_laysRuns_140 : decode cX12_laysRuns 140 = .ok (.getfield 169, 3) := by decide +kernel
theorem dX12_laysRuns_143 : decode cX12_laysRuns 143 = .ok (.iload 5, 2) := by decide +kernel
theorem dX12_laysRuns_145 : decode cX12_laysRuns 145 = .ok (.iastore, 1) := by decide +kernel
theorem dX12_laysRuns_146 : decode cX12_laysRuns 146 = .ok (.aload_n 0, 1) := by decide +kernel
theorem dX12_laysRuns_147 : decode cX12_laysRuns 147 = .ok (.dup, 1) := by decide +kernel
theorem dX12_laysRuns_148 : decode cX12_laysRuns 148 = .ok (.getfield 169, 3) := by decide +kernel
theorem dX12_laysRuns_151 : decode cX12_laysRuns 151 = .ok (.iconst 1, 1) := by decide +kernel
theorem dX12_laysRuns_152 : decode cX12_laysRuns 152 = .ok (.iadd, 1) := by decide +kernel
theorem dX12_laysRuns_153 : decode cX12_laysRuns 153 = .ok (.putfield 169, 3) := by decide +kernel
theorem dX12_laysRuns_156 : decode cX12_laysRuns 156 = .ok (.iload_n 3, 1) := by decide +kernel
theorem dX12_laysRuns_157 : decode cX12_laysRuns 157 = .ok (.iload 5, 2) := by decide +kernel
theorem dX12_laysRuns_159 : decode cX12_laysRuns 159 = .ok (.iadd, 1) := by decide +kernel
theorem dX12_laysRuns_160 : decode cX12_laysRuns 160 = .ok (.istore_n 3, 1) := by decide +kernel
theorem dX12_laysRuns_161 : decode cX12_laysRuns 161 = .ok (.goto (-114), 3) := by decide +kernel
theorem dX12_laysRuns_164 : decode cX12_laysRuns 164 = .ok (.aload_n 0, 1) := by decide +kernel
theorem dX12_laysRuns_165 : decode cX12_laysRuns 165 = .ok (.iload_n 1, 1) := by decide +kernel
theorem dX12_laysRuns_166 : decode cX12_laysRuns 166 = .ok (.invokevirtual 102, 3) := by decide +kernel
theorem dX12_laysRuns_169 : decode cX12_laysRuns 169 = .ok (.ifCond .eq 53, 3) := by decide +kernel
theorem dX12_laysRuns_172 : decode cX12_laysRuns 172 = .ok (.aload_n 0, 1) := by decide +kernel
theorem dX12_laysRuns_173 : decode cX12_laysRuns 173 = .ok (.getfield 169, 3) := by decide +kernel
theorem dX12_laysRuns_176 : decode cX12_laysRuns 176 = .ok (.ifCond .le 46, 3) := by decide +kernel
theorem dX12_laysRuns_179 : decode cX12_laysRuns 179 = .ok (.aload_n 0, 1) := by decide +kernel
theorem dX12_laysRuns_180 : decode cX12_laysRuns 180 = .ok (.getfield 37, 3) := by decide +kernel
theorem dX12_laysRuns_183 : decode cX12_laysRuns 183 = .ok (.iconst 0, 1) := by decide +kernel
theorem dX12_laysRuns_184 : decode cX12_laysRuns 184 = .ok (.iaload, 1) := by decide +kernel
theorem dX12_laysRuns_185 : decode cX12_laysRuns 185 = .ok (.ifCond .ne 37, 3) := by decide +kernel
theorem dX12_laysRuns_188 : decode cX12_laysRuns 188 = .ok (.aload_n 0, 1) := by decide +kernel
theorem dX12_laysRuns_189 : decode cX12_laysRuns 189 = .ok (.getfield 37, 3) := by decide +kernel
theorem dX12_laysRuns_192 : decode cX12_laysRuns 192 = .ok (.aload_n 0, 1) := by decide +kernel
theorem dX12_laysRuns_193 : decode cX12_laysRuns 193 = .ok (.getfield 169, 3) := by decide +kernel
theorem dX12_laysRuns_196 : decode cX12_laysRuns 196 = .ok (.iconst 1, 1) := by decide +kernel
theorem dX12_laysRuns_197 : decode cX12_laysRuns 197 = .ok (.isub, 1) := by decide +kernel
theorem dX12_laysRuns_198 : decode cX12_laysRuns 198 = .ok (.iaload, 1) := by decide +kernel
theorem dX12_laysRuns_199 : decode cX12_laysRuns 199 = .ok (.aload_n 0, 1) := by decide +kernel
theorem dX12_laysRuns_200 : decode cX12_laysRuns 200 = .ok (.getfield 40, 3) := by decide +kernel
theorem dX12_laysRuns_203 : decode cX12_laysRuns 203 = .ok (.aload_n 0, 1) := by decide +kernel
theorem dX12_laysRuns_204 : decode cX12_laysRuns 204 = .ok (.getfield 169, 3) := by decide +kernel
theorem dX12_laysRuns_207 : decode cX12_laysRuns 207 = .ok (.iconst 1, 1) := by decide +kernel
theorem dX12_laysRuns_208 : decode cX12_laysRuns 208 = .ok (.isub, 1) := by decide +kernel
theorem dX12_laysRuns_209 : decode cX12_laysRuns 209 = .ok (.iaload, 1) := by decide +kernel
theorem dX12_laysRuns_210 : decode cX12_laysRuns 210 = .ok (.iadd, 1) := by decide +kernel
theorem dX12_laysRuns_211 : decode cX12_laysRuns 211 = .ok (.aload_n 0, 1) := by decide +kernel
theorem dX12_laysRuns_212 : decode cX12_laysRuns 212 = .ok (.getfield 142, 3) := by decide +kernel
theorem dX12_laysRuns_215 : decode cX12_laysRuns 215 = .ok (.if_icmp .ne 7, 3) := by decide +kernel
theorem dX12_laysRuns_218 : decode cX12_laysRuns 218 = .ok (.iconst 1, 1) := by decide +kernel
theorem dX12_laysRuns_219 : decode cX12_laysRuns 219 = .ok (.goto 4, 3) := by decide +kernel
theorem dX12_laysRuns_222 : decode cX12_laysRuns 222 = .ok (.iconst 0, 1) := by decide +kernel
theorem dX12_laysRuns_223 : decode cX12_laysRuns 223 = .ok (.istore 4, 2) := by decide +kernel
theorem dX12_laysRuns_225 : decode cX12_laysRuns 225 = .ok (.aload_n 0, 1) := by decide +kernel
theorem dX12_laysRuns_226 : decode cX12_laysRuns 226 = .ok (.iload 4, 2) := by decide +kernel
theorem dX12_laysRuns_228 : decode cX12_laysRuns 228 = .ok (.ifCond .eq 15, 3) := by decide +kernel
theorem dX12_laysRuns_231 : decode cX12_laysRuns 231 = .ok (.aload_n 0, 1) := by decide +kernel
theorem dX12_laysRuns_232 : decode cX12_laysRuns 232 = .ok (.getfield 169, 3) := by decide +kernel
theorem dX12_laysRuns_235 : decode cX12_laysRuns 235 = .ok (.iconst 1, 1) := by decide +kernel
theorem dX12_laysRuns_236 : decode cX12_laysRuns 236 = .ok (.if_icmp .ne 7, 3) := by decide +kernel
theorem dX12_laysRuns_239 : decode cX12_laysRuns 239 = .ok (.iconst 1, 1) := by decide +kernel
theorem dX12_laysRuns_240 : decode cX12_laysRuns 240 = .ok (.goto 4, 3) := by decide +kernel
theorem dX12_laysRuns_243 : decode cX12_laysRuns 243 = .ok (.iconst 0, 1) := by decide +kernel
theorem dX12_laysRuns_244 : decode cX12_laysRuns 244 = .ok (.putfield 172, 3) := by decide +kernel
theorem dX12_laysRuns_247 : decode cX12_laysRuns 247 = .ok (.iload 4, 2) := by decide +kernel
theorem dX12_laysRuns_249 : decode cX12_laysRuns 249 = .ok (.ifCond .eq 54, 3) := by decide +kernel
theorem dX12_laysRuns_252 : decode cX12_laysRuns 252 = .ok (.aload_n 0, 1) := by decide +kernel
theorem dX12_laysRuns_253 : decode cX12_laysRuns 253 = .ok (.getfield 169, 3) := by decide +kernel
theorem dX12_laysRuns_256 : decode cX12_laysRuns 256 = .ok (.iconst 1, 1) := by decide +kernel
theorem dX12_laysRuns_257 : decode cX12_laysRuns 257 = .ok (.if_icmp .le 46, 3) := by decide +kernel
theorem dX12_laysRuns_260 : decode cX12_laysRuns 260 = .ok (.aload_n 0, 1) := by decide +kernel
theorem dX12_laysRuns_261 : decode cX12_laysRuns 261 = .ok (.dup, 1) := by decide +kernel
theorem dX12_laysRuns_262 : decode cX12_laysRuns 262 = .ok (.getfield 169, 3) := by decide +kernel
theorem dX12_laysRuns_265 : decode cX12_laysRuns 265 = .ok (.iconst 1, 1) := by decide +kernel
theorem dX12_laysRuns_266 : decode cX12_laysRuns 266 = .ok (.isub, 1) := by decide +kernel
theorem dX12_laysRuns_267 : decode cX12_laysRuns 267 = .ok (.putfield 169, 3) := by decide +kernel
theorem dX12_laysRuns_270 : decode cX12_laysRuns 270 = .ok (.aload_n 0, 1) := by decide +kernel
theorem dX12_laysRuns_271 : decode cX12_laysRuns 271 = .ok (.getfield 37, 3) := by decide +kernel
theorem dX12_laysRuns_274 : decode cX12_laysRuns 274 = .ok (.iconst 0, 1) := by decide +kernel
theorem dX12_laysRuns_275 : decode cX12_laysRuns 275 = .ok (.aload_n 0, 1) := by decide +kernel
theorem dX12_laysRuns_276 : decode cX12_laysRuns 276 = .ok (.getfield 37, 3) := by decide +kernel
theorem dX12_laysRuns_279 : decode cX12_laysRuns 279 = .ok (.aload_n 0, 1) := by decide +kernel
theorem dX12_laysRuns_280 : decode cX12_laysRuns 280 = .ok (.getfield 169, 3) := by decide +kernel
theorem dX12_laysRuns_283 : decode cX12_laysRuns 283 = .ok (.iaload, 1) := by decide +kernel
theorem dX12_laysRuns_284 : decode cX12_laysRuns 284 = .ok (.iastore, 1) := by decide +kernel
theorem dX12_laysRuns_285 : decode cX12_laysRuns 285 = .ok (.aload_n 0, 1) := by decide +kernel
theorem dX12_laysRuns_286 : decode cX12_laysRuns 286 = .ok (.getfield 40, 3) := by decide +kernel
theorem dX12_laysRuns_289 : decode cX12_laysRuns 289 = .ok (.iconst 0, 1) := by decide +kernel
theorem dX12_laysRuns_290 : decode cX12_laysRuns 290 = .ok (.dup2, 1) := by decide +kernel
theorem dX12_laysRuns_291 : decode cX12_laysRuns 291 = .ok (.iaload, 1) := by decide +kernel
theorem dX12_laysRuns_292 : decode cX12_laysRuns 292 = .ok (.aload_n 0, 1) := by decide +kernel
theorem dX12_laysRuns_293 : decode cX12_laysRuns 293 = .ok (.getfield 40, 3) := by decide +kernel
theorem dX12_laysRuns_296 : decode cX12_laysRuns 296 = .ok (.aload_n 0, 1) := by decide +kernel
theorem dX12_laysRuns_297 : decode cX12_laysRuns 297 = .ok (.getfield 169, 3) := by decide +kernel
theorem dX12_laysRuns_300 : decode cX12_laysRuns 300 = .ok (.iaload, 1) := by decide +kernel
theorem dX12_laysRuns_301 : decode cX12_laysRuns 301 = .ok (.iadd, 1) := by decide +kernel
theorem dX12_laysRuns_302 : decode cX12_laysRuns 302 = .ok (.iastore, 1) := by decide +kernel
theorem dX12_laysRuns_303 : decode cX12_laysRuns 303 = .ok (.return_, 1) := by decide +kernel
theorem dX12_cutsFrom_0 : decode cX12_cutsFrom 0 = .ok (.iconst 0, 1) := by decide +kernel
theorem dX12_cutsFrom_1 : decode cX12_cutsFrom 1 = .ok (.istore_n 3, 1) := by decide +kernel
theorem dX12_cutsFrom_2 : decode cX12_cutsFrom 2 = .ok (.iload_n 3, 1) := by decide +kernel
theorem dX12_cutsFrom_3 : decode cX12_cutsFrom 3 = .ok (.aload_n 0, 1) := by decide +kernel
theorem dX12_cutsFrom_4 : decode cX12_cutsFrom 4 = .ok (.getfield 116, 3) := by decide +kernel
theorem dX12_cutsFrom_7 : decode cX12_cutsFrom 7 = .ok (.if_icmp .ge 118, 3) := by decide +kernel
theorem dX12_cutsFrom_10 : decode cX12_cutsFrom 10 = .ok (.iload_n 1, 1) := by decide +kernel
theorem dX12_cutsFrom_11 : decode cX12_cutsFrom 11 = .ok (.aload_n 0, 1) := by decide +kernel
theorem dX12_cutsFrom_12 : decode cX12_cutsFrom 12 = .ok (.getfield 34, 3) := by decide +kernel
theorem dX12_cutsFrom_15 : decode cX12_cutsFrom 15 = .ok (.iload_n 3, 1) := by decide +kernel
theorem dX12_cutsFrom_16 : decode cX12_cutsFrom 16 = .ok (.iaload, 1) := by decide +kernel
theorem dX12_cutsFrom_17 : decode cX12_cutsFrom 17 = .ok (.if_icmp .le 14, 3) := by decide +kernel
theorem dX12_cutsFrom_20 : decode cX12_cutsFrom 20 = .ok (.iload_n 1, 1) := by decide +kernel
theorem dX12_cutsFrom_21 : decode cX12_cutsFrom 21 = .ok (.aload_n 0, 1) := by decide +kernel
theorem dX12_cutsFrom_22 : decode cX12_cutsFrom 22 = .ok (.getfield 34, 3) := by decide +kernel
theorem dX12_cutsFrom_25 : decode cX12_cutsFrom 25 = .ok (.iload_n 3, 1) := by decide +kernel
theorem dX12_cutsFrom_26 : decode cX12_cutsFrom 26 = .ok (.iaload, 1) := by decide +kernel
theorem dX12_cutsFrom_27 : decode cX12_cutsFrom 27 = .ok (.isub, 1) := by decide +kernel
theorem dX12_cutsFrom_28 : decode cX12_cutsFrom 28 = .ok (.goto 4, 3) := by decide +kernel
theorem dX12_cutsFrom_31 : decode cX12_cutsFrom 31 = .ok (.iconst 0, 1) := by decide +kernel
theorem dX12_cutsFrom_32 : decode cX12_cutsFrom 32 = .ok (.istore 4, 2) := by decide +kernel
theorem dX12_cutsFrom_34 : decode cX12_cutsFrom 34 = .ok (.iload_n 2, 1) := by decide +kernel
theorem dX12_cutsFrom_35 : decode cX12_cutsFrom 35 = .ok (.aload_n 0, 1) := by decide +kernel
theorem dX12_cutsFrom_36 : decode cX12_cutsFrom 36 = .ok (.getfield 34, 3) := by decide +kernel
theorem dX12_cutsFrom_39 : decode cX12_cutsFrom 39 = .ok (.iload_n 3, 1) := by decide +kernel
theorem dX12_cutsFrom_40 : decode cX12_cutsFrom 40 = .ok (.iaload, 1) := by decide +kernel
theorem dX12_cutsFrom_41 : decode cX12_cutsFrom 41 = .ok (.aload_n 0, 1) := by decide +kernel
theorem dX12_cutsFrom_42 : decode cX12_cutsFrom 42 = .ok (.getfield 31, 3) := by decide +kernel
theorem dX12_cutsFrom_45 : decode cX12_cutsFrom 45 = .ok (.iload_n 3, 1) := by decide +kernel
theorem dX12_cutsFrom_46 : decode cX12_cutsFrom 46 = .ok (.iaload, 1) := by decide +kernel
theorem dX12_cutsFrom_47 : decode cX12_cutsFrom 47 = .ok (.iadd, 1) := by decide +kernel
theorem dX12_cutsFrom_48 : decode cX12_cutsFrom 48 = .ok (.if_icmp .ge 14, 3) := by decide +kernel
theorem dX12_cutsFrom_51 : decode cX12_cutsFrom 51 = .ok (.iload_n 2, 1) := by decide +kernel
theorem dX12_cutsFrom_52 : decode cX12_cutsFrom 52 = .ok (.aload_n 0, 1) := by decide +kernel
theorem dX12_cutsFrom_53 : decode cX12_cutsFrom 53 = .ok (.getfield 34, 3) := by decide +kernel
theorem dX12_cutsFrom_56 : decode cX12_cutsFrom 56 = .ok (.iload_n 3, 1) := by decide +kernel
theorem dX12_cutsFrom_57 : decode cX12_cutsFrom 57 = .ok (.iaload, 1) := by decide +kernel
theorem dX12_cutsFrom_58 : decode cX12_cutsFrom 58 = .ok (.isub, 1) := by decide +kernel
theorem dX12_cutsFrom_59 : decode cX12_cutsFrom 59 = .ok (.goto 9, 3) := by decide +kernel
theorem dX12_cutsFrom_62 : decode cX12_cutsFrom 62 = .ok (.aload_n 0, 1) := by decide +kernel
theorem dX12_cutsFrom_63 : decode cX12_cutsFrom 63 = .ok (.getfield 31, 3) := by decide +kernel
theorem dX12_cutsFrom_66 : decode cX12_cutsFrom 66 = .ok (.iload_n 3, 1) := by decide +kernel
theorem dX12_cutsFrom_67 : decode cX12_cutsFrom 67 = .ok (.iaload, 1) := by decide +kernel
theorem dX12_cutsFrom_68 : decode cX12_cutsFrom 68 = .ok (.istore 5, 2) := by decide +kernel
theorem dX12_cutsFrom_70 : decode cX12_cutsFrom 70 = .ok (.iload 4, 2) := by decide +kernel
theorem dX12_cutsFrom_72 : decode cX12_cutsFrom 72 = .ok (.iload 5, 2) := by decide +kernel
theorem dX12_cutsFrom_74 : decode cX12_cutsFrom 74 = .ok (.if_icmp .ge 45, 3) := by decide +kernel
theorem dX12_cutsFrom_77 : decode cX12_cutsFrom 77 = .ok (.aload_n 0, 1) := by decide +kernel
theorem dX12_cutsFrom_78 : decode cX12_cutsFrom 78 = .ok (.getfield 43, 3) := by decide +kernel
theorem dX12_cutsFrom_81 : decode cX12_cutsFrom 81 = .ok (.aload_n 0, 1) := by decide +kernel
theorem dX12_cutsFrom_82 : decode cX12_cutsFrom 82 = .ok (.getfield 179, 3) := by decide +kernel
theorem dX12_cutsFrom_85 : decode cX12_cutsFrom 85 = .ok (.iload_n 3, 1) := by decide +kernel
theorem dX12_cutsFrom_86 : decode cX12_cutsFrom 86 = .ok (.iastore, 1) := by decide +kernel
theorem dX12_cutsFrom_87 : decode cX12_cutsFrom 87 = .ok (.aload_n 0, 1) := by decide +kernel
theorem dX12_cutsFrom_88 : decode cX12_cutsFrom 88 = .ok (.getfield 46, 3) := by decide +kernel
theorem dX12_cutsFrom_91 : decode cX12_cutsFrom 91 = .ok (.aload_n 0, 1) := by decide +kernel
theorem dX12_cutsFrom_92 : decode cX12_cutsFrom 92 = .ok (.getfield 179, 3) := by decide +kernel
theorem dX12_cutsFrom_95 : decode cX12_cutsFrom 95 = .ok (.iload 4, 2) := by decide +kernel
theorem dX12_cutsFrom_97 : decode cX12_cutsFrom 97 = .ok (.iastore, 1) := by decide +kernel
theorem dX12_cutsFrom_98 : decode cX12_cutsFrom 98 = .ok (.aload_n 0, 1) := by decide +kernel
theorem dX12_cutsFrom_99 : decode cX12_cutsFrom 99 = .ok (.getfield 49, 3) := by decide +kernel
theorem dX12_cutsFrom_102 : decode cX12_cutsFrom 102 = .ok (.aload_n 0, 1) := by decide +kernel
theorem dX12_cutsFrom_103 : decode cX12_cutsFrom 103 = .ok (.getfield 179, 3) := by decide +kernel
theorem dX12_cutsFrom_106 : decode cX12_cutsFrom 106 = .ok (.iload 5, 2) := by decide +kernel
theorem dX12_cutsFrom_108 : decode cX12_cutsFrom 108 = .ok (.iastore, 1) := by decide +kernel
theorem dX12_cutsFrom_109 : decode cX12_cutsFrom 109 = .ok (.aload_n 0, 1) := by decide +kernel
theorem dX12_cutsFrom_110 : decode cX12_cutsFrom 110 = .ok (.dup, 1) := by decide +kernel
theorem dX12_cutsFrom_111 : decode cX12_cutsFrom 111 = .ok (.getfield 179, 3) := by decide +kernel
theorem dX12_cutsFrom_114 : decode cX12_cutsFrom 114 = .ok (.iconst 1, 1) := by decide +kernel
theorem dX12_cutsFrom_115 : decode cX12_cutsFrom 115 = .ok (.iadd, 1) := by decide +kernel
theorem dX12_cutsFrom_116 : decode cX12_cutsFrom 116 = .ok (.putfield 179, 3) := by decide +kernel
theorem dX12_cutsFrom_119 : decode cX12_cutsFrom 119 = .ok (.iinc 3 1, 3) := by decide +kernel
theorem dX12_cutsFrom_122 : decode cX12_cutsFrom 122 = .ok (.goto (-120), 3) := by decide +kernel
theorem dX12_cutsFrom_125 : decode cX12_cutsFrom 125 = .ok (.return_, 1) := by decide +kernel
set_option maxRecDepth 20000 in
theorem ggX12_laysCuts_X12_cutsFrom : GoodIn wsX12_laysCuts wsX12_cutsFrom := goodIn_r _ [9, 10, 11, 12, 13, 1, 14, 15, 16, 17, 18, 19, 20, 21, 22, 23, 24, 25, 26, 27, 28, 29, 30, 31, 32, 33, 34, 35, 36, 37, 38, 39, 40, 41, 42, 43, 44, 45, 46] (by decide +kernel) (by decide +kernel)
set_option maxRecDepth 20000 in
theorem gX12_laysCuts_X12_cutsFrom : GoodIn wsX12_laysCuts (wsV RX12 182 RX12 yX12_cutsFrom wsX12_cutsFrom) := goodIn_app (goodIn_of _ (by decide +kernel)) ggX12_laysCuts_X12_cutsFrom
theorem dX12_laysCuts_0 : decode cX12_laysCuts 0 = .ok (.aload_n 0, 1) := by decide +kernel
theorem dX12_laysCuts_1 : decode cX12_laysCuts 1 = .ok (.iconst 0, 1) := by decide +kernel
theorem dX12_laysCuts_2 : decode cX12_laysCuts 2 = .ok (.putfield 179, 3) := by decide +kernel
theorem dX12_laysCuts_5 : decode cX12_laysCuts 5 = .ok (.aload_n 0, 1) := by decide +kernel
theorem dX12_laysCuts_6 : decode cX12_laysCuts 6 = .ok (.getfield 37, 3) := by decide +kernel
theorem dX12_laysCuts_9 : decode cX12_laysCuts 9 = .ok (.iload_n 1, 1) := by decide +kernel
theorem dX12_laysCuts_10 : decode cX12_laysCuts 10 = .ok (.iaload, 1) := by decide +kernel
theorem dX12_laysCuts_11 : decode cX12_laysCuts 11 = .ok (.aload_n 0, 1) := by decide +kernel
theorem dX12_laysCuts_12 : decode cX12_laysCuts 12 = .ok (.getfield 40, 3) := by decide +kernel
theorem dX12_laysCuts_15 : decode cX12_laysCuts 15 = .ok (.iload_n 1, 1) := by decide +kernel
theorem dX12_laysCuts_16 : decode cX12_laysCuts 16 = .ok (.iaload, 1) := by decide +kernel
theorem dX12_laysCuts_17 : decode cX12_laysCuts 17 = .ok (.iadd, 1) := by decide +kernel
theorem dX12_laysCuts_18 : decode cX12_laysCuts 18 = .ok (.istore_n 2, 1) := by decide +kernel
theorem dX12_laysCuts_19 : decode cX12_laysCuts 19 = .ok (.aload_n 0, 1) := by decide +kernel
theorem dX12_laysCuts_20 : decode cX12_laysCuts 20 = .ok (.aload_n 0, 1) := by decide +kernel
theorem dX12_laysCuts_21 : decode cX12_laysCuts 21 = .ok (.getfield 37, 3) := by decide +kernel
theorem dX12_laysCuts_24 : decode cX12_laysCuts 24 = .ok (.iload_n 1, 1) := by decide +kernel
theorem dX12_laysCuts_25 : decode cX12_laysCuts 25 = .ok (.iaload, 1) := by decide +kernel
theorem dX12_laysCuts_26 : decode cX12_laysCuts 26 = .ok (.iload_n 2, 1) := by decide +kernel
theorem dX12_laysCuts_27 : decode cX12_laysCuts 27 = .ok (.aload_n 0, 1) := by decide +kernel
theorem dX12_laysCuts_28 : decode cX12_laysCuts 28 = .ok (.getfield 142, 3) := by decide +kernel
theorem dX12_laysCuts_31 : decode cX12_laysCuts 31 = .ok (.if_icmp .ge 7, 3) := by decide +kernel
theorem dX12_laysCuts_34 : decode cX12_laysCuts 34 = .ok (.iload_n 2, 1) := by decide +kernel
theorem dX12_laysCuts_35 : decode cX12_laysCuts 35 = .ok (.goto 7, 3) := by decide +kernel
theorem dX12_laysCuts_38 : decode cX12_laysCuts 38 = .ok (.aload_n 0, 1) := by decide +kernel
theorem dX12_laysCuts_39 : decode cX12_laysCuts 39 = .ok (.getfield 142, 3) := by decide +kernel
theorem dX12_laysCuts_42 : decode cX12_laysCuts 42 = .ok (.invokevirtual 182, 3) := by decide +kernel
theorem dX12_laysCuts_45 : decode cX12_laysCuts 45 = .ok (.iload_n 2, 1) := by decide +kernel
theorem dX12_laysCuts_46 : decode cX12_laysCuts 46 = .ok (.aload_n 0, 1) := by decide +kernel
theorem dX12_laysCuts_47 : decode cX12_laysCuts 47 = .ok (.getfield 142, 3) := by decide +kernel
theorem dX12_laysCuts_50 : decode cX12_laysCuts 50 = .ok (.if_icmp .le 14, 3) := by decide +kernel
theorem dX12_laysCuts_53 : decode cX12_laysCuts 53 = .ok (.aload_n 0, 1) := by decide +kernel
theorem dX12_laysCuts_54 : decode cX12_laysCuts 54 = .ok (.iconst 0, 1) := by decide +kernel
theorem dX12_laysCuts_55 : decode cX12_laysCuts 55 = .ok (.iload_n 2, 1) := by decide +kernel
theorem dX12_laysCuts_56 : decode cX12_laysCuts 56 = .ok (.aload_n 0, 1) := by decide +kernel
theorem dX12_laysCuts_57 : decode cX12_laysCuts 57 = .ok (.getfield 142, 3) := by decide +kernel
theorem dX12_laysCuts_60 : decode cX12_laysCuts 60 = .ok (.isub, 1) := by decide +kernel
theorem dX12_laysCuts_61 : decode cX12_laysCuts 61 = .ok (.invokevirtual 182, 3) := by decide +kernel
theorem dX12_laysCuts_64 : decode cX12_laysCuts 64 = .ok (.return_, 1) := by decide +kernel
set_option maxRecDepth 20000 in
theorem ggX12_runs_X12_isSubpath : GoodIn wsX12_runs wsX12_isSubpath := goodIn_r _ [6, 7, 8, 9, 5, 10, 68, 69, 70, 71, 72, 73, 74, 75, 76, 77, 78, 79, 80, 81, 82, 83, 84, 85, 86, 87, 88, 89, 90, 91, 92, 93, 94, 95, 96, 97, 98] (by decide +kernel) (by decide +kernel)
set_option maxRecDepth 20000 in
theorem gX12_runs_X12_isSubpath : GoodIn wsX12_runs (wsV RX12 119 RX12 yX12_isSubpath wsX12_isSubpath) := goodIn_app (goodIn_of _ (by decide +kernel)) ggX12_runs_X12_isSubpath
set_option maxRecDepth 20000 in
theorem ggX12_runs_X12_refused : GoodIn wsX12_runs wsX12_refused := goodIn_r _ [14, 15, 68, 69, 70, 71, 72, 73, 74, 75, 76, 77, 78, 79, 80, 81, 82, 83, 84, 85, 86, 87, 88, 89, 90, 91, 92, 93, 94, 95, 96, 97, 98] (by decide +kernel) (by decide +kernel)
set_option maxRecDepth 20000 in
theorem gX12_runs_X12_refused : GoodIn wsX12_runs (wsV RX12 76 RX12 yX12_refused wsX12_refused) := goodIn_app (goodIn_of _ (by decide +kernel)) ggX12_runs_X12_refused
set_option maxRecDepth 20000 in
theorem ggX12_runs_X12_laysRuns : GoodIn wsX12_runs wsX12_laysRuns := goodIn_r _ [19, 7, 1, 20, 21, 22, 23, 24, 25, 26, 5, 27, 28, 29, 30, 31, 32, 33, 34, 35, 36, 37, 38, 39, 40, 41, 42, 43, 44, 45, 46, 47, 48, 49, 50, 51, 52, 53, 54, 55, 56, 57, 58, 59, 60, 61, 62, 63, 64, 65, 66, 67, 68, 69, 70, 71, 72, 73, 74, 75, 76, 77, 78, 79, 80, 81, 82, 83, 84, 85, 86, 87, 88, 89, 90, 91, 92, 93, 94, 95, 96, 97, 98] (by decide +kernel) (by decide +kernel)
set_option maxRecDepth 20000 in
theorem gX12_runs_X12_laysRuns : GoodIn wsX12_runs (wsV RX12 185 RX12 yX12_laysRuns wsX12_laysRuns) := goodIn_app (goodIn_of _ (by decide +kernel)) ggX12_runs_X12_laysRuns
theorem dX12_runs_0 : decode cX12_runs 0 = .ok (.aload_n 0, 1) := by decide +kernel
theorem dX12_runs_1 : decode cX12_runs 1 = .ok (.aload_n 0, 1) := by decide +kernel
theorem dX12_runs_2 : decode cX12_runs 2 = .ok (.iload_n 1, 1) := by decide +kernel
theorem dX12_runs_3 : decode cX12_runs 3 = .ok (.invokevirtual 119, 3) := by decide +kernel
theorem dX12_runs_6 : decode cX12_runs 6 = .ok (.ifCond .eq 7, 3) := by decide +kernel
theorem dX12_runs_9 : decode cX12_runs 9 = .ok (.iconst 0, 1) := by decide +kernel
theorem dX12_runs_10 : decode cX12_runs 10 = .ok (.goto 4, 3) := by decide +kernel
theorem dX12_runs_13 : decode cX12_runs 13 = .ok (.iconst 1, 1) := by decide +kernel
theorem dX12_runs_14 : decode cX12_runs 14 = .ok (.invokevirtual 76, 3) := by decide +kernel
theorem dX12_runs_17 : decode cX12_runs 17 = .ok (.ifCond .eq 5, 3) := by decide +kernel
theorem dX12_runs_20 : decode cX12_runs 20 = .ok (.iconst 0, 1) := by decide +kernel
theorem dX12_runs_21 : decode cX12_runs 21 = .ok (.ireturn, 1) := by decide +kernel
theorem dX12_runs_22 : decode cX12_runs 22 = .ok (.aload_n 0, 1) := by decide +kernel
theorem dX12_runs_23 : decode cX12_runs 23 = .ok (.iload_n 1, 1) := by decide +kernel
theorem dX12_runs_24 : decode cX12_runs 24 = .ok (.invokevirtual 185, 3) := by decide +kernel
theorem dX12_runs_27 : decode cX12_runs 27 = .ok (.aload_n 0, 1) := by decide +kernel
theorem dX12_runs_28 : decode cX12_runs 28 = .ok (.getfield 169, 3) := by decide +kernel
theorem dX12_runs_31 : decode cX12_runs 31 = .ok (.ireturn, 1) := by decide +kernel
set_option maxRecDepth 20000 in
theorem ggX12_tellRun_X12_laysCuts : GoodIn wsX12_tellRun wsX12_laysCuts := goodIn_r _ [9, 3, 1, 2, 10, 11, 12, 13, 8, 14, 15, 16, 17, 18, 19, 20, 21, 22, 23, 24, 25, 26, 27, 28, 29, 30, 31, 32, 33, 34, 35, 36, 37, 38, 39, 40, 41, 42, 43, 44, 45, 46, 47, 48, 49, 50, 51] (by decide +kernel) (by decide +kernel)
set_option maxRecDepth 20000 in
theorem gX12_tellRun_X12_laysCuts : GoodIn wsX12_tellRun (wsV RX12 188 RX12 yX12_laysCuts wsX12_laysCuts) := goodIn_app (goodIn_of _ (by decide +kernel)) ggX12_tellRun_X12_laysCuts
theorem dX12_tellRun_0 : decode cX12_tellRun 0 = .ok (.iload_n 2, 1) := by decide +kernel
theorem dX12_tellRun_1 : decode cX12_tellRun 1 = .ok (.tableswitch 51 0 2 #[27, 34, 41], 27) := by decide +kernel
theorem dX12_tellRun_28 : decode cX12_tellRun 28 = .ok (.aload_n 0, 1) := by decide +kernel
theorem dX12_tellRun_29 : decode cX12_tellRun 29 = .ok (.getfield 37, 3) := by decide +kernel
theorem dX12_tellRun_32 : decode cX12_tellRun 32 = .ok (.iload_n 1, 1) := by decide +kernel
theorem dX12_tellRun_33 : decode cX12_tellRun 33 = .ok (.iaload, 1) := by decide +kernel
theorem dX12_tellRun_34 : decode cX12_tellRun 34 = .ok (.ireturn, 1) := by decide +kernel
theorem dX12_tellRun_35 : decode cX12_tellRun 35 = .ok (.aload_n 0, 1) := by decide +kernel
theorem dX12_tellRun_36 : decode cX12_tellRun 36 = .ok (.getfield 40, 3) := by decide +kernel
theorem dX12_tellRun_39 : decode cX12_tellRun 39 = .ok (.iload_n 1, 1) := by decide +kernel
theorem dX12_tellRun_40 : decode cX12_tellRun 40 = .ok (.iaload, 1) := by decide +kernel
theorem dX12_tellRun_41 : decode cX12_tellRun 41 = .ok (.ireturn, 1) := by decide +kernel
theorem dX12_tellRun_42 : decode cX12_tellRun 42 = .ok (.aload_n 0, 1) := by decide +kernel
theorem dX12_tellRun_43 : decode cX12_tellRun 43 = .ok (.iload_n 1, 1) := by decide +kernel
theorem dX12_tellRun_44 : decode cX12_tellRun 44 = .ok (.invokevirtual 188, 3) := by decide +kernel
theorem dX12_tellRun_47 : decode cX12_tellRun 47 = .ok (.aload_n 0, 1) := by decide +kernel
theorem dX12_tellRun_48 : decode cX12_tellRun 48 = .ok (.getfield 179, 3) := by decide +kernel
theorem dX12_tellRun_51 : decode cX12_tellRun 51 = .ok (.ireturn, 1) := by decide +kernel
theorem dX12_tellRun_52 : decode cX12_tellRun 52 = .ok (.aload_n 0, 1) := by decide +kernel
theorem dX12_tellRun_53 : decode cX12_tellRun 53 = .ok (.getfield 172, 3) := by decide +kernel
theorem dX12_tellRun_56 : decode cX12_tellRun 56 = .ok (.ifCond .eq 7, 3) := by decide +kernel
theorem dX12_tellRun_59 : decode cX12_tellRun 59 = .ok (.iconst 1, 1) := by decide +kernel
theorem dX12_tellRun_60 : decode cX12_tellRun 60 = .ok (.goto 4, 3) := by decide +kernel
theorem dX12_tellRun_63 : decode cX12_tellRun 63 = .ok (.iconst 0, 1) := by decide +kernel
theorem dX12_tellRun_64 : decode cX12_tellRun 64 = .ok (.ireturn, 1) := by decide +kernel
set_option maxRecDepth 20000 in
theorem ggX12_run_X12_isSubpath : GoodIn wsX12_run wsX12_isSubpath := goodIn_r _ [6, 7, 8, 9, 5, 10, 84, 85, 86, 87, 88, 89, 90, 91, 92, 93, 94, 95, 96, 97, 98, 99, 100, 101, 102, 103, 104, 105, 106, 107, 108, 109, 110, 111, 112, 113, 114] (by decide +kernel) (by decide +kernel)
set_option maxRecDepth 20000 in
theorem gX12_run_X12_isSubpath : GoodIn wsX12_run (wsV RX12 119 RX12 yX12_isSubpath wsX12_isSubpath) := goodIn_app (goodIn_of _ (by decide +kernel)) ggX12_run_X12_isSubpath
set_option maxRecDepth 20000 in
theorem ggX12_run_X12_laysRuns : GoodIn wsX12_run wsX12_laysRuns := goodIn_r _ [14, 7, 1, 15, 16, 17, 18, 19, 20, 21, 5, 22, 23, 24, 25, 26, 27, 28, 29, 30, 31, 32, 33, 34, 35, 36, 37, 38, 39, 40, 41, 42, 43, 44, 45, 46, 47, 48, 49, 50, 51, 52, 53, 54, 55, 56, 57, 58, 59, 60, 61, 62, 84, 85, 86, 87, 88, 89, 90, 91, 92, 93, 94, 95, 96, 97, 98, 99, 100, 101, 102, 103, 104, 105, 106, 107, 108, 109, 110, 111, 112, 113, 114] (by decide +kernel) (by decide +kernel)
set_option maxRecDepth 20000 in
theorem gX12_run_X12_laysRuns : GoodIn wsX12_run (wsV RX12 185 RX12 yX12_laysRuns wsX12_laysRuns) := goodIn_app (goodIn_of _ (by decide +kernel)) ggX12_run_X12_laysRuns
set_option maxRecDepth 20000 in
theorem ggX12_run_X12_within : GoodIn wsX12_run wsX12_within := goodIn_r _ [10] (by decide +kernel) (by decide +kernel)
set_option maxRecDepth 20000 in
theorem gX12_run_X12_within : GoodIn wsX12_run (va_wsS RX12 65 yX12_within wsX12_within) := goodIn_app (goodIn_of _ (by decide +kernel)) ggX12_run_X12_within
set_option maxRecDepth 20000 in
theorem ggX12_run_X12_refused : GoodIn wsX12_run wsX12_refused := goodIn_r _ [66, 67, 84, 85, 86, 87, 88, 89, 90, 91, 92, 93, 94, 95, 96, 97, 98, 99, 100, 101, 102, 103, 104, 105, 106, 107, 108, 109, 110, 111, 112, 113, 114] (by decide +kernel) (by decide +kernel)
set_option maxRecDepth 20000 in
theorem gX12_run_X12_refused : GoodIn wsX12_run (wsV RX12 76 RX12 yX12_refused wsX12_refused) := goodIn_app (goodIn_of _ (by decide +kernel)) ggX12_run_X12_refused
set_option maxRecDepth 20000 in
theorem ggX12_run_X12_tellRun : GoodIn wsX12_run wsX12_tellRun := goodIn_r _ [71, 17, 18, 72, 15, 73, 74, 75, 5, 76, 16, 77, 78, 79, 80, 27, 34, 32, 81, 82, 83, 84, 85, 86, 87, 88, 89, 90, 91, 92, 93, 94, 95, 96, 97, 98, 99, 100, 101, 102, 103, 104, 105, 106, 107, 108, 109, 110, 111, 112, 113, 114] (by decide +kernel) (by decide +kernel)
set_option maxRecDepth 20000 in
theorem gX12_run_X12_tellRun : GoodIn wsX12_run (wsV RX12 191 RX12 yX12_tellRun wsX12_tellRun) := goodIn_app (goodIn_of _ (by decide +kernel)) ggX12_run_X12_tellRun
theorem dX12_run_0 : decode cX12_run 0 = .ok (.aload_n 0, 1) := by decide +kernel
theorem dX12_run_1 : decode cX12_run 1 = .ok (.iload_n 1, 1) := by decide +kernel
theorem dX12_run_2 : decode cX12_run 2 = .ok (.invokevirtual 119, 3) := by decide +kernel
theorem dX12_run_5 : decode cX12_run 5 = .ok (.ifCond .eq 8, 3) := by decide +kernel
theorem dX12_run_8 : decode cX12_run 8 = .ok (.aload_n 0, 1) := by decide +kernel
theorem dX12_run_9 : decode cX12_run 9 = .ok (.iload_n 1, 1) := by decide +kernel
theorem dX12_run_10 : decode cX12_run 10 = .ok (.invokevirtual 185, 3) := by decide +kernel
theorem dX12_run_13 : decode cX12_run 13 = .ok (.aload_n 0, 1) := by decide +kernel
theorem dX12_run_14 : decode cX12_run 14 = .ok (.aload_n 0, 1) := by decide +kernel
theorem dX12_run_15 : decode cX12_run 15 = .ok (.iload_n 1, 1) := by decide +kernel
theorem dX12_run_16 : decode cX12_run 16 = .ok (.invokevirtual 119, 3) := by decide +kernel
theorem dX12_run_19 : decode cX12_run 19 = .ok (.ifCond .eq 17, 3) := by decide +kernel
theorem dX12_run_22 : decode cX12_run 22 = .ok (.iload_n 2, 1) := by decide +kernel
theorem dX12_run_23 : decode cX12_run 23 = .ok (.iconst 0, 1) := by decide +kernel
theorem dX12_run_24 : decode cX12_run 24 = .ok (.aload_n 0, 1) := by decide +kernel
theorem dX12_run_25 : decode cX12_run 25 = .ok (.getfield 169, 3) := by decide +kernel
theorem dX12_run_28 : decode cX12_run 28 = .ok (.iconst 1, 1) := by decide +kernel
theorem dX12_run_29 : decode cX12_run 29 = .ok (.isub, 1) := by decide +kernel
theorem dX12_run_30 : decode cX12_run 30 = .ok (.invokestatic 65, 3) := by decide +kernel
theorem dX12_run_33 : decode cX12_run 33 = .ok (.ifCond .ne 7, 3) := by decide +kernel
theorem dX12_run_36 : decode cX12_run 36 = .ok (.iconst 1, 1) := by decide +kernel
theorem dX12_run_37 : decode cX12_run 37 = .ok (.goto 17, 3) := by decide +kernel
theorem dX12_run_40 : decode cX12_run 40 = .ok (.iload_n 3, 1) := by decide +kernel
theorem dX12_run_41 : decode cX12_run 41 = .ok (.iconst 0, 1) := by decide +kernel
theorem dX12_run_42 : decode cX12_run 42 = .ok (.iconst 3, 1) := by decide +kernel
theorem dX12_run_43 : decode cX12_run 43 = .ok (.invokestatic 65, 3) := by decide +kernel
theorem dX12_run_46 : decode cX12_run 46 = .ok (.ifCond .eq 7, 3) := by decide +kernel
theorem dX12_run_49 : decode cX12_run 49 = .ok (.iconst 0, 1) := by decide +kernel
theorem dX12_run_50 : decode cX12_run 50 = .ok (.goto 4, 3) := by decide +kernel
theorem dX12_run_53 : decode cX12_run 53 = .ok (.iconst 2, 1) := by decide +kernel
theorem dX12_run_54 : decode cX12_run 54 = .ok (.invokevirtual 76, 3) := by decide +kernel
theorem dX12_run_57 : decode cX12_run 57 = .ok (.ifCond .eq 7, 3) := by decide +kernel
theorem dX12_run_60 : decode cX12_run 60 = .ok (.iconst 0, 1) := by decide +kernel
theorem dX12_run_61 : decode cX12_run 61 = .ok (.goto 9, 3) := by decide +kernel
theorem dX12_run_64 : decode cX12_run 64 = .ok (.aload_n 0, 1) := by decide +kernel
theorem dX12_run_65 : decode cX12_run 65 = .ok (.iload_n 2, 1) := by decide +kernel
theorem dX12_run_66 : decode cX12_run 66 = .ok (.iload_n 3, 1) := by decide +kernel
theorem dX12_run_67 : decode cX12_run 67 = .ok (.invokevirtual 191, 3) := by decide +kernel
theorem dX12_run_70 : decode cX12_run 70 = .ok (.ireturn, 1) := by decide +kernel
set_option maxRecDepth 20000 in
theorem ggX12_dashed_X12_laysRuns : GoodIn wsX12_dashed wsX12_laysRuns := goodIn_r _ [10, 2, 4, 11, 3, 12, 5, 13, 14, 15, 9, 16, 17, 18, 19, 20, 21, 22, 23, 24, 25, 26, 27, 28, 29, 30, 31, 32, 33, 34, 35, 36, 37, 38, 39, 40, 41, 42, 43, 44, 45, 46, 47, 48, 49, 50, 51, 52, 53, 54, 55, 56, 57, 58, 59, 60, 61, 62, 63, 64, 65, 66, 67, 68, 69, 70, 71, 72, 73, 74, 75, 76, 77, 78, 79, 80, 81, 82, 83, 84, 85, 86, 87] (by decide +kernel) (by decide +kernel)
set_option maxRecDepth 20000 in
theorem gX12_dashed_X12_laysRuns : GoodIn wsX12_dashed (wsV RX12 185 RX12 yX12_laysRuns wsX12_laysRuns) := goodIn_app (goodIn_of _ (by decide +kernel)) ggX12_dashed_X12_laysRuns
theorem dX12_dashed_0 : decode cX12_dashed 0 = .ok (.aload_n 0, 1) := by decide +kernel
theorem dX12_dashed_1 : decode cX12_dashed 1 = .ok (.iconst 0, 1) := by decide +kernel
theorem dX12_dashed_2 : decode cX12_dashed 2 = .ok (.putfield 61, 3) := by decide +kernel
theorem dX12_dashed_5 : decode cX12_dashed 5 = .ok (.iconst 0, 1) := by decide +kernel
theorem dX12_dashed_6 : decode cX12_dashed 6 = .ok (.istore_n 2, 1) := by decide +kernel
theorem dX12_dashed_7 : decode cX12_dashed 7 = .ok (.iconst 0, 1) := by decide +kernel
theorem dX12_dashed_8 : decode cX12_dashed 8 = .ok (.istore_n 3, 1) := by decide +kernel
theorem dX12_dashed_9 : decode cX12_dashed 9 = .ok (.iconst 0, 1) := by decide +kernel
theorem dX12_dashed_10 : decode cX12_dashed 10 = .ok (.istore 4, 2) := by decide +kernel
theorem dX12_dashed_12 : decode cX12_dashed 12 = .ok (.iload 4, 2) := by decide +kernel
theorem dX12_dashed_14 : decode cX12_dashed 14 = .ok (.aload_n 0, 1) := by decide +kernel
theorem dX12_dashed_15 : decode cX12_dashed 15 = .ok (.getfield 7, 3) := by decide +kernel
theorem dX12_dashed_18 : decode cX12_dashed 18 = .ok (.bipush 13, 2) := by decide +kernel
theorem dX12_dashed_20 : decode cX12_dashed 20 = .ok (.iaload, 1) := by decide +kernel
theorem dX12_dashed_21 : decode cX12_dashed 21 = .ok (.if_icmp .ge 50, 3) := by decide +kernel
theorem dX12_dashed_24 : decode cX12_dashed 24 = .ok (.aload_n 0, 1) := by decide +kernel
theorem dX12_dashed_25 : decode cX12_dashed 25 = .ok (.iload 4, 2) := by decide +kernel
theorem dX12_dashed_27 : decode cX12_dashed 27 = .ok (.invokevirtual 185, 3) := by decide +kernel
theorem dX12_dashed_30 : decode cX12_dashed 30 = .ok (.iload_n 3, 1) := by decide +kernel
theorem dX12_dashed_31 : decode cX12_dashed 31 = .ok (.aload_n 0, 1) := by decide +kernel
theorem dX12_dashed_32 : decode cX12_dashed 32 = .ok (.getfield 142, 3) := by decide +kernel
theorem dX12_dashed_35 : decode cX12_dashed 35 = .ok (.iadd, 1) := by decide +kernel
theorem dX12_dashed_36 : decode cX12_dashed 36 = .ok (.istore_n 3, 1) := by decide +kernel
theorem dX12_dashed_37 : decode cX12_dashed 37 = .ok (.iconst 0, 1) := by decide +kernel
theorem dX12_dashed_38 : decode cX12_dashed 38 = .ok (.istore 5, 2) := by decide +kernel
theorem dX12_dashed_40 : decode cX12_dashed 40 = .ok (.iload 5, 2) := by decide +kernel
theorem dX12_dashed_42 : decode cX12_dashed 42 = .ok (.aload_n 0, 1) := by decide +kernel
theorem dX12_dashed_43 : decode cX12_dashed 43 = .ok (.getfield 169, 3) := by decide +kernel
theorem dX12_dashed_46 : decode cX12_dashed 46 = .ok (.if_icmp .ge 19, 3) := by decide +kernel
theorem dX12_dashed_49 : decode cX12_dashed 49 = .ok (.iload_n 2, 1) := by decide +kernel
theorem dX12_dashed_50 : decode cX12_dashed 50 = .ok (.aload_n 0, 1) := by decide +kernel
theorem dX12_dashed_51 : decode cX12_dashed 51 = .ok (.getfield 40, 3) := by decide +kernel
theorem dX12_dashed_54 : decode cX12_dashed 54 = .ok (.iload 5, 2) := by decide +kernel
theorem dX12_dashed_56 : decode cX12_dashed 56 = .ok (.iaload, 1) := by decide +kernel
theorem dX12_dashed_57 : decode cX12_dashed 57 = .ok (.iadd, 1) := by decide +kernel
theorem dX12_dashed_58 : decode cX12_dashed 58 = .ok (.istore_n 2, 1) := by decide +kernel
theorem dX12_dashed_59 : decode cX12_dashed 59 = .ok (.iinc 5 1, 3) := by decide +kernel
theorem dX12_dashed_62 : decode cX12_dashed 62 = .ok (.goto (-22), 3) := by decide +kernel
theorem dX12_dashed_65 : decode cX12_dashed 65 = .ok (.iinc 4 1, 3) := by decide +kernel
theorem dX12_dashed_68 : decode cX12_dashed 68 = .ok (.goto (-56), 3) := by decide +kernel
theorem dX12_dashed_71 : decode cX12_dashed 71 = .ok (.iload_n 1, 1) := by decide +kernel
theorem dX12_dashed_72 : decode cX12_dashed 72 = .ok (.ifCond .eq 7, 3) := by decide +kernel
theorem dX12_dashed_75 : decode cX12_dashed 75 = .ok (.iload_n 2, 1) := by decide +kernel
theorem dX12_dashed_76 : decode cX12_dashed 76 = .ok (.goto 6, 3) := by decide +kernel
theorem dX12_dashed_79 : decode cX12_dashed 79 = .ok (.iload_n 3, 1) := by decide +kernel
theorem dX12_dashed_80 : decode cX12_dashed 80 = .ok (.iload_n 2, 1) := by decide +kernel
theorem dX12_dashed_81 : decode cX12_dashed 81 = .ok (.isub, 1) := by decide +kernel
theorem dX12_dashed_82 : decode cX12_dashed 82 = .ok (.ireturn, 1) := by decide +kernel
theorem dX12_half_0 : decode cX12_half 0 = .ok (.bipush 32, 2) := by decide +kernel
theorem dX12_half_2 : decode cX12_half 2 = .ok (.aload_n 0, 1) := by decide +kernel
theorem dX12_half_3 : decode cX12_half 3 = .ok (.getfield 7, 3) := by decide +kernel
theorem dX12_half_6 : decode cX12_half 6 = .ok (.iconst 0, 1) := by decide +kernel
theorem dX12_half_7 : decode cX12_half 7 = .ok (.iaload, 1) := by decide +kernel
theorem dX12_half_8 : decode cX12_half 8 = .ok (.imul, 1) := by decide +kernel
theorem dX12_half_9 : decode cX12_half 9 = .ok (.ireturn, 1) := by decide +kernel
theorem dX12_begin_0 : decode cX12_begin 0 = .ok (.aload_n 0, 1) := by decide +kernel
theorem dX12_begin_1 : decode cX12_begin 1 = .ok (.getfield 52, 3) := by decide +kernel
theorem dX12_begin_4 : decode cX12_begin 4 = .ok (.bipush 9, 2) := by decide +kernel
theorem dX12_begin_6 : decode cX12_begin 6 = .ok (.aload_n 0, 1) := by decide +kernel
theorem dX12_begin_7 : decode cX12_begin 7 = .ok (.getfield 194, 3) := by decide +kernel
theorem dX12_begin_10 : decode cX12_begin 10 = .ok (.imul, 1) := by decide +kernel
theorem dX12_begin_11 : decode cX12_begin 11 = .ok (.iload_n 1, 1) := by decide +kernel
theorem dX12_begin_12 : decode cX12_begin 12 = .ok (.iastore, 1) := by decide +kernel
theorem dX12_begin_13 : decode cX12_begin 13 = .ok (.aload_n 0, 1) := by decide +kernel
theorem dX12_begin_14 : decode cX12_begin 14 = .ok (.dup, 1) := by decide +kernel
theorem dX12_begin_15 : decode cX12_begin 15 = .ok (.getfield 194, 3) := by decide +kernel
theorem dX12_begin_18 : decode cX12_begin 18 = .ok (.iconst 1, 1) := by decide +kernel
theorem dX12_begin_19 : decode cX12_begin 19 = .ok (.iadd, 1) := by decide +kernel
theorem dX12_begin_20 : decode cX12_begin 20 = .ok (.putfield 194, 3) := by decide +kernel
theorem dX12_begin_23 : decode cX12_begin 23 = .ok (.return_, 1) := by decide +kernel
theorem dX12_corners_0 : decode cX12_corners 0 = .ok (.aload_n 0, 1) := by decide +kernel
theorem dX12_corners_1 : decode cX12_corners 1 = .ok (.getfield 52, 3) := by decide +kernel
theorem dX12_corners_4 : decode cX12_corners 4 = .ok (.bipush 9, 2) := by decide +kernel
theorem dX12_corners_6 : decode cX12_corners 6 = .ok (.aload_n 0, 1) := by decide +kernel
theorem dX12_corners_7 : decode cX12_corners 7 = .ok (.getfield 194, 3) := by decide +kernel
theorem dX12_corners_10 : decode cX12_corners 10 = .ok (.imul, 1) := by decide +kernel
theorem dX12_corners_11 : decode cX12_corners 11 = .ok (.bipush 8, 2) := by decide +kernel
theorem dX12_corners_13 : decode cX12_corners 13 = .ok (.isub, 1) := by decide +kernel
theorem dX12_corners_14 : decode cX12_corners 14 = .ok (.iconst 2, 1) := by decide +kernel
theorem dX12_corners_15 : decode cX12_corners 15 = .ok (.iload_n 1, 1) := by decide +kernel
theorem dX12_corners_16 : decode cX12_corners 16 = .ok (.imul, 1) := by decide +kernel
theorem dX12_corners_17 : decode cX12_corners 17 = .ok (.iadd, 1) := by decide +kernel
theorem dX12_corners_18 : decode cX12_corners 18 = .ok (.iload_n 2, 1) := by decide +kernel
theorem dX12_corners_19 : decode cX12_corners 19 = .ok (.iastore, 1) := by decide +kernel
theorem dX12_corners_20 : decode cX12_corners 20 = .ok (.aload_n 0, 1) := by decide +kernel
theorem dX12_corners_21 : decode cX12_corners 21 = .ok (.getfield 52, 3) := by decide +kernel
theorem dX12_corners_24 : decode cX12_corners 24 = .ok (.bipush 9, 2) := by decide +kernel
theorem dX12_corners_26 : decode cX12_corners 26 = .ok (.aload_n 0, 1) := by decide +kernel
theorem dX12_corners_27 : decode cX12_corners 27 = .ok (.getfield 194, 3) := by decide +kernel
theorem dX12_corners_30 : decode cX12_corners 30 = .ok (.imul, 1) := by decide +kernel
theorem dX12_corners_31 : decode cX12_corners 31 = .ok (.bipush 7, 2) := by decide +kernel
theorem dX12_corners_33 : decode cX12_corners 33 = .ok (.isub, 1) := by decide +kernel
theorem dX12_corners_34 : decode cX12_corners 34 = .ok (.iconst 2, 1) := by decide +kernel
theorem dX12_corners_35 : decode cX12_corners 35 = .ok (.iload_n 1, 1) := by decide +kernel
theorem dX12_corners_36 : decode cX12_corners 36 = .ok (.imul, 1) := by decide +kernel
theorem dX12_corners_37 : decode cX12_corners 37 = .ok (.iadd, 1) := by decide +kernel
theorem dX12_corners_38 : decode cX12_corners 38 = .ok (.iload_n 3, 1) := by decide +kernel
theorem dX12_corners_39 : decode cX12_corners 39 = .ok (.iastore, 1) := by decide +kernel
theorem dX12_corners_40 : decode cX12_corners 40 = .ok (.return_, 1) := by decide +kernel
set_option maxRecDepth 20000 in
theorem ggX12_normalX_X12_half : GoodIn wsX12_normalX wsX12_half := goodIn_r _ [8, 9, 14, 15, 16, 17, 18, 19, 20, 21, 22, 23, 24, 25, 26, 27, 28, 29, 30, 31, 32, 33, 34, 35, 36, 37, 38, 39, 40, 41, 42, 43, 44] (by decide +kernel) (by decide +kernel)
set_option maxRecDepth 20000 in
theorem gX12_normalX_X12_half : GoodIn wsX12_normalX (wsV RX12 199 RX12 yX12_half wsX12_half) := goodIn_app (goodIn_of _ (by decide +kernel)) ggX12_normalX_X12_half
set_option maxRecDepth 20000 in
theorem ggX12_normalX_X12_round : GoodIn wsX12_normalX wsX12_round := goodIn_r _ [12, 13] (by decide +kernel) (by decide +kernel)
set_option maxRecDepth 20000 in
theorem gX12_normalX_X12_round : GoodIn wsX12_normalX (va_wsS RX12 153 yX12_round wsX12_round) := goodIn_app (goodIn_of _ (by decide +kernel)) ggX12_normalX_X12_round
theorem dX12_normalX_0 : decode cX12_normalX 0 = .ok (.ldc2_w 197, 3) := by decide +kernel
theorem dX12_normalX_3 : decode cX12_normalX 3 = .ok (.aload_n 0, 1) := by decide +kernel
theorem dX12_normalX_4 : decode cX12_normalX 4 = .ok (.getfield 22, 3) := by decide +kernel
theorem dX12_normalX_7 : decode cX12_normalX 7 = .ok (.iload_n 1, 1) := by decide +kernel
theorem dX12_normalX_8 : decode cX12_normalX 8 = .ok (.iaload, 1) := by decide +kernel
theorem dX12_normalX_9 : decode cX12_normalX 9 = .ok (.i2l, 1) := by decide +kernel
theorem dX12_normalX_10 : decode cX12_normalX 10 = .ok (.lmul, 1) := by decide +kernel
theorem dX12_normalX_11 : decode cX12_normalX 11 = .ok (.aload_n 0, 1) := by decide +kernel
theorem dX12_normalX_12 : decode cX12_normalX 12 = .ok (.invokevirtual 199, 3) := by decide +kernel
theorem dX12_normalX_15 : decode cX12_normalX 15 = .ok (.i2l, 1) := by decide +kernel
theorem dX12_normalX_16 : decode cX12_normalX 16 = .ok (.lmul, 1) := by decide +kernel
theorem dX12_normalX_17 : decode cX12_normalX 17 = .ok (.aload_n 0, 1) := by decide +kernel
theorem dX12_normalX_18 : decode cX12_normalX 18 = .ok (.getfield 31, 3) := by decide +kernel
theorem dX12_normalX_21 : decode cX12_normalX 21 = .ok (.iload_n 1, 1) := by decide +kernel
theorem dX12_normalX_22 : decode cX12_normalX 22 = .ok (.iaload, 1) := by decide +kernel
theorem dX12_normalX_23 : decode cX12_normalX 23 = .ok (.i2l, 1) := by decide +kernel
theorem dX12_normalX_24 : decode cX12_normalX 24 = .ok (.invokestatic 153, 3) := by decide +kernel
theorem dX12_normalX_27 : decode cX12_normalX 27 = .ok (.ireturn, 1) := by decide +kernel
set_option maxRecDepth 20000 in
theorem ggX12_normalY_X12_half : GoodIn wsX12_normalY wsX12_half := goodIn_r _ [8, 9, 14, 15, 16, 17, 18, 19, 20, 21, 22, 23, 24, 25, 26, 27, 28, 29, 30, 31, 32, 33, 34, 35, 36, 37, 38, 39, 40, 41, 42, 43, 44] (by decide +kernel) (by decide +kernel)
set_option maxRecDepth 20000 in
theorem gX12_normalY_X12_half : GoodIn wsX12_normalY (wsV RX12 199 RX12 yX12_half wsX12_half) := goodIn_app (goodIn_of _ (by decide +kernel)) ggX12_normalY_X12_half
set_option maxRecDepth 20000 in
theorem ggX12_normalY_X12_round : GoodIn wsX12_normalY wsX12_round := goodIn_r _ [12, 13] (by decide +kernel) (by decide +kernel)
set_option maxRecDepth 20000 in
theorem gX12_normalY_X12_round : GoodIn wsX12_normalY (va_wsS RX12 153 yX12_round wsX12_round) := goodIn_app (goodIn_of _ (by decide +kernel)) ggX12_normalY_X12_round
theorem dX12_normalY_0 : decode cX12_normalY 0 = .ok (.ldc2_w 151, 3) := by decide +kernel
theorem dX12_normalY_3 : decode cX12_normalY 3 = .ok (.aload_n 0, 1) := by decide +kernel
theorem dX12_normalY_4 : decode cX12_normalY 4 = .ok (.getfield 19, 3) := by decide +kernel
theorem dX12_normalY_7 : decode cX12_normalY 7 = .ok (.iload_n 1, 1) := by decide +kernel
theorem dX12_normalY_8 : decode cX12_normalY 8 = .ok (.iaload, 1) := by decide +kernel
theorem dX12_normalY_9 : decode cX12_normalY 9 = .ok (.i2l, 1) := by decide +kernel
theorem dX12_normalY_10 : decode cX12_normalY 10 = .ok (.lmul, 1) := by decide +kernel
theorem dX12_normalY_11 : decode cX12_normalY 11 = .ok (.aload_n 0, 1) := by decide +kernel
theorem dX12_normalY_12 : decode cX12_normalY 12 = .ok (.invokevirtual 199, 3) := by decide +kernel
theorem dX12_normalY_15 : decode cX12_normalY 15 = .ok (.i2l, 1) := by decide +kernel
theorem dX12_normalY_16 : decode cX12_normalY 16 = .ok (.lmul, 1) := by decide +kernel
theorem dX12_normalY_17 : decode cX12_normalY 17 = .ok (.aload_n 0, 1) := by decide +kernel
theorem dX12_normalY_18 : decode cX12_normalY 18 = .ok (.getfield 31, 3) := by decide +kernel
theorem dX12_normalY_21 : decode cX12_normalY 21 = .ok (.iload_n 1, 1) := by decide +kernel
theorem dX12_normalY_22 : decode cX12_normalY 22 = .ok (.iaload, 1) := by decide +kernel
theorem dX12_normalY_23 : decode cX12_normalY 23 = .ok (.i2l, 1) := by decide +kernel
theorem dX12_normalY_24 : decode cX12_normalY 24 = .ok (.invokestatic 153, 3) := by decide +kernel
theorem dX12_normalY_27 : decode cX12_normalY 27 = .ok (.ireturn, 1) := by decide +kernel
set_option maxRecDepth 20000 in
theorem ggX12_edgeX_X12_half : GoodIn wsX12_edgeX wsX12_half := goodIn_r _ [8, 9, 14, 15, 16, 17, 18, 19, 20, 21, 22, 23, 24, 25, 26, 27, 28, 29, 30, 31, 32, 33, 34, 35, 36, 37, 38, 39, 40, 41, 42, 43, 44] (by decide +kernel) (by decide +kernel)
set_option maxRecDepth 20000 in
theorem gX12_edgeX_X12_half : GoodIn wsX12_edgeX (wsV RX12 199 RX12 yX12_half wsX12_half) := goodIn_app (goodIn_of _ (by decide +kernel)) ggX12_edgeX_X12_half
set_option maxRecDepth 20000 in
theorem ggX12_edgeX_X12_round : GoodIn wsX12_edgeX wsX12_round := goodIn_r _ [12, 13] (by decide +kernel) (by decide +kernel)
set_option maxRecDepth 20000 in
theorem gX12_edgeX_X12_round : GoodIn wsX12_edgeX (va_wsS RX12 153 yX12_round wsX12_round) := goodIn_app (goodIn_of _ (by decide +kernel)) ggX12_edgeX_X12_round
theorem dX12_edgeX_0 : decode cX12_edgeX 0 = .ok (.ldc2_w 151, 3) := by decide +kernel
theorem dX12_edgeX_3 : decode cX12_edgeX 3 = .ok (.aload_n 0, 1) := by decide +kernel
theorem dX12_edgeX_4 : decode cX12_edgeX 4 = .ok (.getfield 19, 3) := by decide +kernel
theorem dX12_edgeX_7 : decode cX12_edgeX 7 = .ok (.iload_n 1, 1) := by decide +kernel
theorem dX12_edgeX_8 : decode cX12_edgeX 8 = .ok (.iaload, 1) := by decide +kernel
theorem dX12_edgeX_9 : decode cX12_edgeX 9 = .ok (.i2l, 1) := by decide +kernel
theorem dX12_edgeX_10 : decode cX12_edgeX 10 = .ok (.lmul, 1) := by decide +kernel
theorem dX12_edgeX_11 : decode cX12_edgeX 11 = .ok (.aload_n 0, 1) := by decide +kernel
theorem dX12_edgeX_12 : decode cX12_edgeX 12 = .ok (.invokevirtual 199, 3) := by decide +kernel
theorem dX12_edgeX_15 : decode cX12_edgeX 15 = .ok (.i2l, 1) := by decide +kernel
theorem dX12_edgeX_16 : decode cX12_edgeX 16 = .ok (.lmul, 1) := by decide +kernel
theorem dX12_edgeX_17 : decode cX12_edgeX 17 = .ok (.aload_n 0, 1) := by decide +kernel
theorem dX12_edgeX_18 : decode cX12_edgeX 18 = .ok (.getfield 31, 3) := by decide +kernel
theorem dX12_edgeX_21 : decode cX12_edgeX 21 = .ok (.iload_n 1, 1) := by decide +kernel
theorem dX12_edgeX_22 : decode cX12_edgeX 22 = .ok (.iaload, 1) := by decide +kernel
theorem dX12_edgeX_23 : decode cX12_edgeX 23 = .ok (.i2l, 1) := by decide +kernel
theorem dX12_edgeX_24 : decode cX12_edgeX 24 = .ok (.invokestatic 153, 3) := by decide +kernel
theorem dX12_edgeX_27 : decode cX12_edgeX 27 = .ok (.ireturn, 1) := by decide +kernel
set_option maxRecDepth 20000 in
theorem ggX12_edgeY_X12_half : GoodIn wsX12_edgeY wsX12_half := goodIn_r _ [8, 9, 14, 15, 16, 17, 18, 19, 20, 21, 22, 23, 24, 25, 26, 27, 28, 29, 30, 31, 32, 33, 34, 35, 36, 37, 38, 39, 40, 41, 42, 43, 44] (by decide +kernel) (by decide +kernel)
set_option maxRecDepth 20000 in
theorem gX12_edgeY_X12_half : GoodIn wsX12_edgeY (wsV RX12 199 RX12 yX12_half wsX12_half) := goodIn_app (goodIn_of _ (by decide +kernel)) ggX12_edgeY_X12_half
set_option maxRecDepth 20000 in
theorem ggX12_edgeY_X12_round : GoodIn wsX12_edgeY wsX12_round := goodIn_r _ [12, 13] (by decide +kernel) (by decide +kernel)
set_option maxRecDepth 20000 in
theorem gX12_edgeY_X12_round : GoodIn wsX12_edgeY (va_wsS RX12 153 yX12_round wsX12_round) := goodIn_app (goodIn_of _ (by decide +kernel)) ggX12_edgeY_X12_round
theorem dX12_edgeY_0 : decode cX12_edgeY 0 = .ok (.ldc2_w 151, 3) := by decide +kernel
theorem dX12_edgeY_3 : decode cX12_edgeY 3 = .ok (.aload_n 0, 1) := by decide +kernel
theorem dX12_edgeY_4 : decode cX12_edgeY 4 = .ok (.getfield 22, 3) := by decide +kernel
theorem dX12_edgeY_7 : decode cX12_edgeY 7 = .ok (.iload_n 1, 1) := by decide +kernel
theorem dX12_edgeY_8 : decode cX12_edgeY 8 = .ok (.iaload, 1) := by decide +kernel
theorem dX12_edgeY_9 : decode cX12_edgeY 9 = .ok (.i2l, 1) := by decide +kernel
theorem dX12_edgeY_10 : decode cX12_edgeY 10 = .ok (.lmul, 1) := by decide +kernel
theorem dX12_edgeY_11 : decode cX12_edgeY 11 = .ok (.aload_n 0, 1) := by decide +kernel
theorem dX12_edgeY_12 : decode cX12_edgeY 12 = .ok (.invokevirtual 199, 3) := by decide +kernel
theorem dX12_edgeY_15 : decode cX12_edgeY 15 = .ok (.i2l, 1) := by decide +kernel
theorem dX12_edgeY_16 : decode cX12_edgeY 16 = .ok (.lmul, 1) := by decide +kernel
theorem dX12_edgeY_17 : decode cX12_edgeY 17 = .ok (.aload_n 0, 1) := by decide +kernel
theorem dX12_edgeY_18 : decode cX12_edgeY 18 = .ok (.getfield 31, 3) := by decide +kernel
theorem dX12_edgeY_21 : decode cX12_edgeY 21 = .ok (.iload_n 1, 1) := by decide +kernel
theorem dX12_edgeY_22 : decode cX12_edgeY 22 = .ok (.iaload, 1) := by decide +kernel
theorem dX12_edgeY_23 : decode cX12_edgeY 23 = .ok (.i2l, 1) := by decide +kernel
theorem dX12_edgeY_24 : decode cX12_edgeY 24 = .ok (.invokestatic 153, 3) := by decide +kernel
theorem dX12_edgeY_27 : decode cX12_edgeY 27 = .ok (.ireturn, 1) := by decide +kernel
set_option maxRecDepth 20000 in
theorem ggX12_laysDisc_X12_begin : GoodIn wsX12_laysDisc wsX12_begin := goodIn_r _ [5, 6, 7, 12, 13, 14, 15, 16, 17, 18, 19, 20, 21, 22, 23, 24, 25, 26, 27, 28, 29, 30, 31, 32, 33, 34, 35, 36, 37, 38, 39, 40, 41, 42] (by decide +kernel) (by decide +kernel)
set_option maxRecDepth 20000 in
theorem gX12_laysDisc_X12_begin : GoodIn wsX12_laysDisc (wsV RX12 203 RX12 yX12_begin wsX12_begin) := goodIn_app (goodIn_of _ (by decide +kernel)) ggX12_laysDisc_X12_begin
set_option maxRecDepth 20000 in
theorem ggX12_laysDisc_X12_corners : GoodIn wsX12_laysDisc wsX12_corners := goodIn_r _ [11, 6, 7, 12, 13, 14, 15, 16, 17, 18, 19, 20, 21, 22, 23, 24, 25, 26, 27, 28, 29, 30, 31, 32, 33, 34, 35, 36, 37, 38, 39, 40, 41, 42] (by decide +kernel) (by decide +kernel)
set_option maxRecDepth 20000 in
theorem gX12_laysDisc_X12_corners : GoodIn wsX12_laysDisc (wsV RX12 206 RX12 yX12_corners wsX12_corners) := goodIn_app (goodIn_of _ (by decide +kernel)) ggX12_laysDisc_X12_corners
theorem dX12_laysDisc_0 : decode cX12_laysDisc 0 = .ok (.aload_n 0, 1) := by decide +kernel
theorem dX12_laysDisc_1 : decode cX12_laysDisc 1 = .ok (.iconst 3, 1) := by decide +kernel
theorem dX12_laysDisc_2 : decode cX12_laysDisc 2 = .ok (.invokevirtual 203, 3) := by decide +kernel
theorem dX12_laysDisc_5 : decode cX12_laysDisc 5 = .ok (.aload_n 0, 1) := by decide +kernel
theorem dX12_laysDisc_6 : decode cX12_laysDisc 6 = .ok (.iconst 0, 1) := by decide +kernel
theorem dX12_laysDisc_7 : decode cX12_laysDisc 7 = .ok (.iload_n 1, 1) := by decide +kernel
theorem dX12_laysDisc_8 : decode cX12_laysDisc 8 = .ok (.iload_n 2, 1) := by decide +kernel
theorem dX12_laysDisc_9 : decode cX12_laysDisc 9 = .ok (.invokevirtual 206, 3) := by decide +kernel
theorem dX12_laysDisc_12 : decode cX12_laysDisc 12 = .ok (.return_, 1) := by decide +kernel
set_option maxRecDepth 20000 in
theorem ggX12_laysStrip_X12_normalX : GoodIn wsX12_laysStrip wsX12_normalX := goodIn_r _ [8, 9, 10, 11, 12, 13, 14, 7, 15, 16, 17, 18, 19, 20, 47, 48, 49, 50, 51, 52, 53, 54, 55, 56, 57, 58, 59, 60, 61, 62, 63, 64, 65, 66, 67, 68, 69, 70, 71, 72, 73, 74, 75, 76, 77] (by decide +kernel) (by decide +kernel)
set_option maxRecDepth 20000 in
theorem gX12_laysStrip_X12_normalX : GoodIn wsX12_laysStrip (wsV RX12 210 RX12 yX12_normalX wsX12_normalX) := goodIn_app (goodIn_of _ (by decide +kernel)) ggX12_laysStrip_X12_normalX
set_option maxRecDepth 20000 in
theorem ggX12_laysStrip_X12_normalY : GoodIn wsX12_laysStrip wsX12_normalY := goodIn_r _ [24, 25, 26, 11, 12, 13, 14, 7, 15, 16, 17, 18, 19, 20, 47, 48, 49, 50, 51, 52, 53, 54, 55, 56, 57, 58, 59, 60, 61, 62, 63, 64, 65, 66, 67, 68, 69, 70, 71, 72, 73, 74, 75, 76, 77] (by decide +kernel) (by decide +kernel)
set_option maxRecDepth 20000 in
theorem gX12_laysStrip_X12_normalY : GoodIn wsX12_laysStrip (wsV RX12 213 RX12 yX12_normalY wsX12_normalY) := goodIn_app (goodIn_of _ (by decide +kernel)) ggX12_laysStrip_X12_normalY
set_option maxRecDepth 20000 in
theorem ggX12_laysStrip_X12_alongX : GoodIn wsX12_laysStrip wsX12_alongX := goodIn_r _ [30, 31, 25, 26, 11, 17, 18, 7, 19, 20, 47, 48, 49, 50, 51, 52, 53, 54, 55, 56, 57, 58, 59, 60, 61, 62, 63, 64, 65, 66, 67, 68, 69, 70, 71, 72, 73, 74, 75, 76, 77] (by decide +kernel) (by decide +kernel)
set_option maxRecDepth 20000 in
theorem gX12_laysStrip_X12_alongX : GoodIn wsX12_laysStrip (wsV RX12 163 RX12 yX12_alongX wsX12_alongX) := goodIn_app (goodIn_of _ (by decide +kernel)) ggX12_laysStrip_X12_alongX
set_option maxRecDepth 20000 in
theorem ggX12_laysStrip_X12_alongY : GoodIn wsX12_laysStrip wsX12_alongY := goodIn_r _ [35, 36, 25, 10, 11, 17, 18, 7, 19, 20, 47, 48, 49, 50, 51, 52, 53, 54, 55, 56, 57, 58, 59, 60, 61, 62, 63, 64, 65, 66, 67, 68, 69, 70, 71, 72, 73, 74, 75, 76, 77] (by decide +kernel) (by decide +kernel)
set_option maxRecDepth 20000 in
theorem gX12_laysStrip_X12_alongY : GoodIn wsX12_laysStrip (wsV RX12 160 RX12 yX12_alongY wsX12_alongY) := goodIn_app (goodIn_of _ (by decide +kernel)) ggX12_laysStrip_X12_alongY
set_option maxRecDepth 20000 in
theorem ggX12_laysStrip_X12_begin : GoodIn wsX12_laysStrip wsX12_begin := goodIn_r _ [40, 41, 42, 47, 48, 49, 50, 51, 52, 53, 54, 55, 56, 57, 58, 59, 60, 61, 62, 63, 64, 65, 66, 67, 68, 69, 70, 71, 72, 73, 74, 75, 76, 77] (by decide +kernel) (by decide +kernel)
set_option maxRecDepth 20000 in
theorem gX12_laysStrip_X12_begin : GoodIn wsX12_laysStrip (wsV RX12 203 RX12 yX12_begin wsX12_begin) := goodIn_app (goodIn_of _ (by decide +kernel)) ggX12_laysStrip_X12_begin
set_option maxRecDepth 20000 in
theorem ggX12_laysStrip_X12_corners : GoodIn wsX12_laysStrip wsX12_corners := goodIn_r _ [46, 41, 42, 47, 48, 49, 50, 51, 52, 53, 54, 55, 56, 57, 58, 59, 60, 61, 62, 63, 64, 65, 66, 67, 68, 69, 70, 71, 72, 73, 74, 75, 76, 77] (by decide +kernel) (by decide +kernel)
set_option maxRecDepth 20000 in
theorem gX12_laysStrip_X12_corners : GoodIn wsX12_laysStrip (wsV RX12 206 RX12 yX12_corners wsX12_corners) := goodIn_app (goodIn_of _ (by decide +kernel)) ggX12_laysStrip_X12_corners
theorem dX12_laysStrip_0 : decode cX12_laysStrip 0 = .ok (.aload_n 0, 1) := by decide +kernel
theorem dX12_laysStrip_1 : decode cX12_laysStrip 1 = .ok (.getfield 43, 3) := by decide +kernel
theorem dX12_laysStrip_4 : decode cX12_laysStrip 4 = .ok (.iload_n 1, 1) := by decide +kernel
theorem dX12_laysStrip_5 : decode cX12_laysStrip 5 = .ok (.iaload, 1) := by decide +kernel
theorem dX12_laysStrip_6 : decode cX12_laysStrip 6 = .ok (.istore_n 2, 1) := by decide +kernel
theorem dX12_laysStrip_7 : decode cX12_laysStrip 7 = .ok (.aload_n 0, 1) := by decide +kernel
theorem dX12_laysStrip_8 : decode cX12_laysStrip 8 = .ok (.iload_n 2, 1) := by decide +kernel
theorem dX12_laysStrip_9 : decode cX12_laysStrip 9 = .ok (.invokevirtual 210, 3) := by decide +kernel
theorem dX12_laysStrip_12 : decode cX12_laysStrip 12 = .ok (.istore_n 3, 1) := by decide +kernel
theorem dX12_laysStrip_13 : decode cX12_laysStrip 13 = .ok (.aload_n 0, 1) := by decide +kernel
theorem dX12_laysStrip_14 : decode cX12_laysStrip 14 = .ok (.iload_n 2, 1) := by decide +kernel
theorem dX12_laysStrip_15 : decode cX12_laysStrip 15 = .ok (.invokevirtual 213, 3) := by decide +kernel
theorem dX12_laysStrip_18 : decode cX12_laysStrip 18 = .ok (.istore 4, 2) := by decide +kernel
theorem dX12_laysStrip_20 : decode cX12_laysStrip 20 = .ok (.aload_n 0, 1) := by decide +kernel
theorem dX12_laysStrip_21 : decode cX12_laysStrip 21 = .ok (.iload_n 2, 1) := by decide +kernel
theorem dX12_laysStrip_22 : decode cX12_laysStrip 22 = .ok (.aload_n 0, 1) := by decide +kernel
theorem dX12_laysStrip_23 : decode cX12_laysStrip 23 = .ok (.getfield 46, 3) := by decide +kernel
theorem dX12_laysStrip_26 : decode cX12_laysStrip 26 = .ok (.iload_n 1, 1) := by decide +kernel
theorem dX12_laysStrip_27 : decode cX12_laysStrip 27 = .ok (.iaload, 1) := by decide +kernel
theorem dX12_laysStrip_28 : decode cX12_laysStrip 28 = .ok (.invokevirtual 163, 3) := by decide +kernel
theorem dX12_laysStrip_31 : decode cX12_laysStrip 31 = .ok (.istore 5, 2) := by decide +kernel
theorem dX12_laysStrip_33 : decode cX12_laysStrip 33 = .ok (.aload_n 0, 1) := by decide +kernel
theorem dX12_laysStrip_34 : decode cX12_laysStrip 34 = .ok (.iload_n 2, 1) := by decide +kernel
theorem dX12_laysStrip_35 : decode cX12_laysStrip 35 = .ok (.aload_n 0, 1) := by decide +kernel
theorem dX12_laysStrip_36 : decode cX12_laysStrip 36 = .ok (.getfield 46, 3) := by decide +kernel
theorem dX12_laysStrip_39 : decode cX12_laysStrip 39 = .ok (.iload_n 1, 1) := by decide +kernel
theorem dX12_laysStrip_40 : decode cX12_laysStrip 40 = .ok (.iaload, 1) := by decide +kernel
theorem dX12_laysStrip_41 : decode cX12_laysStrip 41 = .ok (.invokevirtual 160, 3) := by decide +kernel
theorem dX12_laysStrip_44 : decode cX12_laysStrip 44 = .ok (.istore 6, 2) := by decide +kernel
theorem dX12_laysStrip_46 : decode cX12_laysStrip 46 = .ok (.aload_n 0, 1) := by decide +kernel
theorem dX12_laysStrip_47 : decode cX12_laysStrip 47 = .ok (.iload_n 2, 1) := by decide +kernel
theorem dX12_laysStrip_48 : decode cX12_laysStrip 48 = .ok (.aload_n 0, 1) := by decide +kernel
theorem dX12_laysStrip_49 : decode cX12_laysStrip 49 = .ok (.getfield 49, 3) := by decide +kernel
theorem dX12_laysStrip_52 : decode cX12_laysStrip 52 = .ok (.iload_n 1, 1) := by decide +kernel
theorem dX12_laysStrip_53 : decode cX12_laysStrip 53 = .ok (.iaload, 1) := by decide +kernel
theorem dX12_laysStrip_54 : decode cX12_laysStrip 54 = .ok (.invokevirtual 163, 3) := by decide +kernel
theorem dX12_laysStrip_57 : decode cX12_laysStrip 57 = .ok (.istore 7, 2) := by decide +kernel
theorem dX12_laysStrip_59 : decode cX12_laysStrip 59 = .ok (.aload_n 0, 1) := by decide +kernel
theorem dX12_laysStrip_60 : decode cX12_laysStrip 60 = .ok (.iload_n 2, 1) := by decide +kernel
theorem dX12_laysStrip_61 : decode cX12_laysStrip 61 = .ok (.aload_n 0, 1) := by decide +kernel
theorem dX12_laysStrip_62 : decode cX12_laysStrip 62 = .ok (.getfield 49, 3) := by decide +kernel
theorem dX12_laysStrip_65 : decode cX12_laysStrip 65 = .ok (.iload_n 1, 1) := by decide +kernel
theorem dX12_laysStrip_66 : decode cX12_laysStrip 66 = .ok (.iaload, 1) := by decide +kernel
theorem dX12_laysStrip_67 : decode cX12_laysStrip 67 = .ok (.invokevirtual 160, 3) := by decide +kernel
theorem dX12_laysStrip_70 : decode cX12_laysStrip 70 = .ok (.istore 8, 2) := by decide +kernel
theorem dX12_laysStrip_72 : decode cX12_laysStrip 72 = .ok (.aload_n 0, 1) := by decide +kernel
theorem dX12_laysStrip_73 : decode cX12_laysStrip 73 = .ok (.iconst 0, 1) := by decide +kernel
theorem dX12_laysStrip_74 : decode cX12_laysStrip 74 = .ok (.invokevirtual 203, 3) := by decide +kernel
theorem dX12_laysStrip_77 : decode cX12_laysStrip 77 = .ok (.aload_n 0, 1) := by decide +kernel
theorem dX12_laysStrip_78 : decode cX12_laysStrip 78 = .ok (.iconst 0, 1) := by decide +kernel
theorem dX12_laysStrip_79 : decode cX12_laysStrip 79 = .ok (.iload 5, 2) := by decide +kernel
theorem dX12_laysStrip_81 : decode cX12_laysStrip 81 = .ok (.iload_n 3, 1) := by decide +kernel
theorem dX12_laysStrip_82 : decode cX12_laysStrip 82 = .ok (.iadd, 1) := by decide +kernel
theorem dX12_laysStrip_83 : decode cX12_laysStrip 83 = .ok (.iload 6, 2) := by decide +kernel
theorem dX12_laysStrip_85 : decode cX12_laysStrip 85 = .ok (.iload 4, 2) := by decide +kernel
theorem dX12_laysStrip_87 : decode cX12_laysStrip 87 = .ok (.iadd, 1) := by decide +kernel
theorem dX12_laysStrip_88 : decode cX12_laysStrip 88 = .ok (.invokevirtual 206, 3) := by decide +kernel
theorem dX12_laysStrip_91 : decode cX12_laysStrip 91 = .ok (.aload_n 0, 1) := by decide +kernel
theorem dX12_laysStrip_92 : decode cX12_laysStrip 92 = .ok (.iconst 1, 1) := by decide +kernel
theorem dX12_laysStrip_93 : decode cX12_laysStrip 93 = .ok (.iload 7, 2) := by decide +kernel
theorem dX12_laysStrip_95 : decode cX12_laysStrip 95 = .ok (.iload_n 3, 1) := by decide +kernel
theorem dX12_laysStrip_96 : decode cX12_laysStrip 96 = .ok (.iadd, 1) := by decide +kernel
theorem dX12_laysStrip_97 : decode cX12_laysStrip 97 = .ok (.iload 8, 2) := by decide +kernel
theorem dX12_laysStrip_99 : decode cX12_laysStrip 99 = .ok (.iload 4, 2) := by decide +kernel
theorem dX12_laysStrip_101 : decode cX12_laysStrip 101 = .ok (.iadd, 1) := by decide +kernel
theorem dX12_laysStrip_102 : decode cX12_laysStrip 102 = .ok (.invokevirtual 206, 3) := by decide +kernel
theorem dX12_laysStrip_105 : decode cX12_laysStrip 105 = .ok (.aload_n 0, 1) := by decide +kernel
theorem dX12_laysStrip_106 : decode cX12_laysStrip 106 = .ok (.iconst 2, 1) := by decide +kernel
theorem dX12_laysStrip_107 : decode cX12_laysStrip 107 = .ok (.iload 7, 2) := by decide +kernel
theorem dX12_laysStrip_109 : decode cX12_laysStrip 109 = .ok (.iload_n 3, 1) := by decide +kernel
theorem dX12_laysStrip_110 : decode cX12_laysStrip 110 = .ok (.isub, 1) := by decide +kernel
theorem dX12_laysStrip_111 : decode cX12_laysStrip 111 = .ok (.iload 8, 2) := by decide +kernel
theorem dX12_laysStrip_113 : decode cX12_laysStrip 113 = .ok (.iload 4, 2) := by decide +kernel
theorem dX12_laysStrip_115 : decode cX12_laysStrip 115 = .ok (.isub, 1) := by decide +kernel
theorem dX12_laysStrip_116 : decode cX12_laysStrip 116 = .ok (.invokevirtual 206, 3) := by decide +kernel
theorem dX12_laysStrip_119 : decode cX12_laysStrip 119 = .ok (.aload_n 0, 1) := by decide +kernel
theorem dX12_laysStrip_120 : decode cX12_laysStrip 120 = .ok (.iconst 3, 1) := by decide +kernel
theorem dX12_laysStrip_121 : decode cX12_laysStrip 121 = .ok (.iload 5, 2) := by decide +kernel
theorem dX12_laysStrip_123 : decode cX12_laysStrip 123 = .ok (.iload_n 3, 1) := by decide +kernel
theorem dX12_laysStrip_124 : decode cX12_laysStrip 124 = .ok (.isub, 1) := by decide +kernel
theorem dX12_laysStrip_125 : decode cX12_laysStrip 125 = .ok (.iload 6, 2) := by decide +kernel
theorem dX12_laysStrip_127 : decode cX12_laysStrip 127 = .ok (.iload 4, 2) := by decide +kernel
theorem dX12_laysStrip_129 : decode cX12_laysStrip 129 = .ok (.isub, 1) := by decide +kernel
theorem dX12_laysStrip_130 : decode cX12_laysStrip 130 = .ok (.invokevirtual 206, 3) := by decide +kernel
theorem dX12_laysStrip_133 : decode cX12_laysStrip 133 = .ok (.return_, 1) := by decide +kernel
theorem dX12_isUp_0 : decode cX12_isUp 0 = .ok (.lload_n 0, 1) := by decide +kernel
theorem dX12_isUp_1 : decode cX12_isUp 1 = .ok (.lconst 0, 1) := by decide +kernel
theorem dX12_isUp_2 : decode cX12_isUp 2 = .ok (.lcmp, 1) := by decide +kernel
theorem dX12_isUp_3 : decode cX12_isUp 3 = .ok (.ifCond .lt 11, 3) := by decide +kernel
theorem dX12_isUp_6 : decode cX12_isUp 6 = .ok (.lload_n 2, 1) := by decide +kernel
theorem dX12_isUp_7 : decode cX12_isUp 7 = .ok (.lconst 0, 1) := by decide +kernel
theorem dX12_isUp_8 : decode cX12_isUp 8 = .ok (.lcmp, 1) := by decide +kernel
theorem dX12_isUp_9 : decode cX12_isUp 9 = .ok (.ifCond .lt 5, 3) := by decide +kernel
theorem dX12_isUp_12 : decode cX12_isUp 12 = .ok (.iconst 1, 1) := by decide +kernel
theorem dX12_isUp_13 : decode cX12_isUp 13 = .ok (.ireturn, 1) := by decide +kernel
theorem dX12_isUp_14 : decode cX12_isUp 14 = .ok (.lload_n 0, 1) := by decide +kernel
theorem dX12_isUp_15 : decode cX12_isUp 15 = .ok (.lconst 0, 1) := by decide +kernel
theorem dX12_isUp_16 : decode cX12_isUp 16 = .ok (.lcmp, 1) := by decide +kernel
theorem dX12_isUp_17 : decode cX12_isUp 17 = .ok (.ifCond .ge 11, 3) := by decide +kernel
theorem dX12_isUp_20 : decode cX12_isUp 20 = .ok (.lload_n 2, 1) := by decide +kernel
theorem dX12_isUp_21 : decode cX12_isUp 21 = .ok (.lconst 0, 1) := by decide +kernel
theorem dX12_isUp_22 : decode cX12_isUp 22 = .ok (.lcmp, 1) := by decide +kernel
theorem dX12_isUp_23 : decode cX12_isUp 23 = .ok (.ifCond .ge 5, 3) := by decide +kernel
theorem dX12_isUp_26 : decode cX12_isUp 26 = .ok (.iconst 0, 1) := by decide +kernel
theorem dX12_isUp_27 : decode cX12_isUp 27 = .ok (.ireturn, 1) := by decide +kernel
theorem dX12_isUp_28 : decode cX12_isUp 28 = .ok (.lload_n 0, 1) := by decide +kernel
theorem dX12_isUp_29 : decode cX12_isUp 29 = .ok (.lconst 0, 1) := by decide +kernel
theorem dX12_isUp_30 : decode cX12_isUp 30 = .ok (.lcmp, 1) := by decide +kernel
theorem dX12_isUp_31 : decode cX12_isUp 31 = .ok (.ifCond .lt 24, 3) := by decide +kernel
theorem dX12_isUp_34 : decode cX12_isUp 34 = .ok (.lload_n 0, 1) := by decide +kernel
theorem dX12_isUp_35 : decode cX12_isUp 35 = .ok (.lload_n 0, 1) := by decide +kernel
theorem dX12_isUp_36 : decode cX12_isUp 36 = .ok (.lmul, 1) := by decide +kernel
theorem dX12_isUp_37 : decode cX12_isUp 37 = .ok (.lload_n 2, 1) := by decide +kernel
theorem dX12_isUp_38 : decode cX12_isUp 38 = .ok (.lload_n 2, 1) := by decide +kernel
theorem dX12_isUp_39 : decode cX12_isUp 39 = .ok (.lmul, 1) := by decide +kernel
theorem dX12_isUp_40 : decode cX12_isUp 40 = .ok (.lload 4, 2) := by decide +kernel
theorem dX12_isUp_42 : decode cX12_isUp 42 = .ok (.lmul, 1) := by decide +kernel
theorem dX12_isUp_43 : decode cX12_isUp 43 = .ok (.lcmp, 1) := by decide +kernel
theorem dX12_isUp_44 : decode cX12_isUp 44 = .ok (.ifCond .lt 7, 3) := by decide +kernel
theorem dX12_isUp_47 : decode cX12_isUp 47 = .ok (.iconst 1, 1) := by decide +kernel
theorem dX12_isUp_48 : decode cX12_isUp 48 = .ok (.goto 25, 3) := by decide +kernel
theorem dX12_isUp_51 : decode cX12_isUp 51 = .ok (.iconst 0, 1) := by decide +kernel
theorem dX12_isUp_52 : decode cX12_isUp 52 = .ok (.goto 21, 3) := by decide +kernel
theorem dX12_isUp_55 : decode cX12_isUp 55 = .ok (.lload_n 2, 1) := by decide +kernel
theorem dX12_isUp_56 : decode cX12_isUp 56 = .ok (.lload_n 2, 1) := by decide +kernel
theorem dX12_isUp_57 : decode cX12_isUp 57 = .ok (.lmul, 1) := by decide +kernel
theorem dX12_isUp_58 : decode cX12_isUp 58 = .ok (.lload 4, 2) := by decide +kernel
theorem dX12_isUp_60 : decode cX12_isUp 60 = .ok (.lmul, 1) := by decide +kernel
theorem dX12_isUp_61 : decode cX12_isUp 61 = .ok (.lload_n 0, 1) := by decide +kernel
theorem dX12_isUp_62 : decode cX12_isUp 62 = .ok (.lload_n 0, 1) := by decide +kernel
theorem dX12_isUp_63 : decode cX12_isUp 63 = .ok (.lmul, 1) := by decide +kernel
theorem dX12_isUp_64 : decode cX12_isUp 64 = .ok (.lcmp, 1) := by decide +kernel
theorem dX12_isUp_65 : decode cX12_isUp 65 = .ok (.ifCond .lt 7, 3) := by decide +kernel
theorem dX12_isUp_68 : decode cX12_isUp 68 = .ok (.iconst 1, 1) := by decide +kernel
theorem dX12_isUp_69 : decode cX12_isUp 69 = .ok (.goto 4, 3) := by decide +kernel
theorem dX12_isUp_72 : decode cX12_isUp 72 = .ok (.iconst 0, 1) := by decide +kernel
theorem dX12_isUp_73 : decode cX12_isUp 73 = .ok (.ireturn, 1) := by decide +kernel
set_option maxRecDepth 20000 in
theorem ggX12_isMiter_X12_isUp : GoodIn wsX12_isMiter wsX12_isUp := goodIn_r _ [8] (by decide +kernel) (by decide +kernel)
set_option maxRecDepth 20000 in
theorem gX12_isMiter_X12_isUp : GoodIn wsX12_isMiter (va_wsS RX12 216 yX12_isUp wsX12_isUp) := goodIn_app (goodIn_of _ (by decide +kernel)) ggX12_isMiter_X12_isUp
theorem dX12_isMiter_0 : decode cX12_isMiter 0 = .ok (.aload_n 0, 1) := by decide +kernel
theorem dX12_isMiter_1 : decode cX12_isMiter 1 = .ok (.getfield 19, 3) := by decide +kernel
theorem dX12_isMiter_4 : decode cX12_isMiter 4 = .ok (.iload_n 1, 1) := by decide +kernel
theorem dX12_isMiter_5 : decode cX12_isMiter 5 = .ok (.iaload, 1) := by decide +kernel
theorem dX12_isMiter_6 : decode cX12_isMiter 6 = .ok (.i2l, 1) := by decide +kernel
theorem dX12_isMiter_7 : decode cX12_isMiter 7 = .ok (.aload_n 0, 1) := by decide +kernel
theorem dX12_isMiter_8 : decode cX12_isMiter 8 = .ok (.getfield 19, 3) := by decide +kernel
theorem dX12_isMiter_11 : decode cX12_isMiter 11 = .ok (.iload_n 2, 1) := by decide +kernel
theorem dX12_isMiter_12 : decode cX12_isMiter 12 = .ok (.iaload, 1) := by decide +kernel
theorem dX12_isMiter_13 : decode cX12_isMiter 13 = .ok (.i2l, 1) := by decide +kernel
theorem dX12_isMiter_14 : decode cX12_isMiter 14 = .ok (.lmul, 1) := by decide +kernel
theorem dX12_isMiter_15 : decode cX12_isMiter 15 = .ok (.aload_n 0, 1) := by decide +kernel
theorem dX12_isMiter_16 : decode cX12_isMiter 16 = .ok (.getfield 22, 3) := by decide +kernel
theorem dX12_isMiter_19 : decode cX12_isMiter 19 = .ok (.iload_n 1, 1) := by decide +kernel
theorem dX12_isMiter_20 : decode cX12_isMiter 20 = .ok (.iaload, 1) := by decide +kernel
theorem dX12_isMiter_21 : decode cX12_isMiter 21 = .ok (.i2l, 1) := by decide +kernel
theorem dX12_isMiter_22 : decode cX12_isMiter 22 = .ok (.aload_n 0, 1) := by decide +kernel
theorem dX12_isMiter_23 : decode cX12_isMiter 23 = .ok (.getfield 22, 3) := by decide +kernel
theorem dX12_isMiter_26 : decode cX12_isMiter 26 = .ok (.iload_n 2, 1) := by decide +kernel
theorem dX12_isMiter_27 : decode cX12_isMiter 27 = .ok (.iaload, 1) := by decide +kernel
theorem dX12_isMiter_28 : decode cX12_isMiter 28 = .ok (.i2l, 1) := by decide +kernel
theorem dX12_isMiter_29 : decode cX12_isMiter 29 = .ok (.lmul, 1) := by decide +kernel
theorem dX12_isMiter_30 : decode cX12_isMiter 30 = .ok (.ladd, 1) := by decide +kernel
theorem dX12_isMiter_31 : decode cX12_isMiter 31 = .ok (.lstore_n 3, 1) := by decide +kernel
theorem dX12_isMiter_32 : decode cX12_isMiter 32 = .ok (.aload_n 0, 1) := by decide +kernel
theorem dX12_isMiter_33 : decode cX12_isMiter 33 = .ok (.getfield 19, 3) := by decide +kernel
theorem dX12_isMiter_36 : decode cX12_isMiter 36 = .ok (.iload_n 1, 1) := by decide +kernel
theorem dX12_isMiter_37 : decode cX12_isMiter 37 = .ok (.iaload, 1) := by decide +kernel
theorem dX12_isMiter_38 : decode cX12_isMiter 38 = .ok (.i2l, 1) := by decide +kernel
theorem dX12_isMiter_39 : decode cX12_isMiter 39 = .ok (.aload_n 0, 1) := by decide +kernel
theorem dX12_isMiter_40 : decode cX12_isMiter 40 = .ok (.getfield 19, 3) := by decide +kernel
theorem dX12_isMiter_43 : decode cX12_isMiter 43 = .ok (.iload_n 1, 1) := by decide +kernel
theorem dX12_isMiter_44 : decode cX12_isMiter 44 = .ok (.iaload, 1) := by decide +kernel
theorem dX12_isMiter_45 : decode cX12_isMiter 45 = .ok (.i2l, 1) := by decide +kernel
theorem dX12_isMiter_46 : decode cX12_isMiter 46 = .ok (.lmul, 1) := by decide +kernel
theorem dX12_isMiter_47 : decode cX12_isMiter 47 = .ok (.aload_n 0, 1) := by decide +kernel
theorem dX12_isMiter_48 : decode cX12_isMiter 48 = .ok (.getfield 22, 3) := by decide +kernel
theorem dX12_isMiter_51 : decode cX12_isMiter 51 = .ok (.iload_n 1, 1) := by decide +kernel
theorem dX12_isMiter_52 : decode cX12_isMiter 52 = .ok (.iaload, 1) := by decide +kernel
theorem dX12_isMiter_53 : decode cX12_isMiter 53 = .ok (.i2l, 1) := by decide +kernel
theorem dX12_isMiter_54 : decode cX12_isMiter 54 = .ok (.aload_n 0, 1) := by decide +kernel
theorem dX12_isMiter_55 : decode cX12_isMiter 55 = .ok (.getfield 22, 3) := by decide +kernel
theorem dX12_isMiter_58 : decode cX12_isMiter 58 = .ok (.iload_n 1, 1) := by decide +kernel
theorem dX12_isMiter_59 : decode cX12_isMiter 59 = .ok (.iaload, 1) := by decide +kernel
theorem dX12_isMiter_60 : decode cX12_isMiter 60 = .ok (.i2l, 1) := by decide +kernel
theorem dX12_isMiter_61 : decode cX12_isMiter 61 = .ok (.lmul, 1) := by decide +kernel
theorem dX12_isMiter_62 : decode cX12_isMiter 62 = .ok (.ladd, 1) := by decide +kernel
theorem dX12_isMiter_63 : decode cX12_isMiter 63 = .ok (.lstore 5, 2) := by decide +kernel
theorem dX12_isMiter_65 : decode cX12_isMiter 65 = .ok (.aload_n 0, 1) := by decide +kernel
theorem dX12_isMiter_66 : decode cX12_isMiter 66 = .ok (.getfield 19, 3) := by decide +kernel
theorem dX12_isMiter_69 : decode cX12_isMiter 69 = .ok (.iload_n 2, 1) := by decide +kernel
theorem dX12_isMiter_70 : decode cX12_isMiter 70 = .ok (.iaload, 1) := by decide +kernel
theorem dX12_isMiter_71 : decode cX12_isMiter 71 = .ok (.i2l, 1) := by decide +kernel
theorem dX12_isMiter_72 : decode cX12_isMiter 72 = .ok (.aload_n 0, 1) := by decide +kernel
theorem dX12_isMiter_73 : decode cX12_isMiter 73 = .ok (.getfield 19, 3) := by decide +kernel
theorem dX12_isMiter_76 : decode cX12_isMiter 76 = .ok (.iload_n 2, 1) := by decide +kernel
theorem dX12_isMiter_77 : decode cX12_isMiter 77 = .ok (.iaload, 1) := by decide +kernel
theorem dX12_isMiter_78 : decode cX12_isMiter 78 = .ok (.i2l, 1) := by decide +kernel
theorem dX12_isMiter_79 : decode cX12_isMiter 79 = .ok (.lmul, 1) := by decide +kernel
theorem dX12_isMiter_80 : decode cX12_isMiter 80 = .ok (.aload_n 0, 1) := by decide +kernel
theorem dX12_isMiter_81 : decode cX12_isMiter 81 = .ok (.getfield 22, 3) := by decide +kernel
theorem dX12_isMiter_84 : decode cX12_isMiter 84 = .ok (.iload_n 2, 1) := by decide +kernel
theorem dX12_isMiter_85 : decode cX12_isMiter 85 = .ok (.iaload, 1) := by decide +kernel
theorem dX12_isMiter_86 : decode cX12_isMiter 86 = .ok (.i2l, 1) := by decide +kernel
theorem dX12_isMiter_87 : decode cX12_isMiter 87 = .ok (.aload_n 0, 1) := by decide +kernel
theorem dX12_isMiter_88 : decode cX12_isMiter 88 = .ok (.getfield 22, 3) := by decide +kernel
theorem dX12_isMiter_91 : decode cX12_isMiter 91 = .ok (.iload_n 2, 1) := by decide +kernel
theorem dX12_isMiter_92 : decode cX12_isMiter 92 = .ok (.iaload, 1) := by decide +kernel
theorem dX12_isMiter_93 : decode cX12_isMiter 93 = .ok (.i2l, 1) := by decide +kernel
theorem dX12_isMiter_94 : decode cX12_isMiter 94 = .ok (.lmul, 1) := by decide +kernel
theorem dX12_isMiter_95 : decode cX12_isMiter 95 = .ok (.ladd, 1) := by decide +kernel
theorem dX12_isMiter_96 : decode cX12_isMiter 96 = .ok (.lstore 7, 2) := by decide +kernel
theorem dX12_isMiter_98 : decode cX12_isMiter 98 = .ok (.aload_n 0, 1) := by decide +kernel
theorem dX12_isMiter_99 : decode cX12_isMiter 99 = .ok (.getfield 7, 3) := by decide +kernel
theorem dX12_isMiter_102 : decode cX12_isMiter 102 = .ok (.iconst 2, 1) := by decide +kernel
theorem dX12_isMiter_103 : decode cX12_isMiter 103 = .ok (.iaload, 1) := by decide +kernel
theorem dX12_isMiter_104 : decode cX12_isMiter 104 = .ok (.aload_n 0, 1) := by decide +kernel
theorem dX12_isMiter_105 : decode cX12_isMiter 105 = .ok (.getfield 7, 3) := by decide +kernel
theorem dX12_isMiter_108 : decode cX12_isMiter 108 = .ok (.iconst 2, 1) := by decide +kernel
theorem dX12_isMiter_109 : decode cX12_isMiter 109 = .ok (.iaload, 1) := by decide +kernel
theorem dX12_isMiter_110 : decode cX12_isMiter 110 = .ok (.imul, 1) := by decide +kernel
theorem dX12_isMiter_111 : decode cX12_isMiter 111 = .ok (.i2l, 1) := by decide +kernel
theorem dX12_isMiter_112 : decode cX12_isMiter 112 = .ok (.lstore 9, 2) := by decide +kernel
theorem dX12_isMiter_114 : decode cX12_isMiter 114 = .ok (.aload_n 0, 1) := by decide +kernel
theorem dX12_isMiter_115 : decode cX12_isMiter 115 = .ok (.getfield 7, 3) := by decide +kernel
theorem dX12_isMiter_118 : decode cX12_isMiter 118 = .ok (.iconst 1, 1) := by decide +kernel
theorem dX12_isMiter_119 : decode cX12_isMiter 119 = .ok (.iaload, 1) := by decide +kernel
theorem dX12_isMiter_120 : decode cX12_isMiter 120 = .ok (.ifCond .ne 28, 3) := by decide +kernel
theorem dX12_isMiter_123 : decode cX12_isMiter 123 = .ok (.lload 9, 2) := by decide +kernel
theorem dX12_isMiter_125 : decode cX12_isMiter 125 = .ok (.lload_n 3, 1) := by decide +kernel
theorem dX12_isMiter_126 : decode cX12_isMiter 126 = .ok (.lmul, 1) := by decide +kernel
theorem dX12_isMiter_127 : decode cX12_isMiter 127 = .ok (.lload 9, 2) := by decide +kernel
theorem dX12_isMiter_129 : decode cX12_isMiter 129 = .ok (.ldc2_w 69, 3) := by decide +kernel
theorem dX12_isMiter_132 : decode cX12_isMiter 132 = .ok (.lsub, 1) := by decide +kernel
theorem dX12_isMiter_133 : decode cX12_isMiter 133 = .ok (.lload 5, 2) := by decide +kernel
theorem dX12_isMiter_135 : decode cX12_isMiter 135 = .ok (.lload 7, 2) := by decide +kernel
theorem dX12_isMiter_137 : decode cX12_isMiter 137 = .ok (.lmul, 1) := by decide +kernel
theorem dX12_isMiter_138 : decode cX12_isMiter 138 = .ok (.invokestatic 216, 3) := by decide +kernel
theorem dX12_isMiter_141 : decode cX12_isMiter 141 = .ok (.ifCond .eq 7, 3) := by decide +kernel
theorem dX12_isMiter_144 : decode cX12_isMiter 144 = .ok (.iconst 1, 1) := by decide +kernel
theorem dX12_isMiter_145 : decode cX12_isMiter 145 = .ok (.goto 4, 3) := by decide +kernel
theorem dX12_isMiter_148 : decode cX12_isMiter 148 = .ok (.iconst 0, 1) := by decide +kernel
theorem dX12_isMiter_149 : decode cX12_isMiter 149 = .ok (.ireturn, 1) := by decide +kernel
set_option maxRecDepth 20000 in
theorem ggX12_laysJoin_X12_laysDisc : GoodIn wsX12_laysJoin wsX12_laysDisc := goodIn_r _ [11, 12, 13, 14, 10, 15, 16, 17, 18, 19, 20, 21, 47, 48, 49, 50, 51, 52, 53, 54, 55, 56, 57, 58, 59, 60, 61, 62, 63, 64, 65, 66, 67, 68, 69, 70, 71, 72, 73, 74, 75, 76, 77] (by decide +kernel) (by decide +kernel)
set_option maxRecDepth 20000 in
theorem gX12_laysJoin_X12_laysDisc : GoodIn wsX12_laysJoin (wsV RX12 220 RX12 yX12_laysDisc wsX12_laysDisc) := goodIn_app (goodIn_of _ (by decide +kernel)) ggX12_laysJoin_X12_laysDisc
set_option maxRecDepth 20000 in
theorem ggX12_laysJoin_X12_isMiter : GoodIn wsX12_laysJoin wsX12_isMiter := goodIn_r _ [25, 1, 2, 5, 6, 26, 27, 10, 28, 47, 48, 49, 50, 51, 52, 53, 54, 55, 56, 57, 58, 59, 60, 61, 62, 63, 64, 65, 66, 67, 68, 69, 70, 71, 72, 73, 74, 75, 76, 77] (by decide +kernel) (by decide +kernel)
set_option maxRecDepth 20000 in
theorem gX12_laysJoin_X12_isMiter : GoodIn wsX12_laysJoin (wsV RX12 223 RX12 yX12_isMiter wsX12_isMiter) := goodIn_app (goodIn_of _ (by decide +kernel)) ggX12_laysJoin_X12_isMiter
set_option maxRecDepth 20000 in
theorem ggX12_laysJoin_X12_begin : GoodIn wsX12_laysJoin wsX12_begin := goodIn_r _ [15, 16, 17, 47, 48, 49, 50, 51, 52, 53, 54, 55, 56, 57, 58, 59, 60, 61, 62, 63, 64, 65, 66, 67, 68, 69, 70, 71, 72, 73, 74, 75, 76, 77] (by decide +kernel) (by decide +kernel)
set_option maxRecDepth 20000 in
theorem gX12_laysJoin_X12_begin : GoodIn wsX12_laysJoin (wsV RX12 203 RX12 yX12_begin wsX12_begin) := goodIn_app (goodIn_of _ (by decide +kernel)) ggX12_laysJoin_X12_begin
set_option maxRecDepth 20000 in
theorem ggX12_laysJoin_X12_corners : GoodIn wsX12_laysJoin wsX12_corners := goodIn_r _ [21, 16, 17, 47, 48, 49, 50, 51, 52, 53, 54, 55, 56, 57, 58, 59, 60, 61, 62, 63, 64, 65, 66, 67, 68, 69, 70, 71, 72, 73, 74, 75, 76, 77] (by decide +kernel) (by decide +kernel)
set_option maxRecDepth 20000 in
theorem gX12_laysJoin_X12_corners : GoodIn wsX12_laysJoin (wsV RX12 206 RX12 yX12_corners wsX12_corners) := goodIn_app (goodIn_of _ (by decide +kernel)) ggX12_laysJoin_X12_corners
set_option maxRecDepth 20000 in
theorem ggX12_laysJoin_X12_normalX : GoodIn wsX12_laysJoin wsX12_normalX := goodIn_r _ [32, 33, 2, 34, 35, 36, 37, 10, 38, 5, 39, 40, 41, 6, 47, 48, 49, 50, 51, 52, 53, 54, 55, 56, 57, 58, 59, 60, 61, 62, 63, 64, 65, 66, 67, 68, 69, 70, 71, 72, 73, 74, 75, 76, 77] (by decide +kernel) (by decide +kernel)
set_option maxRecDepth 20000 in
theorem gX12_laysJoin_X12_normalX : GoodIn wsX12_laysJoin (wsV RX12 210 RX12 yX12_normalX wsX12_normalX) := goodIn_app (goodIn_of _ (by decide +kernel)) ggX12_laysJoin_X12_normalX
set_option maxRecDepth 20000 in
theorem ggX12_laysJoin_X12_normalY : GoodIn wsX12_laysJoin wsX12_normalY := goodIn_r _ [45, 46, 1, 34, 35, 36, 37, 10, 38, 5, 39, 40, 41, 6, 47, 48, 49, 50, 51, 52, 53, 54, 55, 56, 57, 58, 59, 60, 61, 62, 63, 64, 65, 66, 67, 68, 69, 70, 71, 72, 73, 74, 75, 76, 77] (by decide +kernel) (by decide +kernel)
set_option maxRecDepth 20000 in
theorem gX12_laysJoin_X12_normalY : GoodIn wsX12_laysJoin (wsV RX12 213 RX12 yX12_normalY wsX12_normalY) := goodIn_app (goodIn_of _ (by decide +kernel)) ggX12_laysJoin_X12_normalY
set_option maxRecDepth 20000 in
theorem ggX12_laysJoin_X12_half : GoodIn wsX12_laysJoin wsX12_half := goodIn_r _ [38, 5, 47, 48, 49, 50, 51, 52, 53, 54, 55, 56, 57, 58, 59, 60, 61, 62, 63, 64, 65, 66, 67, 68, 69, 70, 71, 72, 73, 74, 75, 76, 77] (by decide +kernel) (by decide +kernel)
set_option maxRecDepth 20000 in
theorem gX12_laysJoin_X12_half : GoodIn wsX12_laysJoin (wsV RX12 199 RX12 yX12_half wsX12_half) := goodIn_app (goodIn_of _ (by decide +kernel)) ggX12_laysJoin_X12_half
set_option maxRecDepth 20000 in
theorem ggX12_laysJoin_X12_round : GoodIn wsX12_laysJoin wsX12_round := goodIn_r _ [41, 6] (by decide +kernel) (by decide +kernel)
set_option maxRecDepth 20000 in
theorem gX12_laysJoin_X12_round : GoodIn wsX12_laysJoin (va_wsS RX12 153 yX12_round wsX12_round) := goodIn_app (goodIn_of _ (by decide +kernel)) ggX12_laysJoin_X12_round
theorem dX12_laysJoin_0 : decode cX12_laysJoin 0 = .ok (.aload_n 0, 1) := by decide +kernel
theorem dX12_laysJoin_1 : decode cX12_laysJoin 1 = .ok (.getfield 19, 3) := by decide +kernel
theorem dX12_laysJoin_4 : decode cX12_laysJoin 4 = .ok (.iload_n 1, 1) := by decide +kernel
theorem dX12_laysJoin_5 : decode cX12_laysJoin 5 = .ok (.iaload, 1) := by decide +kernel
theorem dX12_laysJoin_6 : decode cX12_laysJoin 6 = .ok (.aload_n 0, 1) := by decide +kernel
theorem dX12_laysJoin_7 : decode cX12_laysJoin 7 = .ok (.getfield 22, 3) := by decide +kernel
theorem dX12_laysJoin_10 : decode cX12_laysJoin 10 = .ok (.iload_n 2, 1) := by decide +kernel
theorem dX12_laysJoin_11 : decode cX12_laysJoin 11 = .ok (.iaload, 1) := by decide +kernel
theorem dX12_laysJoin_12 : decode cX12_laysJoin 12 = .ok (.imul, 1) := by decide +kernel
theorem dX12_laysJoin_13 : decode cX12_laysJoin 13 = .ok (.aload_n 0, 1) := by decide +kernel
theorem dX12_laysJoin_14 : decode cX12_laysJoin 14 = .ok (.getfield 22, 3) := by decide +kernel
theorem dX12_laysJoin_17 : decode cX12_laysJoin 17 = .ok (.iload_n 1, 1) := by decide +kernel
theorem dX12_laysJoin_18 : decode cX12_laysJoin 18 = .ok (.iaload, 1) := by decide +kernel
theorem dX12_laysJoin_19 : decode cX12_laysJoin 19 = .ok (.aload_n 0, 1) := by decide +kernel
theorem dX12_laysJoin_20 : decode cX12_laysJoin 20 = .ok (.getfield 19, 3) := by decide +kernel
theorem dX12_laysJoin_23 : decode cX12_laysJoin 23 = .ok (.iload_n 2, 1) := by decide +kernel
theorem dX12_laysJoin_24 : decode cX12_laysJoin 24 = .ok (.iaload, 1) := by decide +kernel
theorem dX12_laysJoin_25 : decode cX12_laysJoin 25 = .ok (.imul, 1) := by decide +kernel
theorem dX12_laysJoin_26 : decode cX12_laysJoin 26 = .ok (.isub, 1) := by decide +kernel
theorem dX12_laysJoin_27 : decode cX12_laysJoin 27 = .ok (.istore_n 3, 1) := by decide +kernel
theorem dX12_laysJoin_28 : decode cX12_laysJoin 28 = .ok (.aload_n 0, 1) := by decide +kernel
theorem dX12_laysJoin_29 : decode cX12_laysJoin 29 = .ok (.getfield 19, 3) := by decide +kernel
theorem dX12_laysJoin_32 : decode cX12_laysJoin 32 = .ok (.iload_n 1, 1) := by decide +kernel
theorem dX12_laysJoin_33 : decode cX12_laysJoin 33 = .ok (.iaload, 1) := by decide +kernel
theorem dX12_laysJoin_34 : decode cX12_laysJoin 34 = .ok (.aload_n 0, 1) := by decide +kernel
theorem dX12_laysJoin_35 : decode cX12_laysJoin 35 = .ok (.getfield 19, 3) := by decide +kernel
theorem dX12_laysJoin_38 : decode cX12_laysJoin 38 = .ok (.iload_n 2, 1) := by decide +kernel
theorem dX12_laysJoin_39 : decode cX12_laysJoin 39 = .ok (.iaload, 1) := by decide +kernel
theorem dX12_laysJoin_40 : decode cX12_laysJoin 40 = .ok (.imul, 1) := by decide +kernel
theorem dX12_laysJoin_41 : decode cX12_laysJoin 41 = .ok (.aload_n 0, 1) := by decide +kernel
theorem dX12_laysJoin_42 : decode cX12_laysJoin 42 = .ok (.getfield 22, 3) := by decide +kernel
theorem dX12_laysJoin_45 : decode cX12_laysJoin 45 = .ok (.iload_n 1, 1) := by decide +kernel
theorem dX12_laysJoin_46 : decode cX12_laysJoin 46 = .ok (.iaload, 1) := by decide +kernel
theorem dX12_laysJoin_47 : decode cX12_laysJoin 47 = .ok (.aload_n 0, 1) := by decide +kernel
theorem dX12_laysJoin_48 : decode cX12_laysJoin 48 = .ok (.getfield 22, 3) := by decide +kernel
theorem dX12_laysJoin_51 : decode cX12_laysJoin 51 = .ok (.iload_n 2, 1) := by decide +kernel
theorem dX12_laysJoin_52 : decode cX12_laysJoin 52 = .ok (.iaload, 1) := by decide +kernel
theorem dX12_laysJoin_53 : decode cX12_laysJoin 53 = .ok (.imul, 1) := by decide +kernel
theorem dX12_laysJoin_54 : decode cX12_laysJoin 54 = .ok (.iadd, 1) := by decide +kernel
theorem dX12_laysJoin_55 : decode cX12_laysJoin 55 = .ok (.istore 4, 2) := by decide +kernel
theorem dX12_laysJoin_57 : decode cX12_laysJoin 57 = .ok (.bipush 64, 2) := by decide +kernel
theorem dX12_laysJoin_59 : decode cX12_laysJoin 59 = .ok (.aload_n 0, 1) := by decide +kernel
theorem dX12_laysJoin_60 : decode cX12_laysJoin 60 = .ok (.getfield 25, 3) := by decide +kernel
theorem dX12_laysJoin_63 : decode cX12_laysJoin 63 = .ok (.iload_n 2, 1) := by decide +kernel
theorem dX12_laysJoin_64 : decode cX12_laysJoin 64 = .ok (.iaload, 1) := by decide +kernel
theorem dX12_laysJoin_65 : decode cX12_laysJoin 65 = .ok (.imul, 1) := by decide +kernel
theorem dX12_laysJoin_66 : decode cX12_laysJoin 66 = .ok (.istore 5, 2) := by decide +kernel
theorem dX12_laysJoin_68 : decode cX12_laysJoin 68 = .ok (.bipush 64, 2) := by decide +kernel
theorem dX12_laysJoin_70 : decode cX12_laysJoin 70 = .ok (.aload_n 0, 1) := by decide +kernel
theorem dX12_laysJoin_71 : decode cX12_laysJoin 71 = .ok (.getfield 28, 3) := by decide +kernel
theorem dX12_laysJoin_74 : decode cX12_laysJoin 74 = .ok (.iload_n 2, 1) := by decide +kernel
theorem dX12_laysJoin_75 : decode cX12_laysJoin 75 = .ok (.iaload, 1) := by decide +kernel
theorem dX12_laysJoin_76 : decode cX12_laysJoin 76 = .ok (.imul, 1) := by decide +kernel
theorem dX12_laysJoin_77 : decode cX12_laysJoin 77 = .ok (.istore 6, 2) := by decide +kernel
theorem dX12_laysJoin_79 : decode cX12_laysJoin 79 = .ok (.iload_n 3, 1) := by decide +kernel
theorem dX12_laysJoin_80 : decode cX12_laysJoin 80 = .ok (.ifCond .ne 19, 3) := by decide +kernel
theorem dX12_laysJoin_83 : decode cX12_laysJoin 83 = .ok (.iload 4, 2) := by decide +kernel
theorem dX12_laysJoin_85 : decode cX12_laysJoin 85 = .ok (.ifCond .gt 13, 3) := by decide +kernel
theorem dX12_laysJoin_88 : decode cX12_laysJoin 88 = .ok (.aload_n 0, 1) := by decide +kernel
theorem dX12_laysJoin_89 : decode cX12_laysJoin 89 = .ok (.getfield 7, 3) := by decide +kernel
theorem dX12_laysJoin_92 : decode cX12_laysJoin 92 = .ok (.iconst 1, 1) := by decide +kernel
theorem dX12_laysJoin_93 : decode cX12_laysJoin 93 = .ok (.iaload, 1) := by decide +kernel
theorem dX12_laysJoin_94 : decode cX12_laysJoin 94 = .ok (.iconst 1, 1) := by decide +kernel
theorem dX12_laysJoin_95 : decode cX12_laysJoin 95 = .ok (.if_icmp .eq 4, 3) := by decide +kernel
theorem dX12_laysJoin_98 : decode cX12_laysJoin 98 = .ok (.return_, 1) := by decide +kernel
theorem dX12_laysJoin_99 : decode cX12_laysJoin 99 = .ok (.aload_n 0, 1) := by decide +kernel
theorem dX12_laysJoin_100 : decode cX12_laysJoin 100 = .ok (.getfield 7, 3) := by decide +kernel
theorem dX12_laysJoin_103 : decode cX12_laysJoin 103 = .ok (.iconst 1, 1) := by decide +kernel
theorem dX12_laysJoin_104 : decode cX12_laysJoin 104 = .ok (.iaload, 1) := by decide +kernel
theorem dX12_laysJoin_105 : decode cX12_laysJoin 105 = .ok (.iconst 1, 1) := by decide +kernel
theorem dX12_laysJoin_106 : decode cX12_laysJoin 106 = .ok (.if_icmp .ne 12, 3) := by decide +kernel
theorem dX12_laysJoin_109 : decode cX12_laysJoin 109 = .ok (.aload_n 0, 1) := by decide +kernel
theorem dX12_laysJoin_110 : decode cX12_laysJoin 110 = .ok (.iload 5, 2) := by decide +kernel
theorem dX12_laysJoin_112 : decode cX12_laysJoin 112 = .ok (.iload 6, 2) := by decide +kernel
theorem dX12_laysJoin_114 : decode cX12_laysJoin 114 = .ok (.invokevirtual 220, 3) := by decide +kernel
theorem dX12_laysJoin_117 : decode cX12_laysJoin 117 = .ok (.return_, 1) := by decide +kernel
theorem dX12_laysJoin_118 : decode cX12_laysJoin 118 = .ok (.iload_n 3, 1) := by decide +kernel
theorem dX12_laysJoin_119 : decode cX12_laysJoin 119 = .ok (.ifCond .le 7, 3) := by decide +kernel
theorem dX12_laysJoin_122 : decode cX12_laysJoin 122 = .ok (.iconst (-1), 1) := by decide +kernel
theorem dX12_laysJoin_123 : decode cX12_laysJoin 123 = .ok (.goto 4, 3) := by decide +kernel
theorem dX12_laysJoin_126 : decode cX12_laysJoin 126 = .ok (.iconst 1, 1) := by decide +kernel
theorem dX12_laysJoin_127 : decode cX12_laysJoin 127 = .ok (.istore 7, 2) := by decide +kernel
theorem dX12_laysJoin_129 : decode cX12_laysJoin 129 = .ok (.aload_n 0, 1) := by decide +kernel
theorem dX12_laysJoin_130 : decode cX12_laysJoin 130 = .ok (.iload_n 1, 1) := by decide +kernel
theorem dX12_laysJoin_131 : decode cX12_laysJoin 131 = .ok (.iload_n 2, 1) := by decide +kernel
theorem dX12_laysJoin_132 : decode cX12_laysJoin 132 = .ok (.invokevirtual 223, 3) := by decide +kernel
theorem dX12_laysJoin_135 : decode cX12_laysJoin 135 = .ok (.istore 8, 2) := by decide +kernel
theorem dX12_laysJoin_137 : decode cX12_laysJoin 137 = .ok (.aload_n 0, 1) := by decide +kernel
theorem dX12_laysJoin_138 : decode cX12_laysJoin 138 = .ok (.iload 8, 2) := by decide +kernel
theorem dX12_laysJoin_140 : decode cX12_laysJoin 140 = .ok (.ifCond .eq 7, 3) := by decide +kernel
theorem dX12_laysJoin_143 : decode cX12_laysJoin 143 = .ok (.iconst 1, 1) := by decide +kernel
theorem dX12_laysJoin_144 : decode cX12_laysJoin 144 = .ok (.goto 4, 3) := by decide +kernel
theorem dX12_laysJoin_147 : decode cX12_laysJoin 147 = .ok (.iconst 2, 1) := by decide +kernel
theorem dX12_laysJoin_148 : decode cX12_laysJoin 148 = .ok (.invokevirtual 203, 3) := by decide +kernel
theorem dX12_laysJoin_151 : decode cX12_laysJoin 151 = .ok (.aload_n 0, 1) := by decide +kernel
theorem dX12_laysJoin_152 : decode cX12_laysJoin 152 = .ok (.iconst 0, 1) := by decide +kernel
theorem dX12_laysJoin_153 : decode cX12_laysJoin 153 = .ok (.iload 5, 2) := by decide +kernel
theorem dX12_laysJoin_155 : decode cX12_laysJoin 155 = .ok (.iload 6, 2) := by decide +kernel
theorem dX12_laysJoin_157 : decode cX12_laysJoin 157 = .ok (.invokevirtual 206, 3) := by decide +kernel
theorem dX12_laysJoin_160 : decode cX12_laysJoin 160 = .ok (.aload_n 0, 1) := by decide +kernel
theorem dX12_laysJoin_161 : decode cX12_laysJoin 161 = .ok (.iconst 1, 1) := by decide +kernel
theorem dX12_laysJoin_162 : decode cX12_laysJoin 162 = .ok (.iload 5, 2) := by decide +kernel
theorem dX12_laysJoin_164 : decode cX12_laysJoin 164 = .ok (.iload 7, 2) := by decide +kernel
theorem dX12_laysJoin_166 : decode cX12_laysJoin 166 = .ok (.aload_n 0, 1) := by decide +kernel
theorem dX12_laysJoin_167 : decode cX12_laysJoin 167 = .ok (.iload_n 1, 1) := by decide +kernel
theorem dX12_laysJoin_168 : decode cX12_laysJoin 168 = .ok (.invokevirtual 210, 3) := by decide +kernel
theorem dX12_laysJoin_171 : decode cX12_laysJoin 171 = .ok (.imul, 1) := by decide +kernel
theorem dX12_laysJoin_172 : decode cX12_laysJoin 172 = .ok (.iadd, 1) := by decide +kernel
theorem dX12_laysJoin_173 : decode cX12_laysJoin 173 = .ok (.iload 6, 2) := by decide +kernel
theorem dX12_laysJoin_175 : decode cX12_laysJoin 175 = .ok (.iload 7, 2) := by decide +kernel
theorem dX12_laysJoin_177 : decode cX12_laysJoin 177 = .ok (.aload_n 0, 1) := by decide +kernel
theorem dX12_laysJoin_178 : decode cX12_laysJoin 178 = .ok (.iload_n 1, 1) := by decide +kernel
theorem dX12_laysJoin_179 : decode cX12_laysJoin 179 = .ok (.invokevirtual 213, 3) := by decide +kernel
theorem dX12_laysJoin_182 : decode cX12_laysJoin 182 = .ok (.imul, 1) := by decide +kernel
theorem dX12_laysJoin_183 : decode cX12_laysJoin 183 = .ok (.iadd, 1) := by decide +kernel
theorem dX12_laysJoin_184 : decode cX12_laysJoin 184 = .ok (.invokevirtual 206, 3) := by decide +kernel
theorem dX12_laysJoin_187 : decode cX12_laysJoin 187 = .ok (.iload 8, 2) := by decide +kernel
theorem dX12_laysJoin_189 : decode cX12_laysJoin 189 = .ok (.ifCond .eq 103, 3) := by decide +kernel
theorem dX12_laysJoin_192 : decode cX12_laysJoin 192 = .ok (.aload_n 0, 1) := by decide +kernel
theorem dX12_laysJoin_193 : decode cX12_laysJoin 193 = .ok (.iload_n 1, 1) := by decide +kernel
theorem dX12_laysJoin_194 : decode cX12_laysJoin 194 = .ok (.invokevirtual 210, 3) := by decide +kernel
theorem dX12_laysJoin_197 : decode cX12_laysJoin 197 = .ok (.aload_n 0, 1) := by decide +kernel
theorem dX12_laysJoin_198 : decode cX12_laysJoin 198 = .ok (.iload_n 2, 1) := by decide +kernel
theorem dX12_laysJoin_199 : decode cX12_laysJoin 199 = .ok (.invokevirtual 210, 3) := by decide +kernel
theorem dX12_laysJoin_202 : decode cX12_laysJoin 202 = .ok (.iadd, 1) := by decide +kernel
theorem dX12_laysJoin_203 : decode cX12_laysJoin 203 = .ok (.i2l, 1) := by decide +kernel
theorem dX12_laysJoin_204 : decode cX12_laysJoin 204 = .ok (.lstore 9, 2) := by decide +kernel
theorem dX12_laysJoin_206 : decode cX12_laysJoin 206 = .ok (.aload_n 0, 1) := by decide +kernel
theorem dX12_laysJoin_207 : decode cX12_laysJoin 207 = .ok (.iload_n 1, 1) := by decide +kernel
theorem dX12_laysJoin_208 : decode cX12_laysJoin 208 = .ok (.invokevirtual 213, 3) := by decide +kernel
theorem dX12_laysJoin_211 : decode cX12_laysJoin 211 = .ok (.aload_n 0, 1) := by decide +kernel
theorem dX12_laysJoin_212 : decode cX12_laysJoin 212 = .ok (.iload_n 2, 1) := by decide +kernel
theorem dX12_laysJoin_213 : decode cX12_laysJoin 213 = .ok (.invokevirtual 213, 3) := by decide +kernel
theorem dX12_laysJoin_216 : decode cX12_laysJoin 216 = .ok (.iadd, 1) := by decide +kernel
theorem dX12_laysJoin_217 : decode cX12_laysJoin 217 = .ok (.i2l, 1) := by decide +kernel
theorem dX12_laysJoin_218 : decode cX12_laysJoin 218 = .ok (.lstore 11, 2) := by decide +kernel
theorem dX12_laysJoin_220 : decode cX12_laysJoin 220 = .ok (.ldc2_w 69, 3) := by decide +kernel
theorem dX12_laysJoin_223 : decode cX12_laysJoin 223 = .ok (.aload_n 0, 1) := by decide +kernel
theorem dX12_laysJoin_224 : decode cX12_laysJoin 224 = .ok (.invokevirtual 199, 3) := by decide +kernel
theorem dX12_laysJoin_227 : decode cX12_laysJoin 227 = .ok (.i2l, 1) := by decide +kernel
theorem dX12_laysJoin_228 : decode cX12_laysJoin 228 = .ok (.lmul, 1) := by decide +kernel
theorem dX12_laysJoin_229 : decode cX12_laysJoin 229 = .ok (.aload_n 0, 1) := by decide +kernel
theorem dX12_laysJoin_230 : decode cX12_laysJoin 230 = .ok (.invokevirtual 199, 3) := by decide +kernel
theorem dX12_laysJoin_233 : decode cX12_laysJoin 233 = .ok (.i2l, 1) := by decide +kernel
theorem dX12_laysJoin_234 : decode cX12_laysJoin 234 = .ok (.lmul, 1) := by decide +kernel
theorem dX12_laysJoin_235 : decode cX12_laysJoin 235 = .ok (.lstore 13, 2) := by decide +kernel
theorem dX12_laysJoin_237 : decode cX12_laysJoin 237 = .ok (.aload_n 0, 1) := by decide +kernel
theorem dX12_laysJoin_238 : decode cX12_laysJoin 238 = .ok (.iconst 2, 1) := by decide +kernel
theorem dX12_laysJoin_239 : decode cX12_laysJoin 239 = .ok (.iload 5, 2) := by decide +kernel
theorem dX12_laysJoin_241 : decode cX12_laysJoin 241 = .ok (.iload 7, 2) := by decide +kernel
theorem dX12_laysJoin_243 : decode cX12_laysJoin 243 = .ok (.lload 13, 2) := by decide +kernel
theorem dX12_laysJoin_245 : decode cX12_laysJoin 245 = .ok (.lload 9, 2) := by decide +kernel
theorem dX12_laysJoin_247 : decode cX12_laysJoin 247 = .ok (.lmul, 1) := by decide +kernel
theorem dX12_laysJoin_248 : decode cX12_laysJoin 248 = .ok (.lload 9, 2) := by decide +kernel
theorem dX12_laysJoin_250 : decode cX12_laysJoin 250 = .ok (.lload 9, 2) := by decide +kernel
theorem dX12_laysJoin_252 : decode cX12_laysJoin 252 = .ok (.lmul, 1) := by decide +kernel
theorem dX12_laysJoin_253 : decode cX12_laysJoin 253 = .ok (.lload 11, 2) := by decide +kernel
theorem dX12_laysJoin_255 : decode cX12_laysJoin 255 = .ok (.lload 11, 2) := by decide +kernel
theorem dX12_laysJoin_257 : decode cX12_laysJoin 257 = .ok (.lmul, 1) := by decide +kernel
theorem dX12_laysJoin_258 : decode cX12_laysJoin 258 = .ok (.ladd, 1) := by decide +kernel
theorem dX12_laysJoin_259 : decode cX12_laysJoin 259 = .ok (.invokestatic 153, 3) := by decide +kernel
theorem dX12_laysJoin_262 : decode cX12_laysJoin 262 = .ok (.imul, 1) := by decide +kernel
theorem dX12_laysJoin_263 : decode cX12_laysJoin 263 = .ok (.iadd, 1) := by decide +kernel
theorem dX12_laysJoin_264 : decode cX12_laysJoin 264 = .ok (.iload 6, 2) := by decide +kernel
theorem dX12_laysJoin_266 : decode cX12_laysJoin 266 = .ok (.iload 7, 2) := by decide +kernel
theorem dX12_laysJoin_268 : decode cX12_laysJoin 268 = .ok (.lload 13, 2) := by decide +kernel
theorem dX12_laysJoin_270 : decode cX12_laysJoin 270 = .ok (.lload 11, 2) := by decide +kernel
theorem dX12_laysJoin_272 : decode cX12_laysJoin 272 = .ok (.lmul, 1) := by decide +kernel
theorem dX12_laysJoin_273 : decode cX12_laysJoin 273 = .ok (.lload 9, 2) := by decide +kernel
theorem dX12_laysJoin_275 : decode cX12_laysJoin 275 = .ok (.lload 9, 2) := by decide +kernel
theorem dX12_laysJoin_277 : decode cX12_laysJoin 277 = .ok (.lmul, 1) := by decide +kernel
theorem dX12_laysJoin_278 : decode cX12_laysJoin 278 = .ok (.lload 11, 2) := by decide +kernel
theorem dX12_laysJoin_280 : decode cX12_laysJoin 280 = .ok (.lload 11, 2) := by decide +kernel
theorem dX12_laysJoin_282 : decode cX12_laysJoin 282 = .ok (.lmul, 1) := by decide +kernel
theorem dX12_laysJoin_283 : decode cX12_laysJoin 283 = .ok (.ladd, 1) := by decide +kernel
theorem dX12_laysJoin_284 : decode cX12_laysJoin 284 = .ok (.invokestatic 153, 3) := by decide +kernel
theorem dX12_laysJoin_287 : decode cX12_laysJoin 287 = .ok (.imul, 1) := by decide +kernel
theorem dX12_laysJoin_288 : decode cX12_laysJoin 288 = .ok (.iadd, 1) := by decide +kernel
theorem dX12_laysJoin_289 : decode cX12_laysJoin 289 = .ok (.invokevirtual 206, 3) := by decide +kernel
theorem dX12_laysJoin_292 : decode cX12_laysJoin 292 = .ok (.aload_n 0, 1) := by decide +kernel
theorem dX12_laysJoin_293 : decode cX12_laysJoin 293 = .ok (.iload 8, 2) := by decide +kernel
theorem dX12_laysJoin_295 : decode cX12_laysJoin 295 = .ok (.ifCond .eq 7, 3) := by decide +kernel
theorem dX12_laysJoin_298 : decode cX12_laysJoin 298 = .ok (.iconst 3, 1) := by decide +kernel
theorem dX12_laysJoin_299 : decode cX12_laysJoin 299 = .ok (.goto 4, 3) := by decide +kernel
theorem dX12_laysJoin_302 : decode cX12_laysJoin 302 = .ok (.iconst 2, 1) := by decide +kernel
theorem dX12_laysJoin_303 : decode cX12_laysJoin 303 = .ok (.iload 5, 2) := by decide +kernel
theorem dX12_laysJoin_305 : decode cX12_laysJoin 305 = .ok (.iload 7, 2) := by decide +kernel
theorem dX12_laysJoin_307 : decode cX12_laysJoin 307 = .ok (.aload_n 0, 1) := by decide +kernel
theorem dX12_laysJoin_308 : decode cX12_laysJoin 308 = .ok (.iload_n 2, 1) := by decide +kernel
theorem dX12_laysJoin_309 : decode cX12_laysJoin 309 = .ok (.invokevirtual 210, 3) := by decide +kernel
theorem dX12_laysJoin_312 : decode cX12_laysJoin 312 = .ok (.imul, 1) := by decide +kernel
theorem dX12_laysJoin_313 : decode cX12_laysJoin 313 = .ok (.iadd, 1) := by decide +kernel
theorem dX12_laysJoin_314 : decode cX12_laysJoin 314 = .ok (.iload 6, 2) := by decide +kernel
theorem dX12_laysJoin_316 : decode cX12_laysJoin 316 = .ok (.iload 7, 2) := by decide +kernel
theorem dX12_laysJoin_318 : decode cX12_laysJoin 318 = .ok (.aload_n 0, 1) := by decide +kernel
theorem dX12_laysJoin_319 : decode cX12_laysJoin 319 = .ok (.iload_n 2, 1) := by decide +kernel
theorem dX12_laysJoin_320 : decode cX12_laysJoin 320 = .ok (.invokevirtual 213, 3) := by decide +kernel
theorem dX12_laysJoin_323 : decode cX12_laysJoin 323 = .ok (.imul, 1) := by decide +kernel
theorem dX12_laysJoin_324 : decode cX12_laysJoin 324 = .ok (.iadd, 1) := by decide +kernel
theorem dX12_laysJoin_325 : decode cX12_laysJoin 325 = .ok (.invokevirtual 206, 3) := by decide +kernel
theorem dX12_laysJoin_328 : decode cX12_laysJoin 328 = .ok (.return_, 1) := by decide +kernel
set_option maxRecDepth 20000 in
theorem ggX12_laysCap_X12_alongX : GoodIn wsX12_laysCap wsX12_alongX := goodIn_r _ [6, 7, 8, 9, 10, 11, 12, 5, 13, 14, 56, 57, 58, 59, 60, 61, 62, 63, 64, 65, 66, 67, 68, 69, 70, 71, 72, 73, 74, 75, 76, 77, 78, 79, 80, 81, 82, 83, 84, 85, 86] (by decide +kernel) (by decide +kernel)
set_option maxRecDepth 20000 in
theorem gX12_laysCap_X12_alongX : GoodIn wsX12_laysCap (wsV RX12 163 RX12 yX12_alongX wsX12_alongX) := goodIn_app (goodIn_of _ (by decide +kernel)) ggX12_laysCap_X12_alongX
set_option maxRecDepth 20000 in
theorem ggX12_laysCap_X12_alongY : GoodIn wsX12_laysCap wsX12_alongY := goodIn_r _ [18, 19, 8, 20, 10, 11, 12, 5, 13, 14, 56, 57, 58, 59, 60, 61, 62, 63, 64, 65, 66, 67, 68, 69, 70, 71, 72, 73, 74, 75, 76, 77, 78, 79, 80, 81, 82, 83, 84, 85, 86] (by decide +kernel) (by decide +kernel)
set_option maxRecDepth 20000 in
theorem gX12_laysCap_X12_alongY : GoodIn wsX12_laysCap (wsV RX12 160 RX12 yX12_alongY wsX12_alongY) := goodIn_app (goodIn_of _ (by decide +kernel)) ggX12_laysCap_X12_alongY
set_option maxRecDepth 20000 in
theorem ggX12_laysCap_X12_laysDisc : GoodIn wsX12_laysCap wsX12_laysDisc := goodIn_r _ [24, 25, 26, 27, 5, 28, 29, 30, 31, 32, 33, 34, 56, 57, 58, 59, 60, 61, 62, 63, 64, 65, 66, 67, 68, 69, 70, 71, 72, 73, 74, 75, 76, 77, 78, 79, 80, 81, 82, 83, 84, 85, 86] (by decide +kernel) (by decide +kernel)
set_option maxRecDepth 20000 in
theorem gX12_laysCap_X12_laysDisc : GoodIn wsX12_laysCap (wsV RX12 220 RX12 yX12_laysDisc wsX12_laysDisc) := goodIn_app (goodIn_of _ (by decide +kernel)) ggX12_laysCap_X12_laysDisc
set_option maxRecDepth 20000 in
theorem ggX12_laysCap_X12_normalX : GoodIn wsX12_laysCap wsX12_normalX := goodIn_r _ [38, 39, 20, 10, 40, 41, 42, 5, 43, 1, 11, 12, 13, 14, 56, 57, 58, 59, 60, 61, 62, 63, 64, 65, 66, 67, 68, 69, 70, 71, 72, 73, 74, 75, 76, 77, 78, 79, 80, 81, 82, 83, 84, 85, 86] (by decide +kernel) (by decide +kernel)
set_option maxRecDepth 20000 in
theorem gX12_laysCap_X12_normalX : GoodIn wsX12_laysCap (wsV RX12 210 RX12 yX12_normalX wsX12_normalX) := goodIn_app (goodIn_of _ (by decide +kernel)) ggX12_laysCap_X12_normalX
set_option maxRecDepth 20000 in
theorem ggX12_laysCap_X12_normalY : GoodIn wsX12_laysCap wsX12_normalY := goodIn_r _ [47, 8, 9, 10, 40, 41, 42, 5, 43, 1, 11, 12, 13, 14, 56, 57, 58, 59, 60, 61, 62, 63, 64, 65, 66, 67, 68, 69, 70, 71, 72, 73, 74, 75, 76, 77, 78, 79, 80, 81, 82, 83, 84, 85, 86] (by decide +kernel) (by decide +kernel)
set_option maxRecDepth 20000 in
theorem gX12_laysCap_X12_normalY : GoodIn wsX12_laysCap (wsV RX12 213 RX12 yX12_normalY wsX12_normalY) := goodIn_app (goodIn_of _ (by decide +kernel)) ggX12_laysCap_X12_normalY
set_option maxRecDepth 20000 in
theorem ggX12_laysCap_X12_edgeX : GoodIn wsX12_laysCap wsX12_edgeX := goodIn_r _ [51, 8, 9, 10, 40, 41, 42, 5, 43, 1, 11, 12, 13, 14, 56, 57, 58, 59, 60, 61, 62, 63, 64, 65, 66, 67, 68, 69, 70, 71, 72, 73, 74, 75, 76, 77, 78, 79, 80, 81, 82, 83, 84, 85, 86] (by decide +kernel) (by decide +kernel)
set_option maxRecDepth 20000 in
theorem gX12_laysCap_X12_edgeX : GoodIn wsX12_laysCap (wsV RX12 226 RX12 yX12_edgeX wsX12_edgeX) := goodIn_app (goodIn_of _ (by decide +kernel)) ggX12_laysCap_X12_edgeX
set_option maxRecDepth 20000 in
theorem ggX12_laysCap_X12_edgeY : GoodIn wsX12_laysCap wsX12_edgeY := goodIn_r _ [55, 8, 20, 10, 40, 41, 42, 5, 43, 1, 11, 12, 13, 14, 56, 57, 58, 59, 60, 61, 62, 63, 64, 65, 66, 67, 68, 69, 70, 71, 72, 73, 74, 75, 76, 77, 78, 79, 80, 81, 82, 83, 84, 85, 86] (by decide +kernel) (by decide +kernel)
set_option maxRecDepth 20000 in
theorem gX12_laysCap_X12_edgeY : GoodIn wsX12_laysCap (wsV RX12 229 RX12 yX12_edgeY wsX12_edgeY) := goodIn_app (goodIn_of _ (by decide +kernel)) ggX12_laysCap_X12_edgeY
set_option maxRecDepth 20000 in
theorem ggX12_laysCap_X12_begin : GoodIn wsX12_laysCap wsX12_begin := goodIn_r _ [28, 29, 30, 56, 57, 58, 59, 60, 61, 62, 63, 64, 65, 66, 67, 68, 69, 70, 71, 72, 73, 74, 75, 76, 77, 78, 79, 80, 81, 82, 83, 84, 85, 86] (by decide +kernel) (by decide +kernel)
set_option maxRecDepth 20000 in
theorem gX12_laysCap_X12_begin : GoodIn wsX12_laysCap (wsV RX12 203 RX12 yX12_begin wsX12_begin) := goodIn_app (goodIn_of _ (by decide +kernel)) ggX12_laysCap_X12_begin
set_option maxRecDepth 20000 in
theorem ggX12_laysCap_X12_corners : GoodIn wsX12_laysCap wsX12_corners := goodIn_r _ [34, 29, 30, 56, 57, 58, 59, 60, 61, 62, 63, 64, 65, 66, 67, 68, 69, 70, 71, 72, 73, 74, 75, 76, 77, 78, 79, 80, 81, 82, 83, 84, 85, 86] (by decide +kernel) (by decide +kernel)
set_option maxRecDepth 20000 in
theorem gX12_laysCap_X12_corners : GoodIn wsX12_laysCap (wsV RX12 206 RX12 yX12_corners wsX12_corners) := goodIn_app (goodIn_of _ (by decide +kernel)) ggX12_laysCap_X12_corners
theorem dX12_laysCap_0 : decode cX12_laysCap 0 = .ok (.aload_n 0, 1) := by decide +kernel
theorem dX12_laysCap_1 : decode cX12_laysCap 1 = .ok (.iload_n 1, 1) := by decide +kernel
theorem dX12_laysCap_2 : decode cX12_laysCap 2 = .ok (.iload_n 2, 1) := by decide +kernel
theorem dX12_laysCap_3 : decode cX12_laysCap 3 = .ok (.invokevirtual 163, 3) := by decide +kernel
theorem dX12_laysCap_6 : decode cX12_laysCap 6 = .ok (.istore 4, 2) := by decide +kernel
theorem dX12_laysCap_8 : decode cX12_laysCap 8 = .ok (.aload_n 0, 1) := by decide +kernel
theorem dX12_laysCap_9 : decode cX12_laysCap 9 = .ok (.iload_n 1, 1) := by decide +kernel
theorem dX12_laysCap_10 : decode cX12_laysCap 10 = .ok (.iload_n 2, 1) := by decide +kernel
theorem dX12_laysCap_11 : decode cX12_laysCap 11 = .ok (.invokevirtual 160, 3) := by decide +kernel
theorem dX12_laysCap_14 : decode cX12_laysCap 14 = .ok (.istore 5, 2) := by decide +kernel
theorem dX12_laysCap_16 : decode cX12_laysCap 16 = .ok (.aload_n 0, 1) := by decide +kernel
theorem dX12_laysCap_17 : decode cX12_laysCap 17 = .ok (.getfield 7, 3) := by decide +kernel
theorem dX12_laysCap_20 : decode cX12_laysCap 20 = .ok (.iconst 3, 1) := by decide +kernel
theorem dX12_laysCap_21 : decode cX12_laysCap 21 = .ok (.iaload, 1) := by decide +kernel
theorem dX12_laysCap_22 : decode cX12_laysCap 22 = .ok (.iconst 1, 1) := by decide +kernel
theorem dX12_laysCap_23 : decode cX12_laysCap 23 = .ok (.if_icmp .ne 14, 3) := by decide +kernel
theorem dX12_laysCap_26 : decode cX12_laysCap 26 = .ok (.aload_n 0, 1) := by decide +kernel
theorem dX12_laysCap_27 : decode cX12_laysCap 27 = .ok (.iload 4, 2) := by decide +kernel
theorem dX12_laysCap_29 : decode cX12_laysCap 29 = .ok (.iload 5, 2) := by decide +kernel
theorem dX12_laysCap_31 : decode cX12_laysCap 31 = .ok (.invokevirtual 220, 3) := by decide +kernel
theorem dX12_laysCap_34 : decode cX12_laysCap 34 = .ok (.goto 122, 3) := by decide +kernel
theorem dX12_laysCap_37 : decode cX12_laysCap 37 = .ok (.aload_n 0, 1) := by decide +kernel
theorem dX12_laysCap_38 : decode cX12_laysCap 38 = .ok (.getfield 7, 3) := by decide +kernel
theorem dX12_laysCap_41 : decode cX12_laysCap 41 = .ok (.iconst 3, 1) := by decide +kernel
theorem dX12_laysCap_42 : decode cX12_laysCap 42 = .ok (.iaload, 1) := by decide +kernel
theorem dX12_laysCap_43 : decode cX12_laysCap 43 = .ok (.iconst 2, 1) := by decide +kernel
theorem dX12_laysCap_44 : decode cX12_laysCap 44 = .ok (.if_icmp .ne 112, 3) := by decide +kernel
theorem dX12_laysCap_47 : decode cX12_laysCap 47 = .ok (.aload_n 0, 1) := by decide +kernel
theorem dX12_laysCap_48 : decode cX12_laysCap 48 = .ok (.iload_n 1, 1) := by decide +kernel
theorem dX12_laysCap_49 : decode cX12_laysCap 49 = .ok (.invokevirtual 210, 3) := by decide +kernel
theorem dX12_laysCap_52 : decode cX12_laysCap 52 = .ok (.istore 6, 2) := by decide +kernel
theorem dX12_laysCap_54 : decode cX12_laysCap 54 = .ok (.aload_n 0, 1) := by decide +kernel
theorem dX12_laysCap_55 : decode cX12_laysCap 55 = .ok (.iload_n 1, 1) := by decide +kernel
theorem dX12_laysCap_56 : decode cX12_laysCap 56 = .ok (.invokevirtual 213, 3) := by decide +kernel
theorem dX12_laysCap_59 : decode cX12_laysCap 59 = .ok (.istore 7, 2) := by decide +kernel
theorem dX12_laysCap_61 : decode cX12_laysCap 61 = .ok (.iload_n 3, 1) := by decide +kernel
theorem dX12_laysCap_62 : decode cX12_laysCap 62 = .ok (.aload_n 0, 1) := by decide +kernel
theorem dX12_laysCap_63 : decode cX12_laysCap 63 = .ok (.iload_n 1, 1) := by decide +kernel
theorem dX12_laysCap_64 : decode cX12_laysCap 64 = .ok (.invokevirtual 226, 3) := by decide +kernel
theorem dX12_laysCap_67 : decode cX12_laysCap 67 = .ok (.imul, 1) := by decide +kernel
theorem dX12_laysCap_68 : decode cX12_laysCap 68 = .ok (.istore 8, 2) := by decide +kernel
theorem dX12_laysCap_70 : decode cX12_laysCap 70 = .ok (.iload_n 3, 1) := by decide +kernel
theorem dX12_laysCap_71 : decode cX12_laysCap 71 = .ok (.aload_n 0, 1) := by decide +kernel
theorem dX12_laysCap_72 : decode cX12_laysCap 72 = .ok (.iload_n 1, 1) := by decide +kernel
theorem dX12_laysCap_73 : decode cX12_laysCap 73 = .ok (.invokevirtual 229, 3) := by decide +kernel
theorem dX12_laysCap_76 : decode cX12_laysCap 76 = .ok (.imul, 1) := by decide +kernel
theorem dX12_laysCap_77 : decode cX12_laysCap 77 = .ok (.istore 9, 2) := by decide +kernel
theorem dX12_laysCap_79 : decode cX12_laysCap 79 = .ok (.aload_n 0, 1) := by decide +kernel
theorem dX12_laysCap_80 : decode cX12_laysCap 80 = .ok (.iconst 4, 1) := by decide +kernel
theorem dX12_laysCap_81 : decode cX12_laysCap 81 = .ok (.invokevirtual 203, 3) := by decide +kernel
theorem dX12_laysCap_84 : decode cX12_laysCap 84 = .ok (.aload_n 0, 1) := by decide +kernel
theorem dX12_laysCap_85 : decode cX12_laysCap 85 = .ok (.iconst 0, 1) := by decide +kernel
theorem dX12_laysCap_86 : decode cX12_laysCap 86 = .ok (.iload 4, 2) := by decide +kernel
theorem dX12_laysCap_88 : decode cX12_laysCap 88 = .ok (.iload 6, 2) := by decide +kernel
theorem dX12_laysCap_90 : decode cX12_laysCap 90 = .ok (.iadd, 1) := by decide +kernel
theorem dX12_laysCap_91 : decode cX12_laysCap 91 = .ok (.iload 5, 2) := by decide +kernel
theorem dX12_laysCap_93 : decode cX12_laysCap 93 = .ok (.iload 7, 2) := by decide +kernel
theorem dX12_laysCap_95 : decode cX12_laysCap 95 = .ok (.iadd, 1) := by decide +kernel
theorem dX12_laysCap_96 : decode cX12_laysCap 96 = .ok (.invokevirtual 206, 3) := by decide +kernel
theorem dX12_laysCap_99 : decode cX12_laysCap 99 = .ok (.aload_n 0, 1) := by decide +kernel
theorem dX12_laysCap_100 : decode cX12_laysCap 100 = .ok (.iconst 1, 1) := by decide +kernel
theorem dX12_laysCap_101 : decode cX12_laysCap 101 = .ok (.iload 4, 2) := by decide +kernel
theorem dX12_laysCap_103 : decode cX12_laysCap 103 = .ok (.iload 6, 2) := by decide +kernel
theorem dX12_laysCap_105 : decode cX12_laysCap 105 = .ok (.iadd, 1) := by decide +kernel
theorem dX12_laysCap_106 : decode cX12_laysCap 106 = .ok (.iload 8, 2) := by decide +kernel
theorem dX12_laysCap_108 : decode cX12_laysCap 108 = .ok (.iadd, 1) := by decide +kernel
theorem dX12_laysCap_109 : decode cX12_laysCap 109 = .ok (.iload 5, 2) := by decide +kernel
theorem dX12_laysCap_111 : decode cX12_laysCap 111 = .ok (.iload 7, 2) := by decide +kernel
theorem dX12_laysCap_113 : decode cX12_laysCap 113 = .ok (.iadd, 1) := by decide +kernel
theorem dX12_laysCap_114 : decode cX12_laysCap 114 = .ok (.iload 9, 2) := by decide +kernel
theorem dX12_laysCap_116 : decode cX12_laysCap 116 = .ok (.iadd, 1) := by decide +kernel
theorem dX12_laysCap_117 : decode cX12_laysCap 117 = .ok (.invokevirtual 206, 3) := by decide +kernel
theorem dX12_laysCap_120 : decode cX12_laysCap 120 = .ok (.aload_n 0, 1) := by decide +kernel
theorem dX12_laysCap_121 : decode cX12_laysCap 121 = .ok (.iconst 2, 1) := by decide +kernel
theorem dX12_laysCap_122 : decode cX12_laysCap 122 = .ok (.iload 4, 2) := by decide +kernel
theorem dX12_laysCap_124 : decode cX12_laysCap 124 = .ok (.iload 6, 2) := by decide +kernel
theorem dX12_laysCap_126 : decode cX12_laysCap 126 = .ok (.isub, 1) := by decide +kernel
theorem dX12_laysCap_127 : decode cX12_laysCap 127 = .ok (.iload 8, 2) := by decide +kernel
theorem dX12_laysCap_129 : decode cX12_laysCap 129 = .ok (.iadd, 1) := by decide +kernel
theorem dX12_laysCap_130 : decode cX12_laysCap 130 = .ok (.iload 5, 2) := by decide +kernel
theorem dX12_laysCap_132 : decode cX12_laysCap 132 = .ok (.iload 7, 2) := by decide +kernel
theorem dX12_laysCap_134 : decode cX12_laysCap 134 = .ok (.isub, 1) := by decide +kernel
theorem dX12_laysCap_135 : decode cX12_laysCap 135 = .ok (.iload 9, 2) := by decide +kernel
theorem dX12_laysCap_137 : decode cX12_laysCap 137 = .ok (.iadd, 1) := by decide +kernel
theorem dX12_laysCap_138 : decode cX12_laysCap 138 = .ok (.invokevirtual 206, 3) := by decide +kernel
theorem dX12_laysCap_141 : decode cX12_laysCap 141 = .ok (.aload_n 0, 1) := by decide +kernel
theorem dX12_laysCap_142 : decode cX12_laysCap 142 = .ok (.iconst 3, 1) := by decide +kernel
theorem dX12_laysCap_143 : decode cX12_laysCap 143 = .ok (.iload 4, 2) := by decide +kernel
theorem dX12_laysCap_145 : decode cX12_laysCap 145 = .ok (.iload 6, 2) := by decide +kernel
theorem dX12_laysCap_147 : decode cX12_laysCap 147 = .ok (.isub, 1) := by decide +kernel
theorem dX12_laysCap_148 : decode cX12_laysCap 148 = .ok (.iload 5, 2) := by decide +kernel
theorem dX12_laysCap_150 : decode cX12_laysCap 150 = .ok (.iload 7, 2) := by decide +kernel
theorem dX12_laysCap_152 : decode cX12_laysCap 152 = .ok (.isub, 1) := by decide +kernel
theorem dX12_laysCap_153 : decode cX12_laysCap 153 = .ok (.invokevirtual 206, 3) := by decide +kernel
theorem dX12_laysCap_156 : decode cX12_laysCap 156 = .ok (.return_, 1) := by decide +kernel
set_option maxRecDepth 20000 in
theorem ggX12_laysRun_X12_laysCuts : GoodIn wsX12_laysRun wsX12_laysCuts := goodIn_r _ [10, 1, 11, 12, 13, 14, 15, 16, 9, 17, 18, 19, 20, 3, 4, 5, 93, 94, 95, 96, 97, 98, 99, 100, 101, 102, 103, 104, 105, 106, 107, 108, 109, 110, 111, 112, 113, 114, 115, 116, 117, 118, 119, 120, 121, 122, 123] (by decide +kernel) (by decide +kernel)
set_option maxRecDepth 20000 in
theorem gX12_laysRun_X12_laysCuts : GoodIn wsX12_laysRun (wsV RX12 188 RX12 yX12_laysCuts wsX12_laysCuts) := goodIn_app (goodIn_of _ (by decide +kernel)) ggX12_laysRun_X12_laysCuts
set_option maxRecDepth 20000 in
theorem ggX12_laysRun_X12_laysStrip : GoodIn wsX12_laysRun wsX12_laysStrip := goodIn_r _ [24, 3, 4, 5, 25, 26, 27, 9, 28, 29, 30, 20, 31, 32, 33, 34, 35, 36, 37, 38, 39, 40, 41, 42, 43, 44, 45, 46, 47, 48, 49, 50, 51, 52, 53, 54, 55, 56, 57, 58, 59, 60, 61, 62, 63, 64, 65, 93, 94, 95, 96, 97, 98, 99, 100, 101, 102, 103, 104, 105, 106, 107, 108, 109, 110, 111, 112, 113, 114, 115, 116, 117, 118, 119, 120, 121, 122, 123] (by decide +kernel) (by decide +kernel)
set_option maxRecDepth 20000 in
theorem gX12_laysRun_X12_laysStrip : GoodIn wsX12_laysRun (wsV RX12 232 RX12 yX12_laysStrip wsX12_laysStrip) := goodIn_app (goodIn_of _ (by decide +kernel)) ggX12_laysRun_X12_laysStrip
set_option maxRecDepth 20000 in
theorem ggX12_laysRun_X12_laysJoin : GoodIn wsX12_laysRun wsX12_laysJoin := goodIn_r _ [69, 45, 30, 50, 55, 35, 39, 70, 71, 72, 9, 73, 56, 57, 58, 59, 60, 61, 62, 63, 64, 65, 74, 75, 76, 77, 78, 79, 80, 25, 26, 27, 28, 29, 20, 31, 32, 33, 34, 36, 37, 38, 40, 41, 42, 43, 44, 93, 94, 95, 96, 97, 98, 99, 100, 101, 102, 103, 104, 105, 106, 107, 108, 109, 110, 111, 112, 113, 114, 115, 116, 117, 118, 119, 120, 121, 122, 123] (by decide +kernel) (by decide +kernel)
set_option maxRecDepth 20000 in
theorem gX12_laysRun_X12_laysJoin : GoodIn wsX12_laysRun (wsV RX12 235 RX12 yX12_laysJoin wsX12_laysJoin) := goodIn_app (goodIn_of _ (by decide +kernel)) ggX12_laysRun_X12_laysJoin
set_option maxRecDepth 20000 in
theorem ggX12_laysRun_X12_laysCap : GoodIn wsX12_laysRun wsX12_laysCap := goodIn_r _ [84, 35, 46, 47, 48, 9, 49, 50, 44, 45, 20, 36, 37, 38, 39, 51, 52, 53, 54, 55, 30, 70, 71, 72, 73, 56, 57, 58, 59, 60, 61, 62, 63, 64, 65, 25, 26, 27, 28, 29, 31, 32, 33, 34, 40, 41, 42, 43, 85, 86, 87, 88, 89, 90, 91, 92, 93, 94, 95, 96, 97, 98, 99, 100, 101, 102, 103, 104, 105, 106, 107, 108, 109, 110, 111, 112, 113, 114, 115, 116, 117, 118, 119, 120, 121, 122, 123] (by decide +kernel) (by decide +kernel)
set_option maxRecDepth 20000 in
theorem gX12_laysRun_X12_laysCap : GoodIn wsX12_laysRun (wsV RX12 238 RX12 yX12_laysCap wsX12_laysCap) := goodIn_app (goodIn_of _ (by decide +kernel)) ggX12_laysRun_X12_laysCap
theorem dX12_laysRun_0 : decode cX12_laysRun 0 = .ok (.aload_n 0, 1) := by decide +kernel
theorem dX12_laysRun_1 : decode cX12_laysRun 1 = .ok (.iload_n 1, 1) := by decide +kernel
theorem dX12_laysRun_2 : decode cX12_laysRun 2 = .ok (.invokevirtual 188, 3) := by decide +kernel
theorem dX12_laysRun_5 : decode cX12_laysRun 5 = .ok (.iconst 0, 1) := by decide +kernel
theorem dX12_laysRun_6 : decode cX12_laysRun 6 = .ok (.istore_n 2, 1) := by decide +kernel
theorem dX12_laysRun_7 : decode cX12_laysRun 7 = .ok (.iload_n 2, 1) := by decide +kernel
theorem dX12_laysRun_8 : decode cX12_laysRun 8 = .ok (.aload_n 0, 1) := by decide +kernel
theorem dX12_laysRun_9 : decode cX12_laysRun 9 = .ok (.getfield 179, 3) := by decide +kernel
theorem dX12_laysRun_12 : decode cX12_laysRun 12 = .ok (.if_icmp .ge 79, 3) := by decide +kernel
theorem dX12_laysRun_15 : decode cX12_laysRun 15 = .ok (.aload_n 0, 1) := by decide +kernel
theorem dX12_laysRun_16 : decode cX12_laysRun 16 = .ok (.iload_n 2, 1) := by decide +kernel
theorem dX12_laysRun_17 : decode cX12_laysRun 17 = .ok (.invokevirtual 232, 3) := by decide +kernel
theorem dX12_laysRun_20 : decode cX12_laysRun 20 = .ok (.iload_n 2, 1) := by decide +kernel
theorem dX12_laysRun_21 : decode cX12_laysRun 21 = .ok (.iconst 1, 1) := by decide +kernel
theorem dX12_laysRun_22 : decode cX12_laysRun 22 = .ok (.iadd, 1) := by decide +kernel
theorem dX12_laysRun_23 : decode cX12_laysRun 23 = .ok (.aload_n 0, 1) := by decide +kernel
theorem dX12_laysRun_24 : decode cX12_laysRun 24 = .ok (.getfield 179, 3) := by decide +kernel
theorem dX12_laysRun_27 : decode cX12_laysRun 27 = .ok (.if_icmp .ge 9, 3) := by decide +kernel
theorem dX12_laysRun_30 : decode cX12_laysRun 30 = .ok (.iload_n 2, 1) := by decide +kernel
theorem dX12_laysRun_31 : decode cX12_laysRun 31 = .ok (.iconst 1, 1) := by decide +kernel
theorem dX12_laysRun_32 : decode cX12_laysRun 32 = .ok (.iadd, 1) := by decide +kernel
theorem dX12_laysRun_33 : decode cX12_laysRun 33 = .ok (.goto 15, 3) := by decide +kernel
theorem dX12_laysRun_36 : decode cX12_laysRun 36 = .ok (.aload_n 0, 1) := by decide +kernel
theorem dX12_laysRun_37 : decode cX12_laysRun 37 = .ok (.getfield 172, 3) := by decide +kernel
theorem dX12_laysRun_40 : decode cX12_laysRun 40 = .ok (.ifCond .eq 7, 3) := by decide +kernel
theorem dX12_laysRun_43 : decode cX12_laysRun 43 = .ok (.iconst 0, 1) := by decide +kernel
theorem dX12_laysRun_44 : decode cX12_laysRun 44 = .ok (.goto 4, 3) := by decide +kernel
theorem dX12_laysRun_47 : decode cX12_laysRun 47 = .ok (.iconst (-1), 1) := by decide +kernel
theorem dX12_laysRun_48 : decode cX12_laysRun 48 = .ok (.istore_n 3, 1) := by decide +kernel
theorem dX12_laysRun_49 : decode cX12_laysRun 49 = .ok (.iload_n 3, 1) := by decide +kernel
theorem dX12_laysRun_50 : decode cX12_laysRun 50 = .ok (.iconst (-1), 1) := by decide +kernel
theorem dX12_laysRun_51 : decode cX12_laysRun 51 = .ok (.if_icmp .eq 34, 3) := by decide +kernel
theorem dX12_laysRun_54 : decode cX12_laysRun 54 = .ok (.aload_n 0, 1) := by decide +kernel
theorem dX12_laysRun_55 : decode cX12_laysRun 55 = .ok (.getfield 43, 3) := by decide +kernel
theorem dX12_laysRun_58 : decode cX12_laysRun 58 = .ok (.iload_n 3, 1) := by decide +kernel
theorem dX12_laysRun_59 : decode cX12_laysRun 59 = .ok (.iaload, 1) := by decide +kernel
theorem dX12_laysRun_60 : decode cX12_laysRun 60 = .ok (.aload_n 0, 1) := by decide +kernel
theorem dX12_laysRun_61 : decode cX12_laysRun 61 = .ok (.getfield 43, 3) := by decide +kernel
theorem dX12_laysRun_64 : decode cX12_laysRun 64 = .ok (.iload_n 2, 1) := by decide +kernel
theorem dX12_laysRun_65 : decode cX12_laysRun 65 = .ok (.iaload, 1) := by decide +kernel
theorem dX12_laysRun_66 : decode cX12_laysRun 66 = .ok (.if_icmp .eq 19, 3) := by decide +kernel
theorem dX12_laysRun_69 : decode cX12_laysRun 69 = .ok (.aload_n 0, 1) := by decide +kernel
theorem dX12_laysRun_70 : decode cX12_laysRun 70 = .ok (.aload_n 0, 1) := by decide +kernel
theorem dX12_laysRun_71 : decode cX12_laysRun 71 = .ok (.getfield 43, 3) := by decide +kernel
theorem dX12_laysRun_74 : decode cX12_laysRun 74 = .ok (.iload_n 2, 1) := by decide +kernel
theorem dX12_laysRun_75 : decode cX12_laysRun 75 = .ok (.iaload, 1) := by decide +kernel
theorem dX12_laysRun_76 : decode cX12_laysRun 76 = .ok (.aload_n 0, 1) := by decide +kernel
theorem dX12_laysRun_77 : decode cX12_laysRun 77 = .ok (.getfield 43, 3) := by decide +kernel
theorem dX12_laysRun_80 : decode cX12_laysRun 80 = .ok (.iload_n 3, 1) := by decide +kernel
theorem dX12_laysRun_81 : decode cX12_laysRun 81 = .ok (.iaload, 1) := by decide +kernel
theorem dX12_laysRun_82 : decode cX12_laysRun 82 = .ok (.invokevirtual 235, 3) := by decide +kernel
theorem dX12_laysRun_85 : decode cX12_laysRun 85 = .ok (.iinc 2 1, 3) := by decide +kernel
theorem dX12_laysRun_88 : decode cX12_laysRun 88 = .ok (.goto (-81), 3) := by decide +kernel
theorem dX12_laysRun_91 : decode cX12_laysRun 91 = .ok (.aload_n 0, 1) := by decide +kernel
theorem dX12_laysRun_92 : decode cX12_laysRun 92 = .ok (.getfield 172, 3) := by decide +kernel
theorem dX12_laysRun_95 : decode cX12_laysRun 95 = .ok (.ifCond .ne 47, 3) := by decide +kernel
theorem dX12_laysRun_98 : decode cX12_laysRun 98 = .ok (.aload_n 0, 1) := by decide +kernel
theorem dX12_laysRun_99 : decode cX12_laysRun 99 = .ok (.aload_n 0, 1) := by decide +kernel
theorem dX12_laysRun_100 : decode cX12_laysRun 100 = .ok (.getfield 43, 3) := by decide +kernel
theorem dX12_laysRun_103 : decode cX12_laysRun 103 = .ok (.iconst 0, 1) := by decide +kernel
theorem dX12_laysRun_104 : decode cX12_laysRun 104 = .ok (.iaload, 1) := by decide +kernel
theorem dX12_laysRun_105 : decode cX12_laysRun 105 = .ok (.aload_n 0, 1) := by decide +kernel
theorem dX12_laysRun_106 : decode cX12_laysRun 106 = .ok (.getfield 46, 3) := by decide +kernel
theorem dX12_laysRun_109 : decode cX12_laysRun 109 = .ok (.iconst 0, 1) := by decide +kernel
theorem dX12_laysRun_110 : decode cX12_laysRun 110 = .ok (.iaload, 1) := by decide +kernel
theorem dX12_laysRun_111 : decode cX12_laysRun 111 = .ok (.iconst (-1), 1) := by decide +kernel
theorem dX12_laysRun_112 : decode cX12_laysRun 112 = .ok (.invokevirtual 238, 3) := by decide +kernel
theorem dX12_laysRun_115 : decode cX12_laysRun 115 = .ok (.aload_n 0, 1) := by decide +kernel
theorem dX12_laysRun_116 : decode cX12_laysRun 116 = .ok (.aload_n 0, 1) := by decide +kernel
theorem dX12_laysRun_117 : decode cX12_laysRun 117 = .ok (.getfield 43, 3) := by decide +kernel
theorem dX12_laysRun_120 : decode cX12_laysRun 120 = .ok (.aload_n 0, 1) := by decide +kernel
theorem dX12_laysRun_121 : decode cX12_laysRun 121 = .ok (.getfield 179, 3) := by decide +kernel
theorem dX12_laysRun_124 : decode cX12_laysRun 124 = .ok (.iconst 1, 1) := by decide +kernel
theorem dX12_laysRun_125 : decode cX12_laysRun 125 = .ok (.isub, 1) := by decide +kernel
theorem dX12_laysRun_126 : decode cX12_laysRun 126 = .ok (.iaload, 1) := by decide +kernel
theorem dX12_laysRun_127 : decode cX12_laysRun 127 = .ok (.aload_n 0, 1) := by decide +kernel
theorem dX12_laysRun_128 : decode cX12_laysRun 128 = .ok (.getfield 49, 3) := by decide +kernel
theorem dX12_laysRun_131 : decode cX12_laysRun 131 = .ok (.aload_n 0, 1) := by decide +kernel
theorem dX12_laysRun_132 : decode cX12_laysRun 132 = .ok (.getfield 179, 3) := by decide +kernel
theorem dX12_laysRun_135 : decode cX12_laysRun 135 = .ok (.iconst 1, 1) := by decide +kernel
theorem dX12_laysRun_136 : decode cX12_laysRun 136 = .ok (.isub, 1) := by decide +kernel
theorem dX12_laysRun_137 : decode cX12_laysRun 137 = .ok (.iaload, 1) := by decide +kernel
theorem dX12_laysRun_138 : decode cX12_laysRun 138 = .ok (.iconst 1, 1) := by decide +kernel
theorem dX12_laysRun_139 : decode cX12_laysRun 139 = .ok (.invokevirtual 238, 3) := by decide +kernel
theorem dX12_laysRun_142 : decode cX12_laysRun 142 = .ok (.return_, 1) := by decide +kernel
set_option maxRecDepth 20000 in
theorem ggX12_laysPoint_X12_x : GoodIn wsX12_laysPoint wsX12_x := goodIn_r _ [6, 1, 7, 8, 5, 9, 32, 33, 34, 35, 36, 37, 38, 39, 40, 41, 42, 43, 44, 45, 46, 47, 48, 49, 50, 51, 52, 53, 54, 55, 56, 57, 58, 59, 60, 61, 62] (by decide +kernel) (by decide +kernel)
set_option maxRecDepth 20000 in
theorem gX12_laysPoint_X12_x : GoodIn wsX12_laysPoint (wsV RX12 122 RX12 yX12_x wsX12_x) := goodIn_app (goodIn_of _ (by decide +kernel)) ggX12_laysPoint_X12_x
set_option maxRecDepth 20000 in
theorem ggX12_laysPoint_X12_y : GoodIn wsX12_laysPoint wsX12_y := goodIn_r _ [13, 1, 7, 8, 5, 9, 32, 33, 34, 35, 36, 37, 38, 39, 40, 41, 42, 43, 44, 45, 46, 47, 48, 49, 50, 51, 52, 53, 54, 55, 56, 57, 58, 59, 60, 61, 62] (by decide +kernel) (by decide +kernel)
set_option maxRecDepth 20000 in
theorem gX12_laysPoint_X12_y : GoodIn wsX12_laysPoint (wsV RX12 126 RX12 yX12_y wsX12_y) := goodIn_app (goodIn_of _ (by decide +kernel)) ggX12_laysPoint_X12_y
set_option maxRecDepth 20000 in
theorem ggX12_laysPoint_X12_half : GoodIn wsX12_laysPoint wsX12_half := goodIn_r _ [17, 1, 32, 33, 34, 35, 36, 37, 38, 39, 40, 41, 42, 43, 44, 45, 46, 47, 48, 49, 50, 51, 52, 53, 54, 55, 56, 57, 58, 59, 60, 61, 62] (by decide +kernel) (by decide +kernel)
set_option maxRecDepth 20000 in
theorem gX12_laysPoint_X12_half : GoodIn wsX12_laysPoint (wsV RX12 199 RX12 yX12_half wsX12_half) := goodIn_app (goodIn_of _ (by decide +kernel)) ggX12_laysPoint_X12_half
set_option maxRecDepth 20000 in
theorem ggX12_laysPoint_X12_laysDisc : GoodIn wsX12_laysPoint wsX12_laysDisc := goodIn_r _ [21, 22, 23, 24, 5, 25, 26, 27, 28, 29, 30, 31, 32, 33, 34, 35, 36, 37, 38, 39, 40, 41, 42, 43, 44, 45, 46, 47, 48, 49, 50, 51, 52, 53, 54, 55, 56, 57, 58, 59, 60, 61, 62] (by decide +kernel) (by decide +kernel)
set_option maxRecDepth 20000 in
theorem gX12_laysPoint_X12_laysDisc : GoodIn wsX12_laysPoint (wsV RX12 220 RX12 yX12_laysDisc wsX12_laysDisc) := goodIn_app (goodIn_of _ (by decide +kernel)) ggX12_laysPoint_X12_laysDisc
set_option maxRecDepth 20000 in
theorem ggX12_laysPoint_X12_begin : GoodIn wsX12_laysPoint wsX12_begin := goodIn_r _ [25, 26, 27, 32, 33, 34, 35, 36, 37, 38, 39, 40, 41, 42, 43, 44, 45, 46, 47, 48, 49, 50, 51, 52, 53, 54, 55, 56, 57, 58, 59, 60, 61, 62] (by decide +kernel) (by decide +kernel)
set_option maxRecDepth 20000 in
theorem gX12_laysPoint_X12_begin : GoodIn wsX12_laysPoint (wsV RX12 203 RX12 yX12_begin wsX12_begin) := goodIn_app (goodIn_of _ (by decide +kernel)) ggX12_laysPoint_X12_begin
set_option maxRecDepth 20000 in
theorem ggX12_laysPoint_X12_corners : GoodIn wsX12_laysPoint wsX12_corners := goodIn_r _ [31, 26, 27, 32, 33, 34, 35, 36, 37, 38, 39, 40, 41, 42, 43, 44, 45, 46, 47, 48, 49, 50, 51, 52, 53, 54, 55, 56, 57, 58, 59, 60, 61, 62] (by decide +kernel) (by decide +kernel)
set_option maxRecDepth 20000 in
theorem gX12_laysPoint_X12_corners : GoodIn wsX12_laysPoint (wsV RX12 206 RX12 yX12_corners wsX12_corners) := goodIn_app (goodIn_of _ (by decide +kernel)) ggX12_laysPoint_X12_corners
theorem dX12_laysPoint_0 : decode cX12_laysPoint 0 = .ok (.bipush 64, 2) := by decide +kernel
theorem dX12_laysPoint_2 : decode cX12_laysPoint 2 = .ok (.aload_n 0, 1) := by decide +kernel
theorem dX12_laysPoint_3 : decode cX12_laysPoint 3 = .ok (.iload_n 1, 1) := by decide +kernel
theorem dX12_laysPoint_4 : decode cX12_laysPoint 4 = .ok (.iconst 0, 1) := by decide +kernel
theorem dX12_laysPoint_5 : decode cX12_laysPoint 5 = .ok (.invokevirtual 122, 3) := by decide +kernel
theorem dX12_laysPoint_8 : decode cX12_laysPoint 8 = .ok (.imul, 1) := by decide +kernel
theorem dX12_laysPoint_9 : decode cX12_laysPoint 9 = .ok (.istore_n 2, 1) := by decide +kernel
theorem dX12_laysPoint_10 : decode cX12_laysPoint 10 = .ok (.bipush 64, 2) := by decide +kernel
theorem dX12_laysPoint_12 : decode cX12_laysPoint 12 = .ok (.aload_n 0, 1) := by decide +kernel
theorem dX12_laysPoint_13 : decode cX12_laysPoint 13 = .ok (.iload_n 1, 1) := by decide +kernel
theorem dX12_laysPoint_14 : decode cX12_laysPoint 14 = .ok (.iconst 0, 1) := by decide +kernel
theorem dX12_laysPoint_15 : decode cX12_laysPoint 15 = .ok (.invokevirtual 126, 3) := by decide +kernel
theorem dX12_laysPoint_18 : decode cX12_laysPoint 18 = .ok (.imul, 1) := by decide +kernel
theorem dX12_laysPoint_19 : decode cX12_laysPoint 19 = .ok (.istore_n 3, 1) := by decide +kernel
theorem dX12_laysPoint_20 : decode cX12_laysPoint 20 = .ok (.aload_n 0, 1) := by decide +kernel
theorem dX12_laysPoint_21 : decode cX12_laysPoint 21 = .ok (.invokevirtual 199, 3) := by decide +kernel
theorem dX12_laysPoint_24 : decode cX12_laysPoint 24 = .ok (.istore 4, 2) := by decide +kernel
theorem dX12_laysPoint_26 : decode cX12_laysPoint 26 = .ok (.aload_n 0, 1) := by decide +kernel
theorem dX12_laysPoint_27 : decode cX12_laysPoint 27 = .ok (.getfield 7, 3) := by decide +kernel
theorem dX12_laysPoint_30 : decode cX12_laysPoint 30 = .ok (.iconst 3, 1) := by decide +kernel
theorem dX12_laysPoint_31 : decode cX12_laysPoint 31 = .ok (.iaload, 1) := by decide +kernel
theorem dX12_laysPoint_32 : decode cX12_laysPoint 32 = .ok (.iconst 1, 1) := by decide +kernel
theorem dX12_laysPoint_33 : decode cX12_laysPoint 33 = .ok (.if_icmp .ne 12, 3) := by decide +kernel
theorem dX12_laysPoint_36 : decode cX12_laysPoint 36 = .ok (.aload_n 0, 1) := by decide +kernel
theorem dX12_laysPoint_37 : decode cX12_laysPoint 37 = .ok (.iload_n 2, 1) := by decide +kernel
theorem dX12_laysPoint_38 : decode cX12_laysPoint 38 = .ok (.iload_n 3, 1) := by decide +kernel
theorem dX12_laysPoint_39 : decode cX12_laysPoint 39 = .ok (.invokevirtual 220, 3) := by decide +kernel
theorem dX12_laysPoint_42 : decode cX12_laysPoint 42 = .ok (.goto 70, 3) := by decide +kernel
theorem dX12_laysPoint_45 : decode cX12_laysPoint 45 = .ok (.aload_n 0, 1) := by decide +kernel
theorem dX12_laysPoint_46 : decode cX12_laysPoint 46 = .ok (.getfield 7, 3) := by decide +kernel
theorem dX12_laysPoint_49 : decode cX12_laysPoint 49 = .ok (.iconst 3, 1) := by decide +kernel
theorem dX12_laysPoint_50 : decode cX12_laysPoint 50 = .ok (.iaload, 1) := by decide +kernel
theorem dX12_laysPoint_51 : decode cX12_laysPoint 51 = .ok (.iconst 2, 1) := by decide +kernel
theorem dX12_laysPoint_52 : decode cX12_laysPoint 52 = .ok (.if_icmp .ne 60, 3) := by decide +kernel
theorem dX12_laysPoint_55 : decode cX12_laysPoint 55 = .ok (.aload_n 0, 1) := by decide +kernel
theorem dX12_laysPoint_56 : decode cX12_laysPoint 56 = .ok (.iconst 4, 1) := by decide +kernel
theorem dX12_laysPoint_57 : decode cX12_laysPoint 57 = .ok (.invokevirtual 203, 3) := by decide +kernel
theorem dX12_laysPoint_60 : decode cX12_laysPoint 60 = .ok (.aload_n 0, 1) := by decide +kernel
theorem dX12_laysPoint_61 : decode cX12_laysPoint 61 = .ok (.iconst 0, 1) := by decide +kernel
theorem dX12_laysPoint_62 : decode cX12_laysPoint 62 = .ok (.iload_n 2, 1) := by decide +kernel
theorem dX12_laysPoint_63 : decode cX12_laysPoint 63 = .ok (.iload 4, 2) := by decide +kernel
theorem dX12_laysPoint_65 : decode cX12_laysPoint 65 = .ok (.isub, 1) := by decide +kernel
theorem dX12_laysPoint_66 : decode cX12_laysPoint 66 = .ok (.iload_n 3, 1) := by decide +kernel
theorem dX12_laysPoint_67 : decode cX12_laysPoint 67 = .ok (.iload 4, 2) := by decide +kernel
theorem dX12_laysPoint_69 : decode cX12_laysPoint 69 = .ok (.isub, 1) := by decide +kernel
theorem dX12_laysPoint_70 : decode cX12_laysPoint 70 = .ok (.invokevirtual 206, 3) := by decide +kernel
theorem dX12_laysPoint_73 : decode cX12_laysPoint 73 = .ok (.aload_n 0, 1) := by decide +kernel
theorem dX12_laysPoint_74 : decode cX12_laysPoint 74 = .ok (.iconst 1, 1) := by decide +kernel
theorem dX12_laysPoint_75 : decode cX12_laysPoint 75 = .ok (.iload_n 2, 1) := by decide +kernel
theorem dX12_laysPoint_76 : decode cX12_laysPoint 76 = .ok (.iload 4, 2) := by decide +kernel
theorem dX12_laysPoint_78 : decode cX12_laysPoint 78 = .ok (.iadd, 1) := by decide +kernel
theorem dX12_laysPoint_79 : decode cX12_laysPoint 79 = .ok (.iload_n 3, 1) := by decide +kernel
theorem dX12_laysPoint_80 : decode cX12_laysPoint 80 = .ok (.iload 4, 2) := by decide +kernel
theorem dX12_laysPoint_82 : decode cX12_laysPoint 82 = .ok (.isub, 1) := by decide +kernel
theorem dX12_laysPoint_83 : decode cX12_laysPoint 83 = .ok (.invokevirtual 206, 3) := by decide +kernel
theorem dX12_laysPoint_86 : decode cX12_laysPoint 86 = .ok (.aload_n 0, 1) := by decide +kernel
theorem dX12_laysPoint_87 : decode cX12_laysPoint 87 = .ok (.iconst 2, 1) := by decide +kernel
theorem dX12_laysPoint_88 : decode cX12_laysPoint 88 = .ok (.iload_n 2, 1) := by decide +kernel
theorem dX12_laysPoint_89 : decode cX12_laysPoint 89 = .ok (.iload 4, 2) := by decide +kernel
theorem dX12_laysPoint_91 : decode cX12_laysPoint 91 = .ok (.iadd, 1) := by decide +kernel
theorem dX12_laysPoint_92 : decode cX12_laysPoint 92 = .ok (.iload_n 3, 1) := by decide +kernel
theorem dX12_laysPoint_93 : decode cX12_laysPoint 93 = .ok (.iload 4, 2) := by decide +kernel
theorem dX12_laysPoint_95 : decode cX12_laysPoint 95 = .ok (.iadd, 1) := by decide +kernel
theorem dX12_laysPoint_96 : decode cX12_laysPoint 96 = .ok (.invokevirtual 206, 3) := by decide +kernel
theorem dX12_laysPoint_99 : decode cX12_laysPoint 99 = .ok (.aload_n 0, 1) := by decide +kernel
theorem dX12_laysPoint_100 : decode cX12_laysPoint 100 = .ok (.iconst 3, 1) := by decide +kernel
theorem dX12_laysPoint_101 : decode cX12_laysPoint 101 = .ok (.iload_n 2, 1) := by decide +kernel
theorem dX12_laysPoint_102 : decode cX12_laysPoint 102 = .ok (.iload 4, 2) := by decide +kernel
theorem dX12_laysPoint_104 : decode cX12_laysPoint 104 = .ok (.isub, 1) := by decide +kernel
theorem dX12_laysPoint_105 : decode cX12_laysPoint 105 = .ok (.iload_n 3, 1) := by decide +kernel
theorem dX12_laysPoint_106 : decode cX12_laysPoint 106 = .ok (.iload 4, 2) := by decide +kernel
theorem dX12_laysPoint_108 : decode cX12_laysPoint 108 = .ok (.iadd, 1) := by decide +kernel
theorem dX12_laysPoint_109 : decode cX12_laysPoint 109 = .ok (.invokevirtual 206, 3) := by decide +kernel
theorem dX12_laysPoint_112 : decode cX12_laysPoint 112 = .ok (.return_, 1) := by decide +kernel
set_option maxRecDepth 20000 in
theorem ggX12_laysPieces_X12_laysRuns : GoodIn wsX12_laysPieces wsX12_laysRuns := goodIn_r _ [9, 2, 4, 10, 11, 12, 13, 14, 15, 16, 8, 17, 18, 19, 20, 21, 3, 22, 23, 24, 25, 26, 27, 28, 29, 30, 31, 32, 33, 34, 35, 36, 37, 38, 39, 40, 41, 42, 43, 44, 45, 46, 47, 48, 49, 50, 51, 52, 53, 54, 55, 56, 142, 143, 144, 145, 146, 147, 148, 149, 150, 151, 152, 153, 154, 155, 156, 157, 158, 159, 160, 161, 162, 163, 164, 165, 166, 167, 168, 169, 170, 171, 172] (by decide +kernel) (by decide +kernel)
set_option maxRecDepth 20000 in
theorem gX12_laysPieces_X12_laysRuns : GoodIn wsX12_laysPieces (wsV RX12 185 RX12 yX12_laysRuns wsX12_laysRuns) := goodIn_app (goodIn_of _ (by decide +kernel)) ggX12_laysPieces_X12_laysRuns
set_option maxRecDepth 20000 in
theorem ggX12_laysPieces_X12_laysPoint : GoodIn wsX12_laysPieces wsX12_laysPoint := goodIn_r _ [60, 2, 40, 41, 42, 8, 43, 33, 34, 35, 44, 45, 46, 47, 61, 62, 63, 64, 65, 66, 67, 68, 69, 70, 71, 72, 73, 1, 74, 75, 76, 77, 142, 143, 144, 145, 146, 147, 148, 149, 150, 151, 152, 153, 154, 155, 156, 157, 158, 159, 160, 161, 162, 163, 164, 165, 166, 167, 168, 169, 170, 171, 172] (by decide +kernel) (by decide +kernel)
set_option maxRecDepth 20000 in
theorem gX12_laysPieces_X12_laysPoint : GoodIn wsX12_laysPieces (wsV RX12 241 RX12 yX12_laysPoint wsX12_laysPoint) := goodIn_app (goodIn_of _ (by decide +kernel)) ggX12_laysPieces_X12_laysPoint
set_option maxRecDepth 20000 in
theorem ggX12_laysPieces_X12_laysRun : GoodIn wsX12_laysPieces wsX12_laysRun := goodIn_r _ [81, 82, 10, 83, 84, 85, 86, 87, 88, 8, 89, 12, 13, 11, 90, 91, 92, 93, 3, 28, 26, 94, 95, 96, 97, 98, 99, 100, 101, 102, 23, 61, 62, 63, 64, 2, 103, 104, 105, 52, 106, 107, 108, 109, 110, 22, 111, 112, 113, 114, 24, 115, 116, 117, 118, 25, 69, 70, 71, 72, 73, 1, 74, 75, 76, 77, 119, 120, 121, 122, 65, 66, 67, 68, 123, 124, 125, 126, 127, 128, 129, 130, 131, 132, 133, 134, 135, 136, 137, 138, 139, 140, 141, 142, 143, 144, 145, 146, 147, 148, 149, 150, 151, 152, 153, 154, 155, 156, 157, 158, 159, 160, 161, 162, 163, 164, 165, 166, 167, 168, 169, 170, 171, 172] (by decide +kernel) (by decide +kernel)
set_option maxRecDepth 20000 in
theorem gX12_laysPieces_X12_laysRun : GoodIn wsX12_laysPieces (wsV RX12 244 RX12 yX12_laysRun wsX12_laysRun) := goodIn_app (goodIn_of _ (by decide +kernel)) ggX12_laysPieces_X12_laysRun
theorem dX12_laysPieces_0 : decode cX12_laysPieces 0 = .ok (.aload_n 0, 1) := by decide +kernel
theorem dX12_laysPieces_1 : decode cX12_laysPieces 1 = .ok (.iconst 0, 1) := by decide +kernel
theorem dX12_laysPieces_2 : decode cX12_laysPieces 2 = .ok (.putfield 194, 3) := by decide +kernel
theorem dX12_laysPieces_5 : decode cX12_laysPieces 5 = .ok (.iconst 0, 1) := by decide +kernel
theorem dX12_laysPieces_6 : decode cX12_laysPieces 6 = .ok (.istore_n 1, 1) := by decide +kernel
theorem dX12_laysPieces_7 : decode cX12_laysPieces 7 = .ok (.iload_n 1, 1) := by decide +kernel
theorem dX12_laysPieces_8 : decode cX12_laysPieces 8 = .ok (.aload_n 0, 1) := by decide +kernel
theorem dX12_laysPieces_9 : decode cX12_laysPieces 9 = .ok (.getfield 7, 3) := by decide +kernel
theorem dX12_laysPieces_12 : decode cX12_laysPieces 12 = .ok (.bipush 13, 2) := by decide +kernel
theorem dX12_laysPieces_14 : decode cX12_laysPieces 14 = .ok (.iaload, 1) := by decide +kernel
theorem dX12_laysPieces_15 : decode cX12_laysPieces 15 = .ok (.if_icmp .ge 47, 3) := by decide +kernel
theorem dX12_laysPieces_18 : decode cX12_laysPieces 18 = .ok (.aload_n 0, 1) := by decide +kernel
theorem dX12_laysPieces_19 : decode cX12_laysPieces 19 = .ok (.iload_n 1, 1) := by decide +kernel
theorem dX12_laysPieces_20 : decode cX12_laysPieces 20 = .ok (.invokevirtual 185, 3) := by decide +kernel
theorem dX12_laysPieces_23 : decode cX12_laysPieces 23 = .ok (.aload_n 0, 1) := by decide +kernel
theorem dX12_laysPieces_24 : decode cX12_laysPieces 24 = .ok (.getfield 116, 3) := by decide +kernel
theorem dX12_laysPieces_27 : decode cX12_laysPieces 27 = .ok (.ifCond .ne 8, 3) := by decide +kernel
theorem dX12_laysPieces_30 : decode cX12_laysPieces 30 = .ok (.aload_n 0, 1) := by decide +kernel
theorem dX12_laysPieces_31 : decode cX12_laysPieces 31 = .ok (.iload_n 1, 1) := by decide +kernel
theorem dX12_laysPieces_32 : decode cX12_laysPieces 32 = .ok (.invokevirtual 241, 3) := by decide +kernel
theorem dX12_laysPieces_35 : decode cX12_laysPieces 35 = .ok (.iconst 0, 1) := by decide +kernel
theorem dX12_laysPieces_36 : decode cX12_laysPieces 36 = .ok (.istore_n 2, 1) := by decide +kernel
theorem dX12_laysPieces_37 : decode cX12_laysPieces 37 = .ok (.iload_n 2, 1) := by decide +kernel
theorem dX12_laysPieces_38 : decode cX12_laysPieces 38 = .ok (.aload_n 0, 1) := by decide +kernel
theorem dX12_laysPieces_39 : decode cX12_laysPieces 39 = .ok (.getfield 169, 3) := by decide +kernel
theorem dX12_laysPieces_42 : decode cX12_laysPieces 42 = .ok (.if_icmp .ge 14, 3) := by decide +kernel
theorem dX12_laysPieces_45 : decode cX12_laysPieces 45 = .ok (.aload_n 0, 1) := by decide +kernel
theorem dX12_laysPieces_46 : decode cX12_laysPieces 46 = .ok (.iload_n 2, 1) := by decide +kernel
theorem dX12_laysPieces_47 : decode cX12_laysPieces 47 = .ok (.invokevirtual 244, 3) := by decide +kernel
theorem dX12_laysPieces_50 : decode cX12_laysPieces 50 = .ok (.iinc 2 1, 3) := by decide +kernel
theorem dX12_laysPieces_53 : decode cX12_laysPieces 53 = .ok (.goto (-16), 3) := by decide +kernel
theorem dX12_laysPieces_56 : decode cX12_laysPieces 56 = .ok (.iinc 1 1, 3) := by decide +kernel
theorem dX12_laysPieces_59 : decode cX12_laysPieces 59 = .ok (.goto (-52), 3) := by decide +kernel
theorem dX12_laysPieces_62 : decode cX12_laysPieces 62 = .ok (.return_, 1) := by decide +kernel
theorem dX12_kindOf_0 : decode cX12_kindOf 0 = .ok (.aload_n 0, 1) := by decide +kernel
theorem dX12_kindOf_1 : decode cX12_kindOf 1 = .ok (.getfield 52, 3) := by decide +kernel
theorem dX12_kindOf_4 : decode cX12_kindOf 4 = .ok (.bipush 9, 2) := by decide +kernel
theorem dX12_kindOf_6 : decode cX12_kindOf 6 = .ok (.iload_n 1, 1) := by decide +kernel
theorem dX12_kindOf_7 : decode cX12_kindOf 7 = .ok (.imul, 1) := by decide +kernel
theorem dX12_kindOf_8 : decode cX12_kindOf 8 = .ok (.iaload, 1) := by decide +kernel
theorem dX12_kindOf_9 : decode cX12_kindOf 9 = .ok (.ireturn, 1) := by decide +kernel
set_option maxRecDepth 20000 in
theorem ggX12_cornersOf_X12_kindOf : GoodIn wsX12_cornersOf wsX12_kindOf := goodIn_r _ [5, 6, 7, 8, 9, 10, 11, 12, 13, 14, 15, 16, 17, 18, 19, 20, 21, 22, 23, 24, 25, 26, 27, 28, 29, 30, 31, 32, 33, 34, 35, 36, 37] (by decide +kernel) (by decide +kernel)
set_option maxRecDepth 20000 in
theorem gX12_cornersOf_X12_kindOf : GoodIn wsX12_cornersOf (wsV RX12 247 RX12 yX12_kindOf wsX12_kindOf) := goodIn_app (goodIn_of _ (by decide +kernel)) ggX12_cornersOf_X12_kindOf
theorem dX12_cornersOf_0 : decode cX12_cornersOf 0 = .ok (.aload_n 0, 1) := by decide +kernel
theorem dX12_cornersOf_1 : decode cX12_cornersOf 1 = .ok (.iload_n 1, 1) := by decide +kernel
theorem dX12_cornersOf_2 : decode cX12_cornersOf 2 = .ok (.invokevirtual 247, 3) := by decide +kernel
theorem dX12_cornersOf_5 : decode cX12_cornersOf 5 = .ok (.istore_n 2, 1) := by decide +kernel
theorem dX12_cornersOf_6 : decode cX12_cornersOf 6 = .ok (.iload_n 2, 1) := by decide +kernel
theorem dX12_cornersOf_7 : decode cX12_cornersOf 7 = .ok (.iconst 3, 1) := by decide +kernel
theorem dX12_cornersOf_8 : decode cX12_cornersOf 8 = .ok (.if_icmp .ne 7, 3) := by decide +kernel
theorem dX12_cornersOf_11 : decode cX12_cornersOf 11 = .ok (.iconst 1, 1) := by decide +kernel
theorem dX12_cornersOf_12 : decode cX12_cornersOf 12 = .ok (.goto 13, 3) := by decide +kernel
theorem dX12_cornersOf_15 : decode cX12_cornersOf 15 = .ok (.iload_n 2, 1) := by decide +kernel
theorem dX12_cornersOf_16 : decode cX12_cornersOf 16 = .ok (.iconst 2, 1) := by decide +kernel
theorem dX12_cornersOf_17 : decode cX12_cornersOf 17 = .ok (.if_icmp .ne 7, 3) := by decide +kernel
theorem dX12_cornersOf_20 : decode cX12_cornersOf 20 = .ok (.iconst 3, 1) := by decide +kernel
theorem dX12_cornersOf_21 : decode cX12_cornersOf 21 = .ok (.goto 4, 3) := by decide +kernel
theorem dX12_cornersOf_24 : decode cX12_cornersOf 24 = .ok (.iconst 4, 1) := by decide +kernel
theorem dX12_cornersOf_25 : decode cX12_cornersOf 25 = .ok (.ireturn, 1) := by decide +kernel
set_option maxRecDepth 20000 in
theorem ggX12_cornerX_X12_cornersOf : GoodIn wsX12_cornerX wsX12_cornersOf := goodIn_r _ [6, 7, 8, 9, 5, 10, 1, 11, 12, 13, 14, 15, 16, 17, 18, 19, 20, 21, 22, 23, 24, 25, 26, 27, 28, 29, 30, 31, 32, 33, 34, 35, 36, 37, 38, 39, 40, 41] (by decide +kernel) (by decide +kernel)
set_option maxRecDepth 20000 in
theorem gX12_cornerX_X12_cornersOf : GoodIn wsX12_cornerX (wsV RX12 250 RX12 yX12_cornersOf wsX12_cornersOf) := goodIn_app (goodIn_of _ (by decide +kernel)) ggX12_cornerX_X12_cornersOf
theorem dX12_cornerX_0 : decode cX12_cornerX 0 = .ok (.aload_n 0, 1) := by decide +kernel
theorem dX12_cornerX_1 : decode cX12_cornerX 1 = .ok (.getfield 52, 3) := by decide +kernel
theorem dX12_cornerX_4 : decode cX12_cornerX 4 = .ok (.bipush 9, 2) := by decide +kernel
theorem dX12_cornerX_6 : decode cX12_cornerX 6 = .ok (.iload_n 1, 1) := by decide +kernel
theorem dX12_cornerX_7 : decode cX12_cornerX 7 = .ok (.imul, 1) := by decide +kernel
theorem dX12_cornerX_8 : decode cX12_cornerX 8 = .ok (.iconst 1, 1) := by decide +kernel
theorem dX12_cornerX_9 : decode cX12_cornerX 9 = .ok (.iadd, 1) := by decide +kernel
theorem dX12_cornerX_10 : decode cX12_cornerX 10 = .ok (.iconst 2, 1) := by decide +kernel
theorem dX12_cornerX_11 : decode cX12_cornerX 11 = .ok (.iload_n 2, 1) := by decide +kernel
theorem dX12_cornerX_12 : decode cX12_cornerX 12 = .ok (.aload_n 0, 1) := by decide +kernel
theorem dX12_cornerX_13 : decode cX12_cornerX 13 = .ok (.iload_n 1, 1) := by decide +kernel
theorem dX12_cornerX_14 : decode cX12_cornerX 14 = .ok (.invokevirtual 250, 3) := by decide +kernel
theorem dX12_cornerX_17 : decode cX12_cornerX 17 = .ok (.irem, 1) := by decide +kernel
theorem dX12_cornerX_18 : decode cX12_cornerX 18 = .ok (.imul, 1) := by decide +kernel
theorem dX12_cornerX_19 : decode cX12_cornerX 19 = .ok (.iadd, 1) := by decide +kernel
theorem dX12_cornerX_20 : decode cX12_cornerX 20 = .ok (.iaload, 1) := by decide +kernel
theorem dX12_cornerX_21 : decode cX12_cornerX 21 = .ok (.ireturn, 1) := by decide +kernel
set_option maxRecDepth 20000 in
theorem ggX12_cornerY_X12_cornersOf : GoodIn wsX12_cornerY wsX12_cornersOf := goodIn_r _ [6, 7, 8, 9, 5, 10, 1, 11, 12, 13, 14, 15, 16, 17, 18, 19, 20, 21, 22, 23, 24, 25, 26, 27, 28, 29, 30, 31, 32, 33, 34, 35, 36, 37, 38, 39, 40, 41] (by decide +kernel) (by decide +kernel)
set_option maxRecDepth 20000 in
theorem gX12_cornerY_X12_cornersOf : GoodIn wsX12_cornerY (wsV RX12 250 RX12 yX12_cornersOf wsX12_cornersOf) := goodIn_app (goodIn_of _ (by decide +kernel)) ggX12_cornerY_X12_cornersOf
theorem dX12_cornerY_0 : decode cX12_cornerY 0 = .ok (.aload_n 0, 1) := by decide +kernel
theorem dX12_cornerY_1 : decode cX12_cornerY 1 = .ok (.getfield 52, 3) := by decide +kernel
theorem dX12_cornerY_4 : decode cX12_cornerY 4 = .ok (.bipush 9, 2) := by decide +kernel
theorem dX12_cornerY_6 : decode cX12_cornerY 6 = .ok (.iload_n 1, 1) := by decide +kernel
theorem dX12_cornerY_7 : decode cX12_cornerY 7 = .ok (.imul, 1) := by decide +kernel
theorem dX12_cornerY_8 : decode cX12_cornerY 8 = .ok (.iconst 2, 1) := by decide +kernel
theorem dX12_cornerY_9 : decode cX12_cornerY 9 = .ok (.iadd, 1) := by decide +kernel
theorem dX12_cornerY_10 : decode cX12_cornerY 10 = .ok (.iconst 2, 1) := by decide +kernel
theorem dX12_cornerY_11 : decode cX12_cornerY 11 = .ok (.iload_n 2, 1) := by decide +kernel
theorem dX12_cornerY_12 : decode cX12_cornerY 12 = .ok (.aload_n 0, 1) := by decide +kernel
theorem dX12_cornerY_13 : decode cX12_cornerY 13 = .ok (.iload_n 1, 1) := by decide +kernel
theorem dX12_cornerY_14 : decode cX12_cornerY 14 = .ok (.invokevirtual 250, 3) := by decide +kernel
theorem dX12_cornerY_17 : decode cX12_cornerY 17 = .ok (.irem, 1) := by decide +kernel
theorem dX12_cornerY_18 : decode cX12_cornerY 18 = .ok (.imul, 1) := by decide +kernel
theorem dX12_cornerY_19 : decode cX12_cornerY 19 = .ok (.iadd, 1) := by decide +kernel
theorem dX12_cornerY_20 : decode cX12_cornerY 20 = .ok (.iaload, 1) := by decide +kernel
theorem dX12_cornerY_21 : decode cX12_cornerY 21 = .ok (.ireturn, 1) := by decide +kernel
set_option maxRecDepth 20000 in
theorem ggX12_pieces_X12_within : GoodIn wsX12_pieces wsX12_within := goodIn_r _ [5] (by decide +kernel) (by decide +kernel)
set_option maxRecDepth 20000 in
theorem gX12_pieces_X12_within : GoodIn wsX12_pieces (va_wsS RX12 65 yX12_within wsX12_within) := goodIn_app (goodIn_of _ (by decide +kernel)) ggX12_pieces_X12_within
set_option maxRecDepth 20000 in
theorem ggX12_pieces_X12_refused : GoodIn wsX12_pieces wsX12_refused := goodIn_r _ [9, 10, 158, 159, 160, 161, 162, 163, 164, 165, 166, 167, 168, 169, 170, 171, 172, 173, 174, 175, 176, 177, 178, 179, 180, 181, 182, 183, 184, 185, 186, 187, 188] (by decide +kernel) (by decide +kernel)
set_option maxRecDepth 20000 in
theorem gX12_pieces_X12_refused : GoodIn wsX12_pieces (wsV RX12 76 RX12 yX12_refused wsX12_refused) := goodIn_app (goodIn_of _ (by decide +kernel)) ggX12_pieces_X12_refused
set_option maxRecDepth 20000 in
theorem ggX12_pieces_X12_laysPieces : GoodIn wsX12_pieces wsX12_laysPieces := goodIn_r _ [14, 1, 15, 16, 17, 18, 19, 20, 4, 21, 22, 23, 24, 25, 26, 27, 28, 29, 30, 31, 32, 33, 34, 35, 36, 37, 38, 39, 40, 41, 42, 43, 44, 45, 46, 47, 48, 49, 50, 51, 52, 53, 54, 55, 56, 57, 58, 59, 60, 61, 62, 63, 64, 65, 66, 67, 68, 69, 70, 71, 72, 73, 74, 75, 76, 77, 78, 79, 80, 81, 82, 83, 84, 85, 86, 87, 88, 89, 90, 91, 92, 93, 94, 95, 96, 97, 98, 99, 100, 101, 102, 103, 104, 105, 106, 107, 108, 109, 110, 111, 112, 113, 114, 115, 116, 117, 118, 119, 120, 121, 122, 123, 124, 125, 126, 127, 128, 129, 130, 131, 132, 133, 134, 135, 136, 137, 138, 139, 140, 141, 142, 143, 144, 145, 146, 147, 148, 149, 150, 151, 152, 153, 158, 159, 160, 161, 162, 163, 164, 165, 166, 167, 168, 169, 170, 171, 172, 173, 174, 175, 176, 177, 178, 179, 180, 181, 182, 183, 184, 185, 186, 187, 188] (by decide +kernel) (by decide +kernel)
set_option maxRecDepth 20000 in
theorem gX12_pieces_X12_laysPieces : GoodIn wsX12_pieces (wsV RX12 253 RX12 yX12_laysPieces wsX12_laysPieces) := goodIn_app (goodIn_of _ (by decide +kernel)) ggX12_pieces_X12_laysPieces
set_option maxRecDepth 20000 in
theorem ggX12_pieces_X12_kindOf : GoodIn wsX12_pieces wsX12_kindOf := goodIn_r _ [157, 85, 158, 159, 160, 161, 162, 163, 164, 165, 166, 167, 168, 169, 170, 171, 172, 173, 174, 175, 176, 177, 178, 179, 180, 181, 182, 183, 184, 185, 186, 187, 188] (by decide +kernel) (by decide +kernel)
set_option maxRecDepth 20000 in
theorem gX12_pieces_X12_kindOf : GoodIn wsX12_pieces (wsV RX12 247 RX12 yX12_kindOf wsX12_kindOf) := goodIn_app (goodIn_of _ (by decide +kernel)) ggX12_pieces_X12_kindOf
theorem dX12_pieces_0 : decode cX12_pieces 0 = .ok (.aload_n 0, 1) := by decide +kernel
theorem dX12_pieces_1 : decode cX12_pieces 1 = .ok (.iload_n 1, 1) := by decide +kernel
theorem dX12_pieces_2 : decode cX12_pieces 2 = .ok (.iconst (-1), 1) := by decide +kernel
theorem dX12_pieces_3 : decode cX12_pieces 3 = .ok (.iconst 4, 1) := by decide +kernel
theorem dX12_pieces_4 : decode cX12_pieces 4 = .ok (.invokestatic 65, 3) := by decide +kernel
theorem dX12_pieces_7 : decode cX12_pieces 7 = .ok (.ifCond .eq 7, 3) := by decide +kernel
theorem dX12_pieces_10 : decode cX12_pieces 10 = .ok (.iconst 0, 1) := by decide +kernel
theorem dX12_pieces_11 : decode cX12_pieces 11 = .ok (.goto 4, 3) := by decide +kernel
theorem dX12_pieces_14 : decode cX12_pieces 14 = .ok (.iconst 1, 1) := by decide +kernel
theorem dX12_pieces_15 : decode cX12_pieces 15 = .ok (.invokevirtual 76, 3) := by decide +kernel
theorem dX12_pieces_18 : decode cX12_pieces 18 = .ok (.ifCond .eq 5, 3) := by decide +kernel
theorem dX12_pieces_21 : decode cX12_pieces 21 = .ok (.iconst 0, 1) := by decide +kernel
theorem dX12_pieces_22 : decode cX12_pieces 22 = .ok (.ireturn, 1) := by decide +kernel
theorem dX12_pieces_23 : decode cX12_pieces 23 = .ok (.aload_n 0, 1) := by decide +kernel
theorem dX12_pieces_24 : decode cX12_pieces 24 = .ok (.invokevirtual 253, 3) := by decide +kernel
theorem dX12_pieces_27 : decode cX12_pieces 27 = .ok (.iconst 0, 1) := by decide +kernel
theorem dX12_pieces_28 : decode cX12_pieces 28 = .ok (.istore_n 2, 1) := by decide +kernel
theorem dX12_pieces_29 : decode cX12_pieces 29 = .ok (.iconst 0, 1) := by decide +kernel
theorem dX12_pieces_30 : decode cX12_pieces 30 = .ok (.istore_n 3, 1) := by decide +kernel
theorem dX12_pieces_31 : decode cX12_pieces 31 = .ok (.iload_n 3, 1) := by decide +kernel
theorem dX12_pieces_32 : decode cX12_pieces 32 = .ok (.aload_n 0, 1) := by decide +kernel
theorem dX12_pieces_33 : decode cX12_pieces 33 = .ok (.getfield 194, 3) := by decide +kernel
theorem dX12_pieces_36 : decode cX12_pieces 36 = .ok (.if_icmp .ge 31, 3) := by decide +kernel
theorem dX12_pieces_39 : decode cX12_pieces 39 = .ok (.iload_n 2, 1) := by decide +kernel
theorem dX12_pieces_40 : decode cX12_pieces 40 = .ok (.iload_n 1, 1) := by decide +kernel
theorem dX12_pieces_41 : decode cX12_pieces 41 = .ok (.iconst (-1), 1) := by decide +kernel
theorem dX12_pieces_42 : decode cX12_pieces 42 = .ok (.if_icmp .eq 12, 3) := by decide +kernel
theorem dX12_pieces_45 : decode cX12_pieces 45 = .ok (.aload_n 0, 1) := by decide +kernel
theorem dX12_pieces_46 : decode cX12_pieces 46 = .ok (.iload_n 3, 1) := by decide +kernel
theorem dX12_pieces_47 : decode cX12_pieces 47 = .ok (.invokevirtual 247, 3) := by decide +kernel
theorem dX12_pieces_50 : decode cX12_pieces 50 = .ok (.iload_n 1, 1) := by decide +kernel
theorem dX12_pieces_51 : decode cX12_pieces 51 = .ok (.if_icmp .ne 7, 3) := by decide +kernel
theorem dX12_pieces_54 : decode cX12_pieces 54 = .ok (.iconst 1, 1) := by decide +kernel
theorem dX12_pieces_55 : decode cX12_pieces 55 = .ok (.goto 4, 3) := by decide +kernel
theorem dX12_pieces_58 : decode cX12_pieces 58 = .ok (.iconst 0, 1) := by decide +kernel
theorem dX12_pieces_59 : decode cX12_pieces 59 = .ok (.iadd, 1) := by decide +kernel
theorem dX12_pieces_60 : decode cX12_pieces 60 = .ok (.istore_n 2, 1) := by decide +kernel
theorem dX12_pieces_61 : decode cX12_pieces 61 = .ok (.iinc 3 1, 3) := by decide +kernel
theorem dX12_pieces_64 : decode cX12_pieces 64 = .ok (.goto (-33), 3) := by decide +kernel
theorem dX12_pieces_67 : decode cX12_pieces 67 = .ok (.iload_n 2, 1) := by decide +kernel
theorem dX12_pieces_68 : decode cX12_pieces 68 = .ok (.ireturn, 1) := by decide +kernel
set_option maxRecDepth 20000 in
theorem ggX12_area_X12_cornersOf : GoodIn wsX12_area wsX12_cornersOf := goodIn_r _ [5, 6, 7, 8, 4, 9, 10, 19, 20, 21, 22, 23, 24, 25, 26, 27, 28, 29, 30, 31, 32, 33, 34, 35, 36, 37, 38, 39, 40, 41, 42, 43, 44, 45, 46, 47, 48, 49] (by decide +kernel) (by decide +kernel)
set_option maxRecDepth 20000 in
theorem gX12_area_X12_cornersOf : GoodIn wsX12_area (wsV RX12 250 RX12 yX12_cornersOf wsX12_cornersOf) := goodIn_app (goodIn_of _ (by decide +kernel)) ggX12_area_X12_cornersOf
set_option maxRecDepth 20000 in
theorem ggX12_area_X12_cornerX : GoodIn wsX12_area wsX12_cornerX := goodIn_r _ [14, 10, 1, 2, 3, 4, 5, 6, 7, 8, 9, 19, 20, 21, 22, 23, 24, 25, 26, 27, 28, 29, 30, 31, 32, 33, 34, 35, 36, 37, 38, 39, 40, 41, 42, 43, 44, 45, 46, 47, 48, 49] (by decide +kernel) (by decide +kernel)
set_option maxRecDepth 20000 in
theorem gX12_area_X12_cornerX : GoodIn wsX12_area (wsV RX12 256 RX12 yX12_cornerX wsX12_cornerX) := goodIn_app (goodIn_of _ (by decide +kernel)) ggX12_area_X12_cornerX
set_option maxRecDepth 20000 in
theorem ggX12_area_X12_cornerY : GoodIn wsX12_area wsX12_cornerY := goodIn_r _ [18, 10, 1, 2, 3, 4, 5, 6, 7, 8, 9, 19, 20, 21, 22, 23, 24, 25, 26, 27, 28, 29, 30, 31, 32, 33, 34, 35, 36, 37, 38, 39, 40, 41, 42, 43, 44, 45, 46, 47, 48, 49] (by decide +kernel) (by decide +kernel)
set_option maxRecDepth 20000 in
theorem gX12_area_X12_cornerY : GoodIn wsX12_area (wsV RX12 259 RX12 yX12_cornerY wsX12_cornerY) := goodIn_app (goodIn_of _ (by decide +kernel)) ggX12_area_X12_cornerY
theorem dX12_area_0 : decode cX12_area 0 = .ok (.lconst 0, 1) := by decide +kernel
theorem dX12_area_1 : decode cX12_area 1 = .ok (.lstore_n 2, 1) := by decide +kernel
theorem dX12_area_2 : decode cX12_area 2 = .ok (.iconst 0, 1) := by decide +kernel
theorem dX12_area_3 : decode cX12_area 3 = .ok (.istore 4, 2) := by decide +kernel
theorem dX12_area_5 : decode cX12_area 5 = .ok (.iload 4, 2) := by decide +kernel
theorem dX12_area_7 : decode cX12_area 7 = .ok (.aload_n 0, 1) := by decide +kernel
theorem dX12_area_8 : decode cX12_area 8 = .ok (.iload_n 1, 1) := by decide +kernel
theorem dX12_area_9 : decode cX12_area 9 = .ok (.invokevirtual 250, 3) := by decide +kernel
theorem dX12_area_12 : decode cX12_area 12 = .ok (.if_icmp .ge 51, 3) := by decide +kernel
theorem dX12_area_15 : decode cX12_area 15 = .ok (.lload_n 2, 1) := by decide +kernel
theorem dX12_area_16 : decode cX12_area 16 = .ok (.aload_n 0, 1) := by decide +kernel
theorem dX12_area_17 : decode cX12_area 17 = .ok (.iload_n 1, 1) := by decide +kernel
theorem dX12_area_18 : decode cX12_area 18 = .ok (.iload 4, 2) := by decide +kernel
theorem dX12_area_20 : decode cX12_area 20 = .ok (.invokevirtual 256, 3) := by decide +kernel
theorem dX12_area_23 : decode cX12_area 23 = .ok (.i2l, 1) := by decide +kernel
theorem dX12_area_24 : decode cX12_area 24 = .ok (.aload_n 0, 1) := by decide +kernel
theorem dX12_area_25 : decode cX12_area 25 = .ok (.iload_n 1, 1) := by decide +kernel
theorem dX12_area_26 : decode cX12_area 26 = .ok (.iload 4, 2) := by decide +kernel
theorem dX12_area_28 : decode cX12_area 28 = .ok (.iconst 1, 1) := by decide +kernel
theorem dX12_area_29 : decode cX12_area 29 = .ok (.iadd, 1) := by decide +kernel
theorem dX12_area_30 : decode cX12_area 30 = .ok (.invokevirtual 259, 3) := by decide +kernel
theorem dX12_area_33 : decode cX12_area 33 = .ok (.i2l, 1) := by decide +kernel
theorem dX12_area_34 : decode cX12_area 34 = .ok (.lmul, 1) := by decide +kernel
theorem dX12_area_35 : decode cX12_area 35 = .ok (.aload_n 0, 1) := by decide +kernel
theorem dX12_area_36 : decode cX12_area 36 = .ok (.iload_n 1, 1) := by decide +kernel
theorem dX12_area_37 : decode cX12_area 37 = .ok (.iload 4, 2) := by decide +kernel
theorem dX12_area_39 : decode cX12_area 39 = .ok (.iconst 1, 1) := by decide +kernel
theorem dX12_area_40 : decode cX12_area 40 = .ok (.iadd, 1) := by decide +kernel
theorem dX12_area_41 : decode cX12_area 41 = .ok (.invokevirtual 256, 3) := by decide +kernel
theorem dX12_area_44 : decode cX12_area 44 = .ok (.i2l, 1) := by decide +kernel
theorem dX12_area_45 : decode cX12_area 45 = .ok (.aload_n 0, 1) := by decide +kernel
theorem dX12_area_46 : decode cX12_area 46 = .ok (.iload_n 1, 1) := by decide +kernel
theorem dX12_area_47 : decode cX12_area 47 = .ok (.iload 4, 2) := by decide +kernel
theorem dX12_area_49 : decode cX12_area 49 = .ok (.invokevirtual 259, 3) := by decide +kernel
theorem dX12_area_52 : decode cX12_area 52 = .ok (.i2l, 1) := by decide +kernel
theorem dX12_area_53 : decode cX12_area 53 = .ok (.lmul, 1) := by decide +kernel
theorem dX12_area_54 : decode cX12_area 54 = .ok (.lsub, 1) := by decide +kernel
theorem dX12_area_55 : decode cX12_area 55 = .ok (.ladd, 1) := by decide +kernel
theorem dX12_area_56 : decode cX12_area 56 = .ok (.lstore_n 2, 1) := by decide +kernel
theorem dX12_area_57 : decode cX12_area 57 = .ok (.iinc 4 1, 3) := by decide +kernel
theorem dX12_area_60 : decode cX12_area 60 = .ok (.goto (-55), 3) := by decide +kernel
theorem dX12_area_63 : decode cX12_area 63 = .ok (.lload_n 2, 1) := by decide +kernel
theorem dX12_area_64 : decode cX12_area 64 = .ok (.lconst 0, 1) := by decide +kernel
theorem dX12_area_65 : decode cX12_area 65 = .ok (.lcmp, 1) := by decide +kernel
theorem dX12_area_66 : decode cX12_area 66 = .ok (.ifCond .ge 8, 3) := by decide +kernel
theorem dX12_area_69 : decode cX12_area 69 = .ok (.lload_n 2, 1) := by decide +kernel
theorem dX12_area_70 : decode cX12_area 70 = .ok (.lneg, 1) := by decide +kernel
theorem dX12_area_71 : decode cX12_area 71 = .ok (.goto 4, 3) := by decide +kernel
theorem dX12_area_74 : decode cX12_area 74 = .ok (.lload_n 2, 1) := by decide +kernel
theorem dX12_area_75 : decode cX12_area 75 = .ok (.lreturn, 1) := by decide +kernel
set_option maxRecDepth 20000 in
theorem ggX12_piece_X12_laysPieces : GoodIn wsX12_piece wsX12_laysPieces := goodIn_r _ [6, 1, 7, 8, 9, 10, 11, 12, 5, 13, 14, 15, 16, 17, 18, 19, 20, 21, 22, 23, 24, 25, 26, 27, 28, 29, 30, 31, 32, 33, 34, 35, 36, 37, 38, 39, 40, 41, 42, 43, 44, 45, 46, 47, 48, 49, 50, 51, 52, 53, 54, 55, 56, 57, 58, 59, 60, 61, 62, 63, 64, 65, 66, 67, 68, 69, 70, 71, 72, 73, 74, 75, 76, 77, 78, 79, 80, 81, 82, 83, 84, 85, 86, 87, 88, 89, 90, 91, 92, 93, 94, 95, 96, 97, 98, 99, 100, 101, 102, 103, 104, 105, 106, 107, 108, 109, 110, 111, 112, 113, 114, 115, 116, 117, 118, 119, 120, 121, 122, 123, 124, 125, 126, 127, 128, 129, 130, 131, 132, 133, 134, 135, 136, 137, 138, 139, 140, 141, 142, 143, 144, 145, 174, 175, 176, 177, 178, 179, 180, 181, 182, 183, 184, 185, 186, 187, 188, 189, 190, 191, 192, 193, 194, 195, 196, 197, 198, 199, 200, 201, 202, 203, 204] (by decide +kernel) (by decide +kernel)
set_option maxRecDepth 20000 in
theorem gX12_piece_X12_laysPieces : GoodIn wsX12_piece (wsV RX12 253 RX12 yX12_laysPieces wsX12_laysPieces) := goodIn_app (goodIn_of _ (by decide +kernel)) ggX12_piece_X12_laysPieces
set_option maxRecDepth 20000 in
theorem ggX12_piece_X12_within : GoodIn wsX12_piece wsX12_within := goodIn_r _ [148] (by decide +kernel) (by decide +kernel)
set_option maxRecDepth 20000 in
theorem gX12_piece_X12_within : GoodIn wsX12_piece (va_wsS RX12 65 yX12_within wsX12_within) := goodIn_app (goodIn_of _ (by decide +kernel)) ggX12_piece_X12_within
set_option maxRecDepth 20000 in
theorem ggX12_piece_X12_refused : GoodIn wsX12_piece wsX12_refused := goodIn_r _ [152, 153, 174, 175, 176, 177, 178, 179, 180, 181, 182, 183, 184, 185, 186, 187, 188, 189, 190, 191, 192, 193, 194, 195, 196, 197, 198, 199, 200, 201, 202, 203, 204] (by decide +kernel) (by decide +kernel)
set_option maxRecDepth 20000 in
theorem gX12_piece_X12_refused : GoodIn wsX12_piece (wsV RX12 76 RX12 yX12_refused wsX12_refused) := goodIn_app (goodIn_of _ (by decide +kernel)) ggX12_piece_X12_refused
set_option maxRecDepth 20000 in
theorem ggX12_piece_X12_kindOf : GoodIn wsX12_piece wsX12_kindOf := goodIn_r _ [157, 77, 174, 175, 176, 177, 178, 179, 180, 181, 182, 183, 184, 185, 186, 187, 188, 189, 190, 191, 192, 193, 194, 195, 196, 197, 198, 199, 200, 201, 202, 203, 204] (by decide +kernel) (by decide +kernel)
set_option maxRecDepth 20000 in
theorem gX12_piece_X12_kindOf : GoodIn wsX12_piece (wsV RX12 247 RX12 yX12_kindOf wsX12_kindOf) := goodIn_app (goodIn_of _ (by decide +kernel)) ggX12_piece_X12_kindOf
set_option maxRecDepth 20000 in
theorem ggX12_piece_X12_cornersOf : GoodIn wsX12_piece wsX12_cornersOf := goodIn_r _ [161, 154, 155, 156, 5, 157, 77, 174, 175, 176, 177, 178, 179, 180, 181, 182, 183, 184, 185, 186, 187, 188, 189, 190, 191, 192, 193, 194, 195, 196, 197, 198, 199, 200, 201, 202, 203, 204] (by decide +kernel) (by decide +kernel)
set_option maxRecDepth 20000 in
theorem gX12_piece_X12_cornersOf : GoodIn wsX12_piece (wsV RX12 250 RX12 yX12_cornersOf wsX12_cornersOf) := goodIn_app (goodIn_of _ (by decide +kernel)) ggX12_piece_X12_cornersOf
set_option maxRecDepth 20000 in
theorem ggX12_piece_X12_area : GoodIn wsX12_piece wsX12_area := goodIn_r _ [165, 158, 159, 160, 5, 161, 154, 155, 156, 157, 77, 166, 167, 168, 169, 170, 171, 172, 173, 174, 175, 176, 177, 178, 179, 180, 181, 182, 183, 184, 185, 186, 187, 188, 189, 190, 191, 192, 193, 194, 195, 196, 197, 198, 199, 200, 201, 202, 203, 204] (by decide +kernel) (by decide +kernel)
set_option maxRecDepth 20000 in
theorem gX12_piece_X12_area : GoodIn wsX12_piece (wsV RX12 262 RX12 yX12_area wsX12_area) := goodIn_app (goodIn_of _ (by decide +kernel)) ggX12_piece_X12_area
theorem dX12_piece_0 : decode cX12_piece 0 = .ok (.aload_n 0, 1) := by decide +kernel
theorem dX12_piece_1 : decode cX12_piece 1 = .ok (.invokevirtual 253, 3) := by decide +kernel
theorem dX12_piece_4 : decode cX12_piece 4 = .ok (.aload_n 0, 1) := by decide +kernel
theorem dX12_piece_5 : decode cX12_piece 5 = .ok (.iload_n 1, 1) := by decide +kernel
theorem dX12_piece_6 : decode cX12_piece 6 = .ok (.iconst 0, 1) := by decide +kernel
theorem dX12_piece_7 : decode cX12_piece 7 = .ok (.aload_n 0, 1) := by decide +kernel
theorem dX12_piece_8 : decode cX12_piece 8 = .ok (.getfield 194, 3) := by decide +kernel
theorem dX12_piece_11 : decode cX12_piece 11 = .ok (.iconst 1, 1) := by decide +kernel
theorem dX12_piece_12 : decode cX12_piece 12 = .ok (.isub, 1) := by decide +kernel
theorem dX12_piece_13 : decode cX12_piece 13 = .ok (.invokestatic 65, 3) := by decide +kernel
theorem dX12_piece_16 : decode cX12_piece 16 = .ok (.ifCond .ne 7, 3) := by decide +kernel
theorem dX12_piece_19 : decode cX12_piece 19 = .ok (.iconst 1, 1) := by decide +kernel
theorem dX12_piece_20 : decode cX12_piece 20 = .ok (.goto 17, 3) := by decide +kernel
theorem dX12_piece_23 : decode cX12_piece 23 = .ok (.iload_n 2, 1) := by decide +kernel
theorem dX12_piece_24 : decode cX12_piece 24 = .ok (.iconst 0, 1) := by decide +kernel
theorem dX12_piece_25 : decode cX12_piece 25 = .ok (.iconst 2, 1) := by decide +kernel
theorem dX12_piece_26 : decode cX12_piece 26 = .ok (.invokestatic 65, 3) := by decide +kernel
theorem dX12_piece_29 : decode cX12_piece 29 = .ok (.ifCond .eq 7, 3) := by decide +kernel
theorem dX12_piece_32 : decode cX12_piece 32 = .ok (.iconst 0, 1) := by decide +kernel
theorem dX12_piece_33 : decode cX12_piece 33 = .ok (.goto 4, 3) := by decide +kernel
theorem dX12_piece_36 : decode cX12_piece 36 = .ok (.iconst 2, 1) := by decide +kernel
theorem dX12_piece_37 : decode cX12_piece 37 = .ok (.invokevirtual 76, 3) := by decide +kernel
theorem dX12_piece_40 : decode cX12_piece 40 = .ok (.ifCond .eq 5, 3) := by decide +kernel
theorem dX12_piece_43 : decode cX12_piece 43 = .ok (.lconst 0, 1) := by decide +kernel
theorem dX12_piece_44 : decode cX12_piece 44 = .ok (.lreturn, 1) := by decide +kernel
theorem dX12_piece_45 : decode cX12_piece 45 = .ok (.iload_n 2, 1) := by decide +kernel
theorem dX12_piece_46 : decode cX12_piece 46 = .ok (.ifCond .ne 12, 3) := by decide +kernel
theorem dX12_piece_49 : decode cX12_piece 49 = .ok (.aload_n 0, 1) := by decide +kernel
theorem dX12_piece_50 : decode cX12_piece 50 = .ok (.iload_n 1, 1) := by decide +kernel
theorem dX12_piece_51 : decode cX12_piece 51 = .ok (.invokevirtual 247, 3) := by decide +kernel
theorem dX12_piece_54 : decode cX12_piece 54 = .ok (.i2l, 1) := by decide +kernel
theorem dX12_piece_55 : decode cX12_piece 55 = .ok (.goto 22, 3) := by decide +kernel
theorem dX12_piece_58 : decode cX12_piece 58 = .ok (.iload_n 2, 1) := by decide +kernel
theorem dX12_piece_59 : decode cX12_piece 59 = .ok (.iconst 1, 1) := by decide +kernel
theorem dX12_piece_60 : decode cX12_piece 60 = .ok (.if_icmp .ne 12, 3) := by decide +kernel
theorem dX12_piece_63 : decode cX12_piece 63 = .ok (.aload_n 0, 1) := by decide +kernel
theorem dX12_piece_64 : decode cX12_piece 64 = .ok (.iload_n 1, 1) := by decide +kernel
theorem dX12_piece_65 : decode cX12_piece 65 = .ok (.invokevirtual 250, 3) := by decide +kernel
theorem dX12_piece_68 : decode cX12_piece 68 = .ok (.i2l, 1) := by decide +kernel
theorem dX12_piece_69 : decode cX12_piece 69 = .ok (.goto 8, 3) := by decide +kernel
theorem dX12_piece_72 : decode cX12_piece 72 = .ok (.aload_n 0, 1) := by decide +kernel
theorem dX12_piece_73 : decode cX12_piece 73 = .ok (.iload_n 1, 1) := by decide +kernel
theorem dX12_piece_74 : decode cX12_piece 74 = .ok (.invokevirtual 262, 3) := by decide +kernel
theorem dX12_piece_77 : decode cX12_piece 77 = .ok (.lreturn, 1) := by decide +kernel
set_option maxRecDepth 20000 in
theorem ggX12_corner_X12_laysPieces : GoodIn wsX12_corner wsX12_laysPieces := goodIn_r _ [6, 1, 7, 8, 9, 10, 11, 12, 5, 13, 14, 15, 16, 17, 18, 19, 20, 21, 22, 23, 24, 25, 26, 27, 28, 29, 30, 31, 32, 33, 34, 35, 36, 37, 38, 39, 40, 41, 42, 43, 44, 45, 46, 47, 48, 49, 50, 51, 52, 53, 54, 55, 56, 57, 58, 59, 60, 61, 62, 63, 64, 65, 66, 67, 68, 69, 70, 71, 72, 73, 74, 75, 76, 77, 78, 79, 80, 81, 82, 83, 84, 85, 86, 87, 88, 89, 90, 91, 92, 93, 94, 95, 96, 97, 98, 99, 100, 101, 102, 103, 104, 105, 106, 107, 108, 109, 110, 111, 112, 113, 114, 115, 116, 117, 118, 119, 120, 121, 122, 123, 124, 125, 126, 127, 128, 129, 130, 131, 132, 133, 134, 135, 136, 137, 138, 139, 140, 141, 142, 143, 144, 145, 170, 171, 172, 173, 174, 175, 176, 177, 178, 179, 180, 181, 182, 183, 184, 185, 186, 187, 188, 189, 190, 191, 192, 193, 194, 195, 196, 197, 198, 199, 200] (by decide +kernel) (by decide +kernel)
set_option maxRecDepth 20000 in
theorem gX12_corner_X12_laysPieces : GoodIn wsX12_corner (wsV RX12 253 RX12 yX12_laysPieces wsX12_laysPieces) := goodIn_app (goodIn_of _ (by decide +kernel)) ggX12_corner_X12_laysPieces
set_option maxRecDepth 20000 in
theorem ggX12_corner_X12_within : GoodIn wsX12_corner wsX12_within := goodIn_r _ [148] (by decide +kernel) (by decide +kernel)
set_option maxRecDepth 20000 in
theorem gX12_corner_X12_within : GoodIn wsX12_corner (va_wsS RX12 65 yX12_within wsX12_within) := goodIn_app (goodIn_of _ (by decide +kernel)) ggX12_corner_X12_within
set_option maxRecDepth 20000 in
theorem ggX12_corner_X12_cornersOf : GoodIn wsX12_corner wsX12_cornersOf := goodIn_r _ [152, 153, 154, 155, 5, 156, 77, 170, 171, 172, 173, 174, 175, 176, 177, 178, 179, 180, 181, 182, 183, 184, 185, 186, 187, 188, 189, 190, 191, 192, 193, 194, 195, 196, 197, 198, 199, 200] (by decide +kernel) (by decide +kernel)
set_option maxRecDepth 20000 in
theorem gX12_corner_X12_cornersOf : GoodIn wsX12_corner (wsV RX12 250 RX12 yX12_cornersOf wsX12_cornersOf) := goodIn_app (goodIn_of _ (by decide +kernel)) ggX12_corner_X12_cornersOf
set_option maxRecDepth 20000 in
theorem ggX12_corner_X12_refused : GoodIn wsX12_corner wsX12_refused := goodIn_r _ [160, 161, 170, 171, 172, 173, 174, 175, 176, 177, 178, 179, 180, 181, 182, 183, 184, 185, 186, 187, 188, 189, 190, 191, 192, 193, 194, 195, 196, 197, 198, 199, 200] (by decide +kernel) (by decide +kernel)
set_option maxRecDepth 20000 in
theorem gX12_corner_X12_refused : GoodIn wsX12_corner (wsV RX12 76 RX12 yX12_refused wsX12_refused) := goodIn_app (goodIn_of _ (by decide +kernel)) ggX12_corner_X12_refused
set_option maxRecDepth 20000 in
theorem ggX12_corner_X12_cornerY : GoodIn wsX12_corner wsX12_cornerY := goodIn_r _ [165, 77, 149, 150, 151, 5, 152, 153, 154, 155, 156, 170, 171, 172, 173, 174, 175, 176, 177, 178, 179, 180, 181, 182, 183, 184, 185, 186, 187, 188, 189, 190, 191, 192, 193, 194, 195, 196, 197, 198, 199, 200] (by decide +kernel) (by decide +kernel)
set_option maxRecDepth 20000 in
theorem gX12_corner_X12_cornerY : GoodIn wsX12_corner (wsV RX12 259 RX12 yX12_cornerY wsX12_cornerY) := goodIn_app (goodIn_of _ (by decide +kernel)) ggX12_corner_X12_cornerY
set_option maxRecDepth 20000 in
theorem ggX12_corner_X12_cornerX : GoodIn wsX12_corner wsX12_cornerX := goodIn_r _ [169, 77, 149, 150, 151, 5, 152, 153, 154, 155, 156, 170, 171, 172, 173, 174, 175, 176, 177, 178, 179, 180, 181, 182, 183, 184, 185, 186, 187, 188, 189, 190, 191, 192, 193, 194, 195, 196, 197, 198, 199, 200] (by decide +kernel) (by decide +kernel)
set_option maxRecDepth 20000 in
theorem gX12_corner_X12_cornerX : GoodIn wsX12_corner (wsV RX12 256 RX12 yX12_cornerX wsX12_cornerX) := goodIn_app (goodIn_of _ (by decide +kernel)) ggX12_corner_X12_cornerX
theorem dX12_corner_0 : decode cX12_corner 0 = .ok (.aload_n 0, 1) := by decide +kernel
