theorem dX5_reason_6 : decode cX5_reason 6 = .ok (.iload_n 1, 1) := by decide +kernel
theorem dX5_reason_7 : decode cX5_reason 7 = .ok (.iadd, 1) := by decide +kernel
theorem dX5_reason_8 : decode cX5_reason 8 = .ok (.iaload, 1) := by decide +kernel
theorem dX5_reason_9 : decode cX5_reason 9 = .ok (.istore_n 2, 1) := by decide +kernel
theorem dX5_reason_10 : decode cX5_reason 10 = .ok (.iload_n 2, 1) := by decide +kernel
theorem dX5_reason_11 : decode cX5_reason 11 = .ok (.iconst (-1), 1) := by decide +kernel
theorem dX5_reason_12 : decode cX5_reason 12 = .ok (.if_icmp .ne 7, 3) := by decide +kernel
theorem dX5_reason_15 : decode cX5_reason 15 = .ok (.iconst 1, 1) := by decide +kernel
theorem dX5_reason_16 : decode cX5_reason 16 = .ok (.goto 46, 3) := by decide +kernel
theorem dX5_reason_19 : decode cX5_reason 19 = .ok (.aload_n 0, 1) := by decide +kernel
theorem dX5_reason_20 : decode cX5_reason 20 = .ok (.getfield 7, 3) := by decide +kernel
theorem dX5_reason_23 : decode cX5_reason 23 = .ok (.bipush 12, 2) := by decide +kernel
theorem dX5_reason_25 : decode cX5_reason 25 = .ok (.iload_n 2, 1) := by decide +kernel
theorem dX5_reason_26 : decode cX5_reason 26 = .ok (.iadd, 1) := by decide +kernel
theorem dX5_reason_27 : decode cX5_reason 27 = .ok (.iaload, 1) := by decide +kernel
theorem dX5_reason_28 : decode cX5_reason 28 = .ok (.ifCond .ne 18, 3) := by decide +kernel
theorem dX5_reason_31 : decode cX5_reason 31 = .ok (.aload_n 0, 1) := by decide +kernel
theorem dX5_reason_32 : decode cX5_reason 32 = .ok (.getfield 7, 3) := by decide +kernel
theorem dX5_reason_35 : decode cX5_reason 35 = .ok (.bipush 33, 2) := by decide +kernel
theorem dX5_reason_37 : decode cX5_reason 37 = .ok (.iaload, 1) := by decide +kernel
theorem dX5_reason_38 : decode cX5_reason 38 = .ok (.iconst 1, 1) := by decide +kernel
theorem dX5_reason_39 : decode cX5_reason 39 = .ok (.if_icmp .ne 7, 3) := by decide +kernel
theorem dX5_reason_42 : decode cX5_reason 42 = .ok (.iconst 2, 1) := by decide +kernel
theorem dX5_reason_43 : decode cX5_reason 43 = .ok (.goto 19, 3) := by decide +kernel
theorem dX5_reason_46 : decode cX5_reason 46 = .ok (.aload_n 0, 1) := by decide +kernel
theorem dX5_reason_47 : decode cX5_reason 47 = .ok (.getfield 7, 3) := by decide +kernel
theorem dX5_reason_50 : decode cX5_reason 50 = .ok (.iconst 4, 1) := by decide +kernel
theorem dX5_reason_51 : decode cX5_reason 51 = .ok (.iload_n 2, 1) := by decide +kernel
theorem dX5_reason_52 : decode cX5_reason 52 = .ok (.iadd, 1) := by decide +kernel
theorem dX5_reason_53 : decode cX5_reason 53 = .ok (.iaload, 1) := by decide +kernel
theorem dX5_reason_54 : decode cX5_reason 54 = .ok (.ifCond .ne 7, 3) := by decide +kernel
theorem dX5_reason_57 : decode cX5_reason 57 = .ok (.iconst 3, 1) := by decide +kernel
theorem dX5_reason_58 : decode cX5_reason 58 = .ok (.goto 4, 3) := by decide +kernel
theorem dX5_reason_61 : decode cX5_reason 61 = .ok (.iconst 0, 1) := by decide +kernel
theorem dX5_reason_62 : decode cX5_reason 62 = .ok (.ireturn, 1) := by decide +kernel
theorem dX5_prints_0 : decode cX5_prints 0 = .ok (.aload_n 0, 1) := by decide +kernel
theorem dX5_prints_1 : decode cX5_prints 1 = .ok (.iload_n 1, 1) := by decide +kernel
theorem dX5_prints_2 : decode cX5_prints 2 = .ok (.invokevirtual 41, 3) := by decide +kernel
theorem dX5_prints_5 : decode cX5_prints 5 = .ok (.istore_n 3, 1) := by decide +kernel
theorem dX5_prints_6 : decode cX5_prints 6 = .ok (.iload_n 3, 1) := by decide +kernel
theorem dX5_prints_7 : decode cX5_prints 7 = .ok (.ifCond .le 18, 3) := by decide +kernel
theorem dX5_prints_10 : decode cX5_prints 10 = .ok (.aload_n 0, 1) := by decide +kernel
theorem dX5_prints_11 : decode cX5_prints 11 = .ok (.getfield 7, 3) := by decide +kernel
theorem dX5_prints_14 : decode cX5_prints 14 = .ok (.bipush 22, 2) := by decide +kernel
theorem dX5_prints_16 : decode cX5_prints 16 = .ok (.iload_n 1, 1) := by decide +kernel
theorem dX5_prints_17 : decode cX5_prints 17 = .ok (.iadd, 1) := by decide +kernel
theorem dX5_prints_18 : decode cX5_prints 18 = .ok (.dup2, 1) := by decide +kernel
theorem dX5_prints_19 : decode cX5_prints 19 = .ok (.iaload, 1) := by decide +kernel
theorem dX5_prints_20 : decode cX5_prints 20 = .ok (.iconst 1, 1) := by decide +kernel
theorem dX5_prints_21 : decode cX5_prints 21 = .ok (.iadd, 1) := by decide +kernel
theorem dX5_prints_22 : decode cX5_prints 22 = .ok (.iastore, 1) := by decide +kernel
theorem dX5_prints_23 : decode cX5_prints 23 = .ok (.iload_n 3, 1) := by decide +kernel
theorem dX5_prints_24 : decode cX5_prints 24 = .ok (.ireturn, 1) := by decide +kernel
theorem dX5_prints_25 : decode cX5_prints 25 = .ok (.aload_n 0, 1) := by decide +kernel
theorem dX5_prints_26 : decode cX5_prints 26 = .ok (.getfield 7, 3) := by decide +kernel
theorem dX5_prints_29 : decode cX5_prints 29 = .ok (.bipush 16, 2) := by decide +kernel
theorem dX5_prints_31 : decode cX5_prints 31 = .ok (.iload_n 1, 1) := by decide +kernel
theorem dX5_prints_32 : decode cX5_prints 32 = .ok (.iadd, 1) := by decide +kernel
theorem dX5_prints_33 : decode cX5_prints 33 = .ok (.iaload, 1) := by decide +kernel
theorem dX5_prints_34 : decode cX5_prints 34 = .ok (.istore 4, 2) := by decide +kernel
theorem dX5_prints_36 : decode cX5_prints 36 = .ok (.aload_n 0, 1) := by decide +kernel
theorem dX5_prints_37 : decode cX5_prints 37 = .ok (.iload 4, 2) := by decide +kernel
theorem dX5_prints_39 : decode cX5_prints 39 = .ok (.iload_n 2, 1) := by decide +kernel
theorem dX5_prints_40 : decode cX5_prints 40 = .ok (.aload_n 0, 1) := by decide +kernel
theorem dX5_prints_41 : decode cX5_prints 41 = .ok (.getfield 7, 3) := by decide +kernel
theorem dX5_prints_44 : decode cX5_prints 44 = .ok (.bipush 31, 2) := by decide +kernel
theorem dX5_prints_46 : decode cX5_prints 46 = .ok (.iaload, 1) := by decide +kernel
theorem dX5_prints_47 : decode cX5_prints 47 = .ok (.invokevirtual 33, 3) := by decide +kernel
theorem dX5_prints_50 : decode cX5_prints 50 = .ok (.istore 5, 2) := by decide +kernel
theorem dX5_prints_52 : decode cX5_prints 52 = .ok (.aload_n 0, 1) := by decide +kernel
theorem dX5_prints_53 : decode cX5_prints 53 = .ok (.getfield 7, 3) := by decide +kernel
theorem dX5_prints_56 : decode cX5_prints 56 = .ok (.iconst 4, 1) := by decide +kernel
theorem dX5_prints_57 : decode cX5_prints 57 = .ok (.iload 4, 2) := by decide +kernel
theorem dX5_prints_59 : decode cX5_prints 59 = .ok (.iadd, 1) := by decide +kernel
theorem dX5_prints_60 : decode cX5_prints 60 = .ok (.iaload, 1) := by decide +kernel
theorem dX5_prints_61 : decode cX5_prints 61 = .ok (.iload 5, 2) := by decide +kernel
theorem dX5_prints_63 : decode cX5_prints 63 = .ok (.if_icmp .ge 15, 3) := by decide +kernel
theorem dX5_prints_66 : decode cX5_prints 66 = .ok (.aload_n 0, 1) := by decide +kernel
theorem dX5_prints_67 : decode cX5_prints 67 = .ok (.getfield 7, 3) := by decide +kernel
theorem dX5_prints_70 : decode cX5_prints 70 = .ok (.iconst 4, 1) := by decide +kernel
theorem dX5_prints_71 : decode cX5_prints 71 = .ok (.iload 4, 2) := by decide +kernel
theorem dX5_prints_73 : decode cX5_prints 73 = .ok (.iadd, 1) := by decide +kernel
theorem dX5_prints_74 : decode cX5_prints 74 = .ok (.iaload, 1) := by decide +kernel
theorem dX5_prints_75 : decode cX5_prints 75 = .ok (.goto 5, 3) := by decide +kernel
theorem dX5_prints_78 : decode cX5_prints 78 = .ok (.iload 5, 2) := by decide +kernel
theorem dX5_prints_80 : decode cX5_prints 80 = .ok (.istore 6, 2) := by decide +kernel
theorem dX5_prints_82 : decode cX5_prints 82 = .ok (.iload 6, 2) := by decide +kernel
theorem dX5_prints_84 : decode cX5_prints 84 = .ok (.iload 5, 2) := by decide +kernel
theorem dX5_prints_86 : decode cX5_prints 86 = .ok (.if_icmp .ne 8, 3) := by decide +kernel
theorem dX5_prints_89 : decode cX5_prints 89 = .ok (.bipush 100, 2) := by decide +kernel
theorem dX5_prints_91 : decode cX5_prints 91 = .ok (.goto 11, 3) := by decide +kernel
theorem dX5_prints_94 : decode cX5_prints 94 = .ok (.iload 6, 2) := by decide +kernel
theorem dX5_prints_96 : decode cX5_prints 96 = .ok (.bipush 100, 2) := by decide +kernel
theorem dX5_prints_98 : decode cX5_prints 98 = .ok (.imul, 1) := by decide +kernel
theorem dX5_prints_99 : decode cX5_prints 99 = .ok (.iload 5, 2) := by decide +kernel
theorem dX5_prints_101 : decode cX5_prints 101 = .ok (.idiv, 1) := by decide +kernel
theorem dX5_prints_102 : decode cX5_prints 102 = .ok (.istore 7, 2) := by decide +kernel
theorem dX5_prints_104 : decode cX5_prints 104 = .ok (.aload_n 0, 1) := by decide +kernel
theorem dX5_prints_105 : decode cX5_prints 105 = .ok (.iload 4, 2) := by decide +kernel
theorem dX5_prints_107 : decode cX5_prints 107 = .ok (.iload_n 2, 1) := by decide +kernel
theorem dX5_prints_108 : decode cX5_prints 108 = .ok (.invokevirtual 44, 3) := by decide +kernel
theorem dX5_prints_111 : decode cX5_prints 111 = .ok (.istore 8, 2) := by decide +kernel
theorem dX5_prints_113 : decode cX5_prints 113 = .ok (.aload_n 0, 1) := by decide +kernel
theorem dX5_prints_114 : decode cX5_prints 114 = .ok (.getfield 7, 3) := by decide +kernel
theorem dX5_prints_117 : decode cX5_prints 117 = .ok (.iconst 4, 1) := by decide +kernel
theorem dX5_prints_118 : decode cX5_prints 118 = .ok (.iload 4, 2) := by decide +kernel
theorem dX5_prints_120 : decode cX5_prints 120 = .ok (.iadd, 1) := by decide +kernel
theorem dX5_prints_121 : decode cX5_prints 121 = .ok (.dup2, 1) := by decide +kernel
theorem dX5_prints_122 : decode cX5_prints 122 = .ok (.iaload, 1) := by decide +kernel
theorem dX5_prints_123 : decode cX5_prints 123 = .ok (.iload 6, 2) := by decide +kernel
theorem dX5_prints_125 : decode cX5_prints 125 = .ok (.isub, 1) := by decide +kernel
theorem dX5_prints_126 : decode cX5_prints 126 = .ok (.iastore, 1) := by decide +kernel
theorem dX5_prints_127 : decode cX5_prints 127 = .ok (.aload_n 0, 1) := by decide +kernel
theorem dX5_prints_128 : decode cX5_prints 128 = .ok (.getfield 7, 3) := by decide +kernel
theorem dX5_prints_131 : decode cX5_prints 131 = .ok (.bipush 28, 2) := by decide +kernel
theorem dX5_prints_133 : decode cX5_prints 133 = .ok (.dup2, 1) := by decide +kernel
theorem dX5_prints_134 : decode cX5_prints 134 = .ok (.iaload, 1) := by decide +kernel
theorem dX5_prints_135 : decode cX5_prints 135 = .ok (.iload 6, 2) := by decide +kernel
theorem dX5_prints_137 : decode cX5_prints 137 = .ok (.iadd, 1) := by decide +kernel
theorem dX5_prints_138 : decode cX5_prints 138 = .ok (.iastore, 1) := by decide +kernel
theorem dX5_prints_139 : decode cX5_prints 139 = .ok (.aload_n 0, 1) := by decide +kernel
theorem dX5_prints_140 : decode cX5_prints 140 = .ok (.getfield 7, 3) := by decide +kernel
theorem dX5_prints_143 : decode cX5_prints 143 = .ok (.bipush 12, 2) := by decide +kernel
theorem dX5_prints_145 : decode cX5_prints 145 = .ok (.iload 4, 2) := by decide +kernel
theorem dX5_prints_147 : decode cX5_prints 147 = .ok (.iadd, 1) := by decide +kernel
theorem dX5_prints_148 : decode cX5_prints 148 = .ok (.aload_n 0, 1) := by decide +kernel
theorem dX5_prints_149 : decode cX5_prints 149 = .ok (.getfield 7, 3) := by decide +kernel
theorem dX5_prints_152 : decode cX5_prints 152 = .ok (.bipush 12, 2) := by decide +kernel
theorem dX5_prints_154 : decode cX5_prints 154 = .ok (.iload 4, 2) := by decide +kernel
theorem dX5_prints_156 : decode cX5_prints 156 = .ok (.iadd, 1) := by decide +kernel
theorem dX5_prints_157 : decode cX5_prints 157 = .ok (.iaload, 1) := by decide +kernel
theorem dX5_prints_158 : decode cX5_prints 158 = .ok (.iload 8, 2) := by decide +kernel
theorem dX5_prints_160 : decode cX5_prints 160 = .ok (.if_icmp .le 19, 3) := by decide +kernel
theorem dX5_prints_163 : decode cX5_prints 163 = .ok (.aload_n 0, 1) := by decide +kernel
theorem dX5_prints_164 : decode cX5_prints 164 = .ok (.getfield 7, 3) := by decide +kernel
theorem dX5_prints_167 : decode cX5_prints 167 = .ok (.bipush 12, 2) := by decide +kernel
theorem dX5_prints_169 : decode cX5_prints 169 = .ok (.iload 4, 2) := by decide +kernel
theorem dX5_prints_171 : decode cX5_prints 171 = .ok (.iadd, 1) := by decide +kernel
theorem dX5_prints_172 : decode cX5_prints 172 = .ok (.iaload, 1) := by decide +kernel
theorem dX5_prints_173 : decode cX5_prints 173 = .ok (.iload 8, 2) := by decide +kernel
theorem dX5_prints_175 : decode cX5_prints 175 = .ok (.isub, 1) := by decide +kernel
theorem dX5_prints_176 : decode cX5_prints 176 = .ok (.goto 4, 3) := by decide +kernel
theorem dX5_prints_179 : decode cX5_prints 179 = .ok (.iconst 0, 1) := by decide +kernel
theorem dX5_prints_180 : decode cX5_prints 180 = .ok (.iastore, 1) := by decide +kernel
theorem dX5_prints_181 : decode cX5_prints 181 = .ok (.aload_n 0, 1) := by decide +kernel
theorem dX5_prints_182 : decode cX5_prints 182 = .ok (.getfield 7, 3) := by decide +kernel
theorem dX5_prints_185 : decode cX5_prints 185 = .ok (.iconst 4, 1) := by decide +kernel
theorem dX5_prints_186 : decode cX5_prints 186 = .ok (.iload 4, 2) := by decide +kernel
theorem dX5_prints_188 : decode cX5_prints 188 = .ok (.iadd, 1) := by decide +kernel
theorem dX5_prints_189 : decode cX5_prints 189 = .ok (.iaload, 1) := by decide +kernel
theorem dX5_prints_190 : decode cX5_prints 190 = .ok (.aload_n 0, 1) := by decide +kernel
theorem dX5_prints_191 : decode cX5_prints 191 = .ok (.getfield 7, 3) := by decide +kernel
theorem dX5_prints_194 : decode cX5_prints 194 = .ok (.bipush 32, 2) := by decide +kernel
theorem dX5_prints_196 : decode cX5_prints 196 = .ok (.iaload, 1) := by decide +kernel
theorem dX5_prints_197 : decode cX5_prints 197 = .ok (.idiv, 1) := by decide +kernel
theorem dX5_prints_198 : decode cX5_prints 198 = .ok (.istore 9, 2) := by decide +kernel
theorem dX5_prints_200 : decode cX5_prints 200 = .ok (.aload_n 0, 1) := by decide +kernel
theorem dX5_prints_201 : decode cX5_prints 201 = .ok (.getfield 7, 3) := by decide +kernel
theorem dX5_prints_204 : decode cX5_prints 204 = .ok (.iconst 4, 1) := by decide +kernel
theorem dX5_prints_205 : decode cX5_prints 205 = .ok (.iload 4, 2) := by decide +kernel
theorem dX5_prints_207 : decode cX5_prints 207 = .ok (.iadd, 1) := by decide +kernel
theorem dX5_prints_208 : decode cX5_prints 208 = .ok (.dup2, 1) := by decide +kernel
theorem dX5_prints_209 : decode cX5_prints 209 = .ok (.iaload, 1) := by decide +kernel
theorem dX5_prints_210 : decode cX5_prints 210 = .ok (.iload 9, 2) := by decide +kernel
theorem dX5_prints_212 : decode cX5_prints 212 = .ok (.isub, 1) := by decide +kernel
theorem dX5_prints_213 : decode cX5_prints 213 = .ok (.iastore, 1) := by decide +kernel
theorem dX5_prints_214 : decode cX5_prints 214 = .ok (.aload_n 0, 1) := by decide +kernel
theorem dX5_prints_215 : decode cX5_prints 215 = .ok (.getfield 7, 3) := by decide +kernel
theorem dX5_prints_218 : decode cX5_prints 218 = .ok (.bipush 8, 2) := by decide +kernel
theorem dX5_prints_220 : decode cX5_prints 220 = .ok (.iload 4, 2) := by decide +kernel
theorem dX5_prints_222 : decode cX5_prints 222 = .ok (.iadd, 1) := by decide +kernel
theorem dX5_prints_223 : decode cX5_prints 223 = .ok (.dup2, 1) := by decide +kernel
theorem dX5_prints_224 : decode cX5_prints 224 = .ok (.iaload, 1) := by decide +kernel
theorem dX5_prints_225 : decode cX5_prints 225 = .ok (.iload 9, 2) := by decide +kernel
theorem dX5_prints_227 : decode cX5_prints 227 = .ok (.iadd, 1) := by decide +kernel
theorem dX5_prints_228 : decode cX5_prints 228 = .ok (.iastore, 1) := by decide +kernel
theorem dX5_prints_229 : decode cX5_prints 229 = .ok (.aload_n 0, 1) := by decide +kernel
theorem dX5_prints_230 : decode cX5_prints 230 = .ok (.getfield 7, 3) := by decide +kernel
theorem dX5_prints_233 : decode cX5_prints 233 = .ok (.bipush 18, 2) := by decide +kernel
theorem dX5_prints_235 : decode cX5_prints 235 = .ok (.iload_n 1, 1) := by decide +kernel
theorem dX5_prints_236 : decode cX5_prints 236 = .ok (.iadd, 1) := by decide +kernel
theorem dX5_prints_237 : decode cX5_prints 237 = .ok (.dup2, 1) := by decide +kernel
theorem dX5_prints_238 : decode cX5_prints 238 = .ok (.iaload, 1) := by decide +kernel
theorem dX5_prints_239 : decode cX5_prints 239 = .ok (.iload 6, 2) := by decide +kernel
theorem dX5_prints_241 : decode cX5_prints 241 = .ok (.iload 5, 2) := by decide +kernel
theorem dX5_prints_243 : decode cX5_prints 243 = .ok (.if_icmp .ne 7, 3) := by decide +kernel
theorem dX5_prints_246 : decode cX5_prints 246 = .ok (.iconst 1, 1) := by decide +kernel
theorem dX5_prints_247 : decode cX5_prints 247 = .ok (.goto 4, 3) := by decide +kernel
theorem dX5_prints_250 : decode cX5_prints 250 = .ok (.iconst 0, 1) := by decide +kernel
theorem dX5_prints_251 : decode cX5_prints 251 = .ok (.iadd, 1) := by decide +kernel
theorem dX5_prints_252 : decode cX5_prints 252 = .ok (.iastore, 1) := by decide +kernel
theorem dX5_prints_253 : decode cX5_prints 253 = .ok (.aload_n 0, 1) := by decide +kernel
theorem dX5_prints_254 : decode cX5_prints 254 = .ok (.getfield 7, 3) := by decide +kernel
theorem dX5_prints_257 : decode cX5_prints 257 = .ok (.bipush 20, 2) := by decide +kernel
theorem dX5_prints_259 : decode cX5_prints 259 = .ok (.iload_n 1, 1) := by decide +kernel
theorem dX5_prints_260 : decode cX5_prints 260 = .ok (.iadd, 1) := by decide +kernel
theorem dX5_prints_261 : decode cX5_prints 261 = .ok (.dup2, 1) := by decide +kernel
theorem dX5_prints_262 : decode cX5_prints 262 = .ok (.iaload, 1) := by decide +kernel
theorem dX5_prints_263 : decode cX5_prints 263 = .ok (.iload 6, 2) := by decide +kernel
theorem dX5_prints_265 : decode cX5_prints 265 = .ok (.iload 5, 2) := by decide +kernel
theorem dX5_prints_267 : decode cX5_prints 267 = .ok (.if_icmp .ne 7, 3) := by decide +kernel
theorem dX5_prints_270 : decode cX5_prints 270 = .ok (.iconst 0, 1) := by decide +kernel
theorem dX5_prints_271 : decode cX5_prints 271 = .ok (.goto 4, 3) := by decide +kernel
theorem dX5_prints_274 : decode cX5_prints 274 = .ok (.iconst 1, 1) := by decide +kernel
theorem dX5_prints_275 : decode cX5_prints 275 = .ok (.iadd, 1) := by decide +kernel
theorem dX5_prints_276 : decode cX5_prints 276 = .ok (.iastore, 1) := by decide +kernel
theorem dX5_prints_277 : decode cX5_prints 277 = .ok (.aload_n 0, 1) := by decide +kernel
theorem dX5_prints_278 : decode cX5_prints 278 = .ok (.getfield 7, 3) := by decide +kernel
theorem dX5_prints_281 : decode cX5_prints 281 = .ok (.bipush 24, 2) := by decide +kernel
theorem dX5_prints_283 : decode cX5_prints 283 = .ok (.iload_n 1, 1) := by decide +kernel
theorem dX5_prints_284 : decode cX5_prints 284 = .ok (.iadd, 1) := by decide +kernel
theorem dX5_prints_285 : decode cX5_prints 285 = .ok (.dup2, 1) := by decide +kernel
theorem dX5_prints_286 : decode cX5_prints 286 = .ok (.iaload, 1) := by decide +kernel
theorem dX5_prints_287 : decode cX5_prints 287 = .ok (.iload_n 2, 1) := by decide +kernel
theorem dX5_prints_288 : decode cX5_prints 288 = .ok (.iadd, 1) := by decide +kernel
theorem dX5_prints_289 : decode cX5_prints 289 = .ok (.iastore, 1) := by decide +kernel
theorem dX5_prints_290 : decode cX5_prints 290 = .ok (.aload_n 0, 1) := by decide +kernel
theorem dX5_prints_291 : decode cX5_prints 291 = .ok (.getfield 7, 3) := by decide +kernel
theorem dX5_prints_294 : decode cX5_prints 294 = .ok (.bipush 26, 2) := by decide +kernel
theorem dX5_prints_296 : decode cX5_prints 296 = .ok (.iload_n 1, 1) := by decide +kernel
theorem dX5_prints_297 : decode cX5_prints 297 = .ok (.iadd, 1) := by decide +kernel
theorem dX5_prints_298 : decode cX5_prints 298 = .ok (.iload 7, 2) := by decide +kernel
theorem dX5_prints_300 : decode cX5_prints 300 = .ok (.iastore, 1) := by decide +kernel
theorem dX5_prints_301 : decode cX5_prints 301 = .ok (.bipush 10, 2) := by decide +kernel
theorem dX5_prints_303 : decode cX5_prints 303 = .ok (.iload 7, 2) := by decide +kernel
theorem dX5_prints_305 : decode cX5_prints 305 = .ok (.iadd, 1) := by decide +kernel
theorem dX5_prints_306 : decode cX5_prints 306 = .ok (.ireturn, 1) := by decide +kernel
theorem dX5_print_0 : decode cX5_print 0 = .ok (.iload_n 1, 1) := by decide +kernel
theorem dX5_print_1 : decode cX5_print 1 = .ok (.invokestatic 48, 3) := by decide +kernel
theorem dX5_print_4 : decode cX5_print 4 = .ok (.ifCond .eq 10, 3) := by decide +kernel
theorem dX5_print_7 : decode cX5_print 7 = .ok (.iload_n 2, 1) := by decide +kernel
theorem dX5_print_8 : decode cX5_print 8 = .ok (.invokestatic 52, 3) := by decide +kernel
theorem dX5_print_11 : decode cX5_print 11 = .ok (.ifCond .ne 5, 3) := by decide +kernel
theorem dX5_print_14 : decode cX5_print 14 = .ok (.iconst (-1), 1) := by decide +kernel
theorem dX5_print_15 : decode cX5_print 15 = .ok (.ireturn, 1) := by decide +kernel
theorem dX5_print_16 : decode cX5_print 16 = .ok (.aload_n 0, 1) := by decide +kernel
theorem dX5_print_17 : decode cX5_print 17 = .ok (.invokevirtual 55, 3) := by decide +kernel
theorem dX5_print_20 : decode cX5_print 20 = .ok (.aload_n 0, 1) := by decide +kernel
theorem dX5_print_21 : decode cX5_print 21 = .ok (.iload_n 1, 1) := by decide +kernel
theorem dX5_print_22 : decode cX5_print 22 = .ok (.iload_n 2, 1) := by decide +kernel
theorem dX5_print_23 : decode cX5_print 23 = .ok (.invokevirtual 58, 3) := by decide +kernel
theorem dX5_print_26 : decode cX5_print 26 = .ok (.ireturn, 1) := by decide +kernel
theorem dX5_shakes_0 : decode cX5_shakes 0 = .ok (.aload_n 0, 1) := by decide +kernel
theorem dX5_shakes_1 : decode cX5_shakes 1 = .ok (.getfield 7, 3) := by decide +kernel
theorem dX5_shakes_4 : decode cX5_shakes 4 = .ok (.bipush 8, 2) := by decide +kernel
theorem dX5_shakes_6 : decode cX5_shakes 6 = .ok (.iload_n 1, 1) := by decide +kernel
theorem dX5_shakes_7 : decode cX5_shakes 7 = .ok (.iadd, 1) := by decide +kernel
theorem dX5_shakes_8 : decode cX5_shakes 8 = .ok (.iaload, 1) := by decide +kernel
theorem dX5_shakes_9 : decode cX5_shakes 9 = .ok (.iconst 2, 1) := by decide +kernel
theorem dX5_shakes_10 : decode cX5_shakes 10 = .ok (.idiv, 1) := by decide +kernel
theorem dX5_shakes_11 : decode cX5_shakes 11 = .ok (.istore_n 2, 1) := by decide +kernel
theorem dX5_shakes_12 : decode cX5_shakes 12 = .ok (.aload_n 0, 1) := by decide +kernel
theorem dX5_shakes_13 : decode cX5_shakes 13 = .ok (.getfield 7, 3) := by decide +kernel
theorem dX5_shakes_16 : decode cX5_shakes 16 = .ok (.bipush 8, 2) := by decide +kernel
theorem dX5_shakes_18 : decode cX5_shakes 18 = .ok (.iload_n 1, 1) := by decide +kernel
theorem dX5_shakes_19 : decode cX5_shakes 19 = .ok (.iadd, 1) := by decide +kernel
theorem dX5_shakes_20 : decode cX5_shakes 20 = .ok (.dup2, 1) := by decide +kernel
theorem dX5_shakes_21 : decode cX5_shakes 21 = .ok (.iaload, 1) := by decide +kernel
theorem dX5_shakes_22 : decode cX5_shakes 22 = .ok (.iload_n 2, 1) := by decide +kernel
theorem dX5_shakes_23 : decode cX5_shakes 23 = .ok (.isub, 1) := by decide +kernel
theorem dX5_shakes_24 : decode cX5_shakes 24 = .ok (.iastore, 1) := by decide +kernel
theorem dX5_shakes_25 : decode cX5_shakes 25 = .ok (.aload_n 0, 1) := by decide +kernel
theorem dX5_shakes_26 : decode cX5_shakes 26 = .ok (.getfield 7, 3) := by decide +kernel
theorem dX5_shakes_29 : decode cX5_shakes 29 = .ok (.iconst 4, 1) := by decide +kernel
theorem dX5_shakes_30 : decode cX5_shakes 30 = .ok (.iload_n 1, 1) := by decide +kernel
theorem dX5_shakes_31 : decode cX5_shakes 31 = .ok (.iadd, 1) := by decide +kernel
theorem dX5_shakes_32 : decode cX5_shakes 32 = .ok (.dup2, 1) := by decide +kernel
theorem dX5_shakes_33 : decode cX5_shakes 33 = .ok (.iaload, 1) := by decide +kernel
theorem dX5_shakes_34 : decode cX5_shakes 34 = .ok (.iload_n 2, 1) := by decide +kernel
theorem dX5_shakes_35 : decode cX5_shakes 35 = .ok (.iadd, 1) := by decide +kernel
theorem dX5_shakes_36 : decode cX5_shakes 36 = .ok (.iastore, 1) := by decide +kernel
theorem dX5_shakes_37 : decode cX5_shakes 37 = .ok (.iload_n 2, 1) := by decide +kernel
theorem dX5_shakes_38 : decode cX5_shakes 38 = .ok (.ireturn, 1) := by decide +kernel
theorem dX5_shake_0 : decode cX5_shake 0 = .ok (.iload_n 1, 1) := by decide +kernel
theorem dX5_shake_1 : decode cX5_shake 1 = .ok (.invokestatic 61, 3) := by decide +kernel
theorem dX5_shake_4 : decode cX5_shake 4 = .ok (.ifCond .ne 5, 3) := by decide +kernel
theorem dX5_shake_7 : decode cX5_shake 7 = .ok (.iconst (-1), 1) := by decide +kernel
theorem dX5_shake_8 : decode cX5_shake 8 = .ok (.ireturn, 1) := by decide +kernel
theorem dX5_shake_9 : decode cX5_shake 9 = .ok (.aload_n 0, 1) := by decide +kernel
theorem dX5_shake_10 : decode cX5_shake 10 = .ok (.invokevirtual 55, 3) := by decide +kernel
theorem dX5_shake_13 : decode cX5_shake 13 = .ok (.aload_n 0, 1) := by decide +kernel
theorem dX5_shake_14 : decode cX5_shake 14 = .ok (.iload_n 1, 1) := by decide +kernel
theorem dX5_shake_15 : decode cX5_shake 15 = .ok (.invokevirtual 64, 3) := by decide +kernel
theorem dX5_shake_18 : decode cX5_shake 18 = .ok (.ireturn, 1) := by decide +kernel
theorem dX5_takes_0 : decode cX5_takes 0 = .ok (.aload_n 0, 1) := by decide +kernel
theorem dX5_takes_1 : decode cX5_takes 1 = .ok (.getfield 7, 3) := by decide +kernel
theorem dX5_takes_4 : decode cX5_takes 4 = .ok (.bipush 16, 2) := by decide +kernel
theorem dX5_takes_6 : decode cX5_takes 6 = .ok (.iload_n 1, 1) := by decide +kernel
theorem dX5_takes_7 : decode cX5_takes 7 = .ok (.iadd, 1) := by decide +kernel
theorem dX5_takes_8 : decode cX5_takes 8 = .ok (.iaload, 1) := by decide +kernel
theorem dX5_takes_9 : decode cX5_takes 9 = .ok (.istore_n 2, 1) := by decide +kernel
theorem dX5_takes_10 : decode cX5_takes 10 = .ok (.iload_n 2, 1) := by decide +kernel
theorem dX5_takes_11 : decode cX5_takes 11 = .ok (.iconst (-1), 1) := by decide +kernel
theorem dX5_takes_12 : decode cX5_takes 12 = .ok (.if_icmp .ne 5, 3) := by decide +kernel
theorem dX5_takes_15 : decode cX5_takes 15 = .ok (.iconst 0, 1) := by decide +kernel
theorem dX5_takes_16 : decode cX5_takes 16 = .ok (.ireturn, 1) := by decide +kernel
theorem dX5_takes_17 : decode cX5_takes 17 = .ok (.aload_n 0, 1) := by decide +kernel
theorem dX5_takes_18 : decode cX5_takes 18 = .ok (.getfield 7, 3) := by decide +kernel
theorem dX5_takes_21 : decode cX5_takes 21 = .ok (.iconst 4, 1) := by decide +kernel
theorem dX5_takes_22 : decode cX5_takes 22 = .ok (.iload_n 2, 1) := by decide +kernel
theorem dX5_takes_23 : decode cX5_takes 23 = .ok (.iadd, 1) := by decide +kernel
theorem dX5_takes_24 : decode cX5_takes 24 = .ok (.iaload, 1) := by decide +kernel
theorem dX5_takes_25 : decode cX5_takes 25 = .ok (.bipush 50, 2) := by decide +kernel
theorem dX5_takes_27 : decode cX5_takes 27 = .ok (.idiv, 1) := by decide +kernel
theorem dX5_takes_28 : decode cX5_takes 28 = .ok (.istore_n 3, 1) := by decide +kernel
theorem dX5_takes_29 : decode cX5_takes 29 = .ok (.aload_n 0, 1) := by decide +kernel
theorem dX5_takes_30 : decode cX5_takes 30 = .ok (.getfield 7, 3) := by decide +kernel
theorem dX5_takes_33 : decode cX5_takes 33 = .ok (.iconst 4, 1) := by decide +kernel
theorem dX5_takes_34 : decode cX5_takes 34 = .ok (.iload_n 2, 1) := by decide +kernel
theorem dX5_takes_35 : decode cX5_takes 35 = .ok (.iadd, 1) := by decide +kernel
theorem dX5_takes_36 : decode cX5_takes 36 = .ok (.dup2, 1) := by decide +kernel
theorem dX5_takes_37 : decode cX5_takes 37 = .ok (.iaload, 1) := by decide +kernel
theorem dX5_takes_38 : decode cX5_takes 38 = .ok (.iload_n 3, 1) := by decide +kernel
theorem dX5_takes_39 : decode cX5_takes 39 = .ok (.isub, 1) := by decide +kernel
theorem dX5_takes_40 : decode cX5_takes 40 = .ok (.iastore, 1) := by decide +kernel
theorem dX5_takes_41 : decode cX5_takes 41 = .ok (.aload_n 0, 1) := by decide +kernel
theorem dX5_takes_42 : decode cX5_takes 42 = .ok (.getfield 7, 3) := by decide +kernel
theorem dX5_takes_45 : decode cX5_takes 45 = .ok (.bipush 29, 2) := by decide +kernel
theorem dX5_takes_47 : decode cX5_takes 47 = .ok (.dup2, 1) := by decide +kernel
theorem dX5_takes_48 : decode cX5_takes 48 = .ok (.iaload, 1) := by decide +kernel
theorem dX5_takes_49 : decode cX5_takes 49 = .ok (.iload_n 3, 1) := by decide +kernel
theorem dX5_takes_50 : decode cX5_takes 50 = .ok (.iadd, 1) := by decide +kernel
theorem dX5_takes_51 : decode cX5_takes 51 = .ok (.iastore, 1) := by decide +kernel
theorem dX5_takes_52 : decode cX5_takes 52 = .ok (.aload_n 0, 1) := by decide +kernel
theorem dX5_takes_53 : decode cX5_takes 53 = .ok (.getfield 7, 3) := by decide +kernel
theorem dX5_takes_56 : decode cX5_takes 56 = .ok (.bipush 16, 2) := by decide +kernel
theorem dX5_takes_58 : decode cX5_takes 58 = .ok (.iload_n 1, 1) := by decide +kernel
theorem dX5_takes_59 : decode cX5_takes 59 = .ok (.iadd, 1) := by decide +kernel
theorem dX5_takes_60 : decode cX5_takes 60 = .ok (.iconst (-1), 1) := by decide +kernel
theorem dX5_takes_61 : decode cX5_takes 61 = .ok (.iastore, 1) := by decide +kernel
theorem dX5_takes_62 : decode cX5_takes 62 = .ok (.iload_n 3, 1) := by decide +kernel
theorem dX5_takes_63 : decode cX5_takes 63 = .ok (.ireturn, 1) := by decide +kernel
theorem dX5_moves_0 : decode cX5_moves 0 = .ok (.aload_n 0, 1) := by decide +kernel
theorem dX5_moves_1 : decode cX5_moves 1 = .ok (.iload_n 1, 1) := by decide +kernel
theorem dX5_moves_2 : decode cX5_moves 2 = .ok (.invokevirtual 67, 3) := by decide +kernel
theorem dX5_moves_5 : decode cX5_moves 5 = .ok (.istore_n 3, 1) := by decide +kernel
theorem dX5_moves_6 : decode cX5_moves 6 = .ok (.iload_n 3, 1) := by decide +kernel
theorem dX5_moves_7 : decode cX5_moves 7 = .ok (.iload_n 2, 1) := by decide +kernel
theorem dX5_moves_8 : decode cX5_moves 8 = .ok (.if_icmp .ne 5, 3) := by decide +kernel
theorem dX5_moves_11 : decode cX5_moves 11 = .ok (.iconst 0, 1) := by decide +kernel
theorem dX5_moves_12 : decode cX5_moves 12 = .ok (.ireturn, 1) := by decide +kernel
theorem dX5_moves_13 : decode cX5_moves 13 = .ok (.iload_n 3, 1) := by decide +kernel
theorem dX5_moves_14 : decode cX5_moves 14 = .ok (.iconst (-1), 1) := by decide +kernel
theorem dX5_moves_15 : decode cX5_moves 15 = .ok (.if_icmp .ne 7, 3) := by decide +kernel
theorem dX5_moves_18 : decode cX5_moves 18 = .ok (.iconst 0, 1) := by decide +kernel
theorem dX5_moves_19 : decode cX5_moves 19 = .ok (.goto 8, 3) := by decide +kernel
theorem dX5_moves_22 : decode cX5_moves 22 = .ok (.aload_n 0, 1) := by decide +kernel
theorem dX5_moves_23 : decode cX5_moves 23 = .ok (.iload_n 3, 1) := by decide +kernel
theorem dX5_moves_24 : decode cX5_moves 24 = .ok (.invokevirtual 70, 3) := by decide +kernel
theorem dX5_moves_27 : decode cX5_moves 27 = .ok (.istore 4, 2) := by decide +kernel
theorem dX5_moves_29 : decode cX5_moves 29 = .ok (.iload 4, 2) := by decide +kernel
theorem dX5_moves_31 : decode cX5_moves 31 = .ok (.aload_n 0, 1) := by decide +kernel
theorem dX5_moves_32 : decode cX5_moves 32 = .ok (.iload_n 2, 1) := by decide +kernel
theorem dX5_moves_33 : decode cX5_moves 33 = .ok (.invokevirtual 70, 3) := by decide +kernel
theorem dX5_moves_36 : decode cX5_moves 36 = .ok (.iadd, 1) := by decide +kernel
theorem dX5_moves_37 : decode cX5_moves 37 = .ok (.istore 4, 2) := by decide +kernel
theorem dX5_moves_39 : decode cX5_moves 39 = .ok (.aload_n 0, 1) := by decide +kernel
theorem dX5_moves_40 : decode cX5_moves 40 = .ok (.getfield 7, 3) := by decide +kernel
theorem dX5_moves_43 : decode cX5_moves 43 = .ok (.bipush 16, 2) := by decide +kernel
theorem dX5_moves_45 : decode cX5_moves 45 = .ok (.iload_n 2, 1) := by decide +kernel
theorem dX5_moves_46 : decode cX5_moves 46 = .ok (.iadd, 1) := by decide +kernel
theorem dX5_moves_47 : decode cX5_moves 47 = .ok (.iload_n 1, 1) := by decide +kernel
theorem dX5_moves_48 : decode cX5_moves 48 = .ok (.iastore, 1) := by decide +kernel
theorem dX5_moves_49 : decode cX5_moves 49 = .ok (.iload 4, 2) := by decide +kernel
theorem dX5_moves_51 : decode cX5_moves 51 = .ok (.ireturn, 1) := by decide +kernel
theorem dX5_move_0 : decode cX5_move 0 = .ok (.iload_n 1, 1) := by decide +kernel
theorem dX5_move_1 : decode cX5_move 1 = .ok (.invokestatic 61, 3) := by decide +kernel
theorem dX5_move_4 : decode cX5_move 4 = .ok (.ifCond .eq 10, 3) := by decide +kernel
theorem dX5_move_7 : decode cX5_move 7 = .ok (.iload_n 2, 1) := by decide +kernel
theorem dX5_move_8 : decode cX5_move 8 = .ok (.invokestatic 48, 3) := by decide +kernel
theorem dX5_move_11 : decode cX5_move 11 = .ok (.ifCond .ne 5, 3) := by decide +kernel
theorem dX5_move_14 : decode cX5_move 14 = .ok (.iconst (-1), 1) := by decide +kernel
theorem dX5_move_15 : decode cX5_move 15 = .ok (.ireturn, 1) := by decide +kernel
theorem dX5_move_16 : decode cX5_move 16 = .ok (.aload_n 0, 1) := by decide +kernel
theorem dX5_move_17 : decode cX5_move 17 = .ok (.invokevirtual 55, 3) := by decide +kernel
theorem dX5_move_20 : decode cX5_move 20 = .ok (.aload_n 0, 1) := by decide +kernel
theorem dX5_move_21 : decode cX5_move 21 = .ok (.iload_n 1, 1) := by decide +kernel
theorem dX5_move_22 : decode cX5_move 22 = .ok (.iload_n 2, 1) := by decide +kernel
theorem dX5_move_23 : decode cX5_move 23 = .ok (.invokevirtual 73, 3) := by decide +kernel
theorem dX5_move_26 : decode cX5_move 26 = .ok (.ireturn, 1) := by decide +kernel
theorem dX5_takeOut_0 : decode cX5_takeOut 0 = .ok (.iload_n 1, 1) := by decide +kernel
theorem dX5_takeOut_1 : decode cX5_takeOut 1 = .ok (.invokestatic 48, 3) := by decide +kernel
theorem dX5_takeOut_4 : decode cX5_takeOut 4 = .ok (.ifCond .ne 5, 3) := by decide +kernel
theorem dX5_takeOut_7 : decode cX5_takeOut 7 = .ok (.iconst (-1), 1) := by decide +kernel
theorem dX5_takeOut_8 : decode cX5_takeOut 8 = .ok (.ireturn, 1) := by decide +kernel
theorem dX5_takeOut_9 : decode cX5_takeOut 9 = .ok (.aload_n 0, 1) := by decide +kernel
theorem dX5_takeOut_10 : decode cX5_takeOut 10 = .ok (.getfield 7, 3) := by decide +kernel
theorem dX5_takeOut_13 : decode cX5_takeOut 13 = .ok (.bipush 16, 2) := by decide +kernel
theorem dX5_takeOut_15 : decode cX5_takeOut 15 = .ok (.iload_n 1, 1) := by decide +kernel
theorem dX5_takeOut_16 : decode cX5_takeOut 16 = .ok (.iadd, 1) := by decide +kernel
theorem dX5_takeOut_17 : decode cX5_takeOut 17 = .ok (.iaload, 1) := by decide +kernel
theorem dX5_takeOut_18 : decode cX5_takeOut 18 = .ok (.iconst (-1), 1) := by decide +kernel
theorem dX5_takeOut_19 : decode cX5_takeOut 19 = .ok (.if_icmp .ne 6, 3) := by decide +kernel
theorem dX5_takeOut_22 : decode cX5_takeOut 22 = .ok (.bipush (-2), 2) := by decide +kernel
theorem dX5_takeOut_24 : decode cX5_takeOut 24 = .ok (.ireturn, 1) := by decide +kernel
theorem dX5_takeOut_25 : decode cX5_takeOut 25 = .ok (.aload_n 0, 1) := by decide +kernel
theorem dX5_takeOut_26 : decode cX5_takeOut 26 = .ok (.invokevirtual 55, 3) := by decide +kernel
theorem dX5_takeOut_29 : decode cX5_takeOut 29 = .ok (.aload_n 0, 1) := by decide +kernel
theorem dX5_takeOut_30 : decode cX5_takeOut 30 = .ok (.getfield 7, 3) := by decide +kernel
theorem dX5_takeOut_33 : decode cX5_takeOut 33 = .ok (.bipush 16, 2) := by decide +kernel
theorem dX5_takeOut_35 : decode cX5_takeOut 35 = .ok (.iload_n 1, 1) := by decide +kernel
theorem dX5_takeOut_36 : decode cX5_takeOut 36 = .ok (.iadd, 1) := by decide +kernel
theorem dX5_takeOut_37 : decode cX5_takeOut 37 = .ok (.iaload, 1) := by decide +kernel
theorem dX5_takeOut_38 : decode cX5_takeOut 38 = .ok (.istore_n 2, 1) := by decide +kernel
theorem dX5_takeOut_39 : decode cX5_takeOut 39 = .ok (.aload_n 0, 1) := by decide +kernel
theorem dX5_takeOut_40 : decode cX5_takeOut 40 = .ok (.iload_n 1, 1) := by decide +kernel
theorem dX5_takeOut_41 : decode cX5_takeOut 41 = .ok (.invokevirtual 70, 3) := by decide +kernel
theorem dX5_takeOut_44 : decode cX5_takeOut 44 = .ok (.istore_n 3, 1) := by decide +kernel
theorem dX5_takeOut_45 : decode cX5_takeOut 45 = .ok (.iload_n 2, 1) := by decide +kernel
theorem dX5_takeOut_46 : decode cX5_takeOut 46 = .ok (.ireturn, 1) := by decide +kernel
theorem dX5_refill_0 : decode cX5_refill 0 = .ok (.iload_n 1, 1) := by decide +kernel
theorem dX5_refill_1 : decode cX5_refill 1 = .ok (.invokestatic 61, 3) := by decide +kernel
theorem dX5_refill_4 : decode cX5_refill 4 = .ok (.ifCond .eq 14, 3) := by decide +kernel
theorem dX5_refill_7 : decode cX5_refill 7 = .ok (.iload_n 2, 1) := by decide +kernel
theorem dX5_refill_8 : decode cX5_refill 8 = .ok (.iconst 1, 1) := by decide +kernel
theorem dX5_refill_9 : decode cX5_refill 9 = .ok (.sipush 6000, 3) := by decide +kernel
theorem dX5_refill_12 : decode cX5_refill 12 = .ok (.invokestatic 25, 3) := by decide +kernel
theorem dX5_refill_15 : decode cX5_refill 15 = .ok (.ifCond .ne 5, 3) := by decide +kernel
theorem dX5_refill_18 : decode cX5_refill 18 = .ok (.iconst (-1), 1) := by decide +kernel
theorem dX5_refill_19 : decode cX5_refill 19 = .ok (.ireturn, 1) := by decide +kernel
theorem dX5_refill_20 : decode cX5_refill 20 = .ok (.aload_n 0, 1) := by decide +kernel
theorem dX5_refill_21 : decode cX5_refill 21 = .ok (.iload_n 1, 1) := by decide +kernel
theorem dX5_refill_22 : decode cX5_refill 22 = .ok (.invokevirtual 67, 3) := by decide +kernel
theorem dX5_refill_25 : decode cX5_refill 25 = .ok (.iconst (-1), 1) := by decide +kernel
theorem dX5_refill_26 : decode cX5_refill 26 = .ok (.if_icmp .eq 6, 3) := by decide +kernel
theorem dX5_refill_29 : decode cX5_refill 29 = .ok (.bipush (-2), 2) := by decide +kernel
theorem dX5_refill_31 : decode cX5_refill 31 = .ok (.ireturn, 1) := by decide +kernel
theorem dX5_refill_32 : decode cX5_refill 32 = .ok (.sipush 6000, 3) := by decide +kernel
theorem dX5_refill_35 : decode cX5_refill 35 = .ok (.aload_n 0, 1) := by decide +kernel
theorem dX5_refill_36 : decode cX5_refill 36 = .ok (.iload_n 1, 1) := by decide +kernel
theorem dX5_refill_37 : decode cX5_refill 37 = .ok (.invokevirtual 37, 3) := by decide +kernel
theorem dX5_refill_40 : decode cX5_refill 40 = .ok (.isub, 1) := by decide +kernel
theorem dX5_refill_41 : decode cX5_refill 41 = .ok (.istore_n 3, 1) := by decide +kernel
theorem dX5_refill_42 : decode cX5_refill 42 = .ok (.iload_n 3, 1) := by decide +kernel
theorem dX5_refill_43 : decode cX5_refill 43 = .ok (.ifCond .gt 6, 3) := by decide +kernel
theorem dX5_refill_46 : decode cX5_refill 46 = .ok (.bipush (-3), 2) := by decide +kernel
theorem dX5_refill_48 : decode cX5_refill 48 = .ok (.ireturn, 1) := by decide +kernel
theorem dX5_refill_49 : decode cX5_refill 49 = .ok (.aload_n 0, 1) := by decide +kernel
theorem dX5_refill_50 : decode cX5_refill 50 = .ok (.invokevirtual 55, 3) := by decide +kernel
theorem dX5_refill_53 : decode cX5_refill 53 = .ok (.iload_n 2, 1) := by decide +kernel
theorem dX5_refill_54 : decode cX5_refill 54 = .ok (.iload_n 3, 1) := by decide +kernel
theorem dX5_refill_55 : decode cX5_refill 55 = .ok (.if_icmp .ge 7, 3) := by decide +kernel
theorem dX5_refill_58 : decode cX5_refill 58 = .ok (.iload_n 2, 1) := by decide +kernel
theorem dX5_refill_59 : decode cX5_refill 59 = .ok (.goto 4, 3) := by decide +kernel
theorem dX5_refill_62 : decode cX5_refill 62 = .ok (.iload_n 3, 1) := by decide +kernel
theorem dX5_refill_63 : decode cX5_refill 63 = .ok (.istore 4, 2) := by decide +kernel
theorem dX5_refill_65 : decode cX5_refill 65 = .ok (.aload_n 0, 1) := by decide +kernel
theorem dX5_refill_66 : decode cX5_refill 66 = .ok (.getfield 7, 3) := by decide +kernel
theorem dX5_refill_69 : decode cX5_refill 69 = .ok (.bipush 8, 2) := by decide +kernel
theorem dX5_refill_71 : decode cX5_refill 71 = .ok (.iload_n 1, 1) := by decide +kernel
theorem dX5_refill_72 : decode cX5_refill 72 = .ok (.iadd, 1) := by decide +kernel
theorem dX5_refill_73 : decode cX5_refill 73 = .ok (.dup2, 1) := by decide +kernel
theorem dX5_refill_74 : decode cX5_refill 74 = .ok (.iaload, 1) := by decide +kernel
theorem dX5_refill_75 : decode cX5_refill 75 = .ok (.iload 4, 2) := by decide +kernel
theorem dX5_refill_77 : decode cX5_refill 77 = .ok (.iadd, 1) := by decide +kernel
theorem dX5_refill_78 : decode cX5_refill 78 = .ok (.iastore, 1) := by decide +kernel
theorem dX5_refill_79 : decode cX5_refill 79 = .ok (.aload_n 0, 1) := by decide +kernel
theorem dX5_refill_80 : decode cX5_refill 80 = .ok (.getfield 7, 3) := by decide +kernel
theorem dX5_refill_83 : decode cX5_refill 83 = .ok (.iconst 0, 1) := by decide +kernel
theorem dX5_refill_84 : decode cX5_refill 84 = .ok (.iload_n 1, 1) := by decide +kernel
theorem dX5_refill_85 : decode cX5_refill 85 = .ok (.iadd, 1) := by decide +kernel
theorem dX5_refill_86 : decode cX5_refill 86 = .ok (.iconst 2, 1) := by decide +kernel
theorem dX5_refill_87 : decode cX5_refill 87 = .ok (.iastore, 1) := by decide +kernel
theorem dX5_refill_88 : decode cX5_refill 88 = .ok (.aload_n 0, 1) := by decide +kernel
theorem dX5_refill_89 : decode cX5_refill 89 = .ok (.getfield 7, 3) := by decide +kernel
theorem dX5_refill_92 : decode cX5_refill 92 = .ok (.bipush 30, 2) := by decide +kernel
theorem dX5_refill_94 : decode cX5_refill 94 = .ok (.dup2, 1) := by decide +kernel
theorem dX5_refill_95 : decode cX5_refill 95 = .ok (.iaload, 1) := by decide +kernel
theorem dX5_refill_96 : decode cX5_refill 96 = .ok (.iload 4, 2) := by decide +kernel
theorem dX5_refill_98 : decode cX5_refill 98 = .ok (.iadd, 1) := by decide +kernel
theorem dX5_refill_99 : decode cX5_refill 99 = .ok (.iastore, 1) := by decide +kernel
theorem dX5_refill_100 : decode cX5_refill 100 = .ok (.iload 4, 2) := by decide +kernel
theorem dX5_refill_102 : decode cX5_refill 102 = .ok (.ireturn, 1) := by decide +kernel
theorem dX5_lowest_0 : decode cX5_lowest 0 = .ok (.iload_n 0, 1) := by decide +kernel
theorem dX5_lowest_1 : decode cX5_lowest 1 = .ok (.iconst 1, 1) := by decide +kernel
theorem dX5_lowest_2 : decode cX5_lowest 2 = .ok (.if_icmp .ne 7, 3) := by decide +kernel
theorem dX5_lowest_5 : decode cX5_lowest 5 = .ok (.iconst 2, 1) := by decide +kernel
theorem dX5_lowest_6 : decode cX5_lowest 6 = .ok (.goto 13, 3) := by decide +kernel
theorem dX5_lowest_9 : decode cX5_lowest 9 = .ok (.iload_n 0, 1) := by decide +kernel
theorem dX5_lowest_10 : decode cX5_lowest 10 = .ok (.iconst 2, 1) := by decide +kernel
theorem dX5_lowest_11 : decode cX5_lowest 11 = .ok (.if_icmp .ne 7, 3) := by decide +kernel
theorem dX5_lowest_14 : decode cX5_lowest 14 = .ok (.iconst 0, 1) := by decide +kernel
theorem dX5_lowest_15 : decode cX5_lowest 15 = .ok (.goto 4, 3) := by decide +kernel
theorem dX5_lowest_18 : decode cX5_lowest 18 = .ok (.iconst 1, 1) := by decide +kernel
theorem dX5_lowest_19 : decode cX5_lowest 19 = .ok (.ireturn, 1) := by decide +kernel
theorem dX5_highest_0 : decode cX5_highest 0 = .ok (.iload_n 0, 1) := by decide +kernel
theorem dX5_highest_1 : decode cX5_highest 1 = .ok (.ifCond .ne 7, 3) := by decide +kernel
theorem dX5_highest_4 : decode cX5_highest 4 = .ok (.iconst 5, 1) := by decide +kernel
theorem dX5_highest_5 : decode cX5_highest 5 = .ok (.goto 25, 3) := by decide +kernel
theorem dX5_highest_8 : decode cX5_highest 8 = .ok (.iload_n 0, 1) := by decide +kernel
theorem dX5_highest_9 : decode cX5_highest 9 = .ok (.iconst 1, 1) := by decide +kernel
theorem dX5_highest_10 : decode cX5_highest 10 = .ok (.if_icmp .ne 8, 3) := by decide +kernel
theorem dX5_highest_13 : decode cX5_highest 13 = .ok (.bipush 50, 2) := by decide +kernel
theorem dX5_highest_15 : decode cX5_highest 15 = .ok (.goto 15, 3) := by decide +kernel
theorem dX5_highest_18 : decode cX5_highest 18 = .ok (.iload_n 0, 1) := by decide +kernel
theorem dX5_highest_19 : decode cX5_highest 19 = .ok (.iconst 2, 1) := by decide +kernel
theorem dX5_highest_20 : decode cX5_highest 20 = .ok (.if_icmp .ne 7, 3) := by decide +kernel
theorem dX5_highest_23 : decode cX5_highest 23 = .ok (.iconst 1, 1) := by decide +kernel
theorem dX5_highest_24 : decode cX5_highest 24 = .ok (.goto 6, 3) := by decide +kernel
theorem dX5_highest_27 : decode cX5_highest 27 = .ok (.sipush 500, 3) := by decide +kernel
theorem dX5_highest_30 : decode cX5_highest 30 = .ok (.ireturn, 1) := by decide +kernel
theorem dX5_set_0 : decode cX5_set 0 = .ok (.iload_n 1, 1) := by decide +kernel
theorem dX5_set_1 : decode cX5_set 1 = .ok (.iconst 0, 1) := by decide +kernel
theorem dX5_set_2 : decode cX5_set 2 = .ok (.iconst 3, 1) := by decide +kernel
theorem dX5_set_3 : decode cX5_set 3 = .ok (.invokestatic 25, 3) := by decide +kernel
theorem dX5_set_6 : decode cX5_set 6 = .ok (.ifCond .eq 18, 3) := by decide +kernel
theorem dX5_set_9 : decode cX5_set 9 = .ok (.iload_n 2, 1) := by decide +kernel
theorem dX5_set_10 : decode cX5_set 10 = .ok (.iload_n 1, 1) := by decide +kernel
theorem dX5_set_11 : decode cX5_set 11 = .ok (.invokestatic 76, 3) := by decide +kernel
theorem dX5_set_14 : decode cX5_set 14 = .ok (.iload_n 1, 1) := by decide +kernel
theorem dX5_set_15 : decode cX5_set 15 = .ok (.invokestatic 79, 3) := by decide +kernel
theorem dX5_set_18 : decode cX5_set 18 = .ok (.invokestatic 25, 3) := by decide +kernel
theorem dX5_set_21 : decode cX5_set 21 = .ok (.ifCond .ne 5, 3) := by decide +kernel
theorem dX5_set_24 : decode cX5_set 24 = .ok (.iconst (-1), 1) := by decide +kernel
theorem dX5_set_25 : decode cX5_set 25 = .ok (.ireturn, 1) := by decide +kernel
theorem dX5_set_26 : decode cX5_set 26 = .ok (.aload_n 0, 1) := by decide +kernel
theorem dX5_set_27 : decode cX5_set 27 = .ok (.invokevirtual 55, 3) := by decide +kernel
theorem dX5_set_30 : decode cX5_set 30 = .ok (.aload_n 0, 1) := by decide +kernel
theorem dX5_set_31 : decode cX5_set 31 = .ok (.getfield 7, 3) := by decide +kernel
theorem dX5_set_34 : decode cX5_set 34 = .ok (.bipush 31, 2) := by decide +kernel
theorem dX5_set_36 : decode cX5_set 36 = .ok (.iload_n 1, 1) := by decide +kernel
theorem dX5_set_37 : decode cX5_set 37 = .ok (.iadd, 1) := by decide +kernel
theorem dX5_set_38 : decode cX5_set 38 = .ok (.iaload, 1) := by decide +kernel
theorem dX5_set_39 : decode cX5_set 39 = .ok (.istore_n 3, 1) := by decide +kernel
theorem dX5_set_40 : decode cX5_set 40 = .ok (.aload_n 0, 1) := by decide +kernel
theorem dX5_set_41 : decode cX5_set 41 = .ok (.getfield 7, 3) := by decide +kernel
theorem dX5_set_44 : decode cX5_set 44 = .ok (.bipush 31, 2) := by decide +kernel
theorem dX5_set_46 : decode cX5_set 46 = .ok (.iload_n 1, 1) := by decide +kernel
theorem dX5_set_47 : decode cX5_set 47 = .ok (.iadd, 1) := by decide +kernel
theorem dX5_set_48 : decode cX5_set 48 = .ok (.iload_n 2, 1) := by decide +kernel
theorem dX5_set_49 : decode cX5_set 49 = .ok (.iastore, 1) := by decide +kernel
theorem dX5_set_50 : decode cX5_set 50 = .ok (.iload_n 3, 1) := by decide +kernel
theorem dX5_set_51 : decode cX5_set 51 = .ok (.ireturn, 1) := by decide +kernel
theorem dX5_append_0 : decode cX5_append 0 = .ok (.iload_n 1, 1) := by decide +kernel
theorem dX5_append_1 : decode cX5_append 1 = .ok (.bipush 33, 2) := by decide +kernel
theorem dX5_append_3 : decode cX5_append 3 = .ok (.bipush 126, 2) := by decide +kernel
theorem dX5_append_5 : decode cX5_append 5 = .ok (.invokestatic 25, 3) := by decide +kernel
theorem dX5_append_8 : decode cX5_append 8 = .ok (.ifCond .ne 5, 3) := by decide +kernel
theorem dX5_append_11 : decode cX5_append 11 = .ok (.iconst (-1), 1) := by decide +kernel
theorem dX5_append_12 : decode cX5_append 12 = .ok (.ireturn, 1) := by decide +kernel
theorem dX5_append_13 : decode cX5_append 13 = .ok (.aload_n 0, 1) := by decide +kernel
theorem dX5_append_14 : decode cX5_append 14 = .ok (.getfield 82, 3) := by decide +kernel
theorem dX5_append_17 : decode cX5_append 17 = .ok (.bipush 60, 2) := by decide +kernel
theorem dX5_append_19 : decode cX5_append 19 = .ok (.if_icmp .ne 6, 3) := by decide +kernel
theorem dX5_append_22 : decode cX5_append 22 = .ok (.bipush (-3), 2) := by decide +kernel
theorem dX5_append_24 : decode cX5_append 24 = .ok (.ireturn, 1) := by decide +kernel
theorem dX5_append_25 : decode cX5_append 25 = .ok (.aload_n 0, 1) := by decide +kernel
theorem dX5_append_26 : decode cX5_append 26 = .ok (.getfield 19, 3) := by decide +kernel
theorem dX5_append_29 : decode cX5_append 29 = .ok (.aload_n 0, 1) := by decide +kernel
theorem dX5_append_30 : decode cX5_append 30 = .ok (.getfield 82, 3) := by decide +kernel
theorem dX5_append_33 : decode cX5_append 33 = .ok (.iload_n 1, 1) := by decide +kernel
theorem dX5_append_34 : decode cX5_append 34 = .ok (.iastore, 1) := by decide +kernel
theorem dX5_append_35 : decode cX5_append 35 = .ok (.aload_n 0, 1) := by decide +kernel
theorem dX5_append_36 : decode cX5_append 36 = .ok (.dup, 1) := by decide +kernel
theorem dX5_append_37 : decode cX5_append 37 = .ok (.getfield 82, 3) := by decide +kernel
theorem dX5_append_40 : decode cX5_append 40 = .ok (.iconst 1, 1) := by decide +kernel
theorem dX5_append_41 : decode cX5_append 41 = .ok (.iadd, 1) := by decide +kernel
theorem dX5_append_42 : decode cX5_append 42 = .ok (.putfield 82, 3) := by decide +kernel
theorem dX5_append_45 : decode cX5_append 45 = .ok (.aload_n 0, 1) := by decide +kernel
theorem dX5_append_46 : decode cX5_append 46 = .ok (.getfield 82, 3) := by decide +kernel
theorem dX5_append_49 : decode cX5_append 49 = .ok (.ireturn, 1) := by decide +kernel
theorem dX5_clear_0 : decode cX5_clear 0 = .ok (.aload_n 0, 1) := by decide +kernel
theorem dX5_clear_1 : decode cX5_clear 1 = .ok (.getfield 82, 3) := by decide +kernel
theorem dX5_clear_4 : decode cX5_clear 4 = .ok (.istore_n 1, 1) := by decide +kernel
theorem dX5_clear_5 : decode cX5_clear 5 = .ok (.aload_n 0, 1) := by decide +kernel
theorem dX5_clear_6 : decode cX5_clear 6 = .ok (.iconst 0, 1) := by decide +kernel
theorem dX5_clear_7 : decode cX5_clear 7 = .ok (.putfield 82, 3) := by decide +kernel
theorem dX5_clear_10 : decode cX5_clear 10 = .ok (.iload_n 1, 1) := by decide +kernel
theorem dX5_clear_11 : decode cX5_clear 11 = .ok (.ireturn, 1) := by decide +kernel
theorem dX5_next_0 : decode cX5_next 0 = .ok (.aload_n 0, 1) := by decide +kernel
theorem dX5_next_1 : decode cX5_next 1 = .ok (.getfield 85, 3) := by decide +kernel
theorem dX5_next_4 : decode cX5_next 4 = .ok (.aload_n 0, 1) := by decide +kernel
theorem dX5_next_5 : decode cX5_next 5 = .ok (.getfield 82, 3) := by decide +kernel
theorem dX5_next_8 : decode cX5_next 8 = .ok (.if_icmp .ge 15, 3) := by decide +kernel
theorem dX5_next_11 : decode cX5_next 11 = .ok (.aload_n 0, 1) := by decide +kernel
theorem dX5_next_12 : decode cX5_next 12 = .ok (.getfield 19, 3) := by decide +kernel
theorem dX5_next_15 : decode cX5_next 15 = .ok (.aload_n 0, 1) := by decide +kernel
theorem dX5_next_16 : decode cX5_next 16 = .ok (.getfield 85, 3) := by decide +kernel
theorem dX5_next_19 : decode cX5_next 19 = .ok (.iaload, 1) := by decide +kernel
theorem dX5_next_20 : decode cX5_next 20 = .ok (.goto 4, 3) := by decide +kernel
theorem dX5_next_23 : decode cX5_next 23 = .ok (.iconst 0, 1) := by decide +kernel
theorem dX5_next_24 : decode cX5_next 24 = .ok (.ireturn, 1) := by decide +kernel
theorem dX5_sign_0 : decode cX5_sign 0 = .ok (.aload_n 0, 1) := by decide +kernel
theorem dX5_sign_1 : decode cX5_sign 1 = .ok (.aload_n 0, 1) := by decide +kernel
theorem dX5_sign_2 : decode cX5_sign 2 = .ok (.getfield 88, 3) := by decide +kernel
theorem dX5_sign_5 : decode cX5_sign 5 = .ok (.ifCond .ne 11, 3) := by decide +kernel
theorem dX5_sign_8 : decode cX5_sign 8 = .ok (.aload_n 0, 1) := by decide +kernel
theorem dX5_sign_9 : decode cX5_sign 9 = .ok (.invokevirtual 92, 3) := by decide +kernel
theorem dX5_sign_12 : decode cX5_sign 12 = .ok (.iload_n 1, 1) := by decide +kernel
theorem dX5_sign_13 : decode cX5_sign 13 = .ok (.if_icmp .eq 7, 3) := by decide +kernel
theorem dX5_sign_16 : decode cX5_sign 16 = .ok (.iconst 1, 1) := by decide +kernel
theorem dX5_sign_17 : decode cX5_sign 17 = .ok (.goto 4, 3) := by decide +kernel
theorem dX5_sign_20 : decode cX5_sign 20 = .ok (.iconst 0, 1) := by decide +kernel
theorem dX5_sign_21 : decode cX5_sign 21 = .ok (.putfield 88, 3) := by decide +kernel
theorem dX5_sign_24 : decode cX5_sign 24 = .ok (.aload_n 0, 1) := by decide +kernel
theorem dX5_sign_25 : decode cX5_sign 25 = .ok (.dup, 1) := by decide +kernel
theorem dX5_sign_26 : decode cX5_sign 26 = .ok (.getfield 85, 3) := by decide +kernel
theorem dX5_sign_29 : decode cX5_sign 29 = .ok (.aload_n 0, 1) := by decide +kernel
theorem dX5_sign_30 : decode cX5_sign 30 = .ok (.getfield 88, 3) := by decide +kernel
theorem dX5_sign_33 : decode cX5_sign 33 = .ok (.ifCond .eq 7, 3) := by decide +kernel
theorem dX5_sign_36 : decode cX5_sign 36 = .ok (.iconst 0, 1) := by decide +kernel
theorem dX5_sign_37 : decode cX5_sign 37 = .ok (.goto 4, 3) := by decide +kernel
theorem dX5_sign_40 : decode cX5_sign 40 = .ok (.iconst 1, 1) := by decide +kernel
theorem dX5_sign_41 : decode cX5_sign 41 = .ok (.iadd, 1) := by decide +kernel
theorem dX5_sign_42 : decode cX5_sign 42 = .ok (.putfield 85, 3) := by decide +kernel
theorem dX5_sign_45 : decode cX5_sign 45 = .ok (.return_, 1) := by decide +kernel
theorem dX5_digit_0 : decode cX5_digit 0 = .ok (.aload_n 0, 1) := by decide +kernel
theorem dX5_digit_1 : decode cX5_digit 1 = .ok (.invokevirtual 92, 3) := by decide +kernel
theorem dX5_digit_4 : decode cX5_digit 4 = .ok (.bipush 48, 2) := by decide +kernel
theorem dX5_digit_6 : decode cX5_digit 6 = .ok (.isub, 1) := by decide +kernel
theorem dX5_digit_7 : decode cX5_digit 7 = .ok (.istore_n 3, 1) := by decide +kernel
theorem dX5_digit_8 : decode cX5_digit 8 = .ok (.aload_n 0, 1) := by decide +kernel
theorem dX5_digit_9 : decode cX5_digit 9 = .ok (.aload_n 0, 1) := by decide +kernel
theorem dX5_digit_10 : decode cX5_digit 10 = .ok (.getfield 88, 3) := by decide +kernel
theorem dX5_digit_13 : decode cX5_digit 13 = .ok (.ifCond .ne 12, 3) := by decide +kernel
theorem dX5_digit_16 : decode cX5_digit 16 = .ok (.iload_n 3, 1) := by decide +kernel
theorem dX5_digit_17 : decode cX5_digit 17 = .ok (.iload_n 1, 1) := by decide +kernel
theorem dX5_digit_18 : decode cX5_digit 18 = .ok (.iload_n 2, 1) := by decide +kernel
theorem dX5_digit_19 : decode cX5_digit 19 = .ok (.invokestatic 25, 3) := by decide +kernel
theorem dX5_digit_22 : decode cX5_digit 22 = .ok (.ifCond .ne 7, 3) := by decide +kernel
theorem dX5_digit_25 : decode cX5_digit 25 = .ok (.iconst 1, 1) := by decide +kernel
theorem dX5_digit_26 : decode cX5_digit 26 = .ok (.goto 4, 3) := by decide +kernel
theorem dX5_digit_29 : decode cX5_digit 29 = .ok (.iconst 0, 1) := by decide +kernel
theorem dX5_digit_30 : decode cX5_digit 30 = .ok (.putfield 88, 3) := by decide +kernel
theorem dX5_digit_33 : decode cX5_digit 33 = .ok (.aload_n 0, 1) := by decide +kernel
theorem dX5_digit_34 : decode cX5_digit 34 = .ok (.dup, 1) := by decide +kernel
theorem dX5_digit_35 : decode cX5_digit 35 = .ok (.getfield 85, 3) := by decide +kernel
theorem dX5_digit_38 : decode cX5_digit 38 = .ok (.aload_n 0, 1) := by decide +kernel
theorem dX5_digit_39 : decode cX5_digit 39 = .ok (.getfield 88, 3) := by decide +kernel
theorem dX5_digit_42 : decode cX5_digit 42 = .ok (.ifCond .eq 7, 3) := by decide +kernel
theorem dX5_digit_45 : decode cX5_digit 45 = .ok (.iconst 0, 1) := by decide +kernel
theorem dX5_digit_46 : decode cX5_digit 46 = .ok (.goto 4, 3) := by decide +kernel
theorem dX5_digit_49 : decode cX5_digit 49 = .ok (.iconst 1, 1) := by decide +kernel
theorem dX5_digit_50 : decode cX5_digit 50 = .ok (.iadd, 1) := by decide +kernel
theorem dX5_digit_51 : decode cX5_digit 51 = .ok (.putfield 85, 3) := by decide +kernel
theorem dX5_digit_54 : decode cX5_digit 54 = .ok (.iload_n 3, 1) := by decide +kernel
theorem dX5_digit_55 : decode cX5_digit 55 = .ok (.ireturn, 1) := by decide +kernel
theorem dX5_number_0 : decode cX5_number 0 = .ok (.aload_n 0, 1) := by decide +kernel
theorem dX5_number_1 : decode cX5_number 1 = .ok (.iconst 1, 1) := by decide +kernel
theorem dX5_number_2 : decode cX5_number 2 = .ok (.bipush 9, 2) := by decide +kernel
theorem dX5_number_4 : decode cX5_number 4 = .ok (.invokevirtual 96, 3) := by decide +kernel
theorem dX5_number_7 : decode cX5_number 7 = .ok (.istore_n 3, 1) := by decide +kernel
theorem dX5_number_8 : decode cX5_number 8 = .ok (.aload_n 0, 1) := by decide +kernel
theorem dX5_number_9 : decode cX5_number 9 = .ok (.getfield 88, 3) := by decide +kernel
theorem dX5_number_12 : decode cX5_number 12 = .ok (.ifCond .ne 7, 3) := by decide +kernel
theorem dX5_number_15 : decode cX5_number 15 = .ok (.iconst 1, 1) := by decide +kernel
theorem dX5_number_16 : decode cX5_number 16 = .ok (.goto 4, 3) := by decide +kernel
theorem dX5_number_19 : decode cX5_number 19 = .ok (.iconst 0, 1) := by decide +kernel
theorem dX5_number_20 : decode cX5_number 20 = .ok (.istore 4, 2) := by decide +kernel
theorem dX5_number_22 : decode cX5_number 22 = .ok (.iload 4, 2) := by decide +kernel
theorem dX5_number_24 : decode cX5_number 24 = .ok (.ifCond .eq 84, 3) := by decide +kernel
theorem dX5_number_27 : decode cX5_number 27 = .ok (.aload_n 0, 1) := by decide +kernel
theorem dX5_number_28 : decode cX5_number 28 = .ok (.invokevirtual 92, 3) := by decide +kernel
theorem dX5_number_31 : decode cX5_number 31 = .ok (.bipush 48, 2) := by decide +kernel
theorem dX5_number_33 : decode cX5_number 33 = .ok (.bipush 57, 2) := by decide +kernel
theorem dX5_number_35 : decode cX5_number 35 = .ok (.invokestatic 25, 3) := by decide +kernel
theorem dX5_number_38 : decode cX5_number 38 = .ok (.ifCond .eq 23, 3) := by decide +kernel
theorem dX5_number_41 : decode cX5_number 41 = .ok (.bipush 10, 2) := by decide +kernel
theorem dX5_number_43 : decode cX5_number 43 = .ok (.iload_n 3, 1) := by decide +kernel
theorem dX5_number_44 : decode cX5_number 44 = .ok (.imul, 1) := by decide +kernel
theorem dX5_number_45 : decode cX5_number 45 = .ok (.aload_n 0, 1) := by decide +kernel
theorem dX5_number_46 : decode cX5_number 46 = .ok (.invokevirtual 92, 3) := by decide +kernel
theorem dX5_number_49 : decode cX5_number 49 = .ok (.iadd, 1) := by decide +kernel
theorem dX5_number_50 : decode cX5_number 50 = .ok (.bipush 48, 2) := by decide +kernel
theorem dX5_number_52 : decode cX5_number 52 = .ok (.isub, 1) := by decide +kernel
theorem dX5_number_53 : decode cX5_number 53 = .ok (.iload_n 2, 1) := by decide +kernel
theorem dX5_number_54 : decode cX5_number 54 = .ok (.if_icmp .gt 7, 3) := by decide +kernel
theorem dX5_number_57 : decode cX5_number 57 = .ok (.iconst 1, 1) := by decide +kernel
theorem dX5_number_58 : decode cX5_number 58 = .ok (.goto 4, 3) := by decide +kernel
theorem dX5_number_61 : decode cX5_number 61 = .ok (.iconst 0, 1) := by decide +kernel
theorem dX5_number_62 : decode cX5_number 62 = .ok (.istore 4, 2) := by decide +kernel
theorem dX5_number_64 : decode cX5_number 64 = .ok (.iload 4, 2) := by decide +kernel
theorem dX5_number_66 : decode cX5_number 66 = .ok (.ifCond .eq 18, 3) := by decide +kernel
theorem dX5_number_69 : decode cX5_number 69 = .ok (.bipush 10, 2) := by decide +kernel
theorem dX5_number_71 : decode cX5_number 71 = .ok (.iload_n 3, 1) := by decide +kernel
theorem dX5_number_72 : decode cX5_number 72 = .ok (.imul, 1) := by decide +kernel
theorem dX5_number_73 : decode cX5_number 73 = .ok (.aload_n 0, 1) := by decide +kernel
theorem dX5_number_74 : decode cX5_number 74 = .ok (.invokevirtual 92, 3) := by decide +kernel
theorem dX5_number_77 : decode cX5_number 77 = .ok (.iadd, 1) := by decide +kernel
theorem dX5_number_78 : decode cX5_number 78 = .ok (.bipush 48, 2) := by decide +kernel
theorem dX5_number_80 : decode cX5_number 80 = .ok (.isub, 1) := by decide +kernel
theorem dX5_number_81 : decode cX5_number 81 = .ok (.goto 4, 3) := by decide +kernel
theorem dX5_number_84 : decode cX5_number 84 = .ok (.iload_n 3, 1) := by decide +kernel
theorem dX5_number_85 : decode cX5_number 85 = .ok (.istore_n 3, 1) := by decide +kernel
theorem dX5_number_86 : decode cX5_number 86 = .ok (.aload_n 0, 1) := by decide +kernel
theorem dX5_number_87 : decode cX5_number 87 = .ok (.dup, 1) := by decide +kernel
theorem dX5_number_88 : decode cX5_number 88 = .ok (.getfield 85, 3) := by decide +kernel
theorem dX5_number_91 : decode cX5_number 91 = .ok (.iload 4, 2) := by decide +kernel
theorem dX5_number_93 : decode cX5_number 93 = .ok (.ifCond .eq 7, 3) := by decide +kernel
theorem dX5_number_96 : decode cX5_number 96 = .ok (.iconst 1, 1) := by decide +kernel
theorem dX5_number_97 : decode cX5_number 97 = .ok (.goto 4, 3) := by decide +kernel
theorem dX5_number_100 : decode cX5_number 100 = .ok (.iconst 0, 1) := by decide +kernel
theorem dX5_number_101 : decode cX5_number 101 = .ok (.iadd, 1) := by decide +kernel
theorem dX5_number_102 : decode cX5_number 102 = .ok (.putfield 85, 3) := by decide +kernel
theorem dX5_number_105 : decode cX5_number 105 = .ok (.goto (-83), 3) := by decide +kernel
theorem dX5_number_108 : decode cX5_number 108 = .ok (.aload_n 0, 1) := by decide +kernel
theorem dX5_number_109 : decode cX5_number 109 = .ok (.aload_n 0, 1) := by decide +kernel
theorem dX5_number_110 : decode cX5_number 110 = .ok (.getfield 88, 3) := by decide +kernel
theorem dX5_number_113 : decode cX5_number 113 = .ok (.ifCond .ne 8, 3) := by decide +kernel
theorem dX5_number_116 : decode cX5_number 116 = .ok (.iload_n 3, 1) := by decide +kernel
theorem dX5_number_117 : decode cX5_number 117 = .ok (.iload_n 1, 1) := by decide +kernel
theorem dX5_number_118 : decode cX5_number 118 = .ok (.if_icmp .ge 7, 3) := by decide +kernel
theorem dX5_number_121 : decode cX5_number 121 = .ok (.iconst 1, 1) := by decide +kernel
theorem dX5_number_122 : decode cX5_number 122 = .ok (.goto 4, 3) := by decide +kernel
theorem dX5_number_125 : decode cX5_number 125 = .ok (.iconst 0, 1) := by decide +kernel
theorem dX5_number_126 : decode cX5_number 126 = .ok (.putfield 88, 3) := by decide +kernel
theorem dX5_number_129 : decode cX5_number 129 = .ok (.iload_n 3, 1) := by decide +kernel
theorem dX5_number_130 : decode cX5_number 130 = .ok (.ireturn, 1) := by decide +kernel
theorem dX5_deed_0 : decode cX5_deed 0 = .ok (.aload_n 0, 1) := by decide +kernel
theorem dX5_deed_1 : decode cX5_deed 1 = .ok (.aload_n 0, 1) := by decide +kernel
theorem dX5_deed_2 : decode cX5_deed 2 = .ok (.getfield 88, 3) := by decide +kernel
theorem dX5_deed_5 : decode cX5_deed 5 = .ok (.ifCond .eq 7, 3) := by decide +kernel
theorem dX5_deed_8 : decode cX5_deed 8 = .ok (.iconst 0, 1) := by decide +kernel
theorem dX5_deed_9 : decode cX5_deed 9 = .ok (.goto 7, 3) := by decide +kernel
theorem dX5_deed_12 : decode cX5_deed 12 = .ok (.aload_n 0, 1) := by decide +kernel
theorem dX5_deed_13 : decode cX5_deed 13 = .ok (.invokevirtual 92, 3) := by decide +kernel
theorem dX5_deed_16 : decode cX5_deed 16 = .ok (.putfield 99, 3) := by decide +kernel
theorem dX5_deed_19 : decode cX5_deed 19 = .ok (.aload_n 0, 1) := by decide +kernel
theorem dX5_deed_20 : decode cX5_deed 20 = .ok (.iconst 1, 1) := by decide +kernel
theorem dX5_deed_21 : decode cX5_deed 21 = .ok (.putfield 102, 3) := by decide +kernel
theorem dX5_deed_24 : decode cX5_deed 24 = .ok (.aload_n 0, 1) := by decide +kernel
theorem dX5_deed_25 : decode cX5_deed 25 = .ok (.getfield 99, 3) := by decide +kernel
theorem dX5_deed_28 : decode cX5_deed 28 = .ok (.bipush 112, 2) := by decide +kernel
theorem dX5_deed_30 : decode cX5_deed 30 = .ok (.if_icmp .ne 81, 3) := by decide +kernel
theorem dX5_deed_33 : decode cX5_deed 33 = .ok (.aload_n 0, 1) := by decide +kernel
theorem dX5_deed_34 : decode cX5_deed 34 = .ok (.dup, 1) := by decide +kernel
theorem dX5_deed_35 : decode cX5_deed 35 = .ok (.getfield 85, 3) := by decide +kernel
theorem dX5_deed_38 : decode cX5_deed 38 = .ok (.iconst 1, 1) := by decide +kernel
theorem dX5_deed_39 : decode cX5_deed 39 = .ok (.iadd, 1) := by decide +kernel
theorem dX5_deed_40 : decode cX5_deed 40 = .ok (.putfield 85, 3) := by decide +kernel
theorem dX5_deed_43 : decode cX5_deed 43 = .ok (.aload_n 0, 1) := by decide +kernel
theorem dX5_deed_44 : decode cX5_deed 44 = .ok (.aload_n 0, 1) := by decide +kernel
theorem dX5_deed_45 : decode cX5_deed 45 = .ok (.iconst 0, 1) := by decide +kernel
theorem dX5_deed_46 : decode cX5_deed 46 = .ok (.iconst 1, 1) := by decide +kernel
theorem dX5_deed_47 : decode cX5_deed 47 = .ok (.invokevirtual 96, 3) := by decide +kernel
theorem dX5_deed_50 : decode cX5_deed 50 = .ok (.putfield 105, 3) := by decide +kernel
theorem dX5_deed_53 : decode cX5_deed 53 = .ok (.aload_n 0, 1) := by decide +kernel
theorem dX5_deed_54 : decode cX5_deed 54 = .ok (.bipush 58, 2) := by decide +kernel
theorem dX5_deed_56 : decode cX5_deed 56 = .ok (.invokevirtual 108, 3) := by decide +kernel
theorem dX5_deed_59 : decode cX5_deed 59 = .ok (.aload_n 0, 1) := by decide +kernel
theorem dX5_deed_60 : decode cX5_deed 60 = .ok (.aload_n 0, 1) := by decide +kernel
theorem dX5_deed_61 : decode cX5_deed 61 = .ok (.iconst 1, 1) := by decide +kernel
theorem dX5_deed_62 : decode cX5_deed 62 = .ok (.sipush 999, 3) := by decide +kernel
theorem dX5_deed_65 : decode cX5_deed 65 = .ok (.invokevirtual 112, 3) := by decide +kernel
theorem dX5_deed_68 : decode cX5_deed 68 = .ok (.putfield 115, 3) := by decide +kernel
theorem dX5_deed_71 : decode cX5_deed 71 = .ok (.aload_n 0, 1) := by decide +kernel
theorem dX5_deed_72 : decode cX5_deed 72 = .ok (.getfield 88, 3) := by decide +kernel
theorem dX5_deed_75 : decode cX5_deed 75 = .ok (.ifCond .ne 121, 3) := by decide +kernel
theorem dX5_deed_78 : decode cX5_deed 78 = .ok (.aload_n 0, 1) := by decide +kernel
theorem dX5_deed_79 : decode cX5_deed 79 = .ok (.invokevirtual 92, 3) := by decide +kernel
theorem dX5_deed_82 : decode cX5_deed 82 = .ok (.bipush 120, 2) := by decide +kernel
theorem dX5_deed_84 : decode cX5_deed 84 = .ok (.if_icmp .ne 112, 3) := by decide +kernel
theorem dX5_deed_87 : decode cX5_deed 87 = .ok (.aload_n 0, 1) := by decide +kernel
theorem dX5_deed_88 : decode cX5_deed 88 = .ok (.dup, 1) := by decide +kernel
theorem dX5_deed_89 : decode cX5_deed 89 = .ok (.getfield 85, 3) := by decide +kernel
theorem dX5_deed_92 : decode cX5_deed 92 = .ok (.iconst 1, 1) := by decide +kernel
theorem dX5_deed_93 : decode cX5_deed 93 = .ok (.iadd, 1) := by decide +kernel
theorem dX5_deed_94 : decode cX5_deed 94 = .ok (.putfield 85, 3) := by decide +kernel
theorem dX5_deed_97 : decode cX5_deed 97 = .ok (.aload_n 0, 1) := by decide +kernel
theorem dX5_deed_98 : decode cX5_deed 98 = .ok (.aload_n 0, 1) := by decide +kernel
theorem dX5_deed_99 : decode cX5_deed 99 = .ok (.iconst 2, 1) := by decide +kernel
theorem dX5_deed_100 : decode cX5_deed 100 = .ok (.bipush 50, 2) := by decide +kernel
theorem dX5_deed_102 : decode cX5_deed 102 = .ok (.invokevirtual 112, 3) := by decide +kernel
theorem dX5_deed_105 : decode cX5_deed 105 = .ok (.putfield 102, 3) := by decide +kernel
theorem dX5_deed_108 : decode cX5_deed 108 = .ok (.goto 88, 3) := by decide +kernel
theorem dX5_deed_111 : decode cX5_deed 111 = .ok (.aload_n 0, 1) := by decide +kernel
theorem dX5_deed_112 : decode cX5_deed 112 = .ok (.getfield 99, 3) := by decide +kernel
theorem dX5_deed_115 : decode cX5_deed 115 = .ok (.bipush 115, 2) := by decide +kernel
theorem dX5_deed_117 : decode cX5_deed 117 = .ok (.if_icmp .ne 26, 3) := by decide +kernel
theorem dX5_deed_120 : decode cX5_deed 120 = .ok (.aload_n 0, 1) := by decide +kernel
theorem dX5_deed_121 : decode cX5_deed 121 = .ok (.dup, 1) := by decide +kernel
theorem dX5_deed_122 : decode cX5_deed 122 = .ok (.getfield 85, 3) := by decide +kernel
theorem dX5_deed_125 : decode cX5_deed 125 = .ok (.iconst 1, 1) := by decide +kernel
theorem dX5_deed_126 : decode cX5_deed 126 = .ok (.iadd, 1) := by decide +kernel
theorem dX5_deed_127 : decode cX5_deed 127 = .ok (.putfield 85, 3) := by decide +kernel
theorem dX5_deed_130 : decode cX5_deed 130 = .ok (.aload_n 0, 1) := by decide +kernel
theorem dX5_deed_131 : decode cX5_deed 131 = .ok (.aload_n 0, 1) := by decide +kernel
theorem dX5_deed_132 : decode cX5_deed 132 = .ok (.iconst 0, 1) := by decide +kernel
theorem dX5_deed_133 : decode cX5_deed 133 = .ok (.iconst 3, 1) := by decide +kernel
theorem dX5_deed_134 : decode cX5_deed 134 = .ok (.invokevirtual 96, 3) := by decide +kernel
theorem dX5_deed_137 : decode cX5_deed 137 = .ok (.putfield 105, 3) := by decide +kernel
theorem dX5_deed_140 : decode cX5_deed 140 = .ok (.goto 56, 3) := by decide +kernel
theorem dX5_deed_143 : decode cX5_deed 143 = .ok (.aload_n 0, 1) := by decide +kernel
theorem dX5_deed_144 : decode cX5_deed 144 = .ok (.getfield 99, 3) := by decide +kernel
theorem dX5_deed_147 : decode cX5_deed 147 = .ok (.bipush 109, 2) := by decide +kernel
theorem dX5_deed_149 : decode cX5_deed 149 = .ok (.if_icmp .ne 42, 3) := by decide +kernel
theorem dX5_deed_152 : decode cX5_deed 152 = .ok (.aload_n 0, 1) := by decide +kernel
theorem dX5_deed_153 : decode cX5_deed 153 = .ok (.dup, 1) := by decide +kernel
theorem dX5_deed_154 : decode cX5_deed 154 = .ok (.getfield 85, 3) := by decide +kernel
theorem dX5_deed_157 : decode cX5_deed 157 = .ok (.iconst 1, 1) := by decide +kernel
theorem dX5_deed_158 : decode cX5_deed 158 = .ok (.iadd, 1) := by decide +kernel
theorem dX5_deed_159 : decode cX5_deed 159 = .ok (.putfield 85, 3) := by decide +kernel
theorem dX5_deed_162 : decode cX5_deed 162 = .ok (.aload_n 0, 1) := by decide +kernel
theorem dX5_deed_163 : decode cX5_deed 163 = .ok (.aload_n 0, 1) := by decide +kernel
theorem dX5_deed_164 : decode cX5_deed 164 = .ok (.iconst 0, 1) := by decide +kernel
theorem dX5_deed_165 : decode cX5_deed 165 = .ok (.iconst 3, 1) := by decide +kernel
theorem dX5_deed_166 : decode cX5_deed 166 = .ok (.invokevirtual 96, 3) := by decide +kernel
theorem dX5_deed_169 : decode cX5_deed 169 = .ok (.putfield 105, 3) := by decide +kernel
theorem dX5_deed_172 : decode cX5_deed 172 = .ok (.aload_n 0, 1) := by decide +kernel
theorem dX5_deed_173 : decode cX5_deed 173 = .ok (.bipush 62, 2) := by decide +kernel
theorem dX5_deed_175 : decode cX5_deed 175 = .ok (.invokevirtual 108, 3) := by decide +kernel
theorem dX5_deed_178 : decode cX5_deed 178 = .ok (.aload_n 0, 1) := by decide +kernel
theorem dX5_deed_179 : decode cX5_deed 179 = .ok (.aload_n 0, 1) := by decide +kernel
theorem dX5_deed_180 : decode cX5_deed 180 = .ok (.iconst 0, 1) := by decide +kernel
theorem dX5_deed_181 : decode cX5_deed 181 = .ok (.iconst 1, 1) := by decide +kernel
theorem dX5_deed_182 : decode cX5_deed 182 = .ok (.invokevirtual 96, 3) := by decide +kernel
theorem dX5_deed_185 : decode cX5_deed 185 = .ok (.putfield 115, 3) := by decide +kernel
theorem dX5_deed_188 : decode cX5_deed 188 = .ok (.goto 8, 3) := by decide +kernel
theorem dX5_deed_191 : decode cX5_deed 191 = .ok (.aload_n 0, 1) := by decide +kernel
theorem dX5_deed_192 : decode cX5_deed 192 = .ok (.iconst 1, 1) := by decide +kernel
theorem dX5_deed_193 : decode cX5_deed 193 = .ok (.putfield 88, 3) := by decide +kernel
theorem dX5_deed_196 : decode cX5_deed 196 = .ok (.return_, 1) := by decide +kernel
theorem dX5_isJob_0 : decode cX5_isJob 0 = .ok (.aload_n 0, 1) := by decide +kernel
theorem dX5_isJob_1 : decode cX5_isJob 1 = .ok (.iconst 0, 1) := by decide +kernel
theorem dX5_isJob_2 : decode cX5_isJob 2 = .ok (.putfield 85, 3) := by decide +kernel
theorem dX5_isJob_5 : decode cX5_isJob 5 = .ok (.aload_n 0, 1) := by decide +kernel
theorem dX5_isJob_6 : decode cX5_isJob 6 = .ok (.iconst 0, 1) := by decide +kernel
theorem dX5_isJob_7 : decode cX5_isJob 7 = .ok (.putfield 88, 3) := by decide +kernel
theorem dX5_isJob_10 : decode cX5_isJob 10 = .ok (.iconst 1, 1) := by decide +kernel
theorem dX5_isJob_11 : decode cX5_isJob 11 = .ok (.istore_n 1, 1) := by decide +kernel
theorem dX5_isJob_12 : decode cX5_isJob 12 = .ok (.iload_n 1, 1) := by decide +kernel
theorem dX5_isJob_13 : decode cX5_isJob 13 = .ok (.ifCond .eq 57, 3) := by decide +kernel
theorem dX5_isJob_16 : decode cX5_isJob 16 = .ok (.aload_n 0, 1) := by decide +kernel
theorem dX5_isJob_17 : decode cX5_isJob 17 = .ok (.invokevirtual 118, 3) := by decide +kernel
theorem dX5_isJob_20 : decode cX5_isJob 20 = .ok (.aload_n 0, 1) := by decide +kernel
theorem dX5_isJob_21 : decode cX5_isJob 21 = .ok (.getfield 88, 3) := by decide +kernel
theorem dX5_isJob_24 : decode cX5_isJob 24 = .ok (.ifCond .ne 18, 3) := by decide +kernel
theorem dX5_isJob_27 : decode cX5_isJob 27 = .ok (.aload_n 0, 1) := by decide +kernel
theorem dX5_isJob_28 : decode cX5_isJob 28 = .ok (.getfield 85, 3) := by decide +kernel
theorem dX5_isJob_31 : decode cX5_isJob 31 = .ok (.aload_n 0, 1) := by decide +kernel
theorem dX5_isJob_32 : decode cX5_isJob 32 = .ok (.getfield 82, 3) := by decide +kernel
theorem dX5_isJob_35 : decode cX5_isJob 35 = .ok (.if_icmp .ge 7, 3) := by decide +kernel
theorem dX5_isJob_38 : decode cX5_isJob 38 = .ok (.iconst 1, 1) := by decide +kernel
theorem dX5_isJob_39 : decode cX5_isJob 39 = .ok (.goto 4, 3) := by decide +kernel
theorem dX5_isJob_42 : decode cX5_isJob 42 = .ok (.iconst 0, 1) := by decide +kernel
theorem dX5_isJob_43 : decode cX5_isJob 43 = .ok (.istore_n 1, 1) := by decide +kernel
theorem dX5_isJob_44 : decode cX5_isJob 44 = .ok (.iload_n 1, 1) := by decide +kernel
theorem dX5_isJob_45 : decode cX5_isJob 45 = .ok (.ifCond .eq (-33), 3) := by decide +kernel
theorem dX5_isJob_48 : decode cX5_isJob 48 = .ok (.aload_n 0, 1) := by decide +kernel
theorem dX5_isJob_49 : decode cX5_isJob 49 = .ok (.bipush 59, 2) := by decide +kernel
theorem dX5_isJob_51 : decode cX5_isJob 51 = .ok (.invokevirtual 108, 3) := by decide +kernel
theorem dX5_isJob_54 : decode cX5_isJob 54 = .ok (.aload_n 0, 1) := by decide +kernel
theorem dX5_isJob_55 : decode cX5_isJob 55 = .ok (.getfield 88, 3) := by decide +kernel
theorem dX5_isJob_58 : decode cX5_isJob 58 = .ok (.ifCond .ne 7, 3) := by decide +kernel
theorem dX5_isJob_61 : decode cX5_isJob 61 = .ok (.iconst 1, 1) := by decide +kernel
theorem dX5_isJob_62 : decode cX5_isJob 62 = .ok (.goto 4, 3) := by decide +kernel
theorem dX5_isJob_65 : decode cX5_isJob 65 = .ok (.iconst 0, 1) := by decide +kernel
theorem dX5_isJob_66 : decode cX5_isJob 66 = .ok (.istore_n 1, 1) := by decide +kernel
theorem dX5_isJob_67 : decode cX5_isJob 67 = .ok (.goto (-55), 3) := by decide +kernel
theorem dX5_isJob_70 : decode cX5_isJob 70 = .ok (.aload_n 0, 1) := by decide +kernel
theorem dX5_isJob_71 : decode cX5_isJob 71 = .ok (.getfield 88, 3) := by decide +kernel
theorem dX5_isJob_74 : decode cX5_isJob 74 = .ok (.ifCond .ne 7, 3) := by decide +kernel
theorem dX5_isJob_77 : decode cX5_isJob 77 = .ok (.iconst 1, 1) := by decide +kernel
theorem dX5_isJob_78 : decode cX5_isJob 78 = .ok (.goto 4, 3) := by decide +kernel
theorem dX5_isJob_81 : decode cX5_isJob 81 = .ok (.iconst 0, 1) := by decide +kernel
theorem dX5_isJob_82 : decode cX5_isJob 82 = .ok (.ireturn, 1) := by decide +kernel
theorem dX5_fault_0 : decode cX5_fault 0 = .ok (.aload_n 0, 1) := by decide +kernel
theorem dX5_fault_1 : decode cX5_fault 1 = .ok (.invokevirtual 121, 3) := by decide +kernel
theorem dX5_fault_4 : decode cX5_fault 4 = .ok (.ifCond .eq 8, 3) := by decide +kernel
theorem dX5_fault_7 : decode cX5_fault 7 = .ok (.bipush (-4), 2) := by decide +kernel
theorem dX5_fault_9 : decode cX5_fault 9 = .ok (.goto 7, 3) := by decide +kernel
theorem dX5_fault_12 : decode cX5_fault 12 = .ok (.aload_n 0, 1) := by decide +kernel
theorem dX5_fault_13 : decode cX5_fault 13 = .ok (.getfield 85, 3) := by decide +kernel
theorem dX5_fault_16 : decode cX5_fault 16 = .ok (.ireturn, 1) := by decide +kernel
theorem dX5_pages_0 : decode cX5_pages 0 = .ok (.iconst 0, 1) := by decide +kernel
theorem dX5_pages_1 : decode cX5_pages 1 = .ok (.istore_n 1, 1) := by decide +kernel
theorem dX5_pages_2 : decode cX5_pages 2 = .ok (.iconst 0, 1) := by decide +kernel
theorem dX5_pages_3 : decode cX5_pages 3 = .ok (.istore_n 2, 1) := by decide +kernel
theorem dX5_pages_4 : decode cX5_pages 4 = .ok (.iload_n 1, 1) := by decide +kernel
theorem dX5_pages_5 : decode cX5_pages 5 = .ok (.aload_n 0, 1) := by decide +kernel
theorem dX5_pages_6 : decode cX5_pages 6 = .ok (.getfield 102, 3) := by decide +kernel
theorem dX5_pages_9 : decode cX5_pages 9 = .ok (.if_icmp .ge 47, 3) := by decide +kernel
theorem dX5_pages_12 : decode cX5_pages 12 = .ok (.iload_n 2, 1) := by decide +kernel
theorem dX5_pages_13 : decode cX5_pages 13 = .ok (.ifCond .ne 43, 3) := by decide +kernel
theorem dX5_pages_16 : decode cX5_pages 16 = .ok (.aload_n 0, 1) := by decide +kernel
theorem dX5_pages_17 : decode cX5_pages 17 = .ok (.aload_n 0, 1) := by decide +kernel
theorem dX5_pages_18 : decode cX5_pages 18 = .ok (.getfield 105, 3) := by decide +kernel
theorem dX5_pages_21 : decode cX5_pages 21 = .ok (.aload_n 0, 1) := by decide +kernel
theorem dX5_pages_22 : decode cX5_pages 22 = .ok (.getfield 115, 3) := by decide +kernel
theorem dX5_pages_25 : decode cX5_pages 25 = .ok (.invokevirtual 58, 3) := by decide +kernel
theorem dX5_pages_28 : decode cX5_pages 28 = .ok (.istore_n 3, 1) := by decide +kernel
theorem dX5_pages_29 : decode cX5_pages 29 = .ok (.iload_n 3, 1) := by decide +kernel
theorem dX5_pages_30 : decode cX5_pages 30 = .ok (.bipush 10, 2) := by decide +kernel
theorem dX5_pages_32 : decode cX5_pages 32 = .ok (.if_icmp .ge 7, 3) := by decide +kernel
theorem dX5_pages_35 : decode cX5_pages 35 = .ok (.iload_n 3, 1) := by decide +kernel
theorem dX5_pages_36 : decode cX5_pages 36 = .ok (.goto 4, 3) := by decide +kernel
theorem dX5_pages_39 : decode cX5_pages 39 = .ok (.iconst 0, 1) := by decide +kernel
theorem dX5_pages_40 : decode cX5_pages 40 = .ok (.istore_n 2, 1) := by decide +kernel
theorem dX5_pages_41 : decode cX5_pages 41 = .ok (.iload_n 1, 1) := by decide +kernel
theorem dX5_pages_42 : decode cX5_pages 42 = .ok (.iload_n 2, 1) := by decide +kernel
theorem dX5_pages_43 : decode cX5_pages 43 = .ok (.ifCond .ne 7, 3) := by decide +kernel
theorem dX5_pages_46 : decode cX5_pages 46 = .ok (.iconst 1, 1) := by decide +kernel
theorem dX5_pages_47 : decode cX5_pages 47 = .ok (.goto 4, 3) := by decide +kernel
theorem dX5_pages_50 : decode cX5_pages 50 = .ok (.iconst 0, 1) := by decide +kernel
theorem dX5_pages_51 : decode cX5_pages 51 = .ok (.iadd, 1) := by decide +kernel
theorem dX5_pages_52 : decode cX5_pages 52 = .ok (.istore_n 1, 1) := by decide +kernel
theorem dX5_pages_53 : decode cX5_pages 53 = .ok (.goto (-49), 3) := by decide +kernel
theorem dX5_pages_56 : decode cX5_pages 56 = .ok (.aload_n 0, 1) := by decide +kernel
theorem dX5_pages_57 : decode cX5_pages 57 = .ok (.getfield 22, 3) := by decide +kernel
theorem dX5_pages_60 : decode cX5_pages 60 = .ok (.iconst 0, 1) := by decide +kernel
theorem dX5_pages_61 : decode cX5_pages 61 = .ok (.iload_n 2, 1) := by decide +kernel
theorem dX5_pages_62 : decode cX5_pages 62 = .ok (.iastore, 1) := by decide +kernel
theorem dX5_pages_63 : decode cX5_pages 63 = .ok (.aload_n 0, 1) := by decide +kernel
theorem dX5_pages_64 : decode cX5_pages 64 = .ok (.getfield 22, 3) := by decide +kernel
theorem dX5_pages_67 : decode cX5_pages 67 = .ok (.iconst 3, 1) := by decide +kernel
theorem dX5_pages_68 : decode cX5_pages 68 = .ok (.iload_n 1, 1) := by decide +kernel
theorem dX5_pages_69 : decode cX5_pages 69 = .ok (.iastore, 1) := by decide +kernel
theorem dX5_pages_70 : decode cX5_pages 70 = .ok (.iload_n 1, 1) := by decide +kernel
theorem dX5_pages_71 : decode cX5_pages 71 = .ok (.ireturn, 1) := by decide +kernel
theorem dX5_run_0 : decode cX5_run 0 = .ok (.aload_n 0, 1) := by decide +kernel
theorem dX5_run_1 : decode cX5_run 1 = .ok (.invokevirtual 121, 3) := by decide +kernel
theorem dX5_run_4 : decode cX5_run 4 = .ok (.ifCond .ne 6, 3) := by decide +kernel
theorem dX5_run_7 : decode cX5_run 7 = .ok (.bipush (-2), 2) := by decide +kernel
theorem dX5_run_9 : decode cX5_run 9 = .ok (.ireturn, 1) := by decide +kernel
theorem dX5_run_10 : decode cX5_run 10 = .ok (.aload_n 0, 1) := by decide +kernel
theorem dX5_run_11 : decode cX5_run 11 = .ok (.invokevirtual 55, 3) := by decide +kernel
theorem dX5_run_14 : decode cX5_run 14 = .ok (.iconst 0, 1) := by decide +kernel
theorem dX5_run_15 : decode cX5_run 15 = .ok (.istore_n 1, 1) := by decide +kernel
theorem dX5_run_16 : decode cX5_run 16 = .ok (.iconst 0, 1) := by decide +kernel
theorem dX5_run_17 : decode cX5_run 17 = .ok (.istore_n 2, 1) := by decide +kernel
theorem dX5_run_18 : decode cX5_run 18 = .ok (.aload_n 0, 1) := by decide +kernel
theorem dX5_run_19 : decode cX5_run 19 = .ok (.iconst 0, 1) := by decide +kernel
theorem dX5_run_20 : decode cX5_run 20 = .ok (.putfield 85, 3) := by decide +kernel
theorem dX5_run_23 : decode cX5_run 23 = .ok (.aload_n 0, 1) := by decide +kernel
theorem dX5_run_24 : decode cX5_run 24 = .ok (.getfield 22, 3) := by decide +kernel
theorem dX5_run_27 : decode cX5_run 27 = .ok (.iconst 0, 1) := by decide +kernel
theorem dX5_run_28 : decode cX5_run 28 = .ok (.iconst 0, 1) := by decide +kernel
theorem dX5_run_29 : decode cX5_run 29 = .ok (.iastore, 1) := by decide +kernel
theorem dX5_run_30 : decode cX5_run 30 = .ok (.aload_n 0, 1) := by decide +kernel
theorem dX5_run_31 : decode cX5_run 31 = .ok (.getfield 22, 3) := by decide +kernel
theorem dX5_run_34 : decode cX5_run 34 = .ok (.iconst 0, 1) := by decide +kernel
theorem dX5_run_35 : decode cX5_run 35 = .ok (.iaload, 1) := by decide +kernel
theorem dX5_run_36 : decode cX5_run 36 = .ok (.ifCond .ne 106, 3) := by decide +kernel
theorem dX5_run_39 : decode cX5_run 39 = .ok (.aload_n 0, 1) := by decide +kernel
theorem dX5_run_40 : decode cX5_run 40 = .ok (.getfield 85, 3) := by decide +kernel
theorem dX5_run_43 : decode cX5_run 43 = .ok (.aload_n 0, 1) := by decide +kernel
theorem dX5_run_44 : decode cX5_run 44 = .ok (.getfield 82, 3) := by decide +kernel
theorem dX5_run_47 : decode cX5_run 47 = .ok (.if_icmp .ge 95, 3) := by decide +kernel
theorem dX5_run_50 : decode cX5_run 50 = .ok (.aload_n 0, 1) := by decide +kernel
theorem dX5_run_51 : decode cX5_run 51 = .ok (.getfield 85, 3) := by decide +kernel
theorem dX5_run_54 : decode cX5_run 54 = .ok (.istore_n 3, 1) := by decide +kernel
theorem dX5_run_55 : decode cX5_run 55 = .ok (.aload_n 0, 1) := by decide +kernel
theorem dX5_run_56 : decode cX5_run 56 = .ok (.invokevirtual 118, 3) := by decide +kernel
theorem dX5_run_59 : decode cX5_run 59 = .ok (.aload_n 0, 1) := by decide +kernel
theorem dX5_run_60 : decode cX5_run 60 = .ok (.dup, 1) := by decide +kernel
theorem dX5_run_61 : decode cX5_run 61 = .ok (.getfield 85, 3) := by decide +kernel
theorem dX5_run_64 : decode cX5_run 64 = .ok (.iconst 1, 1) := by decide +kernel
theorem dX5_run_65 : decode cX5_run 65 = .ok (.iadd, 1) := by decide +kernel
theorem dX5_run_66 : decode cX5_run 66 = .ok (.putfield 85, 3) := by decide +kernel
theorem dX5_run_69 : decode cX5_run 69 = .ok (.aload_n 0, 1) := by decide +kernel
theorem dX5_run_70 : decode cX5_run 70 = .ok (.getfield 99, 3) := by decide +kernel
theorem dX5_run_73 : decode cX5_run 73 = .ok (.bipush 112, 2) := by decide +kernel
theorem dX5_run_75 : decode cX5_run 75 = .ok (.if_icmp .ne 27, 3) := by decide +kernel
theorem dX5_run_78 : decode cX5_run 78 = .ok (.iload_n 1, 1) := by decide +kernel
theorem dX5_run_79 : decode cX5_run 79 = .ok (.aload_n 0, 1) := by decide +kernel
theorem dX5_run_80 : decode cX5_run 80 = .ok (.invokevirtual 125, 3) := by decide +kernel
theorem dX5_run_83 : decode cX5_run 83 = .ok (.iadd, 1) := by decide +kernel
theorem dX5_run_84 : decode cX5_run 84 = .ok (.istore_n 1, 1) := by decide +kernel
theorem dX5_run_85 : decode cX5_run 85 = .ok (.aload_n 0, 1) := by decide +kernel
theorem dX5_run_86 : decode cX5_run 86 = .ok (.getfield 22, 3) := by decide +kernel
theorem dX5_run_89 : decode cX5_run 89 = .ok (.iconst 1, 1) := by decide +kernel
theorem dX5_run_90 : decode cX5_run 90 = .ok (.iload_n 2, 1) := by decide +kernel
theorem dX5_run_91 : decode cX5_run 91 = .ok (.iastore, 1) := by decide +kernel
theorem dX5_run_92 : decode cX5_run 92 = .ok (.aload_n 0, 1) := by decide +kernel
theorem dX5_run_93 : decode cX5_run 93 = .ok (.getfield 22, 3) := by decide +kernel
theorem dX5_run_96 : decode cX5_run 96 = .ok (.iconst 2, 1) := by decide +kernel
theorem dX5_run_97 : decode cX5_run 97 = .ok (.iload_n 3, 1) := by decide +kernel
theorem dX5_run_98 : decode cX5_run 98 = .ok (.iastore, 1) := by decide +kernel
theorem dX5_run_99 : decode cX5_run 99 = .ok (.goto 37, 3) := by decide +kernel
theorem dX5_run_102 : decode cX5_run 102 = .ok (.aload_n 0, 1) := by decide +kernel
theorem dX5_run_103 : decode cX5_run 103 = .ok (.getfield 99, 3) := by decide +kernel
theorem dX5_run_106 : decode cX5_run 106 = .ok (.bipush 115, 2) := by decide +kernel
theorem dX5_run_108 : decode cX5_run 108 = .ok (.if_icmp .ne 14, 3) := by decide +kernel
theorem dX5_run_111 : decode cX5_run 111 = .ok (.aload_n 0, 1) := by decide +kernel
theorem dX5_run_112 : decode cX5_run 112 = .ok (.aload_n 0, 1) := by decide +kernel
theorem dX5_run_113 : decode cX5_run 113 = .ok (.getfield 105, 3) := by decide +kernel
theorem dX5_run_116 : decode cX5_run 116 = .ok (.invokevirtual 64, 3) := by decide +kernel
theorem dX5_run_119 : decode cX5_run 119 = .ok (.goto 15, 3) := by decide +kernel
theorem dX5_run_122 : decode cX5_run 122 = .ok (.aload_n 0, 1) := by decide +kernel
theorem dX5_run_123 : decode cX5_run 123 = .ok (.aload_n 0, 1) := by decide +kernel
theorem dX5_run_124 : decode cX5_run 124 = .ok (.getfield 105, 3) := by decide +kernel
theorem dX5_run_127 : decode cX5_run 127 = .ok (.aload_n 0, 1) := by decide +kernel
theorem dX5_run_128 : decode cX5_run 128 = .ok (.getfield 115, 3) := by decide +kernel
theorem dX5_run_131 : decode cX5_run 131 = .ok (.invokevirtual 73, 3) := by decide +kernel
theorem dX5_run_134 : decode cX5_run 134 = .ok (.istore 4, 2) := by decide +kernel
theorem dX5_run_136 : decode cX5_run 136 = .ok (.iinc 2 1, 3) := by decide +kernel
theorem dX5_run_139 : decode cX5_run 139 = .ok (.goto (-109), 3) := by decide +kernel
theorem dX5_run_142 : decode cX5_run 142 = .ok (.aload_n 0, 1) := by decide +kernel
theorem dX5_run_143 : decode cX5_run 143 = .ok (.iconst 0, 1) := by decide +kernel
theorem dX5_run_144 : decode cX5_run 144 = .ok (.putfield 82, 3) := by decide +kernel
theorem dX5_run_147 : decode cX5_run 147 = .ok (.iload_n 1, 1) := by decide +kernel
theorem dX5_run_148 : decode cX5_run 148 = .ok (.ireturn, 1) := by decide +kernel
theorem dX5_why_0 : decode cX5_why 0 = .ok (.iload_n 1, 1) := by decide +kernel
theorem dX5_why_1 : decode cX5_why 1 = .ok (.iconst 0, 1) := by decide +kernel
theorem dX5_why_2 : decode cX5_why 2 = .ok (.iconst 3, 1) := by decide +kernel
theorem dX5_why_3 : decode cX5_why 3 = .ok (.invokestatic 25, 3) := by decide +kernel
theorem dX5_why_6 : decode cX5_why 6 = .ok (.ifCond .ne 5, 3) := by decide +kernel
theorem dX5_why_9 : decode cX5_why 9 = .ok (.iconst (-1), 1) := by decide +kernel
theorem dX5_why_10 : decode cX5_why 10 = .ok (.ireturn, 1) := by decide +kernel
theorem dX5_why_11 : decode cX5_why 11 = .ok (.aload_n 0, 1) := by decide +kernel
theorem dX5_why_12 : decode cX5_why 12 = .ok (.getfield 22, 3) := by decide +kernel
theorem dX5_why_15 : decode cX5_why 15 = .ok (.iconst 0, 1) := by decide +kernel
theorem dX5_why_16 : decode cX5_why 16 = .ok (.iaload, 1) := by decide +kernel
theorem dX5_why_17 : decode cX5_why 17 = .ok (.ifCond .ne 8, 3) := by decide +kernel
theorem dX5_why_20 : decode cX5_why 20 = .ok (.bipush (-4), 2) := by decide +kernel
theorem dX5_why_22 : decode cX5_why 22 = .ok (.goto 9, 3) := by decide +kernel
theorem dX5_why_25 : decode cX5_why 25 = .ok (.aload_n 0, 1) := by decide +kernel
theorem dX5_why_26 : decode cX5_why 26 = .ok (.getfield 22, 3) := by decide +kernel
theorem dX5_why_29 : decode cX5_why 29 = .ok (.iload_n 1, 1) := by decide +kernel
theorem dX5_why_30 : decode cX5_why 30 = .ok (.iaload, 1) := by decide +kernel
theorem dX5_why_31 : decode cX5_why 31 = .ok (.ireturn, 1) := by decide +kernel
theorem dX5_scale_0 : decode cX5_scale 0 = .ok (.aload_n 0, 1) := by decide +kernel
theorem dX5_scale_1 : decode cX5_scale 1 = .ok (.iload_n 1, 1) := by decide +kernel
theorem dX5_scale_2 : decode cX5_scale 2 = .ok (.invokevirtual 37, 3) := by decide +kernel
theorem dX5_scale_5 : decode cX5_scale 5 = .ok (.aload_n 0, 1) := by decide +kernel
theorem dX5_scale_6 : decode cX5_scale 6 = .ok (.getfield 7, 3) := by decide +kernel
theorem dX5_scale_9 : decode cX5_scale 9 = .ok (.bipush 34, 2) := by decide +kernel
theorem dX5_scale_11 : decode cX5_scale 11 = .ok (.iaload, 1) := by decide +kernel
theorem dX5_scale_12 : decode cX5_scale 12 = .ok (.idiv, 1) := by decide +kernel
theorem dX5_scale_13 : decode cX5_scale 13 = .ok (.aload_n 0, 1) := by decide +kernel
theorem dX5_scale_14 : decode cX5_scale 14 = .ok (.getfield 7, 3) := by decide +kernel
theorem dX5_scale_17 : decode cX5_scale 17 = .ok (.bipush 34, 2) := by decide +kernel
theorem dX5_scale_19 : decode cX5_scale 19 = .ok (.iaload, 1) := by decide +kernel
theorem dX5_scale_20 : decode cX5_scale 20 = .ok (.imul, 1) := by decide +kernel
theorem dX5_scale_21 : decode cX5_scale 21 = .ok (.ireturn, 1) := by decide +kernel
theorem dX5_left_0 : decode cX5_left 0 = .ok (.aload_n 0, 1) := by decide +kernel
theorem dX5_left_1 : decode cX5_left 1 = .ok (.iload_n 1, 1) := by decide +kernel
theorem dX5_left_2 : decode cX5_left 2 = .ok (.invokevirtual 128, 3) := by decide +kernel
theorem dX5_left_5 : decode cX5_left 5 = .ok (.aload_n 0, 1) := by decide +kernel
theorem dX5_left_6 : decode cX5_left 6 = .ok (.getfield 7, 3) := by decide +kernel
theorem dX5_left_9 : decode cX5_left 9 = .ok (.bipush 12, 2) := by decide +kernel
theorem dX5_left_11 : decode cX5_left 11 = .ok (.iload_n 1, 1) := by decide +kernel
theorem dX5_left_12 : decode cX5_left 12 = .ok (.iadd, 1) := by decide +kernel
theorem dX5_left_13 : decode cX5_left 13 = .ok (.iaload, 1) := by decide +kernel
theorem dX5_left_14 : decode cX5_left 14 = .ok (.iadd, 1) := by decide +kernel
theorem dX5_left_15 : decode cX5_left 15 = .ok (.iconst 2, 1) := by decide +kernel
theorem dX5_left_16 : decode cX5_left 16 = .ok (.idiv, 1) := by decide +kernel
theorem dX5_left_17 : decode cX5_left 17 = .ok (.ireturn, 1) := by decide +kernel
theorem dX5_cup_0 : decode cX5_cup 0 = .ok (.iload_n 1, 1) := by decide +kernel
theorem dX5_cup_1 : decode cX5_cup 1 = .ok (.invokestatic 61, 3) := by decide +kernel
theorem dX5_cup_4 : decode cX5_cup 4 = .ok (.ifCond .ne 5, 3) := by decide +kernel
theorem dX5_cup_7 : decode cX5_cup 7 = .ok (.iconst (-1), 1) := by decide +kernel
theorem dX5_cup_8 : decode cX5_cup 8 = .ok (.ireturn, 1) := by decide +kernel
theorem dX5_cup_9 : decode cX5_cup 9 = .ok (.iload_n 2, 1) := by decide +kernel
theorem dX5_cup_10 : decode cX5_cup 10 = .ok (.tableswitch 131 0 7 #[46, 55, 64, 74, 84, 104, 110, 116], 46) := by decide +kernel
theorem dX5_cup_56 : decode cX5_cup 56 = .ok (.aload_n 0, 1) := by decide +kernel
theorem dX5_cup_57 : decode cX5_cup 57 = .ok (.getfield 7, 3) := by decide +kernel
theorem dX5_cup_60 : decode cX5_cup 60 = .ok (.iconst 0, 1) := by decide +kernel
theorem dX5_cup_61 : decode cX5_cup 61 = .ok (.iload_n 1, 1) := by decide +kernel
theorem dX5_cup_62 : decode cX5_cup 62 = .ok (.iadd, 1) := by decide +kernel
theorem dX5_cup_63 : decode cX5_cup 63 = .ok (.iaload, 1) := by decide +kernel
theorem dX5_cup_64 : decode cX5_cup 64 = .ok (.ireturn, 1) := by decide +kernel
theorem dX5_cup_65 : decode cX5_cup 65 = .ok (.aload_n 0, 1) := by decide +kernel
theorem dX5_cup_66 : decode cX5_cup 66 = .ok (.getfield 7, 3) := by decide +kernel
theorem dX5_cup_69 : decode cX5_cup 69 = .ok (.iconst 4, 1) := by decide +kernel
theorem dX5_cup_70 : decode cX5_cup 70 = .ok (.iload_n 1, 1) := by decide +kernel
theorem dX5_cup_71 : decode cX5_cup 71 = .ok (.iadd, 1) := by decide +kernel
theorem dX5_cup_72 : decode cX5_cup 72 = .ok (.iaload, 1) := by decide +kernel
theorem dX5_cup_73 : decode cX5_cup 73 = .ok (.ireturn, 1) := by decide +kernel
theorem dX5_cup_74 : decode cX5_cup 74 = .ok (.aload_n 0, 1) := by decide +kernel
theorem dX5_cup_75 : decode cX5_cup 75 = .ok (.getfield 7, 3) := by decide +kernel
theorem dX5_cup_78 : decode cX5_cup 78 = .ok (.bipush 8, 2) := by decide +kernel
theorem dX5_cup_80 : decode cX5_cup 80 = .ok (.iload_n 1, 1) := by decide +kernel
theorem dX5_cup_81 : decode cX5_cup 81 = .ok (.iadd, 1) := by decide +kernel
theorem dX5_cup_82 : decode cX5_cup 82 = .ok (.iaload, 1) := by decide +kernel
theorem dX5_cup_83 : decode cX5_cup 83 = .ok (.ireturn, 1) := by decide +kernel
theorem dX5_cup_84 : decode cX5_cup 84 = .ok (.aload_n 0, 1) := by decide +kernel
theorem dX5_cup_85 : decode cX5_cup 85 = .ok (.getfield 7, 3) := by decide +kernel
theorem dX5_cup_88 : decode cX5_cup 88 = .ok (.bipush 12, 2) := by decide +kernel
theorem dX5_cup_90 : decode cX5_cup 90 = .ok (.iload_n 1, 1) := by decide +kernel
theorem dX5_cup_91 : decode cX5_cup 91 = .ok (.iadd, 1) := by decide +kernel
theorem dX5_cup_92 : decode cX5_cup 92 = .ok (.iaload, 1) := by decide +kernel
theorem dX5_cup_93 : decode cX5_cup 93 = .ok (.ireturn, 1) := by decide +kernel
theorem dX5_cup_94 : decode cX5_cup 94 = .ok (.aload_n 0, 1) := by decide +kernel
theorem dX5_cup_95 : decode cX5_cup 95 = .ok (.iload_n 1, 1) := by decide +kernel
theorem dX5_cup_96 : decode cX5_cup 96 = .ok (.invokevirtual 67, 3) := by decide +kernel
theorem dX5_cup_99 : decode cX5_cup 99 = .ok (.iconst (-1), 1) := by decide +kernel
theorem dX5_cup_100 : decode cX5_cup 100 = .ok (.if_icmp .ne 8, 3) := by decide +kernel
theorem dX5_cup_103 : decode cX5_cup 103 = .ok (.bipush (-4), 2) := by decide +kernel
theorem dX5_cup_105 : decode cX5_cup 105 = .ok (.goto 8, 3) := by decide +kernel
theorem dX5_cup_108 : decode cX5_cup 108 = .ok (.aload_n 0, 1) := by decide +kernel
theorem dX5_cup_109 : decode cX5_cup 109 = .ok (.iload_n 1, 1) := by decide +kernel
theorem dX5_cup_110 : decode cX5_cup 110 = .ok (.invokevirtual 67, 3) := by decide +kernel
theorem dX5_cup_113 : decode cX5_cup 113 = .ok (.ireturn, 1) := by decide +kernel
theorem dX5_cup_114 : decode cX5_cup 114 = .ok (.aload_n 0, 1) := by decide +kernel
theorem dX5_cup_115 : decode cX5_cup 115 = .ok (.iload_n 1, 1) := by decide +kernel
theorem dX5_cup_116 : decode cX5_cup 116 = .ok (.invokevirtual 128, 3) := by decide +kernel
theorem dX5_cup_119 : decode cX5_cup 119 = .ok (.ireturn, 1) := by decide +kernel
theorem dX5_cup_120 : decode cX5_cup 120 = .ok (.aload_n 0, 1) := by decide +kernel
theorem dX5_cup_121 : decode cX5_cup 121 = .ok (.iload_n 1, 1) := by decide +kernel
theorem dX5_cup_122 : decode cX5_cup 122 = .ok (.invokevirtual 131, 3) := by decide +kernel
theorem dX5_cup_125 : decode cX5_cup 125 = .ok (.ireturn, 1) := by decide +kernel
theorem dX5_cup_126 : decode cX5_cup 126 = .ok (.aload_n 0, 1) := by decide +kernel
theorem dX5_cup_127 : decode cX5_cup 127 = .ok (.iload_n 1, 1) := by decide +kernel
theorem dX5_cup_128 : decode cX5_cup 128 = .ok (.invokevirtual 131, 3) := by decide +kernel
theorem dX5_cup_131 : decode cX5_cup 131 = .ok (.aload_n 0, 1) := by decide +kernel
theorem dX5_cup_132 : decode cX5_cup 132 = .ok (.iload_n 1, 1) := by decide +kernel
theorem dX5_cup_133 : decode cX5_cup 133 = .ok (.invokevirtual 37, 3) := by decide +kernel
theorem dX5_cup_136 : decode cX5_cup 136 = .ok (.isub, 1) := by decide +kernel
theorem dX5_cup_137 : decode cX5_cup 137 = .ok (.ldc 134, 2) := by decide +kernel
theorem dX5_cup_139 : decode cX5_cup 139 = .ok (.iadd, 1) := by decide +kernel
theorem dX5_cup_140 : decode cX5_cup 140 = .ok (.ireturn, 1) := by decide +kernel
theorem dX5_cup_141 : decode cX5_cup 141 = .ok (.iconst (-1), 1) := by decide +kernel
theorem dX5_cup_142 : decode cX5_cup 142 = .ok (.ireturn, 1) := by decide +kernel
theorem dX5_printer_0 : decode cX5_printer 0 = .ok (.iload_n 1, 1) := by decide +kernel
theorem dX5_printer_1 : decode cX5_printer 1 = .ok (.invokestatic 48, 3) := by decide +kernel
theorem dX5_printer_4 : decode cX5_printer 4 = .ok (.ifCond .ne 5, 3) := by decide +kernel
theorem dX5_printer_7 : decode cX5_printer 7 = .ok (.iconst (-1), 1) := by decide +kernel
theorem dX5_printer_8 : decode cX5_printer 8 = .ok (.ireturn, 1) := by decide +kernel
theorem dX5_printer_9 : decode cX5_printer 9 = .ok (.iload_n 2, 1) := by decide +kernel
theorem dX5_printer_10 : decode cX5_printer 10 = .ok (.tableswitch 134 0 5 #[38, 66, 76, 86, 96, 106], 38) := by decide +kernel
theorem dX5_printer_48 : decode cX5_printer 48 = .ok (.aload_n 0, 1) := by decide +kernel
theorem dX5_printer_49 : decode cX5_printer 49 = .ok (.getfield 7, 3) := by decide +kernel
theorem dX5_printer_52 : decode cX5_printer 52 = .ok (.bipush 16, 2) := by decide +kernel
theorem dX5_printer_54 : decode cX5_printer 54 = .ok (.iload_n 1, 1) := by decide +kernel
theorem dX5_printer_55 : decode cX5_printer 55 = .ok (.iadd, 1) := by decide +kernel
theorem dX5_printer_56 : decode cX5_printer 56 = .ok (.iaload, 1) := by decide +kernel
theorem dX5_printer_57 : decode cX5_printer 57 = .ok (.iconst (-1), 1) := by decide +kernel
theorem dX5_printer_58 : decode cX5_printer 58 = .ok (.if_icmp .ne 8, 3) := by decide +kernel
theorem dX5_printer_61 : decode cX5_printer 61 = .ok (.bipush (-4), 2) := by decide +kernel
theorem dX5_printer_63 : decode cX5_printer 63 = .ok (.goto 12, 3) := by decide +kernel
theorem dX5_printer_66 : decode cX5_printer 66 = .ok (.aload_n 0, 1) := by decide +kernel
theorem dX5_printer_67 : decode cX5_printer 67 = .ok (.getfield 7, 3) := by decide +kernel
theorem dX5_printer_70 : decode cX5_printer 70 = .ok (.bipush 16, 2) := by decide +kernel
theorem dX5_printer_72 : decode cX5_printer 72 = .ok (.iload_n 1, 1) := by decide +kernel
theorem dX5_printer_73 : decode cX5_printer 73 = .ok (.iadd, 1) := by decide +kernel
theorem dX5_printer_74 : decode cX5_printer 74 = .ok (.iaload, 1) := by decide +kernel
theorem dX5_printer_75 : decode cX5_printer 75 = .ok (.ireturn, 1) := by decide +kernel
theorem dX5_printer_76 : decode cX5_printer 76 = .ok (.aload_n 0, 1) := by decide +kernel
theorem dX5_printer_77 : decode cX5_printer 77 = .ok (.getfield 7, 3) := by decide +kernel
theorem dX5_printer_80 : decode cX5_printer 80 = .ok (.bipush 18, 2) := by decide +kernel
theorem dX5_printer_82 : decode cX5_printer 82 = .ok (.iload_n 1, 1) := by decide +kernel
theorem dX5_printer_83 : decode cX5_printer 83 = .ok (.iadd, 1) := by decide +kernel
theorem dX5_printer_84 : decode cX5_printer 84 = .ok (.iaload, 1) := by decide +kernel
theorem dX5_printer_85 : decode cX5_printer 85 = .ok (.ireturn, 1) := by decide +kernel
theorem dX5_printer_86 : decode cX5_printer 86 = .ok (.aload_n 0, 1) := by decide +kernel
theorem dX5_printer_87 : decode cX5_printer 87 = .ok (.getfield 7, 3) := by decide +kernel
theorem dX5_printer_90 : decode cX5_printer 90 = .ok (.bipush 20, 2) := by decide +kernel
theorem dX5_printer_92 : decode cX5_printer 92 = .ok (.iload_n 1, 1) := by decide +kernel
theorem dX5_printer_93 : decode cX5_printer 93 = .ok (.iadd, 1) := by decide +kernel
theorem dX5_printer_94 : decode cX5_printer 94 = .ok (.iaload, 1) := by decide +kernel
theorem dX5_printer_95 : decode cX5_printer 95 = .ok (.ireturn, 1) := by decide +kernel
theorem dX5_printer_96 : decode cX5_printer 96 = .ok (.aload_n 0, 1) := by decide +kernel
theorem dX5_printer_97 : decode cX5_printer 97 = .ok (.getfield 7, 3) := by decide +kernel
theorem dX5_printer_100 : decode cX5_printer 100 = .ok (.bipush 22, 2) := by decide +kernel
theorem dX5_printer_102 : decode cX5_printer 102 = .ok (.iload_n 1, 1) := by decide +kernel
theorem dX5_printer_103 : decode cX5_printer 103 = .ok (.iadd, 1) := by decide +kernel
theorem dX5_printer_104 : decode cX5_printer 104 = .ok (.iaload, 1) := by decide +kernel
theorem dX5_printer_105 : decode cX5_printer 105 = .ok (.ireturn, 1) := by decide +kernel
theorem dX5_printer_106 : decode cX5_printer 106 = .ok (.aload_n 0, 1) := by decide +kernel
theorem dX5_printer_107 : decode cX5_printer 107 = .ok (.getfield 7, 3) := by decide +kernel
theorem dX5_printer_110 : decode cX5_printer 110 = .ok (.bipush 24, 2) := by decide +kernel
theorem dX5_printer_112 : decode cX5_printer 112 = .ok (.iload_n 1, 1) := by decide +kernel
theorem dX5_printer_113 : decode cX5_printer 113 = .ok (.iadd, 1) := by decide +kernel
theorem dX5_printer_114 : decode cX5_printer 114 = .ok (.iaload, 1) := by decide +kernel
theorem dX5_printer_115 : decode cX5_printer 115 = .ok (.ireturn, 1) := by decide +kernel
theorem dX5_printer_116 : decode cX5_printer 116 = .ok (.aload_n 0, 1) := by decide +kernel
theorem dX5_printer_117 : decode cX5_printer 117 = .ok (.getfield 7, 3) := by decide +kernel
theorem dX5_printer_120 : decode cX5_printer 120 = .ok (.bipush 26, 2) := by decide +kernel
theorem dX5_printer_122 : decode cX5_printer 122 = .ok (.iload_n 1, 1) := by decide +kernel
theorem dX5_printer_123 : decode cX5_printer 123 = .ok (.iadd, 1) := by decide +kernel
theorem dX5_printer_124 : decode cX5_printer 124 = .ok (.iaload, 1) := by decide +kernel
theorem dX5_printer_125 : decode cX5_printer 125 = .ok (.iconst (-1), 1) := by decide +kernel
theorem dX5_printer_126 : decode cX5_printer 126 = .ok (.if_icmp .ne 8, 3) := by decide +kernel
theorem dX5_printer_129 : decode cX5_printer 129 = .ok (.bipush (-4), 2) := by decide +kernel
theorem dX5_printer_131 : decode cX5_printer 131 = .ok (.goto 12, 3) := by decide +kernel
theorem dX5_printer_134 : decode cX5_printer 134 = .ok (.aload_n 0, 1) := by decide +kernel
theorem dX5_printer_135 : decode cX5_printer 135 = .ok (.getfield 7, 3) := by decide +kernel
theorem dX5_printer_138 : decode cX5_printer 138 = .ok (.bipush 26, 2) := by decide +kernel
theorem dX5_printer_140 : decode cX5_printer 140 = .ok (.iload_n 1, 1) := by decide +kernel
theorem dX5_printer_141 : decode cX5_printer 141 = .ok (.iadd, 1) := by decide +kernel
theorem dX5_printer_142 : decode cX5_printer 142 = .ok (.iaload, 1) := by decide +kernel
theorem dX5_printer_143 : decode cX5_printer 143 = .ok (.ireturn, 1) := by decide +kernel
theorem dX5_printer_144 : decode cX5_printer 144 = .ok (.iconst (-1), 1) := by decide +kernel
theorem dX5_printer_145 : decode cX5_printer 145 = .ok (.ireturn, 1) := by decide +kernel
theorem dX5_needs_0 : decode cX5_needs 0 = .ok (.iload_n 1, 1) := by decide +kernel
theorem dX5_needs_1 : decode cX5_needs 1 = .ok (.invokestatic 61, 3) := by decide +kernel
theorem dX5_needs_4 : decode cX5_needs 4 = .ok (.ifCond .eq 19, 3) := by decide +kernel
theorem dX5_needs_7 : decode cX5_needs 7 = .ok (.iload_n 2, 1) := by decide +kernel
theorem dX5_needs_8 : decode cX5_needs 8 = .ok (.invokestatic 52, 3) := by decide +kernel
theorem dX5_needs_11 : decode cX5_needs 11 = .ok (.ifCond .eq 12, 3) := by decide +kernel
theorem dX5_needs_14 : decode cX5_needs 14 = .ok (.iload_n 3, 1) := by decide +kernel
theorem dX5_needs_15 : decode cX5_needs 15 = .ok (.iconst 0, 1) := by decide +kernel
theorem dX5_needs_16 : decode cX5_needs 16 = .ok (.iconst 1, 1) := by decide +kernel
theorem dX5_needs_17 : decode cX5_needs 17 = .ok (.invokestatic 25, 3) := by decide +kernel
theorem dX5_needs_20 : decode cX5_needs 20 = .ok (.ifCond .ne 5, 3) := by decide +kernel
theorem dX5_needs_23 : decode cX5_needs 23 = .ok (.iconst (-1), 1) := by decide +kernel
theorem dX5_needs_24 : decode cX5_needs 24 = .ok (.ireturn, 1) := by decide +kernel
theorem dX5_needs_25 : decode cX5_needs 25 = .ok (.iload_n 3, 1) := by decide +kernel
theorem dX5_needs_26 : decode cX5_needs 26 = .ok (.ifCond .ne 19, 3) := by decide +kernel
theorem dX5_needs_29 : decode cX5_needs 29 = .ok (.aload_n 0, 1) := by decide +kernel
theorem dX5_needs_30 : decode cX5_needs 30 = .ok (.iload_n 1, 1) := by decide +kernel
theorem dX5_needs_31 : decode cX5_needs 31 = .ok (.iload_n 2, 1) := by decide +kernel
theorem dX5_needs_32 : decode cX5_needs 32 = .ok (.aload_n 0, 1) := by decide +kernel
theorem dX5_needs_33 : decode cX5_needs 33 = .ok (.getfield 7, 3) := by decide +kernel
theorem dX5_needs_36 : decode cX5_needs 36 = .ok (.bipush 31, 2) := by decide +kernel
theorem dX5_needs_38 : decode cX5_needs 38 = .ok (.iaload, 1) := by decide +kernel
theorem dX5_needs_39 : decode cX5_needs 39 = .ok (.invokevirtual 33, 3) := by decide +kernel
theorem dX5_needs_42 : decode cX5_needs 42 = .ok (.goto 9, 3) := by decide +kernel
theorem dX5_needs_45 : decode cX5_needs 45 = .ok (.aload_n 0, 1) := by decide +kernel
theorem dX5_needs_46 : decode cX5_needs 46 = .ok (.iload_n 1, 1) := by decide +kernel
theorem dX5_needs_47 : decode cX5_needs 47 = .ok (.iload_n 2, 1) := by decide +kernel
theorem dX5_needs_48 : decode cX5_needs 48 = .ok (.invokevirtual 44, 3) := by decide +kernel
theorem dX5_needs_51 : decode cX5_needs 51 = .ok (.ireturn, 1) := by decide +kernel
theorem dX5_whyNot_0 : decode cX5_whyNot 0 = .ok (.iload_n 1, 1) := by decide +kernel
theorem dX5_whyNot_1 : decode cX5_whyNot 1 = .ok (.invokestatic 48, 3) := by decide +kernel
theorem dX5_whyNot_4 : decode cX5_whyNot 4 = .ok (.ifCond .eq 11, 3) := by decide +kernel
theorem dX5_whyNot_7 : decode cX5_whyNot 7 = .ok (.aload_n 0, 1) := by decide +kernel
theorem dX5_whyNot_8 : decode cX5_whyNot 8 = .ok (.iload_n 1, 1) := by decide +kernel
theorem dX5_whyNot_9 : decode cX5_whyNot 9 = .ok (.invokevirtual 41, 3) := by decide +kernel
theorem dX5_whyNot_12 : decode cX5_whyNot 12 = .ok (.goto 4, 3) := by decide +kernel
theorem dX5_whyNot_15 : decode cX5_whyNot 15 = .ok (.iconst (-1), 1) := by decide +kernel
theorem dX5_whyNot_16 : decode cX5_whyNot 16 = .ok (.ireturn, 1) := by decide +kernel
theorem dX5_darkPages_0 : decode cX5_darkPages 0 = .ok (.aload_n 0, 1) := by decide +kernel
theorem dX5_darkPages_1 : decode cX5_darkPages 1 = .ok (.getfield 7, 3) := by decide +kernel
theorem dX5_darkPages_4 : decode cX5_darkPages 4 = .ok (.bipush 18, 2) := by decide +kernel
theorem dX5_darkPages_6 : decode cX5_darkPages 6 = .ok (.iaload, 1) := by decide +kernel
theorem dX5_darkPages_7 : decode cX5_darkPages 7 = .ok (.aload_n 0, 1) := by decide +kernel
theorem dX5_darkPages_8 : decode cX5_darkPages 8 = .ok (.getfield 7, 3) := by decide +kernel
theorem dX5_darkPages_11 : decode cX5_darkPages 11 = .ok (.bipush 19, 2) := by decide +kernel
theorem dX5_darkPages_13 : decode cX5_darkPages 13 = .ok (.iaload, 1) := by decide +kernel
theorem dX5_darkPages_14 : decode cX5_darkPages 14 = .ok (.iadd, 1) := by decide +kernel
theorem dX5_darkPages_15 : decode cX5_darkPages 15 = .ok (.ireturn, 1) := by decide +kernel
theorem dX5_allPages_0 : decode cX5_allPages 0 = .ok (.aload_n 0, 1) := by decide +kernel
theorem dX5_allPages_1 : decode cX5_allPages 1 = .ok (.invokevirtual 135, 3) := by decide +kernel
theorem dX5_allPages_4 : decode cX5_allPages 4 = .ok (.aload_n 0, 1) := by decide +kernel
theorem dX5_allPages_5 : decode cX5_allPages 5 = .ok (.getfield 7, 3) := by decide +kernel
theorem dX5_allPages_8 : decode cX5_allPages 8 = .ok (.bipush 20, 2) := by decide +kernel
theorem dX5_allPages_10 : decode cX5_allPages 10 = .ok (.iaload, 1) := by decide +kernel
theorem dX5_allPages_11 : decode cX5_allPages 11 = .ok (.iadd, 1) := by decide +kernel
theorem dX5_allPages_12 : decode cX5_allPages 12 = .ok (.aload_n 0, 1) := by decide +kernel
theorem dX5_allPages_13 : decode cX5_allPages 13 = .ok (.getfield 7, 3) := by decide +kernel
theorem dX5_allPages_16 : decode cX5_allPages 16 = .ok (.bipush 21, 2) := by decide +kernel
theorem dX5_allPages_18 : decode cX5_allPages 18 = .ok (.iaload, 1) := by decide +kernel
theorem dX5_allPages_19 : decode cX5_allPages 19 = .ok (.iadd, 1) := by decide +kernel
theorem dX5_allPages_20 : decode cX5_allPages 20 = .ok (.ireturn, 1) := by decide +kernel
theorem dX5_allLeft_0 : decode cX5_allLeft 0 = .ok (.iconst 0, 1) := by decide +kernel
theorem dX5_allLeft_1 : decode cX5_allLeft 1 = .ok (.istore_n 1, 1) := by decide +kernel
theorem dX5_allLeft_2 : decode cX5_allLeft 2 = .ok (.iconst 0, 1) := by decide +kernel
theorem dX5_allLeft_3 : decode cX5_allLeft 3 = .ok (.istore_n 2, 1) := by decide +kernel
theorem dX5_allLeft_4 : decode cX5_allLeft 4 = .ok (.iload_n 2, 1) := by decide +kernel
theorem dX5_allLeft_5 : decode cX5_allLeft 5 = .ok (.iconst 4, 1) := by decide +kernel
theorem dX5_allLeft_6 : decode cX5_allLeft 6 = .ok (.if_icmp .ge 17, 3) := by decide +kernel
theorem dX5_allLeft_9 : decode cX5_allLeft 9 = .ok (.iload_n 1, 1) := by decide +kernel
theorem dX5_allLeft_10 : decode cX5_allLeft 10 = .ok (.aload_n 0, 1) := by decide +kernel
theorem dX5_allLeft_11 : decode cX5_allLeft 11 = .ok (.iload_n 2, 1) := by decide +kernel
theorem dX5_allLeft_12 : decode cX5_allLeft 12 = .ok (.invokevirtual 131, 3) := by decide +kernel
theorem dX5_allLeft_15 : decode cX5_allLeft 15 = .ok (.iadd, 1) := by decide +kernel
theorem dX5_allLeft_16 : decode cX5_allLeft 16 = .ok (.istore_n 1, 1) := by decide +kernel
theorem dX5_allLeft_17 : decode cX5_allLeft 17 = .ok (.iinc 2 1, 3) := by decide +kernel
theorem dX5_allLeft_20 : decode cX5_allLeft 20 = .ok (.goto (-16), 3) := by decide +kernel
theorem dX5_allLeft_23 : decode cX5_allLeft 23 = .ok (.iload_n 1, 1) := by decide +kernel
theorem dX5_allLeft_24 : decode cX5_allLeft 24 = .ok (.ireturn, 1) := by decide +kernel
theorem dX5_boasts_0 : decode cX5_boasts 0 = .ok (.iconst 0, 1) := by decide +kernel
theorem dX5_boasts_1 : decode cX5_boasts 1 = .ok (.istore_n 1, 1) := by decide +kernel
theorem dX5_boasts_2 : decode cX5_boasts 2 = .ok (.iconst 0, 1) := by decide +kernel
theorem dX5_boasts_3 : decode cX5_boasts 3 = .ok (.istore_n 2, 1) := by decide +kernel
theorem dX5_boasts_4 : decode cX5_boasts 4 = .ok (.iload_n 2, 1) := by decide +kernel
theorem dX5_boasts_5 : decode cX5_boasts 5 = .ok (.iconst 4, 1) := by decide +kernel
theorem dX5_boasts_6 : decode cX5_boasts 6 = .ok (.if_icmp .ge 30, 3) := by decide +kernel
theorem dX5_boasts_9 : decode cX5_boasts 9 = .ok (.iload_n 1, 1) := by decide +kernel
theorem dX5_boasts_10 : decode cX5_boasts 10 = .ok (.aload_n 0, 1) := by decide +kernel
theorem dX5_boasts_11 : decode cX5_boasts 11 = .ok (.iload_n 2, 1) := by decide +kernel
theorem dX5_boasts_12 : decode cX5_boasts 12 = .ok (.invokevirtual 131, 3) := by decide +kernel
theorem dX5_boasts_15 : decode cX5_boasts 15 = .ok (.aload_n 0, 1) := by decide +kernel
theorem dX5_boasts_16 : decode cX5_boasts 16 = .ok (.iload_n 2, 1) := by decide +kernel
theorem dX5_boasts_17 : decode cX5_boasts 17 = .ok (.invokevirtual 37, 3) := by decide +kernel
theorem dX5_boasts_20 : decode cX5_boasts 20 = .ok (.if_icmp .le 7, 3) := by decide +kernel
theorem dX5_boasts_23 : decode cX5_boasts 23 = .ok (.iconst 1, 1) := by decide +kernel
theorem dX5_boasts_24 : decode cX5_boasts 24 = .ok (.goto 4, 3) := by decide +kernel
theorem dX5_boasts_27 : decode cX5_boasts 27 = .ok (.iconst 0, 1) := by decide +kernel
theorem dX5_boasts_28 : decode cX5_boasts 28 = .ok (.iadd, 1) := by decide +kernel
theorem dX5_boasts_29 : decode cX5_boasts 29 = .ok (.istore_n 1, 1) := by decide +kernel
theorem dX5_boasts_30 : decode cX5_boasts 30 = .ok (.iinc 2 1, 3) := by decide +kernel
theorem dX5_boasts_33 : decode cX5_boasts 33 = .ok (.goto (-29), 3) := by decide +kernel
theorem dX5_boasts_36 : decode cX5_boasts 36 = .ok (.iload_n 1, 1) := by decide +kernel
theorem dX5_boasts_37 : decode cX5_boasts 37 = .ok (.ireturn, 1) := by decide +kernel
theorem dX5_count_0 : decode cX5_count 0 = .ok (.iload_n 1, 1) := by decide +kernel
theorem dX5_count_1 : decode cX5_count 1 = .ok (.tableswitch 172 0 13 #[71, 76, 84, 92, 100, 105, 139, 144, 149, 149, 149, 149, 162, 167], 71) := by decide +kernel
theorem dX5_count_72 : decode cX5_count 72 = .ok (.aload_n 0, 1) := by decide +kernel
theorem dX5_count_73 : decode cX5_count 73 = .ok (.invokevirtual 138, 3) := by decide +kernel
theorem dX5_count_76 : decode cX5_count 76 = .ok (.ireturn, 1) := by decide +kernel
theorem dX5_count_77 : decode cX5_count 77 = .ok (.aload_n 0, 1) := by decide +kernel
theorem dX5_count_78 : decode cX5_count 78 = .ok (.getfield 7, 3) := by decide +kernel
theorem dX5_count_81 : decode cX5_count 81 = .ok (.bipush 28, 2) := by decide +kernel
theorem dX5_count_83 : decode cX5_count 83 = .ok (.iaload, 1) := by decide +kernel
theorem dX5_count_84 : decode cX5_count 84 = .ok (.ireturn, 1) := by decide +kernel
theorem dX5_count_85 : decode cX5_count 85 = .ok (.aload_n 0, 1) := by decide +kernel
theorem dX5_count_86 : decode cX5_count 86 = .ok (.getfield 7, 3) := by decide +kernel
theorem dX5_count_89 : decode cX5_count 89 = .ok (.bipush 29, 2) := by decide +kernel
theorem dX5_count_91 : decode cX5_count 91 = .ok (.iaload, 1) := by decide +kernel
theorem dX5_count_92 : decode cX5_count 92 = .ok (.ireturn, 1) := by decide +kernel
theorem dX5_count_93 : decode cX5_count 93 = .ok (.aload_n 0, 1) := by decide +kernel
theorem dX5_count_94 : decode cX5_count 94 = .ok (.getfield 7, 3) := by decide +kernel
theorem dX5_count_97 : decode cX5_count 97 = .ok (.bipush 30, 2) := by decide +kernel
theorem dX5_count_99 : decode cX5_count 99 = .ok (.iaload, 1) := by decide +kernel
theorem dX5_count_100 : decode cX5_count 100 = .ok (.ireturn, 1) := by decide +kernel
theorem dX5_count_101 : decode cX5_count 101 = .ok (.aload_n 0, 1) := by decide +kernel
theorem dX5_count_102 : decode cX5_count 102 = .ok (.invokevirtual 141, 3) := by decide +kernel
theorem dX5_count_105 : decode cX5_count 105 = .ok (.ireturn, 1) := by decide +kernel
