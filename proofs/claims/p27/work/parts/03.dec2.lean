theorem dL_acts_506 : decode cL_acts 506 = .ok (.istore_n 3, 1) := by decide +kernel
theorem dL_acts_507 : decode cL_acts 507 = .ok (.iload 5, 2) := by decide +kernel
theorem dL_acts_509 : decode cL_acts 509 = .ok (.bipush 8, 2) := by decide +kernel
theorem dL_acts_511 : decode cL_acts 511 = .ok (.irem, 1) := by decide +kernel
theorem dL_acts_512 : decode cL_acts 512 = .ok (.iconst 5, 1) := by decide +kernel
theorem dL_acts_513 : decode cL_acts 513 = .ok (.if_icmp .le 20, 3) := by decide +kernel
theorem dL_acts_516 : decode cL_acts 516 = .ok (.aload_n 0, 1) := by decide +kernel
theorem dL_acts_517 : decode cL_acts 517 = .ok (.bipush 48, 2) := by decide +kernel
theorem dL_acts_519 : decode cL_acts 519 = .ok (.iload 5, 2) := by decide +kernel
theorem dL_acts_521 : decode cL_acts 521 = .ok (.bipush 32, 2) := by decide +kernel
theorem dL_acts_523 : decode cL_acts 523 = .ok (.idiv, 1) := by decide +kernel
theorem dL_acts_524 : decode cL_acts 524 = .ok (.iconst 2, 1) := by decide +kernel
theorem dL_acts_525 : decode cL_acts 525 = .ok (.irem, 1) := by decide +kernel
theorem dL_acts_526 : decode cL_acts 526 = .ok (.iadd, 1) := by decide +kernel
theorem dL_acts_527 : decode cL_acts 527 = .ok (.invokevirtual 41, 3) := by decide +kernel
theorem dL_acts_530 : decode cL_acts 530 = .ok (.goto 4, 3) := by decide +kernel
theorem dL_acts_533 : decode cL_acts 533 = .ok (.iload_n 3, 1) := by decide +kernel
theorem dL_acts_534 : decode cL_acts 534 = .ok (.istore_n 3, 1) := by decide +kernel
theorem dL_acts_535 : decode cL_acts 535 = .ok (.iinc 4 1, 3) := by decide +kernel
theorem dL_acts_538 : decode cL_acts 538 = .ok (.goto (-290), 3) := by decide +kernel
theorem dL_acts_541 : decode cL_acts 541 = .ok (.iload_n 3, 1) := by decide +kernel
theorem dL_acts_542 : decode cL_acts 542 = .ok (.iconst 1, 1) := by decide +kernel
theorem dL_acts_543 : decode cL_acts 543 = .ok (.if_icmp .lt 12, 3) := by decide +kernel
theorem dL_acts_546 : decode cL_acts 546 = .ok (.aload_n 0, 1) := by decide +kernel
theorem dL_acts_547 : decode cL_acts 547 = .ok (.invokevirtual 44, 3) := by decide +kernel
theorem dL_acts_550 : decode cL_acts 550 = .ok (.bipush (-4), 2) := by decide +kernel
theorem dL_acts_552 : decode cL_acts 552 = .ok (.if_icmp .eq 8, 3) := by decide +kernel
theorem dL_acts_555 : decode cL_acts 555 = .ok (.bipush (-9), 2) := by decide +kernel
theorem dL_acts_557 : decode cL_acts 557 = .ok (.goto 7, 3) := by decide +kernel
theorem dL_acts_560 : decode cL_acts 560 = .ok (.aload_n 0, 1) := by decide +kernel
theorem dL_acts_561 : decode cL_acts 561 = .ok (.invokevirtual 47, 3) := by decide +kernel
theorem dL_acts_564 : decode cL_acts 564 = .ok (.ireturn, 1) := by decide +kernel
theorem dL_acts_565 : decode cL_acts 565 = .ok (.aload_n 0, 1) := by decide +kernel
theorem dL_acts_566 : decode cL_acts 566 = .ok (.iload_n 2, 1) := by decide +kernel
theorem dL_acts_567 : decode cL_acts 567 = .ok (.iconst 2, 1) := by decide +kernel
theorem dL_acts_568 : decode cL_acts 568 = .ok (.irem, 1) := by decide +kernel
theorem dL_acts_569 : decode cL_acts 569 = .ok (.iconst 1, 1) := by decide +kernel
theorem dL_acts_570 : decode cL_acts 570 = .ok (.iload_n 2, 1) := by decide +kernel
theorem dL_acts_571 : decode cL_acts 571 = .ok (.iconst 2, 1) := by decide +kernel
theorem dL_acts_572 : decode cL_acts 572 = .ok (.idiv, 1) := by decide +kernel
theorem dL_acts_573 : decode cL_acts 573 = .ok (.iload_n 2, 1) := by decide +kernel
theorem dL_acts_574 : decode cL_acts 574 = .ok (.bipush 7, 2) := by decide +kernel
theorem dL_acts_576 : decode cL_acts 576 = .ok (.irem, 1) := by decide +kernel
theorem dL_acts_577 : decode cL_acts 577 = .ok (.ifCond .ne 9, 3) := by decide +kernel
theorem dL_acts_580 : decode cL_acts 580 = .ok (.sipush 999, 3) := by decide +kernel
theorem dL_acts_583 : decode cL_acts 583 = .ok (.goto 6, 3) := by decide +kernel
theorem dL_acts_586 : decode cL_acts 586 = .ok (.sipush 250, 3) := by decide +kernel
theorem dL_acts_589 : decode cL_acts 589 = .ok (.irem, 1) := by decide +kernel
theorem dL_acts_590 : decode cL_acts 590 = .ok (.iadd, 1) := by decide +kernel
theorem dL_acts_591 : decode cL_acts 591 = .ok (.invokevirtual 50, 3) := by decide +kernel
theorem dL_acts_594 : decode cL_acts 594 = .ok (.ireturn, 1) := by decide +kernel
theorem dL_hangs_0 : decode cL_hangs 0 = .ok (.iconst 0, 1) := by decide +kernel
theorem dL_hangs_1 : decode cL_hangs 1 = .ok (.istore_n 1, 1) := by decide +kernel
theorem dL_hangs_2 : decode cL_hangs 2 = .ok (.iconst 0, 1) := by decide +kernel
theorem dL_hangs_3 : decode cL_hangs 3 = .ok (.istore_n 2, 1) := by decide +kernel
theorem dL_hangs_4 : decode cL_hangs 4 = .ok (.iconst 0, 1) := by decide +kernel
theorem dL_hangs_5 : decode cL_hangs 5 = .ok (.istore_n 3, 1) := by decide +kernel
theorem dL_hangs_6 : decode cL_hangs 6 = .ok (.iconst 0, 1) := by decide +kernel
theorem dL_hangs_7 : decode cL_hangs 7 = .ok (.istore 4, 2) := by decide +kernel
theorem dL_hangs_9 : decode cL_hangs 9 = .ok (.aload_n 0, 1) := by decide +kernel
theorem dL_hangs_10 : decode cL_hangs 10 = .ok (.bipush 8, 2) := by decide +kernel
theorem dL_hangs_12 : decode cL_hangs 12 = .ok (.invokevirtual 53, 3) := by decide +kernel
theorem dL_hangs_15 : decode cL_hangs 15 = .ok (.ifCond .le 79, 3) := by decide +kernel
theorem dL_hangs_18 : decode cL_hangs 18 = .ok (.aload_n 0, 1) := by decide +kernel
theorem dL_hangs_19 : decode cL_hangs 19 = .ok (.bipush 8, 2) := by decide +kernel
theorem dL_hangs_21 : decode cL_hangs 21 = .ok (.invokevirtual 53, 3) := by decide +kernel
theorem dL_hangs_24 : decode cL_hangs 24 = .ok (.bipush 6, 2) := by decide +kernel
theorem dL_hangs_26 : decode cL_hangs 26 = .ok (.if_icmp .ge 68, 3) := by decide +kernel
theorem dL_hangs_29 : decode cL_hangs 29 = .ok (.aload_n 0, 1) := by decide +kernel
theorem dL_hangs_30 : decode cL_hangs 30 = .ok (.bipush 9, 2) := by decide +kernel
theorem dL_hangs_32 : decode cL_hangs 32 = .ok (.invokevirtual 53, 3) := by decide +kernel
theorem dL_hangs_35 : decode cL_hangs 35 = .ok (.iconst 1, 1) := by decide +kernel
theorem dL_hangs_36 : decode cL_hangs 36 = .ok (.if_icmp .le 58, 3) := by decide +kernel
theorem dL_hangs_39 : decode cL_hangs 39 = .ok (.aload_n 0, 1) := by decide +kernel
theorem dL_hangs_40 : decode cL_hangs 40 = .ok (.bipush 9, 2) := by decide +kernel
theorem dL_hangs_42 : decode cL_hangs 42 = .ok (.invokevirtual 53, 3) := by decide +kernel
theorem dL_hangs_45 : decode cL_hangs 45 = .ok (.bipush 51, 2) := by decide +kernel
theorem dL_hangs_47 : decode cL_hangs 47 = .ok (.if_icmp .ge 47, 3) := by decide +kernel
theorem dL_hangs_50 : decode cL_hangs 50 = .ok (.aload_n 0, 1) := by decide +kernel
theorem dL_hangs_51 : decode cL_hangs 51 = .ok (.bipush 10, 2) := by decide +kernel
theorem dL_hangs_53 : decode cL_hangs 53 = .ok (.invokevirtual 53, 3) := by decide +kernel
theorem dL_hangs_56 : decode cL_hangs 56 = .ok (.ifCond .lt 38, 3) := by decide +kernel
theorem dL_hangs_59 : decode cL_hangs 59 = .ok (.aload_n 0, 1) := by decide +kernel
theorem dL_hangs_60 : decode cL_hangs 60 = .ok (.bipush 10, 2) := by decide +kernel
theorem dL_hangs_62 : decode cL_hangs 62 = .ok (.invokevirtual 53, 3) := by decide +kernel
theorem dL_hangs_65 : decode cL_hangs 65 = .ok (.iconst 2, 1) := by decide +kernel
theorem dL_hangs_66 : decode cL_hangs 66 = .ok (.if_icmp .ge 28, 3) := by decide +kernel
theorem dL_hangs_69 : decode cL_hangs 69 = .ok (.aload_n 0, 1) := by decide +kernel
theorem dL_hangs_70 : decode cL_hangs 70 = .ok (.bipush 11, 2) := by decide +kernel
theorem dL_hangs_72 : decode cL_hangs 72 = .ok (.invokevirtual 53, 3) := by decide +kernel
theorem dL_hangs_75 : decode cL_hangs 75 = .ok (.ifCond .le 19, 3) := by decide +kernel
theorem dL_hangs_78 : decode cL_hangs 78 = .ok (.aload_n 0, 1) := by decide +kernel
theorem dL_hangs_79 : decode cL_hangs 79 = .ok (.bipush 11, 2) := by decide +kernel
theorem dL_hangs_81 : decode cL_hangs 81 = .ok (.invokevirtual 53, 3) := by decide +kernel
theorem dL_hangs_84 : decode cL_hangs 84 = .ok (.sipush 501, 3) := by decide +kernel
theorem dL_hangs_87 : decode cL_hangs 87 = .ok (.if_icmp .ge 7, 3) := by decide +kernel
theorem dL_hangs_90 : decode cL_hangs 90 = .ok (.iconst 1, 1) := by decide +kernel
theorem dL_hangs_91 : decode cL_hangs 91 = .ok (.goto 4, 3) := by decide +kernel
theorem dL_hangs_94 : decode cL_hangs 94 = .ok (.iconst 0, 1) := by decide +kernel
theorem dL_hangs_95 : decode cL_hangs 95 = .ok (.istore 5, 2) := by decide +kernel
theorem dL_hangs_97 : decode cL_hangs 97 = .ok (.iconst 0, 1) := by decide +kernel
theorem dL_hangs_98 : decode cL_hangs 98 = .ok (.istore 6, 2) := by decide +kernel
theorem dL_hangs_100 : decode cL_hangs 100 = .ok (.iload 6, 2) := by decide +kernel
theorem dL_hangs_102 : decode cL_hangs 102 = .ok (.iconst 4, 1) := by decide +kernel
theorem dL_hangs_103 : decode cL_hangs 103 = .ok (.if_icmp .ge 538, 3) := by decide +kernel
theorem dL_hangs_106 : decode cL_hangs 106 = .ok (.iload 5, 2) := by decide +kernel
theorem dL_hangs_108 : decode cL_hangs 108 = .ok (.ifCond .eq 533, 3) := by decide +kernel
theorem dL_hangs_111 : decode cL_hangs 111 = .ok (.aload_n 0, 1) := by decide +kernel
theorem dL_hangs_112 : decode cL_hangs 112 = .ok (.iload 6, 2) := by decide +kernel
theorem dL_hangs_114 : decode cL_hangs 114 = .ok (.iconst 1, 1) := by decide +kernel
theorem dL_hangs_115 : decode cL_hangs 115 = .ok (.invokevirtual 56, 3) := by decide +kernel
theorem dL_hangs_118 : decode cL_hangs 118 = .ok (.aload_n 0, 1) := by decide +kernel
theorem dL_hangs_119 : decode cL_hangs 119 = .ok (.iload 6, 2) := by decide +kernel
theorem dL_hangs_121 : decode cL_hangs 121 = .ok (.iconst 2, 1) := by decide +kernel
theorem dL_hangs_122 : decode cL_hangs 122 = .ok (.invokevirtual 56, 3) := by decide +kernel
theorem dL_hangs_125 : decode cL_hangs 125 = .ok (.iadd, 1) := by decide +kernel
theorem dL_hangs_126 : decode cL_hangs 126 = .ok (.istore 7, 2) := by decide +kernel
theorem dL_hangs_128 : decode cL_hangs 128 = .ok (.aload_n 0, 1) := by decide +kernel
theorem dL_hangs_129 : decode cL_hangs 129 = .ok (.iload 6, 2) := by decide +kernel
theorem dL_hangs_131 : decode cL_hangs 131 = .ok (.iconst 5, 1) := by decide +kernel
theorem dL_hangs_132 : decode cL_hangs 132 = .ok (.invokevirtual 56, 3) := by decide +kernel
theorem dL_hangs_135 : decode cL_hangs 135 = .ok (.istore 8, 2) := by decide +kernel
theorem dL_hangs_137 : decode cL_hangs 137 = .ok (.aload_n 0, 1) := by decide +kernel
theorem dL_hangs_138 : decode cL_hangs 138 = .ok (.iload 6, 2) := by decide +kernel
theorem dL_hangs_140 : decode cL_hangs 140 = .ok (.iconst 4, 1) := by decide +kernel
theorem dL_hangs_141 : decode cL_hangs 141 = .ok (.invokevirtual 56, 3) := by decide +kernel
theorem dL_hangs_144 : decode cL_hangs 144 = .ok (.istore 9, 2) := by decide +kernel
theorem dL_hangs_146 : decode cL_hangs 146 = .ok (.aload_n 0, 1) := by decide +kernel
theorem dL_hangs_147 : decode cL_hangs 147 = .ok (.iload 6, 2) := by decide +kernel
theorem dL_hangs_149 : decode cL_hangs 149 = .ok (.iconst 0, 1) := by decide +kernel
theorem dL_hangs_150 : decode cL_hangs 150 = .ok (.invokevirtual 56, 3) := by decide +kernel
theorem dL_hangs_153 : decode cL_hangs 153 = .ok (.ifCond .lt 199, 3) := by decide +kernel
theorem dL_hangs_156 : decode cL_hangs 156 = .ok (.aload_n 0, 1) := by decide +kernel
theorem dL_hangs_157 : decode cL_hangs 157 = .ok (.iload 6, 2) := by decide +kernel
theorem dL_hangs_159 : decode cL_hangs 159 = .ok (.iconst 0, 1) := by decide +kernel
theorem dL_hangs_160 : decode cL_hangs 160 = .ok (.invokevirtual 56, 3) := by decide +kernel
theorem dL_hangs_163 : decode cL_hangs 163 = .ok (.iconst 3, 1) := by decide +kernel
theorem dL_hangs_164 : decode cL_hangs 164 = .ok (.if_icmp .ge 188, 3) := by decide +kernel
theorem dL_hangs_167 : decode cL_hangs 167 = .ok (.aload_n 0, 1) := by decide +kernel
theorem dL_hangs_168 : decode cL_hangs 168 = .ok (.iload 6, 2) := by decide +kernel
theorem dL_hangs_170 : decode cL_hangs 170 = .ok (.iconst 1, 1) := by decide +kernel
theorem dL_hangs_171 : decode cL_hangs 171 = .ok (.invokevirtual 56, 3) := by decide +kernel
theorem dL_hangs_174 : decode cL_hangs 174 = .ok (.ifCond .lt 178, 3) := by decide +kernel
theorem dL_hangs_177 : decode cL_hangs 177 = .ok (.aload_n 0, 1) := by decide +kernel
theorem dL_hangs_178 : decode cL_hangs 178 = .ok (.iload 6, 2) := by decide +kernel
theorem dL_hangs_180 : decode cL_hangs 180 = .ok (.iconst 2, 1) := by decide +kernel
theorem dL_hangs_181 : decode cL_hangs 181 = .ok (.invokevirtual 56, 3) := by decide +kernel
theorem dL_hangs_184 : decode cL_hangs 184 = .ok (.ifCond .lt 168, 3) := by decide +kernel
theorem dL_hangs_187 : decode cL_hangs 187 = .ok (.iload 7, 2) := by decide +kernel
theorem dL_hangs_189 : decode cL_hangs 189 = .ok (.sipush 6000, 3) := by decide +kernel
theorem dL_hangs_192 : decode cL_hangs 192 = .ok (.if_icmp .gt 160, 3) := by decide +kernel
theorem dL_hangs_195 : decode cL_hangs 195 = .ok (.aload_n 0, 1) := by decide +kernel
theorem dL_hangs_196 : decode cL_hangs 196 = .ok (.iload 6, 2) := by decide +kernel
theorem dL_hangs_198 : decode cL_hangs 198 = .ok (.iconst 3, 1) := by decide +kernel
theorem dL_hangs_199 : decode cL_hangs 199 = .ok (.invokevirtual 56, 3) := by decide +kernel
theorem dL_hangs_202 : decode cL_hangs 202 = .ok (.ifCond .lt 150, 3) := by decide +kernel
theorem dL_hangs_205 : decode cL_hangs 205 = .ok (.aload_n 0, 1) := by decide +kernel
theorem dL_hangs_206 : decode cL_hangs 206 = .ok (.iload 6, 2) := by decide +kernel
theorem dL_hangs_208 : decode cL_hangs 208 = .ok (.iconst 3, 1) := by decide +kernel
theorem dL_hangs_209 : decode cL_hangs 209 = .ok (.invokevirtual 56, 3) := by decide +kernel
theorem dL_hangs_212 : decode cL_hangs 212 = .ok (.sipush 4000, 3) := by decide +kernel
theorem dL_hangs_215 : decode cL_hangs 215 = .ok (.if_icmp .gt 137, 3) := by decide +kernel
theorem dL_hangs_218 : decode cL_hangs 218 = .ok (.iload 8, 2) := by decide +kernel
theorem dL_hangs_220 : decode cL_hangs 220 = .ok (.iload 7, 2) := by decide +kernel
theorem dL_hangs_222 : decode cL_hangs 222 = .ok (.if_icmp .gt 130, 3) := by decide +kernel
theorem dL_hangs_225 : decode cL_hangs 225 = .ok (.iload 7, 2) := by decide +kernel
theorem dL_hangs_227 : decode cL_hangs 227 = .ok (.iload 8, 2) := by decide +kernel
theorem dL_hangs_229 : decode cL_hangs 229 = .ok (.isub, 1) := by decide +kernel
theorem dL_hangs_230 : decode cL_hangs 230 = .ok (.aload_n 0, 1) := by decide +kernel
theorem dL_hangs_231 : decode cL_hangs 231 = .ok (.bipush 11, 2) := by decide +kernel
theorem dL_hangs_233 : decode cL_hangs 233 = .ok (.invokevirtual 53, 3) := by decide +kernel
theorem dL_hangs_236 : decode cL_hangs 236 = .ok (.if_icmp .ge 116, 3) := by decide +kernel
theorem dL_hangs_239 : decode cL_hangs 239 = .ok (.iload 8, 2) := by decide +kernel
theorem dL_hangs_241 : decode cL_hangs 241 = .ok (.aload_n 0, 1) := by decide +kernel
theorem dL_hangs_242 : decode cL_hangs 242 = .ok (.bipush 11, 2) := by decide +kernel
theorem dL_hangs_244 : decode cL_hangs 244 = .ok (.invokevirtual 53, 3) := by decide +kernel
theorem dL_hangs_247 : decode cL_hangs 247 = .ok (.irem, 1) := by decide +kernel
theorem dL_hangs_248 : decode cL_hangs 248 = .ok (.ifCond .ne 104, 3) := by decide +kernel
theorem dL_hangs_251 : decode cL_hangs 251 = .ok (.aload_n 0, 1) := by decide +kernel
theorem dL_hangs_252 : decode cL_hangs 252 = .ok (.iload 6, 2) := by decide +kernel
theorem dL_hangs_254 : decode cL_hangs 254 = .ok (.bipush 6, 2) := by decide +kernel
theorem dL_hangs_256 : decode cL_hangs 256 = .ok (.invokevirtual 56, 3) := by decide +kernel
theorem dL_hangs_259 : decode cL_hangs 259 = .ok (.iload 8, 2) := by decide +kernel
theorem dL_hangs_261 : decode cL_hangs 261 = .ok (.aload_n 0, 1) := by decide +kernel
theorem dL_hangs_262 : decode cL_hangs 262 = .ok (.iload 6, 2) := by decide +kernel
theorem dL_hangs_264 : decode cL_hangs 264 = .ok (.iconst 3, 1) := by decide +kernel
theorem dL_hangs_265 : decode cL_hangs 265 = .ok (.invokevirtual 56, 3) := by decide +kernel
theorem dL_hangs_268 : decode cL_hangs 268 = .ok (.iadd, 1) := by decide +kernel
theorem dL_hangs_269 : decode cL_hangs 269 = .ok (.iconst 2, 1) := by decide +kernel
theorem dL_hangs_270 : decode cL_hangs 270 = .ok (.idiv, 1) := by decide +kernel
theorem dL_hangs_271 : decode cL_hangs 271 = .ok (.if_icmp .ne 81, 3) := by decide +kernel
theorem dL_hangs_274 : decode cL_hangs 274 = .ok (.aload_n 0, 1) := by decide +kernel
theorem dL_hangs_275 : decode cL_hangs 275 = .ok (.iload 6, 2) := by decide +kernel
theorem dL_hangs_277 : decode cL_hangs 277 = .ok (.bipush 7, 2) := by decide +kernel
theorem dL_hangs_279 : decode cL_hangs 279 = .ok (.invokevirtual 56, 3) := by decide +kernel
theorem dL_hangs_282 : decode cL_hangs 282 = .ok (.aload_n 0, 1) := by decide +kernel
theorem dL_hangs_283 : decode cL_hangs 283 = .ok (.iload 6, 2) := by decide +kernel
theorem dL_hangs_285 : decode cL_hangs 285 = .ok (.bipush 6, 2) := by decide +kernel
theorem dL_hangs_287 : decode cL_hangs 287 = .ok (.invokevirtual 56, 3) := by decide +kernel
theorem dL_hangs_290 : decode cL_hangs 290 = .ok (.iload 7, 2) := by decide +kernel
theorem dL_hangs_292 : decode cL_hangs 292 = .ok (.isub, 1) := by decide +kernel
theorem dL_hangs_293 : decode cL_hangs 293 = .ok (.ldc 59, 2) := by decide +kernel
theorem dL_hangs_295 : decode cL_hangs 295 = .ok (.iadd, 1) := by decide +kernel
theorem dL_hangs_296 : decode cL_hangs 296 = .ok (.if_icmp .ne 56, 3) := by decide +kernel
theorem dL_hangs_299 : decode cL_hangs 299 = .ok (.iload 9, 2) := by decide +kernel
theorem dL_hangs_301 : decode cL_hangs 301 = .ok (.bipush (-4), 2) := by decide +kernel
theorem dL_hangs_303 : decode cL_hangs 303 = .ok (.if_icmp .eq 26, 3) := by decide +kernel
theorem dL_hangs_306 : decode cL_hangs 306 = .ok (.iload 9, 2) := by decide +kernel
theorem dL_hangs_308 : decode cL_hangs 308 = .ok (.ifCond .lt 44, 3) := by decide +kernel
theorem dL_hangs_311 : decode cL_hangs 311 = .ok (.iload 9, 2) := by decide +kernel
theorem dL_hangs_313 : decode cL_hangs 313 = .ok (.iconst 2, 1) := by decide +kernel
theorem dL_hangs_314 : decode cL_hangs 314 = .ok (.if_icmp .ge 38, 3) := by decide +kernel
theorem dL_hangs_317 : decode cL_hangs 317 = .ok (.aload_n 0, 1) := by decide +kernel
theorem dL_hangs_318 : decode cL_hangs 318 = .ok (.iload 9, 2) := by decide +kernel
theorem dL_hangs_320 : decode cL_hangs 320 = .ok (.iconst 0, 1) := by decide +kernel
theorem dL_hangs_321 : decode cL_hangs 321 = .ok (.invokevirtual 60, 3) := by decide +kernel
theorem dL_hangs_324 : decode cL_hangs 324 = .ok (.iload 6, 2) := by decide +kernel
theorem dL_hangs_326 : decode cL_hangs 326 = .ok (.if_icmp .ne 26, 3) := by decide +kernel
theorem dL_hangs_329 : decode cL_hangs 329 = .ok (.iload 9, 2) := by decide +kernel
theorem dL_hangs_331 : decode cL_hangs 331 = .ok (.bipush (-4), 2) := by decide +kernel
theorem dL_hangs_333 : decode cL_hangs 333 = .ok (.if_icmp .eq 15, 3) := by decide +kernel
theorem dL_hangs_336 : decode cL_hangs 336 = .ok (.aload_n 0, 1) := by decide +kernel
theorem dL_hangs_337 : decode cL_hangs 337 = .ok (.iload 6, 2) := by decide +kernel
theorem dL_hangs_339 : decode cL_hangs 339 = .ok (.iconst 1, 1) := by decide +kernel
theorem dL_hangs_340 : decode cL_hangs 340 = .ok (.invokevirtual 22, 3) := by decide +kernel
theorem dL_hangs_343 : decode cL_hangs 343 = .ok (.bipush (-2), 2) := by decide +kernel
theorem dL_hangs_345 : decode cL_hangs 345 = .ok (.if_icmp .ne 7, 3) := by decide +kernel
theorem dL_hangs_348 : decode cL_hangs 348 = .ok (.iconst 1, 1) := by decide +kernel
theorem dL_hangs_349 : decode cL_hangs 349 = .ok (.goto 4, 3) := by decide +kernel
theorem dL_hangs_352 : decode cL_hangs 352 = .ok (.iconst 0, 1) := by decide +kernel
theorem dL_hangs_353 : decode cL_hangs 353 = .ok (.istore 5, 2) := by decide +kernel
theorem dL_hangs_355 : decode cL_hangs 355 = .ok (.iload_n 1, 1) := by decide +kernel
theorem dL_hangs_356 : decode cL_hangs 356 = .ok (.iload 7, 2) := by decide +kernel
theorem dL_hangs_358 : decode cL_hangs 358 = .ok (.iadd, 1) := by decide +kernel
theorem dL_hangs_359 : decode cL_hangs 359 = .ok (.istore_n 1, 1) := by decide +kernel
theorem dL_hangs_360 : decode cL_hangs 360 = .ok (.iload_n 2, 1) := by decide +kernel
theorem dL_hangs_361 : decode cL_hangs 361 = .ok (.aload_n 0, 1) := by decide +kernel
theorem dL_hangs_362 : decode cL_hangs 362 = .ok (.iload 6, 2) := by decide +kernel
theorem dL_hangs_364 : decode cL_hangs 364 = .ok (.bipush 6, 2) := by decide +kernel
theorem dL_hangs_366 : decode cL_hangs 366 = .ok (.invokevirtual 56, 3) := by decide +kernel
theorem dL_hangs_369 : decode cL_hangs 369 = .ok (.iadd, 1) := by decide +kernel
theorem dL_hangs_370 : decode cL_hangs 370 = .ok (.istore_n 2, 1) := by decide +kernel
theorem dL_hangs_371 : decode cL_hangs 371 = .ok (.iload_n 3, 1) := by decide +kernel
theorem dL_hangs_372 : decode cL_hangs 372 = .ok (.aload_n 0, 1) := by decide +kernel
theorem dL_hangs_373 : decode cL_hangs 373 = .ok (.iload 6, 2) := by decide +kernel
theorem dL_hangs_375 : decode cL_hangs 375 = .ok (.bipush 7, 2) := by decide +kernel
theorem dL_hangs_377 : decode cL_hangs 377 = .ok (.invokevirtual 56, 3) := by decide +kernel
theorem dL_hangs_380 : decode cL_hangs 380 = .ok (.ldc 59, 2) := by decide +kernel
theorem dL_hangs_382 : decode cL_hangs 382 = .ok (.if_icmp .le 7, 3) := by decide +kernel
theorem dL_hangs_385 : decode cL_hangs 385 = .ok (.iconst 1, 1) := by decide +kernel
theorem dL_hangs_386 : decode cL_hangs 386 = .ok (.goto 4, 3) := by decide +kernel
theorem dL_hangs_389 : decode cL_hangs 389 = .ok (.iconst 0, 1) := by decide +kernel
theorem dL_hangs_390 : decode cL_hangs 390 = .ok (.iadd, 1) := by decide +kernel
theorem dL_hangs_391 : decode cL_hangs 391 = .ok (.istore_n 3, 1) := by decide +kernel
theorem dL_hangs_392 : decode cL_hangs 392 = .ok (.iload 4, 2) := by decide +kernel
theorem dL_hangs_394 : decode cL_hangs 394 = .ok (.iload 9, 2) := by decide +kernel
theorem dL_hangs_396 : decode cL_hangs 396 = .ok (.bipush (-4), 2) := by decide +kernel
theorem dL_hangs_398 : decode cL_hangs 398 = .ok (.if_icmp .ne 7, 3) := by decide +kernel
theorem dL_hangs_401 : decode cL_hangs 401 = .ok (.iconst 0, 1) := by decide +kernel
theorem dL_hangs_402 : decode cL_hangs 402 = .ok (.goto 4, 3) := by decide +kernel
theorem dL_hangs_405 : decode cL_hangs 405 = .ok (.iconst 1, 1) := by decide +kernel
theorem dL_hangs_406 : decode cL_hangs 406 = .ok (.iadd, 1) := by decide +kernel
theorem dL_hangs_407 : decode cL_hangs 407 = .ok (.istore 4, 2) := by decide +kernel
theorem dL_hangs_409 : decode cL_hangs 409 = .ok (.iconst 1, 1) := by decide +kernel
theorem dL_hangs_410 : decode cL_hangs 410 = .ok (.istore 10, 2) := by decide +kernel
theorem dL_hangs_412 : decode cL_hangs 412 = .ok (.iload 10, 2) := by decide +kernel
theorem dL_hangs_414 : decode cL_hangs 414 = .ok (.sipush 400, 3) := by decide +kernel
theorem dL_hangs_417 : decode cL_hangs 417 = .ok (.if_icmp .ge 218, 3) := by decide +kernel
theorem dL_hangs_420 : decode cL_hangs 420 = .ok (.iload 5, 2) := by decide +kernel
theorem dL_hangs_422 : decode cL_hangs 422 = .ok (.ifCond .eq 213, 3) := by decide +kernel
theorem dL_hangs_425 : decode cL_hangs 425 = .ok (.aload_n 0, 1) := by decide +kernel
theorem dL_hangs_426 : decode cL_hangs 426 = .ok (.iload 6, 2) := by decide +kernel
theorem dL_hangs_428 : decode cL_hangs 428 = .ok (.iload 10, 2) := by decide +kernel
theorem dL_hangs_430 : decode cL_hangs 430 = .ok (.iconst 0, 1) := by decide +kernel
theorem dL_hangs_431 : decode cL_hangs 431 = .ok (.invokevirtual 63, 3) := by decide +kernel
theorem dL_hangs_434 : decode cL_hangs 434 = .ok (.istore 11, 2) := by decide +kernel
theorem dL_hangs_436 : decode cL_hangs 436 = .ok (.aload_n 0, 1) := by decide +kernel
theorem dL_hangs_437 : decode cL_hangs 437 = .ok (.iload 6, 2) := by decide +kernel
theorem dL_hangs_439 : decode cL_hangs 439 = .ok (.iload 10, 2) := by decide +kernel
theorem dL_hangs_441 : decode cL_hangs 441 = .ok (.iconst 1, 1) := by decide +kernel
theorem dL_hangs_442 : decode cL_hangs 442 = .ok (.invokevirtual 63, 3) := by decide +kernel
theorem dL_hangs_445 : decode cL_hangs 445 = .ok (.istore 12, 2) := by decide +kernel
theorem dL_hangs_447 : decode cL_hangs 447 = .ok (.aload_n 0, 1) := by decide +kernel
theorem dL_hangs_448 : decode cL_hangs 448 = .ok (.iload 6, 2) := by decide +kernel
theorem dL_hangs_450 : decode cL_hangs 450 = .ok (.iload 10, 2) := by decide +kernel
theorem dL_hangs_452 : decode cL_hangs 452 = .ok (.bipush 20, 2) := by decide +kernel
theorem dL_hangs_454 : decode cL_hangs 454 = .ok (.invokevirtual 67, 3) := by decide +kernel
theorem dL_hangs_457 : decode cL_hangs 457 = .ok (.istore 13, 2) := by decide +kernel
theorem dL_hangs_459 : decode cL_hangs 459 = .ok (.iload 11, 2) := by decide +kernel
theorem dL_hangs_461 : decode cL_hangs 461 = .ok (.ifCond .lt 162, 3) := by decide +kernel
theorem dL_hangs_464 : decode cL_hangs 464 = .ok (.iload 12, 2) := by decide +kernel
theorem dL_hangs_466 : decode cL_hangs 466 = .ok (.iload 11, 2) := by decide +kernel
theorem dL_hangs_468 : decode cL_hangs 468 = .ok (.if_icmp .lt 155, 3) := by decide +kernel
theorem dL_hangs_471 : decode cL_hangs 471 = .ok (.iload 12, 2) := by decide +kernel
theorem dL_hangs_473 : decode cL_hangs 473 = .ok (.sipush 999, 3) := by decide +kernel
theorem dL_hangs_476 : decode cL_hangs 476 = .ok (.if_icmp .gt 147, 3) := by decide +kernel
theorem dL_hangs_479 : decode cL_hangs 479 = .ok (.aload_n 0, 1) := by decide +kernel
theorem dL_hangs_480 : decode cL_hangs 480 = .ok (.iload 6, 2) := by decide +kernel
theorem dL_hangs_482 : decode cL_hangs 482 = .ok (.iload 10, 2) := by decide +kernel
theorem dL_hangs_484 : decode cL_hangs 484 = .ok (.bipush 50, 2) := by decide +kernel
theorem dL_hangs_486 : decode cL_hangs 486 = .ok (.iconst 0, 1) := by decide +kernel
theorem dL_hangs_487 : decode cL_hangs 487 = .ok (.invokevirtual 71, 3) := by decide +kernel
theorem dL_hangs_490 : decode cL_hangs 490 = .ok (.ifCond .lt 7, 3) := by decide +kernel
theorem dL_hangs_493 : decode cL_hangs 493 = .ok (.iconst 1, 1) := by decide +kernel
theorem dL_hangs_494 : decode cL_hangs 494 = .ok (.goto 4, 3) := by decide +kernel
theorem dL_hangs_497 : decode cL_hangs 497 = .ok (.iconst 0, 1) := by decide +kernel
theorem dL_hangs_498 : decode cL_hangs 498 = .ok (.iload 11, 2) := by decide +kernel
theorem dL_hangs_500 : decode cL_hangs 500 = .ok (.bipush 50, 2) := by decide +kernel
theorem dL_hangs_502 : decode cL_hangs 502 = .ok (.if_icmp .lt 7, 3) := by decide +kernel
theorem dL_hangs_505 : decode cL_hangs 505 = .ok (.iconst 1, 1) := by decide +kernel
theorem dL_hangs_506 : decode cL_hangs 506 = .ok (.goto 4, 3) := by decide +kernel
theorem dL_hangs_509 : decode cL_hangs 509 = .ok (.iconst 0, 1) := by decide +kernel
theorem dL_hangs_510 : decode cL_hangs 510 = .ok (.if_icmp .ne 113, 3) := by decide +kernel
theorem dL_hangs_513 : decode cL_hangs 513 = .ok (.aload_n 0, 1) := by decide +kernel
theorem dL_hangs_514 : decode cL_hangs 514 = .ok (.iload 6, 2) := by decide +kernel
theorem dL_hangs_516 : decode cL_hangs 516 = .ok (.iload 10, 2) := by decide +kernel
theorem dL_hangs_518 : decode cL_hangs 518 = .ok (.bipush 7, 2) := by decide +kernel
theorem dL_hangs_520 : decode cL_hangs 520 = .ok (.iconst 0, 1) := by decide +kernel
theorem dL_hangs_521 : decode cL_hangs 521 = .ok (.invokevirtual 71, 3) := by decide +kernel
theorem dL_hangs_524 : decode cL_hangs 524 = .ok (.aload_n 0, 1) := by decide +kernel
theorem dL_hangs_525 : decode cL_hangs 525 = .ok (.iload 6, 2) := by decide +kernel
theorem dL_hangs_527 : decode cL_hangs 527 = .ok (.iload 10, 2) := by decide +kernel
theorem dL_hangs_529 : decode cL_hangs 529 = .ok (.bipush 7, 2) := by decide +kernel
theorem dL_hangs_531 : decode cL_hangs 531 = .ok (.iconst 1, 1) := by decide +kernel
theorem dL_hangs_532 : decode cL_hangs 532 = .ok (.invokevirtual 71, 3) := by decide +kernel
theorem dL_hangs_535 : decode cL_hangs 535 = .ok (.if_icmp .ne 88, 3) := by decide +kernel
theorem dL_hangs_538 : decode cL_hangs 538 = .ok (.aload_n 0, 1) := by decide +kernel
theorem dL_hangs_539 : decode cL_hangs 539 = .ok (.iload 6, 2) := by decide +kernel
theorem dL_hangs_541 : decode cL_hangs 541 = .ok (.iload 10, 2) := by decide +kernel
theorem dL_hangs_543 : decode cL_hangs 543 = .ok (.iconst 0, 1) := by decide +kernel
theorem dL_hangs_544 : decode cL_hangs 544 = .ok (.iconst 1, 1) := by decide +kernel
theorem dL_hangs_545 : decode cL_hangs 545 = .ok (.invokevirtual 71, 3) := by decide +kernel
theorem dL_hangs_548 : decode cL_hangs 548 = .ok (.aload_n 0, 1) := by decide +kernel
theorem dL_hangs_549 : decode cL_hangs 549 = .ok (.iload 6, 2) := by decide +kernel
theorem dL_hangs_551 : decode cL_hangs 551 = .ok (.iconst 1, 1) := by decide +kernel
theorem dL_hangs_552 : decode cL_hangs 552 = .ok (.invokevirtual 56, 3) := by decide +kernel
theorem dL_hangs_555 : decode cL_hangs 555 = .ok (.if_icmp .ne 68, 3) := by decide +kernel
theorem dL_hangs_558 : decode cL_hangs 558 = .ok (.iload 13, 2) := by decide +kernel
theorem dL_hangs_560 : decode cL_hangs 560 = .ok (.bipush (-4), 2) := by decide +kernel
theorem dL_hangs_562 : decode cL_hangs 562 = .ok (.if_icmp .eq 15, 3) := by decide +kernel
theorem dL_hangs_565 : decode cL_hangs 565 = .ok (.iload 13, 2) := by decide +kernel
theorem dL_hangs_567 : decode cL_hangs 567 = .ok (.ifCond .le 56, 3) := by decide +kernel
theorem dL_hangs_570 : decode cL_hangs 570 = .ok (.iload 13, 2) := by decide +kernel
theorem dL_hangs_572 : decode cL_hangs 572 = .ok (.bipush 6, 2) := by decide +kernel
theorem dL_hangs_574 : decode cL_hangs 574 = .ok (.if_icmp .ge 49, 3) := by decide +kernel
theorem dL_hangs_577 : decode cL_hangs 577 = .ok (.iload 12, 2) := by decide +kernel
theorem dL_hangs_579 : decode cL_hangs 579 = .ok (.bipush 20, 2) := by decide +kernel
theorem dL_hangs_581 : decode cL_hangs 581 = .ok (.if_icmp .lt 14, 3) := by decide +kernel
theorem dL_hangs_584 : decode cL_hangs 584 = .ok (.iload 13, 2) := by decide +kernel
theorem dL_hangs_586 : decode cL_hangs 586 = .ok (.aload_n 0, 1) := by decide +kernel
theorem dL_hangs_587 : decode cL_hangs 587 = .ok (.bipush 8, 2) := by decide +kernel
theorem dL_hangs_589 : decode cL_hangs 589 = .ok (.invokevirtual 53, 3) := by decide +kernel
theorem dL_hangs_592 : decode cL_hangs 592 = .ok (.if_icmp .lt 31, 3) := by decide +kernel
theorem dL_hangs_595 : decode cL_hangs 595 = .ok (.iload 11, 2) := by decide +kernel
theorem dL_hangs_597 : decode cL_hangs 597 = .ok (.ifCond .eq 22, 3) := by decide +kernel
theorem dL_hangs_600 : decode cL_hangs 600 = .ok (.aload_n 0, 1) := by decide +kernel
theorem dL_hangs_601 : decode cL_hangs 601 = .ok (.iload 6, 2) := by decide +kernel
theorem dL_hangs_603 : decode cL_hangs 603 = .ok (.iload 10, 2) := by decide +kernel
theorem dL_hangs_605 : decode cL_hangs 605 = .ok (.iconst 0, 1) := by decide +kernel
theorem dL_hangs_606 : decode cL_hangs 606 = .ok (.invokevirtual 75, 3) := by decide +kernel
theorem dL_hangs_609 : decode cL_hangs 609 = .ok (.aload_n 0, 1) := by decide +kernel
theorem dL_hangs_610 : decode cL_hangs 610 = .ok (.iload 6, 2) := by decide +kernel
theorem dL_hangs_612 : decode cL_hangs 612 = .ok (.iconst 1, 1) := by decide +kernel
theorem dL_hangs_613 : decode cL_hangs 613 = .ok (.invokevirtual 56, 3) := by decide +kernel
theorem dL_hangs_616 : decode cL_hangs 616 = .ok (.if_icmp .gt 7, 3) := by decide +kernel
theorem dL_hangs_619 : decode cL_hangs 619 = .ok (.iconst 1, 1) := by decide +kernel
theorem dL_hangs_620 : decode cL_hangs 620 = .ok (.goto 4, 3) := by decide +kernel
theorem dL_hangs_623 : decode cL_hangs 623 = .ok (.iconst 0, 1) := by decide +kernel
theorem dL_hangs_624 : decode cL_hangs 624 = .ok (.istore 5, 2) := by decide +kernel
theorem dL_hangs_626 : decode cL_hangs 626 = .ok (.iinc 10 133, 6) := by decide +kernel
theorem dL_hangs_632 : decode cL_hangs 632 = .ok (.goto (-220), 3) := by decide +kernel
theorem dL_hangs_635 : decode cL_hangs 635 = .ok (.iinc 6 1, 3) := by decide +kernel
theorem dL_hangs_638 : decode cL_hangs 638 = .ok (.goto (-538), 3) := by decide +kernel
theorem dL_hangs_641 : decode cL_hangs 641 = .ok (.iconst 0, 1) := by decide +kernel
theorem dL_hangs_642 : decode cL_hangs 642 = .ok (.istore 6, 2) := by decide +kernel
theorem dL_hangs_644 : decode cL_hangs 644 = .ok (.iconst 0, 1) := by decide +kernel
theorem dL_hangs_645 : decode cL_hangs 645 = .ok (.istore 7, 2) := by decide +kernel
theorem dL_hangs_647 : decode cL_hangs 647 = .ok (.iconst 0, 1) := by decide +kernel
theorem dL_hangs_648 : decode cL_hangs 648 = .ok (.istore 8, 2) := by decide +kernel
theorem dL_hangs_650 : decode cL_hangs 650 = .ok (.iload 8, 2) := by decide +kernel
theorem dL_hangs_652 : decode cL_hangs 652 = .ok (.iconst 2, 1) := by decide +kernel
theorem dL_hangs_653 : decode cL_hangs 653 = .ok (.if_icmp .ge 212, 3) := by decide +kernel
theorem dL_hangs_656 : decode cL_hangs 656 = .ok (.iload 5, 2) := by decide +kernel
theorem dL_hangs_658 : decode cL_hangs 658 = .ok (.ifCond .eq 207, 3) := by decide +kernel
theorem dL_hangs_661 : decode cL_hangs 661 = .ok (.aload_n 0, 1) := by decide +kernel
theorem dL_hangs_662 : decode cL_hangs 662 = .ok (.iload 8, 2) := by decide +kernel
theorem dL_hangs_664 : decode cL_hangs 664 = .ok (.iconst 0, 1) := by decide +kernel
theorem dL_hangs_665 : decode cL_hangs 665 = .ok (.invokevirtual 60, 3) := by decide +kernel
theorem dL_hangs_668 : decode cL_hangs 668 = .ok (.istore 9, 2) := by decide +kernel
theorem dL_hangs_670 : decode cL_hangs 670 = .ok (.iload 6, 2) := by decide +kernel
theorem dL_hangs_672 : decode cL_hangs 672 = .ok (.aload_n 0, 1) := by decide +kernel
theorem dL_hangs_673 : decode cL_hangs 673 = .ok (.iload 8, 2) := by decide +kernel
theorem dL_hangs_675 : decode cL_hangs 675 = .ok (.iconst 1, 1) := by decide +kernel
theorem dL_hangs_676 : decode cL_hangs 676 = .ok (.invokevirtual 60, 3) := by decide +kernel
theorem dL_hangs_679 : decode cL_hangs 679 = .ok (.aload_n 0, 1) := by decide +kernel
theorem dL_hangs_680 : decode cL_hangs 680 = .ok (.iload 8, 2) := by decide +kernel
theorem dL_hangs_682 : decode cL_hangs 682 = .ok (.iconst 2, 1) := by decide +kernel
theorem dL_hangs_683 : decode cL_hangs 683 = .ok (.invokevirtual 60, 3) := by decide +kernel
theorem dL_hangs_686 : decode cL_hangs 686 = .ok (.iadd, 1) := by decide +kernel
theorem dL_hangs_687 : decode cL_hangs 687 = .ok (.iadd, 1) := by decide +kernel
theorem dL_hangs_688 : decode cL_hangs 688 = .ok (.istore 6, 2) := by decide +kernel
theorem dL_hangs_690 : decode cL_hangs 690 = .ok (.iload 7, 2) := by decide +kernel
theorem dL_hangs_692 : decode cL_hangs 692 = .ok (.aload_n 0, 1) := by decide +kernel
theorem dL_hangs_693 : decode cL_hangs 693 = .ok (.iload 8, 2) := by decide +kernel
theorem dL_hangs_695 : decode cL_hangs 695 = .ok (.iconst 1, 1) := by decide +kernel
theorem dL_hangs_696 : decode cL_hangs 696 = .ok (.invokevirtual 60, 3) := by decide +kernel
theorem dL_hangs_699 : decode cL_hangs 699 = .ok (.iadd, 1) := by decide +kernel
theorem dL_hangs_700 : decode cL_hangs 700 = .ok (.istore 7, 2) := by decide +kernel
theorem dL_hangs_702 : decode cL_hangs 702 = .ok (.iload 9, 2) := by decide +kernel
theorem dL_hangs_704 : decode cL_hangs 704 = .ok (.bipush (-4), 2) := by decide +kernel
theorem dL_hangs_706 : decode cL_hangs 706 = .ok (.if_icmp .eq 26, 3) := by decide +kernel
theorem dL_hangs_709 : decode cL_hangs 709 = .ok (.iload 9, 2) := by decide +kernel
theorem dL_hangs_711 : decode cL_hangs 711 = .ok (.ifCond .lt 145, 3) := by decide +kernel
theorem dL_hangs_714 : decode cL_hangs 714 = .ok (.iload 9, 2) := by decide +kernel
theorem dL_hangs_716 : decode cL_hangs 716 = .ok (.iconst 4, 1) := by decide +kernel
theorem dL_hangs_717 : decode cL_hangs 717 = .ok (.if_icmp .ge 139, 3) := by decide +kernel
theorem dL_hangs_720 : decode cL_hangs 720 = .ok (.aload_n 0, 1) := by decide +kernel
theorem dL_hangs_721 : decode cL_hangs 721 = .ok (.iload 9, 2) := by decide +kernel
theorem dL_hangs_723 : decode cL_hangs 723 = .ok (.iconst 4, 1) := by decide +kernel
theorem dL_hangs_724 : decode cL_hangs 724 = .ok (.invokevirtual 56, 3) := by decide +kernel
theorem dL_hangs_727 : decode cL_hangs 727 = .ok (.iload 8, 2) := by decide +kernel
theorem dL_hangs_729 : decode cL_hangs 729 = .ok (.if_icmp .ne 127, 3) := by decide +kernel
theorem dL_hangs_732 : decode cL_hangs 732 = .ok (.iload 9, 2) := by decide +kernel
theorem dL_hangs_734 : decode cL_hangs 734 = .ok (.bipush (-4), 2) := by decide +kernel
theorem dL_hangs_736 : decode cL_hangs 736 = .ok (.if_icmp .ne 7, 3) := by decide +kernel
theorem dL_hangs_739 : decode cL_hangs 739 = .ok (.iconst 1, 1) := by decide +kernel
theorem dL_hangs_740 : decode cL_hangs 740 = .ok (.goto 4, 3) := by decide +kernel
theorem dL_hangs_743 : decode cL_hangs 743 = .ok (.iconst 0, 1) := by decide +kernel
theorem dL_hangs_744 : decode cL_hangs 744 = .ok (.aload_n 0, 1) := by decide +kernel
theorem dL_hangs_745 : decode cL_hangs 745 = .ok (.iload 8, 2) := by decide +kernel
theorem dL_hangs_747 : decode cL_hangs 747 = .ok (.invokevirtual 78, 3) := by decide +kernel
theorem dL_hangs_750 : decode cL_hangs 750 = .ok (.iconst 1, 1) := by decide +kernel
theorem dL_hangs_751 : decode cL_hangs 751 = .ok (.if_icmp .ne 7, 3) := by decide +kernel
theorem dL_hangs_754 : decode cL_hangs 754 = .ok (.iconst 1, 1) := by decide +kernel
theorem dL_hangs_755 : decode cL_hangs 755 = .ok (.goto 4, 3) := by decide +kernel
theorem dL_hangs_758 : decode cL_hangs 758 = .ok (.iconst 0, 1) := by decide +kernel
theorem dL_hangs_759 : decode cL_hangs 759 = .ok (.if_icmp .ne 97, 3) := by decide +kernel
theorem dL_hangs_762 : decode cL_hangs 762 = .ok (.aload_n 0, 1) := by decide +kernel
theorem dL_hangs_763 : decode cL_hangs 763 = .ok (.iload 8, 2) := by decide +kernel
theorem dL_hangs_765 : decode cL_hangs 765 = .ok (.iconst 5, 1) := by decide +kernel
theorem dL_hangs_766 : decode cL_hangs 766 = .ok (.invokevirtual 60, 3) := by decide +kernel
theorem dL_hangs_769 : decode cL_hangs 769 = .ok (.bipush (-4), 2) := by decide +kernel
theorem dL_hangs_771 : decode cL_hangs 771 = .ok (.if_icmp .ne 7, 3) := by decide +kernel
theorem dL_hangs_774 : decode cL_hangs 774 = .ok (.iconst 1, 1) := by decide +kernel
theorem dL_hangs_775 : decode cL_hangs 775 = .ok (.goto 4, 3) := by decide +kernel
theorem dL_hangs_778 : decode cL_hangs 778 = .ok (.iconst 0, 1) := by decide +kernel
theorem dL_hangs_779 : decode cL_hangs 779 = .ok (.aload_n 0, 1) := by decide +kernel
theorem dL_hangs_780 : decode cL_hangs 780 = .ok (.iload 8, 2) := by decide +kernel
theorem dL_hangs_782 : decode cL_hangs 782 = .ok (.iconst 1, 1) := by decide +kernel
theorem dL_hangs_783 : decode cL_hangs 783 = .ok (.invokevirtual 60, 3) := by decide +kernel
theorem dL_hangs_786 : decode cL_hangs 786 = .ok (.aload_n 0, 1) := by decide +kernel
theorem dL_hangs_787 : decode cL_hangs 787 = .ok (.iload 8, 2) := by decide +kernel
theorem dL_hangs_789 : decode cL_hangs 789 = .ok (.iconst 2, 1) := by decide +kernel
theorem dL_hangs_790 : decode cL_hangs 790 = .ok (.invokevirtual 60, 3) := by decide +kernel
theorem dL_hangs_793 : decode cL_hangs 793 = .ok (.iadd, 1) := by decide +kernel
theorem dL_hangs_794 : decode cL_hangs 794 = .ok (.ifCond .ne 7, 3) := by decide +kernel
theorem dL_hangs_797 : decode cL_hangs 797 = .ok (.iconst 1, 1) := by decide +kernel
theorem dL_hangs_798 : decode cL_hangs 798 = .ok (.goto 4, 3) := by decide +kernel
theorem dL_hangs_801 : decode cL_hangs 801 = .ok (.iconst 0, 1) := by decide +kernel
theorem dL_hangs_802 : decode cL_hangs 802 = .ok (.if_icmp .ne 54, 3) := by decide +kernel
theorem dL_hangs_805 : decode cL_hangs 805 = .ok (.aload_n 0, 1) := by decide +kernel
theorem dL_hangs_806 : decode cL_hangs 806 = .ok (.iload 8, 2) := by decide +kernel
theorem dL_hangs_808 : decode cL_hangs 808 = .ok (.iconst 5, 1) := by decide +kernel
theorem dL_hangs_809 : decode cL_hangs 809 = .ok (.invokevirtual 60, 3) := by decide +kernel
theorem dL_hangs_812 : decode cL_hangs 812 = .ok (.bipush 100, 2) := by decide +kernel
theorem dL_hangs_814 : decode cL_hangs 814 = .ok (.if_icmp .gt 42, 3) := by decide +kernel
theorem dL_hangs_817 : decode cL_hangs 817 = .ok (.aload_n 0, 1) := by decide +kernel
theorem dL_hangs_818 : decode cL_hangs 818 = .ok (.iload 8, 2) := by decide +kernel
theorem dL_hangs_820 : decode cL_hangs 820 = .ok (.iconst 4, 1) := by decide +kernel
theorem dL_hangs_821 : decode cL_hangs 821 = .ok (.invokevirtual 60, 3) := by decide +kernel
theorem dL_hangs_824 : decode cL_hangs 824 = .ok (.aload_n 0, 1) := by decide +kernel
theorem dL_hangs_825 : decode cL_hangs 825 = .ok (.iload 8, 2) := by decide +kernel
theorem dL_hangs_827 : decode cL_hangs 827 = .ok (.iconst 1, 1) := by decide +kernel
theorem dL_hangs_828 : decode cL_hangs 828 = .ok (.invokevirtual 60, 3) := by decide +kernel
theorem dL_hangs_831 : decode cL_hangs 831 = .ok (.aload_n 0, 1) := by decide +kernel
theorem dL_hangs_832 : decode cL_hangs 832 = .ok (.iload 8, 2) := by decide +kernel
theorem dL_hangs_834 : decode cL_hangs 834 = .ok (.iconst 2, 1) := by decide +kernel
theorem dL_hangs_835 : decode cL_hangs 835 = .ok (.invokevirtual 60, 3) := by decide +kernel
theorem dL_hangs_838 : decode cL_hangs 838 = .ok (.iadd, 1) := by decide +kernel
theorem dL_hangs_839 : decode cL_hangs 839 = .ok (.if_icmp .lt 17, 3) := by decide +kernel
theorem dL_hangs_842 : decode cL_hangs 842 = .ok (.aload_n 0, 1) := by decide +kernel
theorem dL_hangs_843 : decode cL_hangs 843 = .ok (.iload 8, 2) := by decide +kernel
theorem dL_hangs_845 : decode cL_hangs 845 = .ok (.iconst 3, 1) := by decide +kernel
theorem dL_hangs_846 : decode cL_hangs 846 = .ok (.invokevirtual 60, 3) := by decide +kernel
theorem dL_hangs_849 : decode cL_hangs 849 = .ok (.ifCond .lt 7, 3) := by decide +kernel
theorem dL_hangs_852 : decode cL_hangs 852 = .ok (.iconst 1, 1) := by decide +kernel
theorem dL_hangs_853 : decode cL_hangs 853 = .ok (.goto 4, 3) := by decide +kernel
theorem dL_hangs_856 : decode cL_hangs 856 = .ok (.iconst 0, 1) := by decide +kernel
theorem dL_hangs_857 : decode cL_hangs 857 = .ok (.istore 5, 2) := by decide +kernel
theorem dL_hangs_859 : decode cL_hangs 859 = .ok (.iinc 8 1, 3) := by decide +kernel
theorem dL_hangs_862 : decode cL_hangs 862 = .ok (.goto (-212), 3) := by decide +kernel
theorem dL_hangs_865 : decode cL_hangs 865 = .ok (.iload 5, 2) := by decide +kernel
theorem dL_hangs_867 : decode cL_hangs 867 = .ok (.ifCond .eq 13, 3) := by decide +kernel
theorem dL_hangs_870 : decode cL_hangs 870 = .ok (.aload_n 0, 1) := by decide +kernel
theorem dL_hangs_871 : decode cL_hangs 871 = .ok (.bipush 100, 2) := by decide +kernel
theorem dL_hangs_873 : decode cL_hangs 873 = .ok (.iconst 5, 1) := by decide +kernel
theorem dL_hangs_874 : decode cL_hangs 874 = .ok (.invokevirtual 81, 3) := by decide +kernel
theorem dL_hangs_877 : decode cL_hangs 877 = .ok (.goto 5, 3) := by decide +kernel
theorem dL_hangs_880 : decode cL_hangs 880 = .ok (.bipush (-4), 2) := by decide +kernel
theorem dL_hangs_882 : decode cL_hangs 882 = .ok (.istore 8, 2) := by decide +kernel
theorem dL_hangs_884 : decode cL_hangs 884 = .ok (.iload 5, 2) := by decide +kernel
theorem dL_hangs_886 : decode cL_hangs 886 = .ok (.ifCond .eq 27, 3) := by decide +kernel
theorem dL_hangs_889 : decode cL_hangs 889 = .ok (.iload 8, 2) := by decide +kernel
theorem dL_hangs_891 : decode cL_hangs 891 = .ok (.bipush (-4), 2) := by decide +kernel
theorem dL_hangs_893 : decode cL_hangs 893 = .ok (.if_icmp .eq 16, 3) := by decide +kernel
theorem dL_hangs_896 : decode cL_hangs 896 = .ok (.aload_n 0, 1) := by decide +kernel
theorem dL_hangs_897 : decode cL_hangs 897 = .ok (.iload 8, 2) := by decide +kernel
theorem dL_hangs_899 : decode cL_hangs 899 = .ok (.bipush 100, 2) := by decide +kernel
theorem dL_hangs_901 : decode cL_hangs 901 = .ok (.iconst 1, 1) := by decide +kernel
theorem dL_hangs_902 : decode cL_hangs 902 = .ok (.invokevirtual 63, 3) := by decide +kernel
theorem dL_hangs_905 : decode cL_hangs 905 = .ok (.iconst 5, 1) := by decide +kernel
theorem dL_hangs_906 : decode cL_hangs 906 = .ok (.if_icmp .lt 7, 3) := by decide +kernel
theorem dL_hangs_909 : decode cL_hangs 909 = .ok (.iconst 1, 1) := by decide +kernel
theorem dL_hangs_910 : decode cL_hangs 910 = .ok (.goto 4, 3) := by decide +kernel
theorem dL_hangs_913 : decode cL_hangs 913 = .ok (.iconst 0, 1) := by decide +kernel
theorem dL_hangs_914 : decode cL_hangs 914 = .ok (.istore 5, 2) := by decide +kernel
theorem dL_hangs_916 : decode cL_hangs 916 = .ok (.iload 5, 2) := by decide +kernel
theorem dL_hangs_918 : decode cL_hangs 918 = .ok (.ifCond .eq 124, 3) := by decide +kernel
theorem dL_hangs_921 : decode cL_hangs 921 = .ok (.iload_n 1, 1) := by decide +kernel
theorem dL_hangs_922 : decode cL_hangs 922 = .ok (.aload_n 0, 1) := by decide +kernel
theorem dL_hangs_923 : decode cL_hangs 923 = .ok (.iconst 0, 1) := by decide +kernel
theorem dL_hangs_924 : decode cL_hangs 924 = .ok (.invokevirtual 53, 3) := by decide +kernel
theorem dL_hangs_927 : decode cL_hangs 927 = .ok (.if_icmp .ne 115, 3) := by decide +kernel
theorem dL_hangs_930 : decode cL_hangs 930 = .ok (.iload_n 1, 1) := by decide +kernel
theorem dL_hangs_931 : decode cL_hangs 931 = .ok (.aload_n 0, 1) := by decide +kernel
theorem dL_hangs_932 : decode cL_hangs 932 = .ok (.iconst 1, 1) := by decide +kernel
theorem dL_hangs_933 : decode cL_hangs 933 = .ok (.invokevirtual 53, 3) := by decide +kernel
theorem dL_hangs_936 : decode cL_hangs 936 = .ok (.iadd, 1) := by decide +kernel
theorem dL_hangs_937 : decode cL_hangs 937 = .ok (.aload_n 0, 1) := by decide +kernel
theorem dL_hangs_938 : decode cL_hangs 938 = .ok (.iconst 2, 1) := by decide +kernel
theorem dL_hangs_939 : decode cL_hangs 939 = .ok (.invokevirtual 53, 3) := by decide +kernel
theorem dL_hangs_942 : decode cL_hangs 942 = .ok (.iadd, 1) := by decide +kernel
theorem dL_hangs_943 : decode cL_hangs 943 = .ok (.sipush 16000, 3) := by decide +kernel
theorem dL_hangs_946 : decode cL_hangs 946 = .ok (.aload_n 0, 1) := by decide +kernel
theorem dL_hangs_947 : decode cL_hangs 947 = .ok (.iconst 3, 1) := by decide +kernel
theorem dL_hangs_948 : decode cL_hangs 948 = .ok (.invokevirtual 53, 3) := by decide +kernel
theorem dL_hangs_951 : decode cL_hangs 951 = .ok (.iadd, 1) := by decide +kernel
theorem dL_hangs_952 : decode cL_hangs 952 = .ok (.if_icmp .ne 90, 3) := by decide +kernel
theorem dL_hangs_955 : decode cL_hangs 955 = .ok (.iload_n 2, 1) := by decide +kernel
theorem dL_hangs_956 : decode cL_hangs 956 = .ok (.aload_n 0, 1) := by decide +kernel
theorem dL_hangs_957 : decode cL_hangs 957 = .ok (.bipush 6, 2) := by decide +kernel
theorem dL_hangs_959 : decode cL_hangs 959 = .ok (.invokevirtual 53, 3) := by decide +kernel
theorem dL_hangs_962 : decode cL_hangs 962 = .ok (.if_icmp .ne 80, 3) := by decide +kernel
theorem dL_hangs_965 : decode cL_hangs 965 = .ok (.iload_n 3, 1) := by decide +kernel
theorem dL_hangs_966 : decode cL_hangs 966 = .ok (.aload_n 0, 1) := by decide +kernel
theorem dL_hangs_967 : decode cL_hangs 967 = .ok (.bipush 7, 2) := by decide +kernel
theorem dL_hangs_969 : decode cL_hangs 969 = .ok (.invokevirtual 53, 3) := by decide +kernel
theorem dL_hangs_972 : decode cL_hangs 972 = .ok (.if_icmp .ne 70, 3) := by decide +kernel
theorem dL_hangs_975 : decode cL_hangs 975 = .ok (.iload 4, 2) := by decide +kernel
theorem dL_hangs_977 : decode cL_hangs 977 = .ok (.aload_n 0, 1) := by decide +kernel
theorem dL_hangs_978 : decode cL_hangs 978 = .ok (.iconst 5, 1) := by decide +kernel
theorem dL_hangs_979 : decode cL_hangs 979 = .ok (.invokevirtual 53, 3) := by decide +kernel
theorem dL_hangs_982 : decode cL_hangs 982 = .ok (.if_icmp .ne 60, 3) := by decide +kernel
theorem dL_hangs_985 : decode cL_hangs 985 = .ok (.iload 6, 2) := by decide +kernel
theorem dL_hangs_987 : decode cL_hangs 987 = .ok (.aload_n 0, 1) := by decide +kernel
theorem dL_hangs_988 : decode cL_hangs 988 = .ok (.iconst 4, 1) := by decide +kernel
theorem dL_hangs_989 : decode cL_hangs 989 = .ok (.invokevirtual 53, 3) := by decide +kernel
theorem dL_hangs_992 : decode cL_hangs 992 = .ok (.if_icmp .ne 50, 3) := by decide +kernel
theorem dL_hangs_995 : decode cL_hangs 995 = .ok (.aload_n 0, 1) := by decide +kernel
theorem dL_hangs_996 : decode cL_hangs 996 = .ok (.invokevirtual 84, 3) := by decide +kernel
theorem dL_hangs_999 : decode cL_hangs 999 = .ok (.iload 6, 2) := by decide +kernel
theorem dL_hangs_1001 : decode cL_hangs 1001 = .ok (.ifCond .ne 7, 3) := by decide +kernel
theorem dL_hangs_1004 : decode cL_hangs 1004 = .ok (.dconst 1, 1) := by decide +kernel
theorem dL_hangs_1005 : decode cL_hangs 1005 = .ok (.goto 10, 3) := by decide +kernel
theorem dL_hangs_1008 : decode cL_hangs 1008 = .ok (.iload 7, 2) := by decide +kernel
theorem dL_hangs_1010 : decode cL_hangs 1010 = .ok (.i2d, 1) := by decide +kernel
theorem dL_hangs_1011 : decode cL_hangs 1011 = .ok (.iload 6, 2) := by decide +kernel
theorem dL_hangs_1013 : decode cL_hangs 1013 = .ok (.i2d, 1) := by decide +kernel
theorem dL_hangs_1014 : decode cL_hangs 1014 = .ok (.ddiv, 1) := by decide +kernel
theorem dL_hangs_1015 : decode cL_hangs 1015 = .ok (.dcmp .l, 1) := by decide +kernel
theorem dL_hangs_1016 : decode cL_hangs 1016 = .ok (.ifCond .ne 26, 3) := by decide +kernel
theorem dL_hangs_1019 : decode cL_hangs 1019 = .ok (.aload_n 0, 1) := by decide +kernel
theorem dL_hangs_1020 : decode cL_hangs 1020 = .ok (.bipush 13, 2) := by decide +kernel
theorem dL_hangs_1022 : decode cL_hangs 1022 = .ok (.invokevirtual 53, 3) := by decide +kernel
theorem dL_hangs_1025 : decode cL_hangs 1025 = .ok (.ifCond .lt 17, 3) := by decide +kernel
theorem dL_hangs_1028 : decode cL_hangs 1028 = .ok (.aload_n 0, 1) := by decide +kernel
theorem dL_hangs_1029 : decode cL_hangs 1029 = .ok (.bipush 13, 2) := by decide +kernel
theorem dL_hangs_1031 : decode cL_hangs 1031 = .ok (.invokevirtual 53, 3) := by decide +kernel
theorem dL_hangs_1034 : decode cL_hangs 1034 = .ok (.iconst 5, 1) := by decide +kernel
theorem dL_hangs_1035 : decode cL_hangs 1035 = .ok (.if_icmp .ge 7, 3) := by decide +kernel
theorem dL_hangs_1038 : decode cL_hangs 1038 = .ok (.iconst 1, 1) := by decide +kernel
theorem dL_hangs_1039 : decode cL_hangs 1039 = .ok (.goto 4, 3) := by decide +kernel
theorem dL_hangs_1042 : decode cL_hangs 1042 = .ok (.iconst 0, 1) := by decide +kernel
theorem dL_hangs_1043 : decode cL_hangs 1043 = .ok (.ireturn, 1) := by decide +kernel
theorem dL_same_0 : decode cL_same 0 = .ok (.iconst 1, 1) := by decide +kernel
theorem dL_same_1 : decode cL_same 1 = .ok (.istore_n 2, 1) := by decide +kernel
theorem dL_same_2 : decode cL_same 2 = .ok (.iconst 0, 1) := by decide +kernel
theorem dL_same_3 : decode cL_same 3 = .ok (.istore_n 3, 1) := by decide +kernel
theorem dL_same_4 : decode cL_same 4 = .ok (.iload_n 3, 1) := by decide +kernel
theorem dL_same_5 : decode cL_same 5 = .ok (.bipush 14, 2) := by decide +kernel
theorem dL_same_7 : decode cL_same 7 = .ok (.if_icmp .ge 38, 3) := by decide +kernel
theorem dL_same_10 : decode cL_same 10 = .ok (.iload_n 2, 1) := by decide +kernel
theorem dL_same_11 : decode cL_same 11 = .ok (.ifCond .eq 34, 3) := by decide +kernel
theorem dL_same_14 : decode cL_same 14 = .ok (.aload_n 0, 1) := by decide +kernel
theorem dL_same_15 : decode cL_same 15 = .ok (.iload_n 3, 1) := by decide +kernel
theorem dL_same_16 : decode cL_same 16 = .ok (.invokevirtual 53, 3) := by decide +kernel
theorem dL_same_19 : decode cL_same 19 = .ok (.aload_n 1, 1) := by decide +kernel
theorem dL_same_20 : decode cL_same 20 = .ok (.iload_n 3, 1) := by decide +kernel
theorem dL_same_21 : decode cL_same 21 = .ok (.invokevirtual 53, 3) := by decide +kernel
theorem dL_same_24 : decode cL_same 24 = .ok (.if_icmp .eq 9, 3) := by decide +kernel
theorem dL_same_27 : decode cL_same 27 = .ok (.iload_n 3, 1) := by decide +kernel
theorem dL_same_28 : decode cL_same 28 = .ok (.bipush 12, 2) := by decide +kernel
theorem dL_same_30 : decode cL_same 30 = .ok (.if_icmp .ne 7, 3) := by decide +kernel
theorem dL_same_33 : decode cL_same 33 = .ok (.iconst 1, 1) := by decide +kernel
theorem dL_same_34 : decode cL_same 34 = .ok (.goto 4, 3) := by decide +kernel
theorem dL_same_37 : decode cL_same 37 = .ok (.iconst 0, 1) := by decide +kernel
theorem dL_same_38 : decode cL_same 38 = .ok (.istore_n 2, 1) := by decide +kernel
theorem dL_same_39 : decode cL_same 39 = .ok (.iinc 3 1, 3) := by decide +kernel
theorem dL_same_42 : decode cL_same 42 = .ok (.goto (-38), 3) := by decide +kernel
theorem dL_same_45 : decode cL_same 45 = .ok (.iconst 0, 1) := by decide +kernel
theorem dL_same_46 : decode cL_same 46 = .ok (.istore_n 3, 1) := by decide +kernel
theorem dL_same_47 : decode cL_same 47 = .ok (.iload_n 3, 1) := by decide +kernel
theorem dL_same_48 : decode cL_same 48 = .ok (.iconst 4, 1) := by decide +kernel
theorem dL_same_49 : decode cL_same 49 = .ok (.if_icmp .ge 107, 3) := by decide +kernel
theorem dL_same_52 : decode cL_same 52 = .ok (.iload_n 2, 1) := by decide +kernel
theorem dL_same_53 : decode cL_same 53 = .ok (.ifCond .eq 103, 3) := by decide +kernel
theorem dL_same_56 : decode cL_same 56 = .ok (.aload_n 0, 1) := by decide +kernel
theorem dL_same_57 : decode cL_same 57 = .ok (.iload_n 3, 1) := by decide +kernel
theorem dL_same_58 : decode cL_same 58 = .ok (.invokevirtual 88, 3) := by decide +kernel
theorem dL_same_61 : decode cL_same 61 = .ok (.aload_n 1, 1) := by decide +kernel
theorem dL_same_62 : decode cL_same 62 = .ok (.iload_n 3, 1) := by decide +kernel
theorem dL_same_63 : decode cL_same 63 = .ok (.invokevirtual 88, 3) := by decide +kernel
theorem dL_same_66 : decode cL_same 66 = .ok (.if_icmp .ne 82, 3) := by decide +kernel
theorem dL_same_69 : decode cL_same 69 = .ok (.aload_n 0, 1) := by decide +kernel
theorem dL_same_70 : decode cL_same 70 = .ok (.iload_n 3, 1) := by decide +kernel
theorem dL_same_71 : decode cL_same 71 = .ok (.iconst 0, 1) := by decide +kernel
theorem dL_same_72 : decode cL_same 72 = .ok (.invokevirtual 56, 3) := by decide +kernel
theorem dL_same_75 : decode cL_same 75 = .ok (.aload_n 1, 1) := by decide +kernel
theorem dL_same_76 : decode cL_same 76 = .ok (.iload_n 3, 1) := by decide +kernel
theorem dL_same_77 : decode cL_same 77 = .ok (.iconst 0, 1) := by decide +kernel
theorem dL_same_78 : decode cL_same 78 = .ok (.invokevirtual 56, 3) := by decide +kernel
theorem dL_same_81 : decode cL_same 81 = .ok (.if_icmp .ne 67, 3) := by decide +kernel
theorem dL_same_84 : decode cL_same 84 = .ok (.aload_n 0, 1) := by decide +kernel
theorem dL_same_85 : decode cL_same 85 = .ok (.iload_n 3, 1) := by decide +kernel
theorem dL_same_86 : decode cL_same 86 = .ok (.iconst 1, 1) := by decide +kernel
theorem dL_same_87 : decode cL_same 87 = .ok (.invokevirtual 56, 3) := by decide +kernel
theorem dL_same_90 : decode cL_same 90 = .ok (.aload_n 1, 1) := by decide +kernel
theorem dL_same_91 : decode cL_same 91 = .ok (.iload_n 3, 1) := by decide +kernel
theorem dL_same_92 : decode cL_same 92 = .ok (.iconst 1, 1) := by decide +kernel
theorem dL_same_93 : decode cL_same 93 = .ok (.invokevirtual 56, 3) := by decide +kernel
theorem dL_same_96 : decode cL_same 96 = .ok (.if_icmp .ne 52, 3) := by decide +kernel
theorem dL_same_99 : decode cL_same 99 = .ok (.aload_n 0, 1) := by decide +kernel
theorem dL_same_100 : decode cL_same 100 = .ok (.iload_n 3, 1) := by decide +kernel
theorem dL_same_101 : decode cL_same 101 = .ok (.iconst 2, 1) := by decide +kernel
theorem dL_same_102 : decode cL_same 102 = .ok (.invokevirtual 56, 3) := by decide +kernel
theorem dL_same_105 : decode cL_same 105 = .ok (.aload_n 1, 1) := by decide +kernel
theorem dL_same_106 : decode cL_same 106 = .ok (.iload_n 3, 1) := by decide +kernel
theorem dL_same_107 : decode cL_same 107 = .ok (.iconst 2, 1) := by decide +kernel
theorem dL_same_108 : decode cL_same 108 = .ok (.invokevirtual 56, 3) := by decide +kernel
theorem dL_same_111 : decode cL_same 111 = .ok (.if_icmp .ne 37, 3) := by decide +kernel
theorem dL_same_114 : decode cL_same 114 = .ok (.aload_n 0, 1) := by decide +kernel
theorem dL_same_115 : decode cL_same 115 = .ok (.iload_n 3, 1) := by decide +kernel
theorem dL_same_116 : decode cL_same 116 = .ok (.iconst 3, 1) := by decide +kernel
theorem dL_same_117 : decode cL_same 117 = .ok (.invokevirtual 56, 3) := by decide +kernel
theorem dL_same_120 : decode cL_same 120 = .ok (.aload_n 1, 1) := by decide +kernel
theorem dL_same_121 : decode cL_same 121 = .ok (.iload_n 3, 1) := by decide +kernel
theorem dL_same_122 : decode cL_same 122 = .ok (.iconst 3, 1) := by decide +kernel
theorem dL_same_123 : decode cL_same 123 = .ok (.invokevirtual 56, 3) := by decide +kernel
theorem dL_same_126 : decode cL_same 126 = .ok (.if_icmp .ne 22, 3) := by decide +kernel
theorem dL_same_129 : decode cL_same 129 = .ok (.aload_n 0, 1) := by decide +kernel
theorem dL_same_130 : decode cL_same 130 = .ok (.iload_n 3, 1) := by decide +kernel
theorem dL_same_131 : decode cL_same 131 = .ok (.iconst 4, 1) := by decide +kernel
theorem dL_same_132 : decode cL_same 132 = .ok (.invokevirtual 56, 3) := by decide +kernel
theorem dL_same_135 : decode cL_same 135 = .ok (.aload_n 1, 1) := by decide +kernel
theorem dL_same_136 : decode cL_same 136 = .ok (.iload_n 3, 1) := by decide +kernel
theorem dL_same_137 : decode cL_same 137 = .ok (.iconst 4, 1) := by decide +kernel
theorem dL_same_138 : decode cL_same 138 = .ok (.invokevirtual 56, 3) := by decide +kernel
theorem dL_same_141 : decode cL_same 141 = .ok (.if_icmp .ne 7, 3) := by decide +kernel
theorem dL_same_144 : decode cL_same 144 = .ok (.iconst 1, 1) := by decide +kernel
theorem dL_same_145 : decode cL_same 145 = .ok (.goto 4, 3) := by decide +kernel
theorem dL_same_148 : decode cL_same 148 = .ok (.iconst 0, 1) := by decide +kernel
theorem dL_same_149 : decode cL_same 149 = .ok (.istore_n 2, 1) := by decide +kernel
theorem dL_same_150 : decode cL_same 150 = .ok (.iinc 3 1, 3) := by decide +kernel
theorem dL_same_153 : decode cL_same 153 = .ok (.goto (-106), 3) := by decide +kernel
theorem dL_same_156 : decode cL_same 156 = .ok (.iconst 0, 1) := by decide +kernel
theorem dL_same_157 : decode cL_same 157 = .ok (.istore_n 3, 1) := by decide +kernel
theorem dL_same_158 : decode cL_same 158 = .ok (.iload_n 3, 1) := by decide +kernel
theorem dL_same_159 : decode cL_same 159 = .ok (.bipush 6, 2) := by decide +kernel
theorem dL_same_161 : decode cL_same 161 = .ok (.if_icmp .ge 49, 3) := by decide +kernel
theorem dL_same_164 : decode cL_same 164 = .ok (.iload_n 2, 1) := by decide +kernel
theorem dL_same_165 : decode cL_same 165 = .ok (.ifCond .eq 45, 3) := by decide +kernel
theorem dL_same_168 : decode cL_same 168 = .ok (.aload_n 0, 1) := by decide +kernel
theorem dL_same_169 : decode cL_same 169 = .ok (.iconst 0, 1) := by decide +kernel
theorem dL_same_170 : decode cL_same 170 = .ok (.iload_n 3, 1) := by decide +kernel
theorem dL_same_171 : decode cL_same 171 = .ok (.invokevirtual 60, 3) := by decide +kernel
theorem dL_same_174 : decode cL_same 174 = .ok (.aload_n 1, 1) := by decide +kernel
theorem dL_same_175 : decode cL_same 175 = .ok (.iconst 0, 1) := by decide +kernel
theorem dL_same_176 : decode cL_same 176 = .ok (.iload_n 3, 1) := by decide +kernel
theorem dL_same_177 : decode cL_same 177 = .ok (.invokevirtual 60, 3) := by decide +kernel
theorem dL_same_180 : decode cL_same 180 = .ok (.if_icmp .ne 22, 3) := by decide +kernel
theorem dL_same_183 : decode cL_same 183 = .ok (.aload_n 0, 1) := by decide +kernel
theorem dL_same_184 : decode cL_same 184 = .ok (.iconst 1, 1) := by decide +kernel
theorem dL_same_185 : decode cL_same 185 = .ok (.iload_n 3, 1) := by decide +kernel
theorem dL_same_186 : decode cL_same 186 = .ok (.invokevirtual 60, 3) := by decide +kernel
theorem dL_same_189 : decode cL_same 189 = .ok (.aload_n 1, 1) := by decide +kernel
theorem dL_same_190 : decode cL_same 190 = .ok (.iconst 1, 1) := by decide +kernel
theorem dL_same_191 : decode cL_same 191 = .ok (.iload_n 3, 1) := by decide +kernel
theorem dL_same_192 : decode cL_same 192 = .ok (.invokevirtual 60, 3) := by decide +kernel
theorem dL_same_195 : decode cL_same 195 = .ok (.if_icmp .ne 7, 3) := by decide +kernel
theorem dL_same_198 : decode cL_same 198 = .ok (.iconst 1, 1) := by decide +kernel
theorem dL_same_199 : decode cL_same 199 = .ok (.goto 4, 3) := by decide +kernel
theorem dL_same_202 : decode cL_same 202 = .ok (.iconst 0, 1) := by decide +kernel
theorem dL_same_203 : decode cL_same 203 = .ok (.istore_n 2, 1) := by decide +kernel
theorem dL_same_204 : decode cL_same 204 = .ok (.iinc 3 1, 3) := by decide +kernel
theorem dL_same_207 : decode cL_same 207 = .ok (.goto (-49), 3) := by decide +kernel
theorem dL_same_210 : decode cL_same 210 = .ok (.iload_n 2, 1) := by decide +kernel
theorem dL_same_211 : decode cL_same 211 = .ok (.ireturn, 1) := by decide +kernel
theorem dL_refuses_0 : decode cL_refuses 0 = .ok (.iload_n 1, 1) := by decide +kernel
theorem dL_refuses_1 : decode cL_refuses 1 = .ok (.iconst 2, 1) := by decide +kernel
theorem dL_refuses_2 : decode cL_refuses 2 = .ok (.irem, 1) := by decide +kernel
theorem dL_refuses_3 : decode cL_refuses 3 = .ok (.ifCond .ne 9, 3) := by decide +kernel
theorem dL_refuses_6 : decode cL_refuses 6 = .ok (.iconst 4, 1) := by decide +kernel
theorem dL_refuses_7 : decode cL_refuses 7 = .ok (.iload_n 1, 1) := by decide +kernel
theorem dL_refuses_8 : decode cL_refuses 8 = .ok (.iadd, 1) := by decide +kernel
theorem dL_refuses_9 : decode cL_refuses 9 = .ok (.goto 6, 3) := by decide +kernel
theorem dL_refuses_12 : decode cL_refuses 12 = .ok (.iconst (-1), 1) := by decide +kernel
theorem dL_refuses_13 : decode cL_refuses 13 = .ok (.iload_n 1, 1) := by decide +kernel
theorem dL_refuses_14 : decode cL_refuses 14 = .ok (.isub, 1) := by decide +kernel
theorem dL_refuses_15 : decode cL_refuses 15 = .ok (.istore_n 2, 1) := by decide +kernel
theorem dL_refuses_16 : decode cL_refuses 16 = .ok (.aload_n 0, 1) := by decide +kernel
theorem dL_refuses_17 : decode cL_refuses 17 = .ok (.iload_n 2, 1) := by decide +kernel
theorem dL_refuses_18 : decode cL_refuses 18 = .ok (.iconst 1, 1) := by decide +kernel
theorem dL_refuses_19 : decode cL_refuses 19 = .ok (.invokevirtual 50, 3) := by decide +kernel
theorem dL_refuses_22 : decode cL_refuses 22 = .ok (.iconst (-1), 1) := by decide +kernel
theorem dL_refuses_23 : decode cL_refuses 23 = .ok (.if_icmp .ne 386, 3) := by decide +kernel
theorem dL_refuses_26 : decode cL_refuses 26 = .ok (.aload_n 0, 1) := by decide +kernel
theorem dL_refuses_27 : decode cL_refuses 27 = .ok (.iconst 0, 1) := by decide +kernel
theorem dL_refuses_28 : decode cL_refuses 28 = .ok (.iconst 0, 1) := by decide +kernel
theorem dL_refuses_29 : decode cL_refuses 29 = .ok (.invokevirtual 50, 3) := by decide +kernel
theorem dL_refuses_32 : decode cL_refuses 32 = .ok (.iconst (-1), 1) := by decide +kernel
theorem dL_refuses_33 : decode cL_refuses 33 = .ok (.if_icmp .ne 376, 3) := by decide +kernel
theorem dL_refuses_36 : decode cL_refuses 36 = .ok (.aload_n 0, 1) := by decide +kernel
theorem dL_refuses_37 : decode cL_refuses 37 = .ok (.iconst 1, 1) := by decide +kernel
theorem dL_refuses_38 : decode cL_refuses 38 = .ok (.sipush 1000, 3) := by decide +kernel
theorem dL_refuses_41 : decode cL_refuses 41 = .ok (.iload_n 1, 1) := by decide +kernel
theorem dL_refuses_42 : decode cL_refuses 42 = .ok (.iadd, 1) := by decide +kernel
theorem dL_refuses_43 : decode cL_refuses 43 = .ok (.invokevirtual 50, 3) := by decide +kernel
theorem dL_refuses_46 : decode cL_refuses 46 = .ok (.iconst (-1), 1) := by decide +kernel
theorem dL_refuses_47 : decode cL_refuses 47 = .ok (.if_icmp .ne 362, 3) := by decide +kernel
theorem dL_refuses_50 : decode cL_refuses 50 = .ok (.aload_n 0, 1) := by decide +kernel
theorem dL_refuses_51 : decode cL_refuses 51 = .ok (.iload_n 2, 1) := by decide +kernel
theorem dL_refuses_52 : decode cL_refuses 52 = .ok (.invokevirtual 9, 3) := by decide +kernel
theorem dL_refuses_55 : decode cL_refuses 55 = .ok (.iconst (-1), 1) := by decide +kernel
theorem dL_refuses_56 : decode cL_refuses 56 = .ok (.if_icmp .ne 353, 3) := by decide +kernel
theorem dL_refuses_59 : decode cL_refuses 59 = .ok (.aload_n 0, 1) := by decide +kernel
theorem dL_refuses_60 : decode cL_refuses 60 = .ok (.iload_n 2, 1) := by decide +kernel
theorem dL_refuses_61 : decode cL_refuses 61 = .ok (.iconst 0, 1) := by decide +kernel
theorem dL_refuses_62 : decode cL_refuses 62 = .ok (.invokevirtual 15, 3) := by decide +kernel
theorem dL_refuses_65 : decode cL_refuses 65 = .ok (.iconst (-1), 1) := by decide +kernel
theorem dL_refuses_66 : decode cL_refuses 66 = .ok (.if_icmp .ne 343, 3) := by decide +kernel
theorem dL_refuses_69 : decode cL_refuses 69 = .ok (.aload_n 0, 1) := by decide +kernel
theorem dL_refuses_70 : decode cL_refuses 70 = .ok (.iconst 0, 1) := by decide +kernel
theorem dL_refuses_71 : decode cL_refuses 71 = .ok (.iload_n 2, 1) := by decide +kernel
theorem dL_refuses_72 : decode cL_refuses 72 = .ok (.invokevirtual 15, 3) := by decide +kernel
theorem dL_refuses_75 : decode cL_refuses 75 = .ok (.iconst (-1), 1) := by decide +kernel
theorem dL_refuses_76 : decode cL_refuses 76 = .ok (.if_icmp .ne 333, 3) := by decide +kernel
theorem dL_refuses_79 : decode cL_refuses 79 = .ok (.aload_n 0, 1) := by decide +kernel
theorem dL_refuses_80 : decode cL_refuses 80 = .ok (.iload_n 2, 1) := by decide +kernel
theorem dL_refuses_81 : decode cL_refuses 81 = .ok (.invokevirtual 19, 3) := by decide +kernel
theorem dL_refuses_84 : decode cL_refuses 84 = .ok (.iconst (-1), 1) := by decide +kernel
theorem dL_refuses_85 : decode cL_refuses 85 = .ok (.if_icmp .ne 324, 3) := by decide +kernel
theorem dL_refuses_88 : decode cL_refuses 88 = .ok (.aload_n 0, 1) := by decide +kernel
theorem dL_refuses_89 : decode cL_refuses 89 = .ok (.iload_n 2, 1) := by decide +kernel
theorem dL_refuses_90 : decode cL_refuses 90 = .ok (.iconst 1, 1) := by decide +kernel
theorem dL_refuses_91 : decode cL_refuses 91 = .ok (.invokevirtual 22, 3) := by decide +kernel
theorem dL_refuses_94 : decode cL_refuses 94 = .ok (.iconst (-1), 1) := by decide +kernel
theorem dL_refuses_95 : decode cL_refuses 95 = .ok (.if_icmp .ne 314, 3) := by decide +kernel
theorem dL_refuses_98 : decode cL_refuses 98 = .ok (.aload_n 0, 1) := by decide +kernel
theorem dL_refuses_99 : decode cL_refuses 99 = .ok (.iconst 0, 1) := by decide +kernel
theorem dL_refuses_100 : decode cL_refuses 100 = .ok (.iconst 0, 1) := by decide +kernel
theorem dL_refuses_101 : decode cL_refuses 101 = .ok (.invokevirtual 22, 3) := by decide +kernel
theorem dL_refuses_104 : decode cL_refuses 104 = .ok (.iconst (-1), 1) := by decide +kernel
theorem dL_refuses_105 : decode cL_refuses 105 = .ok (.if_icmp .ne 304, 3) := by decide +kernel
theorem dL_refuses_108 : decode cL_refuses 108 = .ok (.aload_n 0, 1) := by decide +kernel
theorem dL_refuses_109 : decode cL_refuses 109 = .ok (.iconst 0, 1) := by decide +kernel
theorem dL_refuses_110 : decode cL_refuses 110 = .ok (.sipush 6001, 3) := by decide +kernel
theorem dL_refuses_113 : decode cL_refuses 113 = .ok (.iload_n 1, 1) := by decide +kernel
theorem dL_refuses_114 : decode cL_refuses 114 = .ok (.iadd, 1) := by decide +kernel
theorem dL_refuses_115 : decode cL_refuses 115 = .ok (.invokevirtual 22, 3) := by decide +kernel
theorem dL_refuses_118 : decode cL_refuses 118 = .ok (.iconst (-1), 1) := by decide +kernel
theorem dL_refuses_119 : decode cL_refuses 119 = .ok (.if_icmp .ne 290, 3) := by decide +kernel
theorem dL_refuses_122 : decode cL_refuses 122 = .ok (.aload_n 0, 1) := by decide +kernel
theorem dL_refuses_123 : decode cL_refuses 123 = .ok (.iload_n 2, 1) := by decide +kernel
theorem dL_refuses_124 : decode cL_refuses 124 = .ok (.iconst 1, 1) := by decide +kernel
theorem dL_refuses_125 : decode cL_refuses 125 = .ok (.invokevirtual 25, 3) := by decide +kernel
theorem dL_refuses_128 : decode cL_refuses 128 = .ok (.iconst (-1), 1) := by decide +kernel
theorem dL_refuses_129 : decode cL_refuses 129 = .ok (.if_icmp .ne 280, 3) := by decide +kernel
theorem dL_refuses_132 : decode cL_refuses 132 = .ok (.aload_n 0, 1) := by decide +kernel
theorem dL_refuses_133 : decode cL_refuses 133 = .ok (.iconst 0, 1) := by decide +kernel
theorem dL_refuses_134 : decode cL_refuses 134 = .ok (.iconst 0, 1) := by decide +kernel
theorem dL_refuses_135 : decode cL_refuses 135 = .ok (.invokevirtual 25, 3) := by decide +kernel
theorem dL_refuses_138 : decode cL_refuses 138 = .ok (.iconst (-1), 1) := by decide +kernel
theorem dL_refuses_139 : decode cL_refuses 139 = .ok (.if_icmp .ne 270, 3) := by decide +kernel
theorem dL_refuses_142 : decode cL_refuses 142 = .ok (.aload_n 0, 1) := by decide +kernel
theorem dL_refuses_143 : decode cL_refuses 143 = .ok (.iconst 1, 1) := by decide +kernel
theorem dL_refuses_144 : decode cL_refuses 144 = .ok (.bipush 51, 2) := by decide +kernel
theorem dL_refuses_146 : decode cL_refuses 146 = .ok (.iload_n 1, 1) := by decide +kernel
theorem dL_refuses_147 : decode cL_refuses 147 = .ok (.iadd, 1) := by decide +kernel
theorem dL_refuses_148 : decode cL_refuses 148 = .ok (.invokevirtual 25, 3) := by decide +kernel
theorem dL_refuses_151 : decode cL_refuses 151 = .ok (.iconst (-1), 1) := by decide +kernel
theorem dL_refuses_152 : decode cL_refuses 152 = .ok (.if_icmp .ne 257, 3) := by decide +kernel
theorem dL_refuses_155 : decode cL_refuses 155 = .ok (.aload_n 0, 1) := by decide +kernel
theorem dL_refuses_156 : decode cL_refuses 156 = .ok (.iconst 2, 1) := by decide +kernel
theorem dL_refuses_157 : decode cL_refuses 157 = .ok (.iconst (-1), 1) := by decide +kernel
theorem dL_refuses_158 : decode cL_refuses 158 = .ok (.iload_n 1, 1) := by decide +kernel
theorem dL_refuses_159 : decode cL_refuses 159 = .ok (.isub, 1) := by decide +kernel
theorem dL_refuses_160 : decode cL_refuses 160 = .ok (.invokevirtual 25, 3) := by decide +kernel
theorem dL_refuses_163 : decode cL_refuses 163 = .ok (.iconst (-1), 1) := by decide +kernel
theorem dL_refuses_164 : decode cL_refuses 164 = .ok (.if_icmp .ne 245, 3) := by decide +kernel
theorem dL_refuses_167 : decode cL_refuses 167 = .ok (.aload_n 0, 1) := by decide +kernel
theorem dL_refuses_168 : decode cL_refuses 168 = .ok (.iconst 3, 1) := by decide +kernel
theorem dL_refuses_169 : decode cL_refuses 169 = .ok (.sipush 501, 3) := by decide +kernel
theorem dL_refuses_172 : decode cL_refuses 172 = .ok (.iload_n 1, 1) := by decide +kernel
theorem dL_refuses_173 : decode cL_refuses 173 = .ok (.iadd, 1) := by decide +kernel
theorem dL_refuses_174 : decode cL_refuses 174 = .ok (.invokevirtual 25, 3) := by decide +kernel
theorem dL_refuses_177 : decode cL_refuses 177 = .ok (.iconst (-1), 1) := by decide +kernel
theorem dL_refuses_178 : decode cL_refuses 178 = .ok (.if_icmp .ne 231, 3) := by decide +kernel
theorem dL_refuses_181 : decode cL_refuses 181 = .ok (.aload_n 0, 1) := by decide +kernel
theorem dL_refuses_182 : decode cL_refuses 182 = .ok (.bipush 32, 2) := by decide +kernel
theorem dL_refuses_184 : decode cL_refuses 184 = .ok (.iload_n 1, 1) := by decide +kernel
theorem dL_refuses_185 : decode cL_refuses 185 = .ok (.isub, 1) := by decide +kernel
theorem dL_refuses_186 : decode cL_refuses 186 = .ok (.invokevirtual 41, 3) := by decide +kernel
theorem dL_refuses_189 : decode cL_refuses 189 = .ok (.iconst (-1), 1) := by decide +kernel
theorem dL_refuses_190 : decode cL_refuses 190 = .ok (.if_icmp .ne 219, 3) := by decide +kernel
theorem dL_refuses_193 : decode cL_refuses 193 = .ok (.aload_n 0, 1) := by decide +kernel
theorem dL_refuses_194 : decode cL_refuses 194 = .ok (.bipush 127, 2) := by decide +kernel
theorem dL_refuses_196 : decode cL_refuses 196 = .ok (.iload_n 1, 1) := by decide +kernel
theorem dL_refuses_197 : decode cL_refuses 197 = .ok (.iadd, 1) := by decide +kernel
theorem dL_refuses_198 : decode cL_refuses 198 = .ok (.invokevirtual 41, 3) := by decide +kernel
theorem dL_refuses_201 : decode cL_refuses 201 = .ok (.iconst (-1), 1) := by decide +kernel
theorem dL_refuses_202 : decode cL_refuses 202 = .ok (.if_icmp .ne 207, 3) := by decide +kernel
theorem dL_refuses_205 : decode cL_refuses 205 = .ok (.aload_n 0, 1) := by decide +kernel
theorem dL_refuses_206 : decode cL_refuses 206 = .ok (.iload_n 2, 1) := by decide +kernel
theorem dL_refuses_207 : decode cL_refuses 207 = .ok (.invokevirtual 88, 3) := by decide +kernel
theorem dL_refuses_210 : decode cL_refuses 210 = .ok (.iconst (-1), 1) := by decide +kernel
theorem dL_refuses_211 : decode cL_refuses 211 = .ok (.if_icmp .ne 198, 3) := by decide +kernel
theorem dL_refuses_214 : decode cL_refuses 214 = .ok (.aload_n 0, 1) := by decide +kernel
theorem dL_refuses_215 : decode cL_refuses 215 = .ok (.iload_n 2, 1) := by decide +kernel
theorem dL_refuses_216 : decode cL_refuses 216 = .ok (.iconst 0, 1) := by decide +kernel
theorem dL_refuses_217 : decode cL_refuses 217 = .ok (.invokevirtual 56, 3) := by decide +kernel
theorem dL_refuses_220 : decode cL_refuses 220 = .ok (.iconst (-1), 1) := by decide +kernel
theorem dL_refuses_221 : decode cL_refuses 221 = .ok (.if_icmp .ne 188, 3) := by decide +kernel
theorem dL_refuses_224 : decode cL_refuses 224 = .ok (.aload_n 0, 1) := by decide +kernel
theorem dL_refuses_225 : decode cL_refuses 225 = .ok (.iconst 0, 1) := by decide +kernel
theorem dL_refuses_226 : decode cL_refuses 226 = .ok (.bipush 8, 2) := by decide +kernel
theorem dL_refuses_228 : decode cL_refuses 228 = .ok (.iload_n 1, 1) := by decide +kernel
theorem dL_refuses_229 : decode cL_refuses 229 = .ok (.iadd, 1) := by decide +kernel
theorem dL_refuses_230 : decode cL_refuses 230 = .ok (.invokevirtual 56, 3) := by decide +kernel
theorem dL_refuses_233 : decode cL_refuses 233 = .ok (.iconst (-1), 1) := by decide +kernel
theorem dL_refuses_234 : decode cL_refuses 234 = .ok (.if_icmp .ne 175, 3) := by decide +kernel
theorem dL_refuses_237 : decode cL_refuses 237 = .ok (.aload_n 0, 1) := by decide +kernel
theorem dL_refuses_238 : decode cL_refuses 238 = .ok (.iload_n 2, 1) := by decide +kernel
theorem dL_refuses_239 : decode cL_refuses 239 = .ok (.iconst 0, 1) := by decide +kernel
theorem dL_refuses_240 : decode cL_refuses 240 = .ok (.invokevirtual 60, 3) := by decide +kernel
theorem dL_refuses_243 : decode cL_refuses 243 = .ok (.iconst (-1), 1) := by decide +kernel
theorem dL_refuses_244 : decode cL_refuses 244 = .ok (.if_icmp .ne 165, 3) := by decide +kernel
theorem dL_refuses_247 : decode cL_refuses 247 = .ok (.aload_n 0, 1) := by decide +kernel
theorem dL_refuses_248 : decode cL_refuses 248 = .ok (.iconst 0, 1) := by decide +kernel
theorem dL_refuses_249 : decode cL_refuses 249 = .ok (.bipush 6, 2) := by decide +kernel
theorem dL_refuses_251 : decode cL_refuses 251 = .ok (.iload_n 1, 1) := by decide +kernel
theorem dL_refuses_252 : decode cL_refuses 252 = .ok (.iadd, 1) := by decide +kernel
theorem dL_refuses_253 : decode cL_refuses 253 = .ok (.invokevirtual 60, 3) := by decide +kernel
theorem dL_refuses_256 : decode cL_refuses 256 = .ok (.iconst (-1), 1) := by decide +kernel
theorem dL_refuses_257 : decode cL_refuses 257 = .ok (.if_icmp .ne 152, 3) := by decide +kernel
theorem dL_refuses_260 : decode cL_refuses 260 = .ok (.aload_n 0, 1) := by decide +kernel
theorem dL_refuses_261 : decode cL_refuses 261 = .ok (.iload_n 2, 1) := by decide +kernel
theorem dL_refuses_262 : decode cL_refuses 262 = .ok (.iconst 1, 1) := by decide +kernel
theorem dL_refuses_263 : decode cL_refuses 263 = .ok (.iconst 0, 1) := by decide +kernel
theorem dL_refuses_264 : decode cL_refuses 264 = .ok (.invokevirtual 75, 3) := by decide +kernel
theorem dL_refuses_267 : decode cL_refuses 267 = .ok (.iconst (-1), 1) := by decide +kernel
theorem dL_refuses_268 : decode cL_refuses 268 = .ok (.if_icmp .ne 141, 3) := by decide +kernel
theorem dL_refuses_271 : decode cL_refuses 271 = .ok (.aload_n 0, 1) := by decide +kernel
theorem dL_refuses_272 : decode cL_refuses 272 = .ok (.iconst 0, 1) := by decide +kernel
theorem dL_refuses_273 : decode cL_refuses 273 = .ok (.sipush 1000, 3) := by decide +kernel
theorem dL_refuses_276 : decode cL_refuses 276 = .ok (.iload_n 1, 1) := by decide +kernel
theorem dL_refuses_277 : decode cL_refuses 277 = .ok (.iadd, 1) := by decide +kernel
theorem dL_refuses_278 : decode cL_refuses 278 = .ok (.iconst 0, 1) := by decide +kernel
theorem dL_refuses_279 : decode cL_refuses 279 = .ok (.invokevirtual 75, 3) := by decide +kernel
theorem dL_refuses_282 : decode cL_refuses 282 = .ok (.iconst (-1), 1) := by decide +kernel
theorem dL_refuses_283 : decode cL_refuses 283 = .ok (.if_icmp .ne 126, 3) := by decide +kernel
theorem dL_refuses_286 : decode cL_refuses 286 = .ok (.aload_n 0, 1) := by decide +kernel
theorem dL_refuses_287 : decode cL_refuses 287 = .ok (.iconst 0, 1) := by decide +kernel
theorem dL_refuses_288 : decode cL_refuses 288 = .ok (.iconst 1, 1) := by decide +kernel
theorem dL_refuses_289 : decode cL_refuses 289 = .ok (.iconst 2, 1) := by decide +kernel
theorem dL_refuses_290 : decode cL_refuses 290 = .ok (.iload_n 1, 1) := by decide +kernel
theorem dL_refuses_291 : decode cL_refuses 291 = .ok (.iadd, 1) := by decide +kernel
theorem dL_refuses_292 : decode cL_refuses 292 = .ok (.invokevirtual 75, 3) := by decide +kernel
theorem dL_refuses_295 : decode cL_refuses 295 = .ok (.iconst (-1), 1) := by decide +kernel
theorem dL_refuses_296 : decode cL_refuses 296 = .ok (.if_icmp .ne 113, 3) := by decide +kernel
theorem dL_refuses_299 : decode cL_refuses 299 = .ok (.aload_n 0, 1) := by decide +kernel
theorem dL_refuses_300 : decode cL_refuses 300 = .ok (.iload_n 2, 1) := by decide +kernel
theorem dL_refuses_301 : decode cL_refuses 301 = .ok (.invokevirtual 78, 3) := by decide +kernel
theorem dL_refuses_304 : decode cL_refuses 304 = .ok (.iconst (-1), 1) := by decide +kernel
theorem dL_refuses_305 : decode cL_refuses 305 = .ok (.if_icmp .ne 104, 3) := by decide +kernel
theorem dL_refuses_308 : decode cL_refuses 308 = .ok (.aload_n 0, 1) := by decide +kernel
theorem dL_refuses_309 : decode cL_refuses 309 = .ok (.bipush 14, 2) := by decide +kernel
theorem dL_refuses_311 : decode cL_refuses 311 = .ok (.iload_n 1, 1) := by decide +kernel
theorem dL_refuses_312 : decode cL_refuses 312 = .ok (.iadd, 1) := by decide +kernel
theorem dL_refuses_313 : decode cL_refuses 313 = .ok (.invokevirtual 53, 3) := by decide +kernel
theorem dL_refuses_316 : decode cL_refuses 316 = .ok (.iconst (-1), 1) := by decide +kernel
theorem dL_refuses_317 : decode cL_refuses 317 = .ok (.if_icmp .ne 92, 3) := by decide +kernel
theorem dL_refuses_320 : decode cL_refuses 320 = .ok (.aload_n 0, 1) := by decide +kernel
theorem dL_refuses_321 : decode cL_refuses 321 = .ok (.iconst (-1), 1) := by decide +kernel
theorem dL_refuses_322 : decode cL_refuses 322 = .ok (.iload_n 1, 1) := by decide +kernel
theorem dL_refuses_323 : decode cL_refuses 323 = .ok (.isub, 1) := by decide +kernel
theorem dL_refuses_324 : decode cL_refuses 324 = .ok (.invokevirtual 53, 3) := by decide +kernel
theorem dL_refuses_327 : decode cL_refuses 327 = .ok (.iconst (-1), 1) := by decide +kernel
theorem dL_refuses_328 : decode cL_refuses 328 = .ok (.if_icmp .ne 81, 3) := by decide +kernel
theorem dL_refuses_331 : decode cL_refuses 331 = .ok (.aload_n 0, 1) := by decide +kernel
theorem dL_refuses_332 : decode cL_refuses 332 = .ok (.iload_n 2, 1) := by decide +kernel
theorem dL_refuses_333 : decode cL_refuses 333 = .ok (.iconst 1, 1) := by decide +kernel
theorem dL_refuses_334 : decode cL_refuses 334 = .ok (.iconst 1, 1) := by decide +kernel
theorem dL_refuses_335 : decode cL_refuses 335 = .ok (.invokevirtual 63, 3) := by decide +kernel
theorem dL_refuses_338 : decode cL_refuses 338 = .ok (.iconst (-1), 1) := by decide +kernel
theorem dL_refuses_339 : decode cL_refuses 339 = .ok (.if_icmp .ne 70, 3) := by decide +kernel
theorem dL_refuses_342 : decode cL_refuses 342 = .ok (.aload_n 0, 1) := by decide +kernel
theorem dL_refuses_343 : decode cL_refuses 343 = .ok (.iconst 0, 1) := by decide +kernel
theorem dL_refuses_344 : decode cL_refuses 344 = .ok (.iconst 1, 1) := by decide +kernel
theorem dL_refuses_345 : decode cL_refuses 345 = .ok (.bipush 51, 2) := by decide +kernel
theorem dL_refuses_347 : decode cL_refuses 347 = .ok (.iload_n 1, 1) := by decide +kernel
theorem dL_refuses_348 : decode cL_refuses 348 = .ok (.iadd, 1) := by decide +kernel
theorem dL_refuses_349 : decode cL_refuses 349 = .ok (.iconst 0, 1) := by decide +kernel
theorem dL_refuses_350 : decode cL_refuses 350 = .ok (.invokevirtual 71, 3) := by decide +kernel
theorem dL_refuses_353 : decode cL_refuses 353 = .ok (.iconst (-1), 1) := by decide +kernel
theorem dL_refuses_354 : decode cL_refuses 354 = .ok (.if_icmp .ne 55, 3) := by decide +kernel
theorem dL_refuses_357 : decode cL_refuses 357 = .ok (.aload_n 0, 1) := by decide +kernel
theorem dL_refuses_358 : decode cL_refuses 358 = .ok (.iconst 0, 1) := by decide +kernel
theorem dL_refuses_359 : decode cL_refuses 359 = .ok (.iconst 1, 1) := by decide +kernel
theorem dL_refuses_360 : decode cL_refuses 360 = .ok (.iconst 1, 1) := by decide +kernel
theorem dL_refuses_361 : decode cL_refuses 361 = .ok (.iconst 2, 1) := by decide +kernel
theorem dL_refuses_362 : decode cL_refuses 362 = .ok (.iload_n 1, 1) := by decide +kernel
theorem dL_refuses_363 : decode cL_refuses 363 = .ok (.iadd, 1) := by decide +kernel
theorem dL_refuses_364 : decode cL_refuses 364 = .ok (.invokevirtual 71, 3) := by decide +kernel
theorem dL_refuses_367 : decode cL_refuses 367 = .ok (.iconst (-1), 1) := by decide +kernel
theorem dL_refuses_368 : decode cL_refuses 368 = .ok (.if_icmp .ne 41, 3) := by decide +kernel
theorem dL_refuses_371 : decode cL_refuses 371 = .ok (.aload_n 0, 1) := by decide +kernel
theorem dL_refuses_372 : decode cL_refuses 372 = .ok (.iconst 0, 1) := by decide +kernel
theorem dL_refuses_373 : decode cL_refuses 373 = .ok (.iconst 1, 1) := by decide +kernel
theorem dL_refuses_374 : decode cL_refuses 374 = .ok (.invokevirtual 81, 3) := by decide +kernel
theorem dL_refuses_377 : decode cL_refuses 377 = .ok (.iconst (-1), 1) := by decide +kernel
theorem dL_refuses_378 : decode cL_refuses 378 = .ok (.if_icmp .ne 31, 3) := by decide +kernel
theorem dL_refuses_381 : decode cL_refuses 381 = .ok (.aload_n 0, 1) := by decide +kernel
theorem dL_refuses_382 : decode cL_refuses 382 = .ok (.iconst 1, 1) := by decide +kernel
theorem dL_refuses_383 : decode cL_refuses 383 = .ok (.bipush 51, 2) := by decide +kernel
theorem dL_refuses_385 : decode cL_refuses 385 = .ok (.iload_n 1, 1) := by decide +kernel
theorem dL_refuses_386 : decode cL_refuses 386 = .ok (.iadd, 1) := by decide +kernel
theorem dL_refuses_387 : decode cL_refuses 387 = .ok (.invokevirtual 81, 3) := by decide +kernel
theorem dL_refuses_390 : decode cL_refuses 390 = .ok (.iconst (-1), 1) := by decide +kernel
theorem dL_refuses_391 : decode cL_refuses 391 = .ok (.if_icmp .ne 18, 3) := by decide +kernel
theorem dL_refuses_394 : decode cL_refuses 394 = .ok (.aload_n 0, 1) := by decide +kernel
theorem dL_refuses_395 : decode cL_refuses 395 = .ok (.iload_n 2, 1) := by decide +kernel
theorem dL_refuses_396 : decode cL_refuses 396 = .ok (.iconst 1, 1) := by decide +kernel
theorem dL_refuses_397 : decode cL_refuses 397 = .ok (.iconst 1, 1) := by decide +kernel
theorem dL_refuses_398 : decode cL_refuses 398 = .ok (.invokevirtual 67, 3) := by decide +kernel
theorem dL_refuses_401 : decode cL_refuses 401 = .ok (.iconst (-1), 1) := by decide +kernel
theorem dL_refuses_402 : decode cL_refuses 402 = .ok (.if_icmp .ne 7, 3) := by decide +kernel
theorem dL_refuses_405 : decode cL_refuses 405 = .ok (.iconst 1, 1) := by decide +kernel
theorem dL_refuses_406 : decode cL_refuses 406 = .ok (.goto 4, 3) := by decide +kernel
theorem dL_refuses_409 : decode cL_refuses 409 = .ok (.iconst 0, 1) := by decide +kernel
theorem dL_refuses_410 : decode cL_refuses 410 = .ok (.istore_n 3, 1) := by decide +kernel
theorem dL_refuses_411 : decode cL_refuses 411 = .ok (.aload_n 0, 1) := by decide +kernel
theorem dL_refuses_412 : decode cL_refuses 412 = .ok (.invokevirtual 38, 3) := by decide +kernel
theorem dL_refuses_415 : decode cL_refuses 415 = .ok (.istore 4, 2) := by decide +kernel
theorem dL_refuses_417 : decode cL_refuses 417 = .ok (.iload_n 3, 1) := by decide +kernel
theorem dL_refuses_418 : decode cL_refuses 418 = .ok (.ifCond .eq 70, 3) := by decide +kernel
theorem dL_refuses_421 : decode cL_refuses 421 = .ok (.iload 4, 2) := by decide +kernel
theorem dL_refuses_423 : decode cL_refuses 423 = .ok (.ifCond .lt 65, 3) := by decide +kernel
theorem dL_refuses_426 : decode cL_refuses 426 = .ok (.aload_n 0, 1) := by decide +kernel
theorem dL_refuses_427 : decode cL_refuses 427 = .ok (.invokevirtual 44, 3) := by decide +kernel
theorem dL_refuses_430 : decode cL_refuses 430 = .ok (.ifCond .ne 58, 3) := by decide +kernel
theorem dL_refuses_433 : decode cL_refuses 433 = .ok (.aload_n 0, 1) := by decide +kernel
theorem dL_refuses_434 : decode cL_refuses 434 = .ok (.invokevirtual 47, 3) := by decide +kernel
theorem dL_refuses_437 : decode cL_refuses 437 = .ok (.bipush (-2), 2) := by decide +kernel
theorem dL_refuses_439 : decode cL_refuses 439 = .ok (.if_icmp .ne 49, 3) := by decide +kernel
theorem dL_refuses_442 : decode cL_refuses 442 = .ok (.aload_n 0, 1) := by decide +kernel
theorem dL_refuses_443 : decode cL_refuses 443 = .ok (.iconst 0, 1) := by decide +kernel
theorem dL_refuses_444 : decode cL_refuses 444 = .ok (.iconst 0, 1) := by decide +kernel
theorem dL_refuses_445 : decode cL_refuses 445 = .ok (.invokevirtual 60, 3) := by decide +kernel
theorem dL_refuses_448 : decode cL_refuses 448 = .ok (.bipush (-4), 2) := by decide +kernel
theorem dL_refuses_450 : decode cL_refuses 450 = .ok (.if_icmp .ne 13, 3) := by decide +kernel
theorem dL_refuses_453 : decode cL_refuses 453 = .ok (.aload_n 0, 1) := by decide +kernel
theorem dL_refuses_454 : decode cL_refuses 454 = .ok (.iconst 0, 1) := by decide +kernel
theorem dL_refuses_455 : decode cL_refuses 455 = .ok (.invokevirtual 19, 3) := by decide +kernel
theorem dL_refuses_458 : decode cL_refuses 458 = .ok (.bipush (-2), 2) := by decide +kernel
theorem dL_refuses_460 : decode cL_refuses 460 = .ok (.if_icmp .ne 28, 3) := by decide +kernel
theorem dL_refuses_463 : decode cL_refuses 463 = .ok (.aload_n 0, 1) := by decide +kernel
theorem dL_refuses_464 : decode cL_refuses 464 = .ok (.iconst 1, 1) := by decide +kernel
theorem dL_refuses_465 : decode cL_refuses 465 = .ok (.iconst 0, 1) := by decide +kernel
theorem dL_refuses_466 : decode cL_refuses 466 = .ok (.invokevirtual 60, 3) := by decide +kernel
theorem dL_refuses_469 : decode cL_refuses 469 = .ok (.bipush (-4), 2) := by decide +kernel
theorem dL_refuses_471 : decode cL_refuses 471 = .ok (.if_icmp .ne 13, 3) := by decide +kernel
theorem dL_refuses_474 : decode cL_refuses 474 = .ok (.aload_n 0, 1) := by decide +kernel
theorem dL_refuses_475 : decode cL_refuses 475 = .ok (.iconst 1, 1) := by decide +kernel
theorem dL_refuses_476 : decode cL_refuses 476 = .ok (.invokevirtual 19, 3) := by decide +kernel
theorem dL_refuses_479 : decode cL_refuses 479 = .ok (.bipush (-2), 2) := by decide +kernel
theorem dL_refuses_481 : decode cL_refuses 481 = .ok (.if_icmp .ne 7, 3) := by decide +kernel
theorem dL_refuses_484 : decode cL_refuses 484 = .ok (.iconst 1, 1) := by decide +kernel
theorem dL_refuses_485 : decode cL_refuses 485 = .ok (.goto 4, 3) := by decide +kernel
theorem dL_refuses_488 : decode cL_refuses 488 = .ok (.iconst 0, 1) := by decide +kernel
theorem dL_refuses_489 : decode cL_refuses 489 = .ok (.ireturn, 1) := by decide +kernel
theorem dL_law_0 : decode cL_law 0 = .ok (.new 10, 3) := by decide +kernel
theorem dL_law_3 : decode cL_law 3 = .ok (.dup, 1) := by decide +kernel
theorem dL_law_4 : decode cL_law 4 = .ok (.invokespecial 91, 3) := by decide +kernel
theorem dL_law_7 : decode cL_law 7 = .ok (.astore_n 1, 1) := by decide +kernel
theorem dL_law_8 : decode cL_law 8 = .ok (.new 10, 3) := by decide +kernel
theorem dL_law_11 : decode cL_law 11 = .ok (.dup, 1) := by decide +kernel
theorem dL_law_12 : decode cL_law 12 = .ok (.invokespecial 91, 3) := by decide +kernel
theorem dL_law_15 : decode cL_law 15 = .ok (.astore_n 2, 1) := by decide +kernel
theorem dL_law_16 : decode cL_law 16 = .ok (.aload_n 1, 1) := by decide +kernel
theorem dL_law_17 : decode cL_law 17 = .ok (.invokevirtual 28, 3) := by decide +kernel
theorem dL_law_20 : decode cL_law 20 = .ok (.bipush (-2), 2) := by decide +kernel
theorem dL_law_22 : decode cL_law 22 = .ok (.if_icmp .ne 51, 3) := by decide +kernel
theorem dL_law_25 : decode cL_law 25 = .ok (.aload_n 1, 1) := by decide +kernel
theorem dL_law_26 : decode cL_law 26 = .ok (.invokevirtual 35, 3) := by decide +kernel
theorem dL_law_29 : decode cL_law 29 = .ok (.bipush (-2), 2) := by decide +kernel
theorem dL_law_31 : decode cL_law 31 = .ok (.if_icmp .ne 42, 3) := by decide +kernel
theorem dL_law_34 : decode cL_law 34 = .ok (.aload_n 1, 1) := by decide +kernel
theorem dL_law_35 : decode cL_law 35 = .ok (.invokevirtual 44, 3) := by decide +kernel
theorem dL_law_38 : decode cL_law 38 = .ok (.ifCond .ne 35, 3) := by decide +kernel
theorem dL_law_41 : decode cL_law 41 = .ok (.aload_n 1, 1) := by decide +kernel
theorem dL_law_42 : decode cL_law 42 = .ok (.iconst 0, 1) := by decide +kernel
theorem dL_law_43 : decode cL_law 43 = .ok (.invokevirtual 88, 3) := by decide +kernel
theorem dL_law_46 : decode cL_law 46 = .ok (.bipush (-4), 2) := by decide +kernel
theorem dL_law_48 : decode cL_law 48 = .ok (.if_icmp .ne 25, 3) := by decide +kernel
theorem dL_law_51 : decode cL_law 51 = .ok (.aload_n 1, 1) := by decide +kernel
theorem dL_law_52 : decode cL_law 52 = .ok (.iconst 0, 1) := by decide +kernel
theorem dL_law_53 : decode cL_law 53 = .ok (.invokevirtual 53, 3) := by decide +kernel
theorem dL_law_56 : decode cL_law 56 = .ok (.sipush 16000, 3) := by decide +kernel
theorem dL_law_59 : decode cL_law 59 = .ok (.if_icmp .ne 14, 3) := by decide +kernel
theorem dL_law_62 : decode cL_law 62 = .ok (.aload_n 1, 1) := by decide +kernel
theorem dL_law_63 : decode cL_law 63 = .ok (.invokestatic 92, 3) := by decide +kernel
theorem dL_law_66 : decode cL_law 66 = .ok (.ifCond .eq 7, 3) := by decide +kernel
theorem dL_law_69 : decode cL_law 69 = .ok (.iconst 1, 1) := by decide +kernel
theorem dL_law_70 : decode cL_law 70 = .ok (.goto 4, 3) := by decide +kernel
theorem dL_law_73 : decode cL_law 73 = .ok (.iconst 0, 1) := by decide +kernel
theorem dL_law_74 : decode cL_law 74 = .ok (.istore_n 3, 1) := by decide +kernel
theorem dL_law_75 : decode cL_law 75 = .ok (.iconst 0, 1) := by decide +kernel
theorem dL_law_76 : decode cL_law 76 = .ok (.istore 4, 2) := by decide +kernel
theorem dL_law_78 : decode cL_law 78 = .ok (.iload 4, 2) := by decide +kernel
theorem dL_law_80 : decode cL_law 80 = .ok (.bipush 32, 2) := by decide +kernel
theorem dL_law_82 : decode cL_law 82 = .ok (.if_icmp .ge 99, 3) := by decide +kernel
theorem dL_law_85 : decode cL_law 85 = .ok (.iload_n 3, 1) := by decide +kernel
theorem dL_law_86 : decode cL_law 86 = .ok (.ifCond .eq 95, 3) := by decide +kernel
theorem dL_law_89 : decode cL_law 89 = .ok (.aload_n 0, 1) := by decide +kernel
theorem dL_law_90 : decode cL_law 90 = .ok (.iload 4, 2) := by decide +kernel
theorem dL_law_92 : decode cL_law 92 = .ok (.invokestatic 98, 3) := by decide +kernel
theorem dL_law_95 : decode cL_law 95 = .ok (.istore 5, 2) := by decide +kernel
theorem dL_law_97 : decode cL_law 97 = .ok (.aload_n 1, 1) := by decide +kernel
theorem dL_law_98 : decode cL_law 98 = .ok (.iload 5, 2) := by decide +kernel
theorem dL_law_100 : decode cL_law 100 = .ok (.invokestatic 102, 3) := by decide +kernel
theorem dL_law_103 : decode cL_law 103 = .ok (.istore 6, 2) := by decide +kernel
theorem dL_law_105 : decode cL_law 105 = .ok (.iload 4, 2) := by decide +kernel
theorem dL_law_107 : decode cL_law 107 = .ok (.iconst 3, 1) := by decide +kernel
theorem dL_law_108 : decode cL_law 108 = .ok (.irem, 1) := by decide +kernel
theorem dL_law_109 : decode cL_law 109 = .ok (.ifCond .gt 15, 3) := by decide +kernel
theorem dL_law_112 : decode cL_law 112 = .ok (.aload_n 2, 1) := by decide +kernel
theorem dL_law_113 : decode cL_law 113 = .ok (.iload 5, 2) := by decide +kernel
theorem dL_law_115 : decode cL_law 115 = .ok (.ldc 59, 2) := by decide +kernel
theorem dL_law_117 : decode cL_law 117 = .ok (.irem, 1) := by decide +kernel
theorem dL_law_118 : decode cL_law 118 = .ok (.invokestatic 106, 3) := by decide +kernel
theorem dL_law_121 : decode cL_law 121 = .ok (.ifCond .eq 52, 3) := by decide +kernel
theorem dL_law_124 : decode cL_law 124 = .ok (.aload_n 2, 1) := by decide +kernel
theorem dL_law_125 : decode cL_law 125 = .ok (.iload 5, 2) := by decide +kernel
theorem dL_law_127 : decode cL_law 127 = .ok (.invokestatic 102, 3) := by decide +kernel
theorem dL_law_130 : decode cL_law 130 = .ok (.iload 6, 2) := by decide +kernel
theorem dL_law_132 : decode cL_law 132 = .ok (.if_icmp .ne 41, 3) := by decide +kernel
theorem dL_law_135 : decode cL_law 135 = .ok (.aload_n 1, 1) := by decide +kernel
theorem dL_law_136 : decode cL_law 136 = .ok (.aload_n 2, 1) := by decide +kernel
theorem dL_law_137 : decode cL_law 137 = .ok (.invokestatic 110, 3) := by decide +kernel
theorem dL_law_140 : decode cL_law 140 = .ok (.ifCond .eq 33, 3) := by decide +kernel
theorem dL_law_143 : decode cL_law 143 = .ok (.iload 4, 2) := by decide +kernel
theorem dL_law_145 : decode cL_law 145 = .ok (.iconst 4, 1) := by decide +kernel
theorem dL_law_146 : decode cL_law 146 = .ok (.irem, 1) := by decide +kernel
theorem dL_law_147 : decode cL_law 147 = .ok (.ifCond .gt 22, 3) := by decide +kernel
theorem dL_law_150 : decode cL_law 150 = .ok (.iload 4, 2) := by decide +kernel
theorem dL_law_152 : decode cL_law 152 = .ok (.bipush 8, 2) := by decide +kernel
theorem dL_law_154 : decode cL_law 154 = .ok (.irem, 1) := by decide +kernel
theorem dL_law_155 : decode cL_law 155 = .ok (.ifCond .ne 7, 3) := by decide +kernel
theorem dL_law_158 : decode cL_law 158 = .ok (.aload_n 1, 1) := by decide +kernel
theorem dL_law_159 : decode cL_law 159 = .ok (.goto 4, 3) := by decide +kernel
theorem dL_law_162 : decode cL_law 162 = .ok (.aload_n 2, 1) := by decide +kernel
theorem dL_law_163 : decode cL_law 163 = .ok (.invokestatic 92, 3) := by decide +kernel
theorem dL_law_166 : decode cL_law 166 = .ok (.ifCond .eq 7, 3) := by decide +kernel
theorem dL_law_169 : decode cL_law 169 = .ok (.iconst 1, 1) := by decide +kernel
theorem dL_law_170 : decode cL_law 170 = .ok (.goto 4, 3) := by decide +kernel
theorem dL_law_173 : decode cL_law 173 = .ok (.iconst 0, 1) := by decide +kernel
theorem dL_law_174 : decode cL_law 174 = .ok (.istore_n 3, 1) := by decide +kernel
theorem dL_law_175 : decode cL_law 175 = .ok (.iinc 4 1, 3) := by decide +kernel
theorem dL_law_178 : decode cL_law 178 = .ok (.goto (-100), 3) := by decide +kernel
theorem dL_law_181 : decode cL_law 181 = .ok (.aload_n 1, 1) := by decide +kernel
theorem dL_law_182 : decode cL_law 182 = .ok (.invokevirtual 38, 3) := by decide +kernel
theorem dL_law_185 : decode cL_law 185 = .ok (.istore 4, 2) := by decide +kernel
theorem dL_law_187 : decode cL_law 187 = .ok (.iconst 1, 1) := by decide +kernel
theorem dL_law_188 : decode cL_law 188 = .ok (.aload_n 0, 1) := by decide +kernel
theorem dL_law_189 : decode cL_law 189 = .ok (.bipush 32, 2) := by decide +kernel
theorem dL_law_191 : decode cL_law 191 = .ok (.invokestatic 98, 3) := by decide +kernel
theorem dL_law_194 : decode cL_law 194 = .ok (.bipush 9, 2) := by decide +kernel
theorem dL_law_196 : decode cL_law 196 = .ok (.irem, 1) := by decide +kernel
theorem dL_law_197 : decode cL_law 197 = .ok (.iadd, 1) := by decide +kernel
theorem dL_law_198 : decode cL_law 198 = .ok (.istore 5, 2) := by decide +kernel
theorem dL_law_200 : decode cL_law 200 = .ok (.aload_n 1, 1) := by decide +kernel
theorem dL_law_201 : decode cL_law 201 = .ok (.bipush 112, 2) := by decide +kernel
theorem dL_law_203 : decode cL_law 203 = .ok (.invokevirtual 41, 3) := by decide +kernel
theorem dL_law_206 : decode cL_law 206 = .ok (.istore 4, 2) := by decide +kernel
theorem dL_law_208 : decode cL_law 208 = .ok (.aload_n 1, 1) := by decide +kernel
theorem dL_law_209 : decode cL_law 209 = .ok (.bipush 49, 2) := by decide +kernel
theorem dL_law_211 : decode cL_law 211 = .ok (.invokevirtual 41, 3) := by decide +kernel
theorem dL_law_214 : decode cL_law 214 = .ok (.istore 4, 2) := by decide +kernel
theorem dL_law_216 : decode cL_law 216 = .ok (.aload_n 1, 1) := by decide +kernel
theorem dL_law_217 : decode cL_law 217 = .ok (.bipush 58, 2) := by decide +kernel
theorem dL_law_219 : decode cL_law 219 = .ok (.invokevirtual 41, 3) := by decide +kernel
theorem dL_law_222 : decode cL_law 222 = .ok (.istore 4, 2) := by decide +kernel
theorem dL_law_224 : decode cL_law 224 = .ok (.aload_n 1, 1) := by decide +kernel
theorem dL_law_225 : decode cL_law 225 = .ok (.bipush 48, 2) := by decide +kernel
theorem dL_law_227 : decode cL_law 227 = .ok (.iload 5, 2) := by decide +kernel
theorem dL_law_229 : decode cL_law 229 = .ok (.iadd, 1) := by decide +kernel
theorem dL_law_230 : decode cL_law 230 = .ok (.invokevirtual 41, 3) := by decide +kernel
theorem dL_law_233 : decode cL_law 233 = .ok (.istore 4, 2) := by decide +kernel
theorem dL_law_235 : decode cL_law 235 = .ok (.aload_n 1, 1) := by decide +kernel
theorem dL_law_236 : decode cL_law 236 = .ok (.bipush 48, 2) := by decide +kernel
theorem dL_law_238 : decode cL_law 238 = .ok (.invokevirtual 41, 3) := by decide +kernel
theorem dL_law_241 : decode cL_law 241 = .ok (.istore 4, 2) := by decide +kernel
theorem dL_law_243 : decode cL_law 243 = .ok (.aload_n 1, 1) := by decide +kernel
theorem dL_law_244 : decode cL_law 244 = .ok (.bipush 120, 2) := by decide +kernel
theorem dL_law_246 : decode cL_law 246 = .ok (.invokevirtual 41, 3) := by decide +kernel
theorem dL_law_249 : decode cL_law 249 = .ok (.istore 4, 2) := by decide +kernel
theorem dL_law_251 : decode cL_law 251 = .ok (.aload_n 1, 1) := by decide +kernel
theorem dL_law_252 : decode cL_law 252 = .ok (.bipush 55, 2) := by decide +kernel
theorem dL_law_254 : decode cL_law 254 = .ok (.invokevirtual 41, 3) := by decide +kernel
theorem dL_law_257 : decode cL_law 257 = .ok (.istore 4, 2) := by decide +kernel
theorem dL_law_259 : decode cL_law 259 = .ok (.iconst 0, 1) := by decide +kernel
theorem dL_law_260 : decode cL_law 260 = .ok (.istore 6, 2) := by decide +kernel
theorem dL_law_262 : decode cL_law 262 = .ok (.bipush 10, 2) := by decide +kernel
theorem dL_law_264 : decode cL_law 264 = .ok (.istore 7, 2) := by decide +kernel
theorem dL_law_266 : decode cL_law 266 = .ok (.iconst 0, 1) := by decide +kernel
theorem dL_law_267 : decode cL_law 267 = .ok (.istore 8, 2) := by decide +kernel
theorem dL_law_269 : decode cL_law 269 = .ok (.iload 8, 2) := by decide +kernel
theorem dL_law_271 : decode cL_law 271 = .ok (.bipush 7, 2) := by decide +kernel
theorem dL_law_273 : decode cL_law 273 = .ok (.if_icmp .ge 45, 3) := by decide +kernel
theorem dL_law_276 : decode cL_law 276 = .ok (.iload 7, 2) := by decide +kernel
theorem dL_law_278 : decode cL_law 278 = .ok (.bipush 10, 2) := by decide +kernel
theorem dL_law_280 : decode cL_law 280 = .ok (.if_icmp .lt 38, 3) := by decide +kernel
theorem dL_law_283 : decode cL_law 283 = .ok (.aload_n 2, 1) := by decide +kernel
theorem dL_law_284 : decode cL_law 284 = .ok (.iconst 1, 1) := by decide +kernel
theorem dL_law_285 : decode cL_law 285 = .ok (.bipush 10, 2) := by decide +kernel
theorem dL_law_287 : decode cL_law 287 = .ok (.iload 5, 2) := by decide +kernel
theorem dL_law_289 : decode cL_law 289 = .ok (.imul, 1) := by decide +kernel
theorem dL_law_290 : decode cL_law 290 = .ok (.invokevirtual 50, 3) := by decide +kernel
theorem dL_law_293 : decode cL_law 293 = .ok (.istore 7, 2) := by decide +kernel
theorem dL_law_295 : decode cL_law 295 = .ok (.iload 6, 2) := by decide +kernel
theorem dL_law_297 : decode cL_law 297 = .ok (.iload 7, 2) := by decide +kernel
theorem dL_law_299 : decode cL_law 299 = .ok (.bipush 10, 2) := by decide +kernel
theorem dL_law_301 : decode cL_law 301 = .ok (.if_icmp .lt 7, 3) := by decide +kernel
theorem dL_law_304 : decode cL_law 304 = .ok (.iconst 1, 1) := by decide +kernel
theorem dL_law_305 : decode cL_law 305 = .ok (.goto 4, 3) := by decide +kernel
theorem dL_law_308 : decode cL_law 308 = .ok (.iconst 0, 1) := by decide +kernel
theorem dL_law_309 : decode cL_law 309 = .ok (.iadd, 1) := by decide +kernel
theorem dL_law_310 : decode cL_law 310 = .ok (.istore 6, 2) := by decide +kernel
theorem dL_law_312 : decode cL_law 312 = .ok (.iinc 8 1, 3) := by decide +kernel
theorem dL_law_315 : decode cL_law 315 = .ok (.goto (-46), 3) := by decide +kernel
theorem dL_law_318 : decode cL_law 318 = .ok (.iload_n 3, 1) := by decide +kernel
theorem dL_law_319 : decode cL_law 319 = .ok (.ifCond .eq 67, 3) := by decide +kernel
theorem dL_law_322 : decode cL_law 322 = .ok (.iload 4, 2) := by decide +kernel
theorem dL_law_324 : decode cL_law 324 = .ok (.bipush 7, 2) := by decide +kernel
theorem dL_law_326 : decode cL_law 326 = .ok (.if_icmp .ne 60, 3) := by decide +kernel
theorem dL_law_329 : decode cL_law 329 = .ok (.aload_n 1, 1) := by decide +kernel
theorem dL_law_330 : decode cL_law 330 = .ok (.invokevirtual 47, 3) := by decide +kernel
theorem dL_law_333 : decode cL_law 333 = .ok (.iload 6, 2) := by decide +kernel
theorem dL_law_335 : decode cL_law 335 = .ok (.if_icmp .ne 51, 3) := by decide +kernel
theorem dL_law_338 : decode cL_law 338 = .ok (.aload_n 1, 1) := by decide +kernel
theorem dL_law_339 : decode cL_law 339 = .ok (.iconst 0, 1) := by decide +kernel
theorem dL_law_340 : decode cL_law 340 = .ok (.invokevirtual 88, 3) := by decide +kernel
theorem dL_law_343 : decode cL_law 343 = .ok (.iload 7, 2) := by decide +kernel
theorem dL_law_345 : decode cL_law 345 = .ok (.bipush 10, 2) := by decide +kernel
theorem dL_law_347 : decode cL_law 347 = .ok (.if_icmp .ge 8, 3) := by decide +kernel
theorem dL_law_350 : decode cL_law 350 = .ok (.iload 7, 2) := by decide +kernel
theorem dL_law_352 : decode cL_law 352 = .ok (.goto 5, 3) := by decide +kernel
theorem dL_law_355 : decode cL_law 355 = .ok (.bipush (-4), 2) := by decide +kernel
theorem dL_law_357 : decode cL_law 357 = .ok (.if_icmp .ne 29, 3) := by decide +kernel
theorem dL_law_360 : decode cL_law 360 = .ok (.aload_n 1, 1) := by decide +kernel
theorem dL_law_361 : decode cL_law 361 = .ok (.iconst 3, 1) := by decide +kernel
theorem dL_law_362 : decode cL_law 362 = .ok (.invokevirtual 88, 3) := by decide +kernel
theorem dL_law_365 : decode cL_law 365 = .ok (.iload 7, 2) := by decide +kernel
theorem dL_law_367 : decode cL_law 367 = .ok (.bipush 10, 2) := by decide +kernel
theorem dL_law_369 : decode cL_law 369 = .ok (.if_icmp .ge 8, 3) := by decide +kernel
theorem dL_law_372 : decode cL_law 372 = .ok (.iload 6, 2) := by decide +kernel
theorem dL_law_374 : decode cL_law 374 = .ok (.goto 5, 3) := by decide +kernel
theorem dL_law_377 : decode cL_law 377 = .ok (.bipush (-4), 2) := by decide +kernel
theorem dL_law_379 : decode cL_law 379 = .ok (.if_icmp .ne 7, 3) := by decide +kernel
theorem dL_law_382 : decode cL_law 382 = .ok (.iconst 1, 1) := by decide +kernel
theorem dL_law_383 : decode cL_law 383 = .ok (.goto 4, 3) := by decide +kernel
theorem dL_law_386 : decode cL_law 386 = .ok (.iconst 0, 1) := by decide +kernel
theorem dL_law_387 : decode cL_law 387 = .ok (.istore_n 3, 1) := by decide +kernel
theorem dL_law_388 : decode cL_law 388 = .ok (.iconst 0, 1) := by decide +kernel
theorem dL_law_389 : decode cL_law 389 = .ok (.istore 8, 2) := by decide +kernel
theorem dL_law_391 : decode cL_law 391 = .ok (.iload 8, 2) := by decide +kernel
theorem dL_law_393 : decode cL_law 393 = .ok (.bipush 6, 2) := by decide +kernel
theorem dL_law_395 : decode cL_law 395 = .ok (.if_icmp .ge 99, 3) := by decide +kernel
theorem dL_law_398 : decode cL_law 398 = .ok (.iload_n 3, 1) := by decide +kernel
theorem dL_law_399 : decode cL_law 399 = .ok (.ifCond .eq 95, 3) := by decide +kernel
theorem dL_law_402 : decode cL_law 402 = .ok (.aload_n 1, 1) := by decide +kernel
theorem dL_law_403 : decode cL_law 403 = .ok (.iconst 1, 1) := by decide +kernel
theorem dL_law_404 : decode cL_law 404 = .ok (.iload 8, 2) := by decide +kernel
theorem dL_law_406 : decode cL_law 406 = .ok (.invokevirtual 60, 3) := by decide +kernel
theorem dL_law_409 : decode cL_law 409 = .ok (.aload_n 2, 1) := by decide +kernel
theorem dL_law_410 : decode cL_law 410 = .ok (.iconst 1, 1) := by decide +kernel
theorem dL_law_411 : decode cL_law 411 = .ok (.iload 8, 2) := by decide +kernel
theorem dL_law_413 : decode cL_law 413 = .ok (.invokevirtual 60, 3) := by decide +kernel
theorem dL_law_416 : decode cL_law 416 = .ok (.if_icmp .ne 70, 3) := by decide +kernel
theorem dL_law_419 : decode cL_law 419 = .ok (.aload_n 1, 1) := by decide +kernel
theorem dL_law_420 : decode cL_law 420 = .ok (.iload 8, 2) := by decide +kernel
theorem dL_law_422 : decode cL_law 422 = .ok (.iconst 4, 1) := by decide +kernel
theorem dL_law_423 : decode cL_law 423 = .ok (.irem, 1) := by decide +kernel
theorem dL_law_424 : decode cL_law 424 = .ok (.iconst 1, 1) := by decide +kernel
theorem dL_law_425 : decode cL_law 425 = .ok (.invokevirtual 56, 3) := by decide +kernel
theorem dL_law_428 : decode cL_law 428 = .ok (.aload_n 2, 1) := by decide +kernel
theorem dL_law_429 : decode cL_law 429 = .ok (.iload 8, 2) := by decide +kernel
theorem dL_law_431 : decode cL_law 431 = .ok (.iconst 4, 1) := by decide +kernel
theorem dL_law_432 : decode cL_law 432 = .ok (.irem, 1) := by decide +kernel
theorem dL_law_433 : decode cL_law 433 = .ok (.iconst 1, 1) := by decide +kernel
theorem dL_law_434 : decode cL_law 434 = .ok (.invokevirtual 56, 3) := by decide +kernel
theorem dL_law_437 : decode cL_law 437 = .ok (.if_icmp .ne 49, 3) := by decide +kernel
theorem dL_law_440 : decode cL_law 440 = .ok (.aload_n 1, 1) := by decide +kernel
theorem dL_law_441 : decode cL_law 441 = .ok (.iload 8, 2) := by decide +kernel
theorem dL_law_443 : decode cL_law 443 = .ok (.iconst 4, 1) := by decide +kernel
theorem dL_law_444 : decode cL_law 444 = .ok (.irem, 1) := by decide +kernel
theorem dL_law_445 : decode cL_law 445 = .ok (.iconst 2, 1) := by decide +kernel
theorem dL_law_446 : decode cL_law 446 = .ok (.invokevirtual 56, 3) := by decide +kernel
theorem dL_law_449 : decode cL_law 449 = .ok (.aload_n 2, 1) := by decide +kernel
theorem dL_law_450 : decode cL_law 450 = .ok (.iload 8, 2) := by decide +kernel
theorem dL_law_452 : decode cL_law 452 = .ok (.iconst 4, 1) := by decide +kernel
theorem dL_law_453 : decode cL_law 453 = .ok (.irem, 1) := by decide +kernel
theorem dL_law_454 : decode cL_law 454 = .ok (.iconst 2, 1) := by decide +kernel
theorem dL_law_455 : decode cL_law 455 = .ok (.invokevirtual 56, 3) := by decide +kernel
theorem dL_law_458 : decode cL_law 458 = .ok (.if_icmp .ne 28, 3) := by decide +kernel
theorem dL_law_461 : decode cL_law 461 = .ok (.aload_n 1, 1) := by decide +kernel
theorem dL_law_462 : decode cL_law 462 = .ok (.iload 8, 2) := by decide +kernel
theorem dL_law_464 : decode cL_law 464 = .ok (.iconst 4, 1) := by decide +kernel
theorem dL_law_465 : decode cL_law 465 = .ok (.irem, 1) := by decide +kernel
theorem dL_law_466 : decode cL_law 466 = .ok (.iconst 3, 1) := by decide +kernel
theorem dL_law_467 : decode cL_law 467 = .ok (.invokevirtual 56, 3) := by decide +kernel
theorem dL_law_470 : decode cL_law 470 = .ok (.aload_n 2, 1) := by decide +kernel
theorem dL_law_471 : decode cL_law 471 = .ok (.iload 8, 2) := by decide +kernel
theorem dL_law_473 : decode cL_law 473 = .ok (.iconst 4, 1) := by decide +kernel
theorem dL_law_474 : decode cL_law 474 = .ok (.irem, 1) := by decide +kernel
theorem dL_law_475 : decode cL_law 475 = .ok (.iconst 3, 1) := by decide +kernel
theorem dL_law_476 : decode cL_law 476 = .ok (.invokevirtual 56, 3) := by decide +kernel
theorem dL_law_479 : decode cL_law 479 = .ok (.if_icmp .ne 7, 3) := by decide +kernel
theorem dL_law_482 : decode cL_law 482 = .ok (.iconst 1, 1) := by decide +kernel
theorem dL_law_483 : decode cL_law 483 = .ok (.goto 4, 3) := by decide +kernel
theorem dL_law_486 : decode cL_law 486 = .ok (.iconst 0, 1) := by decide +kernel
theorem dL_law_487 : decode cL_law 487 = .ok (.istore_n 3, 1) := by decide +kernel
theorem dL_law_488 : decode cL_law 488 = .ok (.iinc 8 1, 3) := by decide +kernel
theorem dL_law_491 : decode cL_law 491 = .ok (.goto (-100), 3) := by decide +kernel
theorem dL_law_494 : decode cL_law 494 = .ok (.iload_n 3, 1) := by decide +kernel
theorem dL_law_495 : decode cL_law 495 = .ok (.ifCond .eq 14, 3) := by decide +kernel
theorem dL_law_498 : decode cL_law 498 = .ok (.aload_n 1, 1) := by decide +kernel
theorem dL_law_499 : decode cL_law 499 = .ok (.invokestatic 92, 3) := by decide +kernel
theorem dL_law_502 : decode cL_law 502 = .ok (.ifCond .eq 7, 3) := by decide +kernel
theorem dL_law_505 : decode cL_law 505 = .ok (.iconst 1, 1) := by decide +kernel
theorem dL_law_506 : decode cL_law 506 = .ok (.goto 4, 3) := by decide +kernel
theorem dL_law_509 : decode cL_law 509 = .ok (.iconst 0, 1) := by decide +kernel
theorem dL_law_510 : decode cL_law 510 = .ok (.ireturn, 1) := by decide +kernel
