theorem dX12_feed_15 : decode cX12_feed 15 = .ok (.aload_n 0, 1) := by decide +kernel
theorem dX12_feed_16 : decode cX12_feed 16 = .ok (.iload_n 1, 1) := by decide +kernel
theorem dX12_feed_17 : decode cX12_feed 17 = .ok (.invokevirtual 122, 3) := by decide +kernel
theorem dX12_feed_20 : decode cX12_feed 20 = .ok (.aload_n 0, 1) := by decide +kernel
theorem dX12_feed_21 : decode cX12_feed 21 = .ok (.iload_n 2, 1) := by decide +kernel
theorem dX12_feed_22 : decode cX12_feed 22 = .ok (.invokevirtual 122, 3) := by decide +kernel
theorem dX12_feed_25 : decode cX12_feed 25 = .ok (.aload_n 0, 1) := by decide +kernel
theorem dX12_feed_26 : decode cX12_feed 26 = .ok (.iload_n 3, 1) := by decide +kernel
theorem dX12_feed_27 : decode cX12_feed 27 = .ok (.invokevirtual 122, 3) := by decide +kernel
theorem dX12_feed_30 : decode cX12_feed 30 = .ok (.aload_n 0, 1) := by decide +kernel
theorem dX12_feed_31 : decode cX12_feed 31 = .ok (.iload 4, 2) := by decide +kernel
theorem dX12_feed_33 : decode cX12_feed 33 = .ok (.invokevirtual 122, 3) := by decide +kernel
theorem dX12_feed_36 : decode cX12_feed 36 = .ok (.aload_n 0, 1) := by decide +kernel
theorem dX12_feed_37 : decode cX12_feed 37 = .ok (.iload 5, 2) := by decide +kernel
theorem dX12_feed_39 : decode cX12_feed 39 = .ok (.invokevirtual 122, 3) := by decide +kernel
theorem dX12_feed_42 : decode cX12_feed 42 = .ok (.aload_n 0, 1) := by decide +kernel
theorem dX12_feed_43 : decode cX12_feed 43 = .ok (.getfield 119, 3) := by decide +kernel
theorem dX12_feed_46 : decode cX12_feed 46 = .ok (.ireturn, 1) := by decide +kernel
theorem dX12_end_0 : decode cX12_end 0 = .ok (.iload_n 1, 1) := by decide +kernel
theorem dX12_end_1 : decode cX12_end 1 = .ok (.iconst 0, 1) := by decide +kernel
theorem dX12_end_2 : decode cX12_end 2 = .ok (.aload_n 0, 1) := by decide +kernel
theorem dX12_end_3 : decode cX12_end 3 = .ok (.getfield 119, 3) := by decide +kernel
theorem dX12_end_6 : decode cX12_end 6 = .ok (.invokestatic 107, 3) := by decide +kernel
theorem dX12_end_9 : decode cX12_end 9 = .ok (.ifCond .ne 5, 3) := by decide +kernel
theorem dX12_end_12 : decode cX12_end 12 = .ok (.iconst (-1), 1) := by decide +kernel
theorem dX12_end_13 : decode cX12_end 13 = .ok (.ireturn, 1) := by decide +kernel
theorem dX12_end_14 : decode cX12_end 14 = .ok (.aload_n 0, 1) := by decide +kernel
theorem dX12_end_15 : decode cX12_end 15 = .ok (.iload_n 1, 1) := by decide +kernel
theorem dX12_end_16 : decode cX12_end 16 = .ok (.putfield 119, 3) := by decide +kernel
theorem dX12_end_19 : decode cX12_end 19 = .ok (.iload_n 1, 1) := by decide +kernel
theorem dX12_end_20 : decode cX12_end 20 = .ok (.ireturn, 1) := by decide +kernel
theorem dX12_isLetter_0 : decode cX12_isLetter 0 = .ok (.iload_n 0, 1) := by decide +kernel
theorem dX12_isLetter_1 : decode cX12_isLetter 1 = .ok (.bipush 97, 2) := by decide +kernel
theorem dX12_isLetter_3 : decode cX12_isLetter 3 = .ok (.bipush 122, 2) := by decide +kernel
theorem dX12_isLetter_5 : decode cX12_isLetter 5 = .ok (.invokestatic 107, 3) := by decide +kernel
theorem dX12_isLetter_8 : decode cX12_isLetter 8 = .ok (.ifCond .ne 14, 3) := by decide +kernel
theorem dX12_isLetter_11 : decode cX12_isLetter 11 = .ok (.iload_n 0, 1) := by decide +kernel
theorem dX12_isLetter_12 : decode cX12_isLetter 12 = .ok (.bipush 65, 2) := by decide +kernel
theorem dX12_isLetter_14 : decode cX12_isLetter 14 = .ok (.bipush 90, 2) := by decide +kernel
theorem dX12_isLetter_16 : decode cX12_isLetter 16 = .ok (.invokestatic 107, 3) := by decide +kernel
theorem dX12_isLetter_19 : decode cX12_isLetter 19 = .ok (.ifCond .eq 7, 3) := by decide +kernel
theorem dX12_isLetter_22 : decode cX12_isLetter 22 = .ok (.iconst 1, 1) := by decide +kernel
theorem dX12_isLetter_23 : decode cX12_isLetter 23 = .ok (.goto 4, 3) := by decide +kernel
theorem dX12_isLetter_26 : decode cX12_isLetter 26 = .ok (.iconst 0, 1) := by decide +kernel
theorem dX12_isLetter_27 : decode cX12_isLetter 27 = .ok (.ireturn, 1) := by decide +kernel
theorem dX12_wordOf_0 : decode cX12_wordOf 0 = .ok (.lload_n 0, 1) := by decide +kernel
theorem dX12_wordOf_1 : decode cX12_wordOf 1 = .ok (.ldc2_w 126, 3) := by decide +kernel
theorem dX12_wordOf_4 : decode cX12_wordOf 4 = .ok (.lcmp, 1) := by decide +kernel
theorem dX12_wordOf_5 : decode cX12_wordOf 5 = .ok (.ifCond .ne 7, 3) := by decide +kernel
theorem dX12_wordOf_8 : decode cX12_wordOf 8 = .ok (.iconst 0, 1) := by decide +kernel
theorem dX12_wordOf_9 : decode cX12_wordOf 9 = .ok (.goto 402, 3) := by decide +kernel
theorem dX12_wordOf_12 : decode cX12_wordOf 12 = .ok (.lload_n 0, 1) := by decide +kernel
theorem dX12_wordOf_13 : decode cX12_wordOf 13 = .ok (.ldc2_w 128, 3) := by decide +kernel
theorem dX12_wordOf_16 : decode cX12_wordOf 16 = .ok (.lcmp, 1) := by decide +kernel
theorem dX12_wordOf_17 : decode cX12_wordOf 17 = .ok (.ifCond .ne 7, 3) := by decide +kernel
theorem dX12_wordOf_20 : decode cX12_wordOf 20 = .ok (.iconst 1, 1) := by decide +kernel
theorem dX12_wordOf_21 : decode cX12_wordOf 21 = .ok (.goto 390, 3) := by decide +kernel
theorem dX12_wordOf_24 : decode cX12_wordOf 24 = .ok (.lload_n 0, 1) := by decide +kernel
theorem dX12_wordOf_25 : decode cX12_wordOf 25 = .ok (.ldc2_w 130, 3) := by decide +kernel
theorem dX12_wordOf_28 : decode cX12_wordOf 28 = .ok (.lcmp, 1) := by decide +kernel
theorem dX12_wordOf_29 : decode cX12_wordOf 29 = .ok (.ifCond .ne 7, 3) := by decide +kernel
theorem dX12_wordOf_32 : decode cX12_wordOf 32 = .ok (.iconst 2, 1) := by decide +kernel
theorem dX12_wordOf_33 : decode cX12_wordOf 33 = .ok (.goto 378, 3) := by decide +kernel
theorem dX12_wordOf_36 : decode cX12_wordOf 36 = .ok (.lload_n 0, 1) := by decide +kernel
theorem dX12_wordOf_37 : decode cX12_wordOf 37 = .ok (.ldc2_w 132, 3) := by decide +kernel
theorem dX12_wordOf_40 : decode cX12_wordOf 40 = .ok (.lcmp, 1) := by decide +kernel
theorem dX12_wordOf_41 : decode cX12_wordOf 41 = .ok (.ifCond .ne 7, 3) := by decide +kernel
theorem dX12_wordOf_44 : decode cX12_wordOf 44 = .ok (.iconst 3, 1) := by decide +kernel
theorem dX12_wordOf_45 : decode cX12_wordOf 45 = .ok (.goto 366, 3) := by decide +kernel
theorem dX12_wordOf_48 : decode cX12_wordOf 48 = .ok (.lload_n 0, 1) := by decide +kernel
theorem dX12_wordOf_49 : decode cX12_wordOf 49 = .ok (.ldc2_w 134, 3) := by decide +kernel
theorem dX12_wordOf_52 : decode cX12_wordOf 52 = .ok (.lcmp, 1) := by decide +kernel
theorem dX12_wordOf_53 : decode cX12_wordOf 53 = .ok (.ifCond .ne 7, 3) := by decide +kernel
theorem dX12_wordOf_56 : decode cX12_wordOf 56 = .ok (.iconst 4, 1) := by decide +kernel
theorem dX12_wordOf_57 : decode cX12_wordOf 57 = .ok (.goto 354, 3) := by decide +kernel
theorem dX12_wordOf_60 : decode cX12_wordOf 60 = .ok (.lload_n 0, 1) := by decide +kernel
theorem dX12_wordOf_61 : decode cX12_wordOf 61 = .ok (.ldc2_w 136, 3) := by decide +kernel
theorem dX12_wordOf_64 : decode cX12_wordOf 64 = .ok (.lcmp, 1) := by decide +kernel
theorem dX12_wordOf_65 : decode cX12_wordOf 65 = .ok (.ifCond .ne 7, 3) := by decide +kernel
theorem dX12_wordOf_68 : decode cX12_wordOf 68 = .ok (.iconst 5, 1) := by decide +kernel
theorem dX12_wordOf_69 : decode cX12_wordOf 69 = .ok (.goto 342, 3) := by decide +kernel
theorem dX12_wordOf_72 : decode cX12_wordOf 72 = .ok (.lload_n 0, 1) := by decide +kernel
theorem dX12_wordOf_73 : decode cX12_wordOf 73 = .ok (.ldc2_w 138, 3) := by decide +kernel
theorem dX12_wordOf_76 : decode cX12_wordOf 76 = .ok (.lcmp, 1) := by decide +kernel
theorem dX12_wordOf_77 : decode cX12_wordOf 77 = .ok (.ifCond .ne 8, 3) := by decide +kernel
theorem dX12_wordOf_80 : decode cX12_wordOf 80 = .ok (.bipush 6, 2) := by decide +kernel
theorem dX12_wordOf_82 : decode cX12_wordOf 82 = .ok (.goto 329, 3) := by decide +kernel
theorem dX12_wordOf_85 : decode cX12_wordOf 85 = .ok (.lload_n 0, 1) := by decide +kernel
theorem dX12_wordOf_86 : decode cX12_wordOf 86 = .ok (.ldc2_w 140, 3) := by decide +kernel
theorem dX12_wordOf_89 : decode cX12_wordOf 89 = .ok (.lcmp, 1) := by decide +kernel
theorem dX12_wordOf_90 : decode cX12_wordOf 90 = .ok (.ifCond .ne 8, 3) := by decide +kernel
theorem dX12_wordOf_93 : decode cX12_wordOf 93 = .ok (.bipush 7, 2) := by decide +kernel
theorem dX12_wordOf_95 : decode cX12_wordOf 95 = .ok (.goto 316, 3) := by decide +kernel
theorem dX12_wordOf_98 : decode cX12_wordOf 98 = .ok (.lload_n 0, 1) := by decide +kernel
theorem dX12_wordOf_99 : decode cX12_wordOf 99 = .ok (.ldc2_w 142, 3) := by decide +kernel
theorem dX12_wordOf_102 : decode cX12_wordOf 102 = .ok (.lcmp, 1) := by decide +kernel
theorem dX12_wordOf_103 : decode cX12_wordOf 103 = .ok (.ifCond .ne 8, 3) := by decide +kernel
theorem dX12_wordOf_106 : decode cX12_wordOf 106 = .ok (.bipush 8, 2) := by decide +kernel
theorem dX12_wordOf_108 : decode cX12_wordOf 108 = .ok (.goto 303, 3) := by decide +kernel
theorem dX12_wordOf_111 : decode cX12_wordOf 111 = .ok (.lload_n 0, 1) := by decide +kernel
theorem dX12_wordOf_112 : decode cX12_wordOf 112 = .ok (.ldc2_w 144, 3) := by decide +kernel
theorem dX12_wordOf_115 : decode cX12_wordOf 115 = .ok (.lcmp, 1) := by decide +kernel
theorem dX12_wordOf_116 : decode cX12_wordOf 116 = .ok (.ifCond .ne 8, 3) := by decide +kernel
theorem dX12_wordOf_119 : decode cX12_wordOf 119 = .ok (.bipush 9, 2) := by decide +kernel
theorem dX12_wordOf_121 : decode cX12_wordOf 121 = .ok (.goto 290, 3) := by decide +kernel
theorem dX12_wordOf_124 : decode cX12_wordOf 124 = .ok (.lload_n 0, 1) := by decide +kernel
theorem dX12_wordOf_125 : decode cX12_wordOf 125 = .ok (.ldc2_w 146, 3) := by decide +kernel
theorem dX12_wordOf_128 : decode cX12_wordOf 128 = .ok (.lcmp, 1) := by decide +kernel
theorem dX12_wordOf_129 : decode cX12_wordOf 129 = .ok (.ifCond .ne 8, 3) := by decide +kernel
theorem dX12_wordOf_132 : decode cX12_wordOf 132 = .ok (.bipush 10, 2) := by decide +kernel
theorem dX12_wordOf_134 : decode cX12_wordOf 134 = .ok (.goto 277, 3) := by decide +kernel
theorem dX12_wordOf_137 : decode cX12_wordOf 137 = .ok (.lload_n 0, 1) := by decide +kernel
theorem dX12_wordOf_138 : decode cX12_wordOf 138 = .ok (.ldc2_w 148, 3) := by decide +kernel
theorem dX12_wordOf_141 : decode cX12_wordOf 141 = .ok (.lcmp, 1) := by decide +kernel
theorem dX12_wordOf_142 : decode cX12_wordOf 142 = .ok (.ifCond .ne 8, 3) := by decide +kernel
theorem dX12_wordOf_145 : decode cX12_wordOf 145 = .ok (.bipush 11, 2) := by decide +kernel
theorem dX12_wordOf_147 : decode cX12_wordOf 147 = .ok (.goto 264, 3) := by decide +kernel
theorem dX12_wordOf_150 : decode cX12_wordOf 150 = .ok (.lload_n 0, 1) := by decide +kernel
theorem dX12_wordOf_151 : decode cX12_wordOf 151 = .ok (.ldc2_w 150, 3) := by decide +kernel
theorem dX12_wordOf_154 : decode cX12_wordOf 154 = .ok (.lcmp, 1) := by decide +kernel
theorem dX12_wordOf_155 : decode cX12_wordOf 155 = .ok (.ifCond .ne 8, 3) := by decide +kernel
theorem dX12_wordOf_158 : decode cX12_wordOf 158 = .ok (.bipush 12, 2) := by decide +kernel
theorem dX12_wordOf_160 : decode cX12_wordOf 160 = .ok (.goto 251, 3) := by decide +kernel
theorem dX12_wordOf_163 : decode cX12_wordOf 163 = .ok (.lload_n 0, 1) := by decide +kernel
theorem dX12_wordOf_164 : decode cX12_wordOf 164 = .ok (.ldc2_w 152, 3) := by decide +kernel
theorem dX12_wordOf_167 : decode cX12_wordOf 167 = .ok (.lcmp, 1) := by decide +kernel
theorem dX12_wordOf_168 : decode cX12_wordOf 168 = .ok (.ifCond .ne 8, 3) := by decide +kernel
theorem dX12_wordOf_171 : decode cX12_wordOf 171 = .ok (.bipush 13, 2) := by decide +kernel
theorem dX12_wordOf_173 : decode cX12_wordOf 173 = .ok (.goto 238, 3) := by decide +kernel
theorem dX12_wordOf_176 : decode cX12_wordOf 176 = .ok (.lload_n 0, 1) := by decide +kernel
theorem dX12_wordOf_177 : decode cX12_wordOf 177 = .ok (.ldc2_w 154, 3) := by decide +kernel
theorem dX12_wordOf_180 : decode cX12_wordOf 180 = .ok (.lcmp, 1) := by decide +kernel
theorem dX12_wordOf_181 : decode cX12_wordOf 181 = .ok (.ifCond .ne 8, 3) := by decide +kernel
theorem dX12_wordOf_184 : decode cX12_wordOf 184 = .ok (.bipush 14, 2) := by decide +kernel
theorem dX12_wordOf_186 : decode cX12_wordOf 186 = .ok (.goto 225, 3) := by decide +kernel
theorem dX12_wordOf_189 : decode cX12_wordOf 189 = .ok (.lload_n 0, 1) := by decide +kernel
theorem dX12_wordOf_190 : decode cX12_wordOf 190 = .ok (.ldc2_w 156, 3) := by decide +kernel
theorem dX12_wordOf_193 : decode cX12_wordOf 193 = .ok (.lcmp, 1) := by decide +kernel
theorem dX12_wordOf_194 : decode cX12_wordOf 194 = .ok (.ifCond .ne 8, 3) := by decide +kernel
theorem dX12_wordOf_197 : decode cX12_wordOf 197 = .ok (.bipush 15, 2) := by decide +kernel
theorem dX12_wordOf_199 : decode cX12_wordOf 199 = .ok (.goto 212, 3) := by decide +kernel
theorem dX12_wordOf_202 : decode cX12_wordOf 202 = .ok (.lload_n 0, 1) := by decide +kernel
theorem dX12_wordOf_203 : decode cX12_wordOf 203 = .ok (.ldc2_w 158, 3) := by decide +kernel
theorem dX12_wordOf_206 : decode cX12_wordOf 206 = .ok (.lcmp, 1) := by decide +kernel
theorem dX12_wordOf_207 : decode cX12_wordOf 207 = .ok (.ifCond .ne 8, 3) := by decide +kernel
theorem dX12_wordOf_210 : decode cX12_wordOf 210 = .ok (.bipush 16, 2) := by decide +kernel
theorem dX12_wordOf_212 : decode cX12_wordOf 212 = .ok (.goto 199, 3) := by decide +kernel
theorem dX12_wordOf_215 : decode cX12_wordOf 215 = .ok (.lload_n 0, 1) := by decide +kernel
theorem dX12_wordOf_216 : decode cX12_wordOf 216 = .ok (.ldc2_w 160, 3) := by decide +kernel
theorem dX12_wordOf_219 : decode cX12_wordOf 219 = .ok (.lcmp, 1) := by decide +kernel
theorem dX12_wordOf_220 : decode cX12_wordOf 220 = .ok (.ifCond .ne 8, 3) := by decide +kernel
theorem dX12_wordOf_223 : decode cX12_wordOf 223 = .ok (.bipush 17, 2) := by decide +kernel
theorem dX12_wordOf_225 : decode cX12_wordOf 225 = .ok (.goto 186, 3) := by decide +kernel
theorem dX12_wordOf_228 : decode cX12_wordOf 228 = .ok (.lload_n 0, 1) := by decide +kernel
theorem dX12_wordOf_229 : decode cX12_wordOf 229 = .ok (.ldc2_w 162, 3) := by decide +kernel
theorem dX12_wordOf_232 : decode cX12_wordOf 232 = .ok (.lcmp, 1) := by decide +kernel
theorem dX12_wordOf_233 : decode cX12_wordOf 233 = .ok (.ifCond .ne 8, 3) := by decide +kernel
theorem dX12_wordOf_236 : decode cX12_wordOf 236 = .ok (.bipush 18, 2) := by decide +kernel
theorem dX12_wordOf_238 : decode cX12_wordOf 238 = .ok (.goto 173, 3) := by decide +kernel
theorem dX12_wordOf_241 : decode cX12_wordOf 241 = .ok (.lload_n 0, 1) := by decide +kernel
theorem dX12_wordOf_242 : decode cX12_wordOf 242 = .ok (.ldc2_w 164, 3) := by decide +kernel
theorem dX12_wordOf_245 : decode cX12_wordOf 245 = .ok (.lcmp, 1) := by decide +kernel
theorem dX12_wordOf_246 : decode cX12_wordOf 246 = .ok (.ifCond .ne 8, 3) := by decide +kernel
theorem dX12_wordOf_249 : decode cX12_wordOf 249 = .ok (.bipush 19, 2) := by decide +kernel
theorem dX12_wordOf_251 : decode cX12_wordOf 251 = .ok (.goto 160, 3) := by decide +kernel
theorem dX12_wordOf_254 : decode cX12_wordOf 254 = .ok (.lload_n 0, 1) := by decide +kernel
theorem dX12_wordOf_255 : decode cX12_wordOf 255 = .ok (.ldc2_w 166, 3) := by decide +kernel
theorem dX12_wordOf_258 : decode cX12_wordOf 258 = .ok (.lcmp, 1) := by decide +kernel
theorem dX12_wordOf_259 : decode cX12_wordOf 259 = .ok (.ifCond .ne 8, 3) := by decide +kernel
theorem dX12_wordOf_262 : decode cX12_wordOf 262 = .ok (.bipush 20, 2) := by decide +kernel
theorem dX12_wordOf_264 : decode cX12_wordOf 264 = .ok (.goto 147, 3) := by decide +kernel
theorem dX12_wordOf_267 : decode cX12_wordOf 267 = .ok (.lload_n 0, 1) := by decide +kernel
theorem dX12_wordOf_268 : decode cX12_wordOf 268 = .ok (.ldc2_w 168, 3) := by decide +kernel
theorem dX12_wordOf_271 : decode cX12_wordOf 271 = .ok (.lcmp, 1) := by decide +kernel
theorem dX12_wordOf_272 : decode cX12_wordOf 272 = .ok (.ifCond .ne 8, 3) := by decide +kernel
theorem dX12_wordOf_275 : decode cX12_wordOf 275 = .ok (.bipush 21, 2) := by decide +kernel
theorem dX12_wordOf_277 : decode cX12_wordOf 277 = .ok (.goto 134, 3) := by decide +kernel
theorem dX12_wordOf_280 : decode cX12_wordOf 280 = .ok (.lload_n 0, 1) := by decide +kernel
theorem dX12_wordOf_281 : decode cX12_wordOf 281 = .ok (.ldc2_w 170, 3) := by decide +kernel
theorem dX12_wordOf_284 : decode cX12_wordOf 284 = .ok (.lcmp, 1) := by decide +kernel
theorem dX12_wordOf_285 : decode cX12_wordOf 285 = .ok (.ifCond .ne 8, 3) := by decide +kernel
theorem dX12_wordOf_288 : decode cX12_wordOf 288 = .ok (.bipush 22, 2) := by decide +kernel
theorem dX12_wordOf_290 : decode cX12_wordOf 290 = .ok (.goto 121, 3) := by decide +kernel
theorem dX12_wordOf_293 : decode cX12_wordOf 293 = .ok (.lload_n 0, 1) := by decide +kernel
theorem dX12_wordOf_294 : decode cX12_wordOf 294 = .ok (.ldc2_w 172, 3) := by decide +kernel
theorem dX12_wordOf_297 : decode cX12_wordOf 297 = .ok (.lcmp, 1) := by decide +kernel
theorem dX12_wordOf_298 : decode cX12_wordOf 298 = .ok (.ifCond .ne 8, 3) := by decide +kernel
theorem dX12_wordOf_301 : decode cX12_wordOf 301 = .ok (.bipush 23, 2) := by decide +kernel
theorem dX12_wordOf_303 : decode cX12_wordOf 303 = .ok (.goto 108, 3) := by decide +kernel
theorem dX12_wordOf_306 : decode cX12_wordOf 306 = .ok (.lload_n 0, 1) := by decide +kernel
theorem dX12_wordOf_307 : decode cX12_wordOf 307 = .ok (.ldc2_w 174, 3) := by decide +kernel
theorem dX12_wordOf_310 : decode cX12_wordOf 310 = .ok (.lcmp, 1) := by decide +kernel
theorem dX12_wordOf_311 : decode cX12_wordOf 311 = .ok (.ifCond .ne 8, 3) := by decide +kernel
theorem dX12_wordOf_314 : decode cX12_wordOf 314 = .ok (.bipush 24, 2) := by decide +kernel
theorem dX12_wordOf_316 : decode cX12_wordOf 316 = .ok (.goto 95, 3) := by decide +kernel
theorem dX12_wordOf_319 : decode cX12_wordOf 319 = .ok (.lload_n 0, 1) := by decide +kernel
theorem dX12_wordOf_320 : decode cX12_wordOf 320 = .ok (.ldc2_w 176, 3) := by decide +kernel
theorem dX12_wordOf_323 : decode cX12_wordOf 323 = .ok (.lcmp, 1) := by decide +kernel
theorem dX12_wordOf_324 : decode cX12_wordOf 324 = .ok (.ifCond .ne 8, 3) := by decide +kernel
theorem dX12_wordOf_327 : decode cX12_wordOf 327 = .ok (.bipush 25, 2) := by decide +kernel
theorem dX12_wordOf_329 : decode cX12_wordOf 329 = .ok (.goto 82, 3) := by decide +kernel
theorem dX12_wordOf_332 : decode cX12_wordOf 332 = .ok (.lload_n 0, 1) := by decide +kernel
theorem dX12_wordOf_333 : decode cX12_wordOf 333 = .ok (.ldc2_w 178, 3) := by decide +kernel
theorem dX12_wordOf_336 : decode cX12_wordOf 336 = .ok (.lcmp, 1) := by decide +kernel
theorem dX12_wordOf_337 : decode cX12_wordOf 337 = .ok (.ifCond .ne 8, 3) := by decide +kernel
theorem dX12_wordOf_340 : decode cX12_wordOf 340 = .ok (.bipush 26, 2) := by decide +kernel
theorem dX12_wordOf_342 : decode cX12_wordOf 342 = .ok (.goto 69, 3) := by decide +kernel
theorem dX12_wordOf_345 : decode cX12_wordOf 345 = .ok (.lload_n 0, 1) := by decide +kernel
theorem dX12_wordOf_346 : decode cX12_wordOf 346 = .ok (.ldc2_w 180, 3) := by decide +kernel
theorem dX12_wordOf_349 : decode cX12_wordOf 349 = .ok (.lcmp, 1) := by decide +kernel
theorem dX12_wordOf_350 : decode cX12_wordOf 350 = .ok (.ifCond .ne 8, 3) := by decide +kernel
theorem dX12_wordOf_353 : decode cX12_wordOf 353 = .ok (.bipush 27, 2) := by decide +kernel
theorem dX12_wordOf_355 : decode cX12_wordOf 355 = .ok (.goto 56, 3) := by decide +kernel
theorem dX12_wordOf_358 : decode cX12_wordOf 358 = .ok (.lload_n 0, 1) := by decide +kernel
theorem dX12_wordOf_359 : decode cX12_wordOf 359 = .ok (.ldc2_w 182, 3) := by decide +kernel
theorem dX12_wordOf_362 : decode cX12_wordOf 362 = .ok (.lcmp, 1) := by decide +kernel
theorem dX12_wordOf_363 : decode cX12_wordOf 363 = .ok (.ifCond .ne 8, 3) := by decide +kernel
theorem dX12_wordOf_366 : decode cX12_wordOf 366 = .ok (.bipush 28, 2) := by decide +kernel
theorem dX12_wordOf_368 : decode cX12_wordOf 368 = .ok (.goto 43, 3) := by decide +kernel
theorem dX12_wordOf_371 : decode cX12_wordOf 371 = .ok (.lload_n 0, 1) := by decide +kernel
theorem dX12_wordOf_372 : decode cX12_wordOf 372 = .ok (.ldc2_w 184, 3) := by decide +kernel
theorem dX12_wordOf_375 : decode cX12_wordOf 375 = .ok (.lcmp, 1) := by decide +kernel
theorem dX12_wordOf_376 : decode cX12_wordOf 376 = .ok (.ifCond .ne 8, 3) := by decide +kernel
theorem dX12_wordOf_379 : decode cX12_wordOf 379 = .ok (.bipush 29, 2) := by decide +kernel
theorem dX12_wordOf_381 : decode cX12_wordOf 381 = .ok (.goto 30, 3) := by decide +kernel
theorem dX12_wordOf_384 : decode cX12_wordOf 384 = .ok (.lload_n 0, 1) := by decide +kernel
theorem dX12_wordOf_385 : decode cX12_wordOf 385 = .ok (.ldc2_w 186, 3) := by decide +kernel
theorem dX12_wordOf_388 : decode cX12_wordOf 388 = .ok (.lcmp, 1) := by decide +kernel
theorem dX12_wordOf_389 : decode cX12_wordOf 389 = .ok (.ifCond .ne 8, 3) := by decide +kernel
theorem dX12_wordOf_392 : decode cX12_wordOf 392 = .ok (.bipush 30, 2) := by decide +kernel
theorem dX12_wordOf_394 : decode cX12_wordOf 394 = .ok (.goto 17, 3) := by decide +kernel
theorem dX12_wordOf_397 : decode cX12_wordOf 397 = .ok (.lload_n 0, 1) := by decide +kernel
theorem dX12_wordOf_398 : decode cX12_wordOf 398 = .ok (.ldc2_w 188, 3) := by decide +kernel
theorem dX12_wordOf_401 : decode cX12_wordOf 401 = .ok (.lcmp, 1) := by decide +kernel
theorem dX12_wordOf_402 : decode cX12_wordOf 402 = .ok (.ifCond .ne 8, 3) := by decide +kernel
theorem dX12_wordOf_405 : decode cX12_wordOf 405 = .ok (.bipush 31, 2) := by decide +kernel
theorem dX12_wordOf_407 : decode cX12_wordOf 407 = .ok (.goto 4, 3) := by decide +kernel
theorem dX12_wordOf_410 : decode cX12_wordOf 410 = .ok (.iconst (-1), 1) := by decide +kernel
theorem dX12_wordOf_411 : decode cX12_wordOf 411 = .ok (.ireturn, 1) := by decide +kernel
theorem dX12_next_0 : decode cX12_next 0 = .ok (.aload_n 0, 1) := by decide +kernel
theorem dX12_next_1 : decode cX12_next 1 = .ok (.getfield 190, 3) := by decide +kernel
theorem dX12_next_4 : decode cX12_next 4 = .ok (.aload_n 0, 1) := by decide +kernel
theorem dX12_next_5 : decode cX12_next 5 = .ok (.getfield 193, 3) := by decide +kernel
theorem dX12_next_8 : decode cX12_next 8 = .ok (.if_icmp .ge 44, 3) := by decide +kernel
theorem dX12_next_11 : decode cX12_next 11 = .ok (.aload_n 0, 1) := by decide +kernel
theorem dX12_next_12 : decode cX12_next 12 = .ok (.getfield 16, 3) := by decide +kernel
theorem dX12_next_15 : decode cX12_next 15 = .ok (.aload_n 0, 1) := by decide +kernel
theorem dX12_next_16 : decode cX12_next 16 = .ok (.getfield 190, 3) := by decide +kernel
theorem dX12_next_19 : decode cX12_next 19 = .ok (.baload, 1) := by decide +kernel
theorem dX12_next_20 : decode cX12_next 20 = .ok (.bipush 32, 2) := by decide +kernel
theorem dX12_next_22 : decode cX12_next 22 = .ok (.if_icmp .eq 17, 3) := by decide +kernel
theorem dX12_next_25 : decode cX12_next 25 = .ok (.aload_n 0, 1) := by decide +kernel
theorem dX12_next_26 : decode cX12_next 26 = .ok (.getfield 16, 3) := by decide +kernel
theorem dX12_next_29 : decode cX12_next 29 = .ok (.aload_n 0, 1) := by decide +kernel
theorem dX12_next_30 : decode cX12_next 30 = .ok (.getfield 190, 3) := by decide +kernel
theorem dX12_next_33 : decode cX12_next 33 = .ok (.baload, 1) := by decide +kernel
theorem dX12_next_34 : decode cX12_next 34 = .ok (.bipush 10, 2) := by decide +kernel
theorem dX12_next_36 : decode cX12_next 36 = .ok (.if_icmp .ne 16, 3) := by decide +kernel
theorem dX12_next_39 : decode cX12_next 39 = .ok (.aload_n 0, 1) := by decide +kernel
theorem dX12_next_40 : decode cX12_next 40 = .ok (.dup, 1) := by decide +kernel
theorem dX12_next_41 : decode cX12_next 41 = .ok (.getfield 190, 3) := by decide +kernel
theorem dX12_next_44 : decode cX12_next 44 = .ok (.iconst 1, 1) := by decide +kernel
theorem dX12_next_45 : decode cX12_next 45 = .ok (.iadd, 1) := by decide +kernel
theorem dX12_next_46 : decode cX12_next 46 = .ok (.putfield 190, 3) := by decide +kernel
theorem dX12_next_49 : decode cX12_next 49 = .ok (.goto (-49), 3) := by decide +kernel
theorem dX12_next_52 : decode cX12_next 52 = .ok (.aload_n 0, 1) := by decide +kernel
theorem dX12_next_53 : decode cX12_next 53 = .ok (.aload_n 0, 1) := by decide +kernel
theorem dX12_next_54 : decode cX12_next 54 = .ok (.getfield 190, 3) := by decide +kernel
theorem dX12_next_57 : decode cX12_next 57 = .ok (.putfield 196, 3) := by decide +kernel
theorem dX12_next_60 : decode cX12_next 60 = .ok (.aload_n 0, 1) := by decide +kernel
theorem dX12_next_61 : decode cX12_next 61 = .ok (.getfield 190, 3) := by decide +kernel
theorem dX12_next_64 : decode cX12_next 64 = .ok (.aload_n 0, 1) := by decide +kernel
theorem dX12_next_65 : decode cX12_next 65 = .ok (.getfield 193, 3) := by decide +kernel
theorem dX12_next_68 : decode cX12_next 68 = .ok (.if_icmp .ne 9, 3) := by decide +kernel
theorem dX12_next_71 : decode cX12_next 71 = .ok (.aload_n 0, 1) := by decide +kernel
theorem dX12_next_72 : decode cX12_next 72 = .ok (.iconst 0, 1) := by decide +kernel
theorem dX12_next_73 : decode cX12_next 73 = .ok (.putfield 199, 3) := by decide +kernel
theorem dX12_next_76 : decode cX12_next 76 = .ok (.return_, 1) := by decide +kernel
theorem dX12_next_77 : decode cX12_next 77 = .ok (.aload_n 0, 1) := by decide +kernel
theorem dX12_next_78 : decode cX12_next 78 = .ok (.getfield 16, 3) := by decide +kernel
theorem dX12_next_81 : decode cX12_next 81 = .ok (.aload_n 0, 1) := by decide +kernel
theorem dX12_next_82 : decode cX12_next 82 = .ok (.getfield 190, 3) := by decide +kernel
theorem dX12_next_85 : decode cX12_next 85 = .ok (.baload, 1) := by decide +kernel
theorem dX12_next_86 : decode cX12_next 86 = .ok (.istore_n 1, 1) := by decide +kernel
theorem dX12_next_87 : decode cX12_next 87 = .ok (.iload_n 1, 1) := by decide +kernel
theorem dX12_next_88 : decode cX12_next 88 = .ok (.invokestatic 202, 3) := by decide +kernel
theorem dX12_next_91 : decode cX12_next 91 = .ok (.ifCond .eq 120, 3) := by decide +kernel
theorem dX12_next_94 : decode cX12_next 94 = .ok (.lconst 0, 1) := by decide +kernel
theorem dX12_next_95 : decode cX12_next 95 = .ok (.lstore_n 2, 1) := by decide +kernel
theorem dX12_next_96 : decode cX12_next 96 = .ok (.iconst 0, 1) := by decide +kernel
theorem dX12_next_97 : decode cX12_next 97 = .ok (.istore 4, 2) := by decide +kernel
theorem dX12_next_99 : decode cX12_next 99 = .ok (.aload_n 0, 1) := by decide +kernel
theorem dX12_next_100 : decode cX12_next 100 = .ok (.getfield 190, 3) := by decide +kernel
theorem dX12_next_103 : decode cX12_next 103 = .ok (.aload_n 0, 1) := by decide +kernel
theorem dX12_next_104 : decode cX12_next 104 = .ok (.getfield 193, 3) := by decide +kernel
theorem dX12_next_107 : decode cX12_next 107 = .ok (.if_icmp .ge 66, 3) := by decide +kernel
theorem dX12_next_110 : decode cX12_next 110 = .ok (.aload_n 0, 1) := by decide +kernel
theorem dX12_next_111 : decode cX12_next 111 = .ok (.getfield 16, 3) := by decide +kernel
theorem dX12_next_114 : decode cX12_next 114 = .ok (.aload_n 0, 1) := by decide +kernel
theorem dX12_next_115 : decode cX12_next 115 = .ok (.getfield 190, 3) := by decide +kernel
theorem dX12_next_118 : decode cX12_next 118 = .ok (.baload, 1) := by decide +kernel
theorem dX12_next_119 : decode cX12_next 119 = .ok (.invokestatic 202, 3) := by decide +kernel
theorem dX12_next_122 : decode cX12_next 122 = .ok (.ifCond .eq 51, 3) := by decide +kernel
theorem dX12_next_125 : decode cX12_next 125 = .ok (.iload 4, 2) := by decide +kernel
theorem dX12_next_127 : decode cX12_next 127 = .ok (.bipush 8, 2) := by decide +kernel
theorem dX12_next_129 : decode cX12_next 129 = .ok (.if_icmp .ge 26, 3) := by decide +kernel
theorem dX12_next_132 : decode cX12_next 132 = .ok (.ldc2_w 205, 3) := by decide +kernel
theorem dX12_next_135 : decode cX12_next 135 = .ok (.lload_n 2, 1) := by decide +kernel
theorem dX12_next_136 : decode cX12_next 136 = .ok (.lmul, 1) := by decide +kernel
theorem dX12_next_137 : decode cX12_next 137 = .ok (.aload_n 0, 1) := by decide +kernel
theorem dX12_next_138 : decode cX12_next 138 = .ok (.getfield 16, 3) := by decide +kernel
theorem dX12_next_141 : decode cX12_next 141 = .ok (.aload_n 0, 1) := by decide +kernel
theorem dX12_next_142 : decode cX12_next 142 = .ok (.getfield 190, 3) := by decide +kernel
theorem dX12_next_145 : decode cX12_next 145 = .ok (.baload, 1) := by decide +kernel
theorem dX12_next_146 : decode cX12_next 146 = .ok (.i2l, 1) := by decide +kernel
theorem dX12_next_147 : decode cX12_next 147 = .ok (.ladd, 1) := by decide +kernel
theorem dX12_next_148 : decode cX12_next 148 = .ok (.ldc2_w 205, 3) := by decide +kernel
theorem dX12_next_151 : decode cX12_next 151 = .ok (.lsub, 1) := by decide +kernel
theorem dX12_next_152 : decode cX12_next 152 = .ok (.goto 4, 3) := by decide +kernel
theorem dX12_next_155 : decode cX12_next 155 = .ok (.lload_n 2, 1) := by decide +kernel
theorem dX12_next_156 : decode cX12_next 156 = .ok (.lstore_n 2, 1) := by decide +kernel
theorem dX12_next_157 : decode cX12_next 157 = .ok (.iinc 4 1, 3) := by decide +kernel
theorem dX12_next_160 : decode cX12_next 160 = .ok (.aload_n 0, 1) := by decide +kernel
theorem dX12_next_161 : decode cX12_next 161 = .ok (.dup, 1) := by decide +kernel
theorem dX12_next_162 : decode cX12_next 162 = .ok (.getfield 190, 3) := by decide +kernel
theorem dX12_next_165 : decode cX12_next 165 = .ok (.iconst 1, 1) := by decide +kernel
theorem dX12_next_166 : decode cX12_next 166 = .ok (.iadd, 1) := by decide +kernel
theorem dX12_next_167 : decode cX12_next 167 = .ok (.putfield 190, 3) := by decide +kernel
theorem dX12_next_170 : decode cX12_next 170 = .ok (.goto (-71), 3) := by decide +kernel
theorem dX12_next_173 : decode cX12_next 173 = .ok (.aload_n 0, 1) := by decide +kernel
theorem dX12_next_174 : decode cX12_next 174 = .ok (.iload 4, 2) := by decide +kernel
theorem dX12_next_176 : decode cX12_next 176 = .ok (.bipush 7, 2) := by decide +kernel
theorem dX12_next_178 : decode cX12_next 178 = .ok (.if_icmp .le 7, 3) := by decide +kernel
theorem dX12_next_181 : decode cX12_next 181 = .ok (.iconst (-1), 1) := by decide +kernel
theorem dX12_next_182 : decode cX12_next 182 = .ok (.goto 7, 3) := by decide +kernel
theorem dX12_next_185 : decode cX12_next 185 = .ok (.lload_n 2, 1) := by decide +kernel
theorem dX12_next_186 : decode cX12_next 186 = .ok (.invokestatic 207, 3) := by decide +kernel
theorem dX12_next_189 : decode cX12_next 189 = .ok (.putfield 211, 3) := by decide +kernel
theorem dX12_next_192 : decode cX12_next 192 = .ok (.aload_n 0, 1) := by decide +kernel
theorem dX12_next_193 : decode cX12_next 193 = .ok (.aload_n 0, 1) := by decide +kernel
theorem dX12_next_194 : decode cX12_next 194 = .ok (.getfield 211, 3) := by decide +kernel
theorem dX12_next_197 : decode cX12_next 197 = .ok (.ifCond .ge 7, 3) := by decide +kernel
theorem dX12_next_200 : decode cX12_next 200 = .ok (.iconst 4, 1) := by decide +kernel
theorem dX12_next_201 : decode cX12_next 201 = .ok (.goto 4, 3) := by decide +kernel
theorem dX12_next_204 : decode cX12_next 204 = .ok (.iconst 1, 1) := by decide +kernel
theorem dX12_next_205 : decode cX12_next 205 = .ok (.putfield 199, 3) := by decide +kernel
theorem dX12_next_208 : decode cX12_next 208 = .ok (.goto 231, 3) := by decide +kernel
theorem dX12_next_211 : decode cX12_next 211 = .ok (.iload_n 1, 1) := by decide +kernel
theorem dX12_next_212 : decode cX12_next 212 = .ok (.bipush 48, 2) := by decide +kernel
theorem dX12_next_214 : decode cX12_next 214 = .ok (.bipush 57, 2) := by decide +kernel
theorem dX12_next_216 : decode cX12_next 216 = .ok (.invokestatic 107, 3) := by decide +kernel
theorem dX12_next_219 : decode cX12_next 219 = .ok (.ifCond .eq 96, 3) := by decide +kernel
theorem dX12_next_222 : decode cX12_next 222 = .ok (.aload_n 0, 1) := by decide +kernel
theorem dX12_next_223 : decode cX12_next 223 = .ok (.iconst 2, 1) := by decide +kernel
theorem dX12_next_224 : decode cX12_next 224 = .ok (.putfield 199, 3) := by decide +kernel
theorem dX12_next_227 : decode cX12_next 227 = .ok (.aload_n 0, 1) := by decide +kernel
theorem dX12_next_228 : decode cX12_next 228 = .ok (.iconst 0, 1) := by decide +kernel
theorem dX12_next_229 : decode cX12_next 229 = .ok (.putfield 211, 3) := by decide +kernel
theorem dX12_next_232 : decode cX12_next 232 = .ok (.aload_n 0, 1) := by decide +kernel
theorem dX12_next_233 : decode cX12_next 233 = .ok (.getfield 190, 3) := by decide +kernel
theorem dX12_next_236 : decode cX12_next 236 = .ok (.aload_n 0, 1) := by decide +kernel
theorem dX12_next_237 : decode cX12_next 237 = .ok (.getfield 193, 3) := by decide +kernel
theorem dX12_next_240 : decode cX12_next 240 = .ok (.if_icmp .ge 199, 3) := by decide +kernel
theorem dX12_next_243 : decode cX12_next 243 = .ok (.aload_n 0, 1) := by decide +kernel
theorem dX12_next_244 : decode cX12_next 244 = .ok (.getfield 16, 3) := by decide +kernel
theorem dX12_next_247 : decode cX12_next 247 = .ok (.aload_n 0, 1) := by decide +kernel
theorem dX12_next_248 : decode cX12_next 248 = .ok (.getfield 190, 3) := by decide +kernel
theorem dX12_next_251 : decode cX12_next 251 = .ok (.baload, 1) := by decide +kernel
theorem dX12_next_252 : decode cX12_next 252 = .ok (.bipush 48, 2) := by decide +kernel
theorem dX12_next_254 : decode cX12_next 254 = .ok (.bipush 57, 2) := by decide +kernel
theorem dX12_next_256 : decode cX12_next 256 = .ok (.invokestatic 107, 3) := by decide +kernel
theorem dX12_next_259 : decode cX12_next 259 = .ok (.ifCond .eq 180, 3) := by decide +kernel
theorem dX12_next_262 : decode cX12_next 262 = .ok (.aload_n 0, 1) := by decide +kernel
theorem dX12_next_263 : decode cX12_next 263 = .ok (.aload_n 0, 1) := by decide +kernel
theorem dX12_next_264 : decode cX12_next 264 = .ok (.getfield 211, 3) := by decide +kernel
theorem dX12_next_267 : decode cX12_next 267 = .ok (.ldc 214, 2) := by decide +kernel
theorem dX12_next_269 : decode cX12_next 269 = .ok (.if_icmp .le 10, 3) := by decide +kernel
theorem dX12_next_272 : decode cX12_next 272 = .ok (.aload_n 0, 1) := by decide +kernel
theorem dX12_next_273 : decode cX12_next 273 = .ok (.getfield 211, 3) := by decide +kernel
theorem dX12_next_276 : decode cX12_next 276 = .ok (.goto 23, 3) := by decide +kernel
theorem dX12_next_279 : decode cX12_next 279 = .ok (.bipush 10, 2) := by decide +kernel
theorem dX12_next_281 : decode cX12_next 281 = .ok (.aload_n 0, 1) := by decide +kernel
theorem dX12_next_282 : decode cX12_next 282 = .ok (.getfield 211, 3) := by decide +kernel
theorem dX12_next_285 : decode cX12_next 285 = .ok (.imul, 1) := by decide +kernel
theorem dX12_next_286 : decode cX12_next 286 = .ok (.aload_n 0, 1) := by decide +kernel
theorem dX12_next_287 : decode cX12_next 287 = .ok (.getfield 16, 3) := by decide +kernel
theorem dX12_next_290 : decode cX12_next 290 = .ok (.aload_n 0, 1) := by decide +kernel
theorem dX12_next_291 : decode cX12_next 291 = .ok (.getfield 190, 3) := by decide +kernel
theorem dX12_next_294 : decode cX12_next 294 = .ok (.baload, 1) := by decide +kernel
theorem dX12_next_295 : decode cX12_next 295 = .ok (.iadd, 1) := by decide +kernel
theorem dX12_next_296 : decode cX12_next 296 = .ok (.bipush 48, 2) := by decide +kernel
theorem dX12_next_298 : decode cX12_next 298 = .ok (.isub, 1) := by decide +kernel
theorem dX12_next_299 : decode cX12_next 299 = .ok (.putfield 211, 3) := by decide +kernel
theorem dX12_next_302 : decode cX12_next 302 = .ok (.aload_n 0, 1) := by decide +kernel
theorem dX12_next_303 : decode cX12_next 303 = .ok (.dup, 1) := by decide +kernel
theorem dX12_next_304 : decode cX12_next 304 = .ok (.getfield 190, 3) := by decide +kernel
theorem dX12_next_307 : decode cX12_next 307 = .ok (.iconst 1, 1) := by decide +kernel
theorem dX12_next_308 : decode cX12_next 308 = .ok (.iadd, 1) := by decide +kernel
theorem dX12_next_309 : decode cX12_next 309 = .ok (.putfield 190, 3) := by decide +kernel
theorem dX12_next_312 : decode cX12_next 312 = .ok (.goto (-80), 3) := by decide +kernel
theorem dX12_next_315 : decode cX12_next 315 = .ok (.aload_n 0, 1) := by decide +kernel
theorem dX12_next_316 : decode cX12_next 316 = .ok (.dup, 1) := by decide +kernel
theorem dX12_next_317 : decode cX12_next 317 = .ok (.getfield 190, 3) := by decide +kernel
theorem dX12_next_320 : decode cX12_next 320 = .ok (.iconst 1, 1) := by decide +kernel
theorem dX12_next_321 : decode cX12_next 321 = .ok (.iadd, 1) := by decide +kernel
theorem dX12_next_322 : decode cX12_next 322 = .ok (.putfield 190, 3) := by decide +kernel
theorem dX12_next_325 : decode cX12_next 325 = .ok (.aload_n 0, 1) := by decide +kernel
theorem dX12_next_326 : decode cX12_next 326 = .ok (.iload_n 1, 1) := by decide +kernel
theorem dX12_next_327 : decode cX12_next 327 = .ok (.putfield 211, 3) := by decide +kernel
theorem dX12_next_330 : decode cX12_next 330 = .ok (.aload_n 0, 1) := by decide +kernel
theorem dX12_next_331 : decode cX12_next 331 = .ok (.iload_n 1, 1) := by decide +kernel
theorem dX12_next_332 : decode cX12_next 332 = .ok (.bipush 59, 2) := by decide +kernel
theorem dX12_next_334 : decode cX12_next 334 = .ok (.bipush 62, 2) := by decide +kernel
theorem dX12_next_336 : decode cX12_next 336 = .ok (.invokestatic 107, 3) := by decide +kernel
theorem dX12_next_339 : decode cX12_next 339 = .ok (.ifCond .ne 26, 3) := by decide +kernel
theorem dX12_next_342 : decode cX12_next 342 = .ok (.iload_n 1, 1) := by decide +kernel
theorem dX12_next_343 : decode cX12_next 343 = .ok (.bipush 40, 2) := by decide +kernel
theorem dX12_next_345 : decode cX12_next 345 = .ok (.bipush 45, 2) := by decide +kernel
theorem dX12_next_347 : decode cX12_next 347 = .ok (.invokestatic 107, 3) := by decide +kernel
theorem dX12_next_350 : decode cX12_next 350 = .ok (.ifCond .ne 15, 3) := by decide +kernel
theorem dX12_next_353 : decode cX12_next 353 = .ok (.iload_n 1, 1) := by decide +kernel
theorem dX12_next_354 : decode cX12_next 354 = .ok (.bipush 47, 2) := by decide +kernel
theorem dX12_next_356 : decode cX12_next 356 = .ok (.if_icmp .eq 9, 3) := by decide +kernel
theorem dX12_next_359 : decode cX12_next 359 = .ok (.iload_n 1, 1) := by decide +kernel
theorem dX12_next_360 : decode cX12_next 360 = .ok (.bipush 35, 2) := by decide +kernel
theorem dX12_next_362 : decode cX12_next 362 = .ok (.if_icmp .ne 7, 3) := by decide +kernel
theorem dX12_next_365 : decode cX12_next 365 = .ok (.iconst 3, 1) := by decide +kernel
theorem dX12_next_366 : decode cX12_next 366 = .ok (.goto 4, 3) := by decide +kernel
theorem dX12_next_369 : decode cX12_next 369 = .ok (.iconst 4, 1) := by decide +kernel
theorem dX12_next_370 : decode cX12_next 370 = .ok (.putfield 199, 3) := by decide +kernel
theorem dX12_next_373 : decode cX12_next 373 = .ok (.iload_n 1, 1) := by decide +kernel
theorem dX12_next_374 : decode cX12_next 374 = .ok (.bipush 60, 2) := by decide +kernel
theorem dX12_next_376 : decode cX12_next 376 = .ok (.if_icmp .eq 9, 3) := by decide +kernel
theorem dX12_next_379 : decode cX12_next 379 = .ok (.iload_n 1, 1) := by decide +kernel
theorem dX12_next_380 : decode cX12_next 380 = .ok (.bipush 62, 2) := by decide +kernel
theorem dX12_next_382 : decode cX12_next 382 = .ok (.if_icmp .ne 57, 3) := by decide +kernel
theorem dX12_next_385 : decode cX12_next 385 = .ok (.aload_n 0, 1) := by decide +kernel
theorem dX12_next_386 : decode cX12_next 386 = .ok (.getfield 190, 3) := by decide +kernel
theorem dX12_next_389 : decode cX12_next 389 = .ok (.aload_n 0, 1) := by decide +kernel
theorem dX12_next_390 : decode cX12_next 390 = .ok (.getfield 193, 3) := by decide +kernel
theorem dX12_next_393 : decode cX12_next 393 = .ok (.if_icmp .ge 46, 3) := by decide +kernel
theorem dX12_next_396 : decode cX12_next 396 = .ok (.aload_n 0, 1) := by decide +kernel
theorem dX12_next_397 : decode cX12_next 397 = .ok (.getfield 16, 3) := by decide +kernel
theorem dX12_next_400 : decode cX12_next 400 = .ok (.aload_n 0, 1) := by decide +kernel
theorem dX12_next_401 : decode cX12_next 401 = .ok (.getfield 190, 3) := by decide +kernel
theorem dX12_next_404 : decode cX12_next 404 = .ok (.baload, 1) := by decide +kernel
theorem dX12_next_405 : decode cX12_next 405 = .ok (.bipush 61, 2) := by decide +kernel
theorem dX12_next_407 : decode cX12_next 407 = .ok (.if_icmp .ne 32, 3) := by decide +kernel
theorem dX12_next_410 : decode cX12_next 410 = .ok (.aload_n 0, 1) := by decide +kernel
theorem dX12_next_411 : decode cX12_next 411 = .ok (.iload_n 1, 1) := by decide +kernel
theorem dX12_next_412 : decode cX12_next 412 = .ok (.bipush 60, 2) := by decide +kernel
theorem dX12_next_414 : decode cX12_next 414 = .ok (.if_icmp .ne 9, 3) := by decide +kernel
theorem dX12_next_417 : decode cX12_next 417 = .ok (.sipush 300, 3) := by decide +kernel
theorem dX12_next_420 : decode cX12_next 420 = .ok (.goto 6, 3) := by decide +kernel
theorem dX12_next_423 : decode cX12_next 423 = .ok (.sipush 301, 3) := by decide +kernel
theorem dX12_next_426 : decode cX12_next 426 = .ok (.putfield 211, 3) := by decide +kernel
theorem dX12_next_429 : decode cX12_next 429 = .ok (.aload_n 0, 1) := by decide +kernel
theorem dX12_next_430 : decode cX12_next 430 = .ok (.dup, 1) := by decide +kernel
theorem dX12_next_431 : decode cX12_next 431 = .ok (.getfield 190, 3) := by decide +kernel
theorem dX12_next_434 : decode cX12_next 434 = .ok (.iconst 1, 1) := by decide +kernel
theorem dX12_next_435 : decode cX12_next 435 = .ok (.iadd, 1) := by decide +kernel
theorem dX12_next_436 : decode cX12_next 436 = .ok (.putfield 190, 3) := by decide +kernel
theorem dX12_next_439 : decode cX12_next 439 = .ok (.return_, 1) := by decide +kernel
theorem dX12_isSign_0 : decode cX12_isSign 0 = .ok (.aload_n 0, 1) := by decide +kernel
theorem dX12_isSign_1 : decode cX12_isSign 1 = .ok (.getfield 199, 3) := by decide +kernel
theorem dX12_isSign_4 : decode cX12_isSign 4 = .ok (.iconst 3, 1) := by decide +kernel
theorem dX12_isSign_5 : decode cX12_isSign 5 = .ok (.if_icmp .ne 15, 3) := by decide +kernel
theorem dX12_isSign_8 : decode cX12_isSign 8 = .ok (.aload_n 0, 1) := by decide +kernel
theorem dX12_isSign_9 : decode cX12_isSign 9 = .ok (.getfield 211, 3) := by decide +kernel
theorem dX12_isSign_12 : decode cX12_isSign 12 = .ok (.iload_n 1, 1) := by decide +kernel
theorem dX12_isSign_13 : decode cX12_isSign 13 = .ok (.if_icmp .ne 7, 3) := by decide +kernel
theorem dX12_isSign_16 : decode cX12_isSign 16 = .ok (.iconst 1, 1) := by decide +kernel
theorem dX12_isSign_17 : decode cX12_isSign 17 = .ok (.goto 4, 3) := by decide +kernel
theorem dX12_isSign_20 : decode cX12_isSign 20 = .ok (.iconst 0, 1) := by decide +kernel
theorem dX12_isSign_21 : decode cX12_isSign 21 = .ok (.ireturn, 1) := by decide +kernel
theorem dX12_isWord_0 : decode cX12_isWord 0 = .ok (.aload_n 0, 1) := by decide +kernel
theorem dX12_isWord_1 : decode cX12_isWord 1 = .ok (.getfield 199, 3) := by decide +kernel
theorem dX12_isWord_4 : decode cX12_isWord 4 = .ok (.iconst 1, 1) := by decide +kernel
theorem dX12_isWord_5 : decode cX12_isWord 5 = .ok (.if_icmp .ne 15, 3) := by decide +kernel
theorem dX12_isWord_8 : decode cX12_isWord 8 = .ok (.aload_n 0, 1) := by decide +kernel
theorem dX12_isWord_9 : decode cX12_isWord 9 = .ok (.getfield 211, 3) := by decide +kernel
theorem dX12_isWord_12 : decode cX12_isWord 12 = .ok (.iload_n 1, 1) := by decide +kernel
theorem dX12_isWord_13 : decode cX12_isWord 13 = .ok (.if_icmp .ne 7, 3) := by decide +kernel
theorem dX12_isWord_16 : decode cX12_isWord 16 = .ok (.iconst 1, 1) := by decide +kernel
theorem dX12_isWord_17 : decode cX12_isWord 17 = .ok (.goto 4, 3) := by decide +kernel
theorem dX12_isWord_20 : decode cX12_isWord 20 = .ok (.iconst 0, 1) := by decide +kernel
theorem dX12_isWord_21 : decode cX12_isWord 21 = .ok (.ireturn, 1) := by decide +kernel
theorem dX12_errs_0 : decode cX12_errs 0 = .ok (.aload_n 0, 1) := by decide +kernel
theorem dX12_errs_1 : decode cX12_errs 1 = .ok (.getfield 215, 3) := by decide +kernel
theorem dX12_errs_4 : decode cX12_errs 4 = .ok (.ifCond .ne 16, 3) := by decide +kernel
theorem dX12_errs_7 : decode cX12_errs 7 = .ok (.aload_n 0, 1) := by decide +kernel
theorem dX12_errs_8 : decode cX12_errs 8 = .ok (.iload_n 1, 1) := by decide +kernel
theorem dX12_errs_9 : decode cX12_errs 9 = .ok (.putfield 215, 3) := by decide +kernel
theorem dX12_errs_12 : decode cX12_errs 12 = .ok (.aload_n 0, 1) := by decide +kernel
theorem dX12_errs_13 : decode cX12_errs 13 = .ok (.aload_n 0, 1) := by decide +kernel
theorem dX12_errs_14 : decode cX12_errs 14 = .ok (.getfield 196, 3) := by decide +kernel
theorem dX12_errs_17 : decode cX12_errs 17 = .ok (.putfield 218, 3) := by decide +kernel
theorem dX12_errs_20 : decode cX12_errs 20 = .ok (.return_, 1) := by decide +kernel
theorem dX12_emits_0 : decode cX12_emits 0 = .ok (.aload_n 0, 1) := by decide +kernel
theorem dX12_emits_1 : decode cX12_emits 1 = .ok (.getfield 81, 3) := by decide +kernel
theorem dX12_emits_4 : decode cX12_emits 4 = .ok (.aload_n 0, 1) := by decide +kernel
theorem dX12_emits_5 : decode cX12_emits 5 = .ok (.getfield 221, 3) := by decide +kernel
theorem dX12_emits_8 : decode cX12_emits 8 = .ok (.iload_n 1, 1) := by decide +kernel
theorem dX12_emits_9 : decode cX12_emits 9 = .ok (.iastore, 1) := by decide +kernel
theorem dX12_emits_10 : decode cX12_emits 10 = .ok (.aload_n 0, 1) := by decide +kernel
theorem dX12_emits_11 : decode cX12_emits 11 = .ok (.getfield 84, 3) := by decide +kernel
theorem dX12_emits_14 : decode cX12_emits 14 = .ok (.aload_n 0, 1) := by decide +kernel
theorem dX12_emits_15 : decode cX12_emits 15 = .ok (.getfield 221, 3) := by decide +kernel
theorem dX12_emits_18 : decode cX12_emits 18 = .ok (.iload_n 2, 1) := by decide +kernel
theorem dX12_emits_19 : decode cX12_emits 19 = .ok (.iastore, 1) := by decide +kernel
theorem dX12_emits_20 : decode cX12_emits 20 = .ok (.aload_n 0, 1) := by decide +kernel
theorem dX12_emits_21 : decode cX12_emits 21 = .ok (.dup, 1) := by decide +kernel
theorem dX12_emits_22 : decode cX12_emits 22 = .ok (.getfield 221, 3) := by decide +kernel
theorem dX12_emits_25 : decode cX12_emits 25 = .ok (.iconst 1, 1) := by decide +kernel
theorem dX12_emits_26 : decode cX12_emits 26 = .ok (.iadd, 1) := by decide +kernel
theorem dX12_emits_27 : decode cX12_emits 27 = .ok (.putfield 221, 3) := by decide +kernel
theorem dX12_emits_30 : decode cX12_emits 30 = .ok (.return_, 1) := by decide +kernel
theorem dX12_opensFrame_0 : decode cX12_opensFrame 0 = .ok (.aload_n 0, 1) := by decide +kernel
theorem dX12_opensFrame_1 : decode cX12_opensFrame 1 = .ok (.getfield 51, 3) := by decide +kernel
theorem dX12_opensFrame_4 : decode cX12_opensFrame 4 = .ok (.aload_n 0, 1) := by decide +kernel
theorem dX12_opensFrame_5 : decode cX12_opensFrame 5 = .ok (.getfield 224, 3) := by decide +kernel
theorem dX12_opensFrame_8 : decode cX12_opensFrame 8 = .ok (.iload_n 1, 1) := by decide +kernel
theorem dX12_opensFrame_9 : decode cX12_opensFrame 9 = .ok (.iastore, 1) := by decide +kernel
theorem dX12_opensFrame_10 : decode cX12_opensFrame 10 = .ok (.aload_n 0, 1) := by decide +kernel
theorem dX12_opensFrame_11 : decode cX12_opensFrame 11 = .ok (.dup, 1) := by decide +kernel
theorem dX12_opensFrame_12 : decode cX12_opensFrame 12 = .ok (.getfield 224, 3) := by decide +kernel
theorem dX12_opensFrame_15 : decode cX12_opensFrame 15 = .ok (.iconst 1, 1) := by decide +kernel
theorem dX12_opensFrame_16 : decode cX12_opensFrame 16 = .ok (.iadd, 1) := by decide +kernel
theorem dX12_opensFrame_17 : decode cX12_opensFrame 17 = .ok (.putfield 224, 3) := by decide +kernel
theorem dX12_opensFrame_20 : decode cX12_opensFrame 20 = .ok (.return_, 1) := by decide +kernel
theorem dX12_top_0 : decode cX12_top 0 = .ok (.aload_n 0, 1) := by decide +kernel
theorem dX12_top_1 : decode cX12_top 1 = .ok (.getfield 51, 3) := by decide +kernel
theorem dX12_top_4 : decode cX12_top 4 = .ok (.aload_n 0, 1) := by decide +kernel
theorem dX12_top_5 : decode cX12_top 5 = .ok (.getfield 224, 3) := by decide +kernel
theorem dX12_top_8 : decode cX12_top 8 = .ok (.iconst 1, 1) := by decide +kernel
theorem dX12_top_9 : decode cX12_top 9 = .ok (.isub, 1) := by decide +kernel
theorem dX12_top_10 : decode cX12_top 10 = .ok (.iaload, 1) := by decide +kernel
theorem dX12_top_11 : decode cX12_top 11 = .ok (.ireturn, 1) := by decide +kernel
theorem dX12_opensSign_0 : decode cX12_opensSign 0 = .ok (.aload_n 0, 1) := by decide +kernel
theorem dX12_opensSign_1 : decode cX12_opensSign 1 = .ok (.getfield 227, 3) := by decide +kernel
theorem dX12_opensSign_4 : decode cX12_opensSign 4 = .ok (.bipush 8, 2) := by decide +kernel
theorem dX12_opensSign_6 : decode cX12_opensSign 6 = .ok (.if_icmp .ne 10, 3) := by decide +kernel
theorem dX12_opensSign_9 : decode cX12_opensSign 9 = .ok (.aload_n 0, 1) := by decide +kernel
theorem dX12_opensSign_10 : decode cX12_opensSign 10 = .ok (.iconst 3, 1) := by decide +kernel
theorem dX12_opensSign_11 : decode cX12_opensSign 11 = .ok (.invokevirtual 230, 3) := by decide +kernel
theorem dX12_opensSign_14 : decode cX12_opensSign 14 = .ok (.iconst 0, 1) := by decide +kernel
theorem dX12_opensSign_15 : decode cX12_opensSign 15 = .ok (.ireturn, 1) := by decide +kernel
theorem dX12_opensSign_16 : decode cX12_opensSign 16 = .ok (.aload_n 0, 1) := by decide +kernel
theorem dX12_opensSign_17 : decode cX12_opensSign 17 = .ok (.dup, 1) := by decide +kernel
theorem dX12_opensSign_18 : decode cX12_opensSign 18 = .ok (.getfield 227, 3) := by decide +kernel
theorem dX12_opensSign_21 : decode cX12_opensSign 21 = .ok (.iconst 1, 1) := by decide +kernel
theorem dX12_opensSign_22 : decode cX12_opensSign 22 = .ok (.iadd, 1) := by decide +kernel
theorem dX12_opensSign_23 : decode cX12_opensSign 23 = .ok (.putfield 227, 3) := by decide +kernel
theorem dX12_opensSign_26 : decode cX12_opensSign 26 = .ok (.aload_n 0, 1) := by decide +kernel
theorem dX12_opensSign_27 : decode cX12_opensSign 27 = .ok (.iload_n 1, 1) := by decide +kernel
theorem dX12_opensSign_28 : decode cX12_opensSign 28 = .ok (.invokevirtual 233, 3) := by decide +kernel
theorem dX12_opensSign_31 : decode cX12_opensSign 31 = .ok (.aload_n 0, 1) := by decide +kernel
theorem dX12_opensSign_32 : decode cX12_opensSign 32 = .ok (.invokevirtual 236, 3) := by decide +kernel
theorem dX12_opensSign_35 : decode cX12_opensSign 35 = .ok (.iconst 1, 1) := by decide +kernel
theorem dX12_opensSign_36 : decode cX12_opensSign 36 = .ok (.ireturn, 1) := by decide +kernel
theorem dX12_rank_0 : decode cX12_rank 0 = .ok (.iload_n 0, 1) := by decide +kernel
theorem dX12_rank_1 : decode cX12_rank 1 = .ok (.sipush 407, 3) := by decide +kernel
theorem dX12_rank_4 : decode cX12_rank 4 = .ok (.if_icmp .ne 7, 3) := by decide +kernel
theorem dX12_rank_7 : decode cX12_rank 7 = .ok (.iconst 1, 1) := by decide +kernel
theorem dX12_rank_8 : decode cX12_rank 8 = .ok (.goto 31, 3) := by decide +kernel
theorem dX12_rank_11 : decode cX12_rank 11 = .ok (.iload_n 0, 1) := by decide +kernel
theorem dX12_rank_12 : decode cX12_rank 12 = .ok (.sipush 406, 3) := by decide +kernel
theorem dX12_rank_15 : decode cX12_rank 15 = .ok (.if_icmp .ne 7, 3) := by decide +kernel
theorem dX12_rank_18 : decode cX12_rank 18 = .ok (.iconst 2, 1) := by decide +kernel
theorem dX12_rank_19 : decode cX12_rank 19 = .ok (.goto 20, 3) := by decide +kernel
theorem dX12_rank_22 : decode cX12_rank 22 = .ok (.iload_n 0, 1) := by decide +kernel
theorem dX12_rank_23 : decode cX12_rank 23 = .ok (.bipush 43, 2) := by decide +kernel
theorem dX12_rank_25 : decode cX12_rank 25 = .ok (.if_icmp .eq 9, 3) := by decide +kernel
theorem dX12_rank_28 : decode cX12_rank 28 = .ok (.iload_n 0, 1) := by decide +kernel
theorem dX12_rank_29 : decode cX12_rank 29 = .ok (.bipush 45, 2) := by decide +kernel
theorem dX12_rank_31 : decode cX12_rank 31 = .ok (.if_icmp .ne 7, 3) := by decide +kernel
theorem dX12_rank_34 : decode cX12_rank 34 = .ok (.iconst 3, 1) := by decide +kernel
theorem dX12_rank_35 : decode cX12_rank 35 = .ok (.goto 4, 3) := by decide +kernel
theorem dX12_rank_38 : decode cX12_rank 38 = .ok (.iconst 4, 1) := by decide +kernel
theorem dX12_rank_39 : decode cX12_rank 39 = .ok (.ireturn, 1) := by decide +kernel
theorem dX12_works_0 : decode cX12_works 0 = .ok (.aload_n 0, 1) := by decide +kernel
theorem dX12_works_1 : decode cX12_works 1 = .ok (.getfield 239, 3) := by decide +kernel
theorem dX12_works_4 : decode cX12_works 4 = .ok (.ifCond .le 66, 3) := by decide +kernel
theorem dX12_works_7 : decode cX12_works 7 = .ok (.aload_n 0, 1) := by decide +kernel
theorem dX12_works_8 : decode cX12_works 8 = .ok (.getfield 60, 3) := by decide +kernel
theorem dX12_works_11 : decode cX12_works 11 = .ok (.aload_n 0, 1) := by decide +kernel
theorem dX12_works_12 : decode cX12_works 12 = .ok (.getfield 239, 3) := by decide +kernel
theorem dX12_works_15 : decode cX12_works 15 = .ok (.iconst 1, 1) := by decide +kernel
theorem dX12_works_16 : decode cX12_works 16 = .ok (.isub, 1) := by decide +kernel
theorem dX12_works_17 : decode cX12_works 17 = .ok (.iaload, 1) := by decide +kernel
theorem dX12_works_18 : decode cX12_works 18 = .ok (.aload_n 0, 1) := by decide +kernel
theorem dX12_works_19 : decode cX12_works 19 = .ok (.getfield 224, 3) := by decide +kernel
theorem dX12_works_22 : decode cX12_works 22 = .ok (.if_icmp .ne 48, 3) := by decide +kernel
theorem dX12_works_25 : decode cX12_works 25 = .ok (.aload_n 0, 1) := by decide +kernel
theorem dX12_works_26 : decode cX12_works 26 = .ok (.getfield 57, 3) := by decide +kernel
theorem dX12_works_29 : decode cX12_works 29 = .ok (.aload_n 0, 1) := by decide +kernel
theorem dX12_works_30 : decode cX12_works 30 = .ok (.getfield 239, 3) := by decide +kernel
theorem dX12_works_33 : decode cX12_works 33 = .ok (.iconst 1, 1) := by decide +kernel
theorem dX12_works_34 : decode cX12_works 34 = .ok (.isub, 1) := by decide +kernel
theorem dX12_works_35 : decode cX12_works 35 = .ok (.iaload, 1) := by decide +kernel
theorem dX12_works_36 : decode cX12_works 36 = .ok (.invokestatic 242, 3) := by decide +kernel
theorem dX12_works_39 : decode cX12_works 39 = .ok (.iload_n 1, 1) := by decide +kernel
theorem dX12_works_40 : decode cX12_works 40 = .ok (.if_icmp .lt 30, 3) := by decide +kernel
theorem dX12_works_43 : decode cX12_works 43 = .ok (.aload_n 0, 1) := by decide +kernel
theorem dX12_works_44 : decode cX12_works 44 = .ok (.dup, 1) := by decide +kernel
theorem dX12_works_45 : decode cX12_works 45 = .ok (.getfield 239, 3) := by decide +kernel
theorem dX12_works_48 : decode cX12_works 48 = .ok (.iconst 1, 1) := by decide +kernel
theorem dX12_works_49 : decode cX12_works 49 = .ok (.isub, 1) := by decide +kernel
theorem dX12_works_50 : decode cX12_works 50 = .ok (.putfield 239, 3) := by decide +kernel
theorem dX12_works_53 : decode cX12_works 53 = .ok (.aload_n 0, 1) := by decide +kernel
theorem dX12_works_54 : decode cX12_works 54 = .ok (.aload_n 0, 1) := by decide +kernel
theorem dX12_works_55 : decode cX12_works 55 = .ok (.getfield 57, 3) := by decide +kernel
theorem dX12_works_58 : decode cX12_works 58 = .ok (.aload_n 0, 1) := by decide +kernel
theorem dX12_works_59 : decode cX12_works 59 = .ok (.getfield 239, 3) := by decide +kernel
theorem dX12_works_62 : decode cX12_works 62 = .ok (.iaload, 1) := by decide +kernel
theorem dX12_works_63 : decode cX12_works 63 = .ok (.iconst 0, 1) := by decide +kernel
theorem dX12_works_64 : decode cX12_works 64 = .ok (.invokevirtual 246, 3) := by decide +kernel
theorem dX12_works_67 : decode cX12_works 67 = .ok (.goto (-67), 3) := by decide +kernel
theorem dX12_works_70 : decode cX12_works 70 = .ok (.return_, 1) := by decide +kernel
theorem dX12_waitsFor_0 : decode cX12_waitsFor 0 = .ok (.aload_n 0, 1) := by decide +kernel
theorem dX12_waitsFor_1 : decode cX12_waitsFor 1 = .ok (.iload_n 1, 1) := by decide +kernel
theorem dX12_waitsFor_2 : decode cX12_waitsFor 2 = .ok (.invokestatic 242, 3) := by decide +kernel
theorem dX12_waitsFor_5 : decode cX12_waitsFor 5 = .ok (.invokevirtual 249, 3) := by decide +kernel
theorem dX12_waitsFor_8 : decode cX12_waitsFor 8 = .ok (.aload_n 0, 1) := by decide +kernel
theorem dX12_waitsFor_9 : decode cX12_waitsFor 9 = .ok (.getfield 57, 3) := by decide +kernel
theorem dX12_waitsFor_12 : decode cX12_waitsFor 12 = .ok (.aload_n 0, 1) := by decide +kernel
theorem dX12_waitsFor_13 : decode cX12_waitsFor 13 = .ok (.getfield 239, 3) := by decide +kernel
theorem dX12_waitsFor_16 : decode cX12_waitsFor 16 = .ok (.iload_n 1, 1) := by decide +kernel
theorem dX12_waitsFor_17 : decode cX12_waitsFor 17 = .ok (.iastore, 1) := by decide +kernel
theorem dX12_waitsFor_18 : decode cX12_waitsFor 18 = .ok (.aload_n 0, 1) := by decide +kernel
theorem dX12_waitsFor_19 : decode cX12_waitsFor 19 = .ok (.getfield 60, 3) := by decide +kernel
theorem dX12_waitsFor_22 : decode cX12_waitsFor 22 = .ok (.aload_n 0, 1) := by decide +kernel
theorem dX12_waitsFor_23 : decode cX12_waitsFor 23 = .ok (.getfield 239, 3) := by decide +kernel
theorem dX12_waitsFor_26 : decode cX12_waitsFor 26 = .ok (.aload_n 0, 1) := by decide +kernel
theorem dX12_waitsFor_27 : decode cX12_waitsFor 27 = .ok (.getfield 224, 3) := by decide +kernel
theorem dX12_waitsFor_30 : decode cX12_waitsFor 30 = .ok (.iastore, 1) := by decide +kernel
theorem dX12_waitsFor_31 : decode cX12_waitsFor 31 = .ok (.aload_n 0, 1) := by decide +kernel
theorem dX12_waitsFor_32 : decode cX12_waitsFor 32 = .ok (.dup, 1) := by decide +kernel
theorem dX12_waitsFor_33 : decode cX12_waitsFor 33 = .ok (.getfield 239, 3) := by decide +kernel
theorem dX12_waitsFor_36 : decode cX12_waitsFor 36 = .ok (.iconst 1, 1) := by decide +kernel
theorem dX12_waitsFor_37 : decode cX12_waitsFor 37 = .ok (.iadd, 1) := by decide +kernel
theorem dX12_waitsFor_38 : decode cX12_waitsFor 38 = .ok (.putfield 239, 3) := by decide +kernel
theorem dX12_waitsFor_41 : decode cX12_waitsFor 41 = .ok (.aload_n 0, 1) := by decide +kernel
theorem dX12_waitsFor_42 : decode cX12_waitsFor 42 = .ok (.invokevirtual 236, 3) := by decide +kernel
theorem dX12_waitsFor_45 : decode cX12_waitsFor 45 = .ok (.return_, 1) := by decide +kernel
theorem dX12_asks_0 : decode cX12_asks 0 = .ok (.aload_n 0, 1) := by decide +kernel
theorem dX12_asks_1 : decode cX12_asks 1 = .ok (.bipush 18, 2) := by decide +kernel
theorem dX12_asks_3 : decode cX12_asks 3 = .ok (.invokevirtual 252, 3) := by decide +kernel
theorem dX12_asks_6 : decode cX12_asks 6 = .ok (.ifCond .eq 12, 3) := by decide +kernel
theorem dX12_asks_9 : decode cX12_asks 9 = .ok (.aload_n 0, 1) := by decide +kernel
theorem dX12_asks_10 : decode cX12_asks 10 = .ok (.iconst 3, 1) := by decide +kernel
theorem dX12_asks_11 : decode cX12_asks 11 = .ok (.invokevirtual 255, 3) := by decide +kernel
theorem dX12_asks_14 : decode cX12_asks 14 = .ok (.istore_n 1, 1) := by decide +kernel
theorem dX12_asks_15 : decode cX12_asks 15 = .ok (.goto 13, 3) := by decide +kernel
theorem dX12_asks_18 : decode cX12_asks 18 = .ok (.aload_n 0, 1) := by decide +kernel
theorem dX12_asks_19 : decode cX12_asks 19 = .ok (.iconst 4, 1) := by decide +kernel
theorem dX12_asks_20 : decode cX12_asks 20 = .ok (.invokevirtual 233, 3) := by decide +kernel
theorem dX12_asks_23 : decode cX12_asks 23 = .ok (.aload_n 0, 1) := by decide +kernel
theorem dX12_asks_24 : decode cX12_asks 24 = .ok (.iconst 1, 1) := by decide +kernel
theorem dX12_asks_25 : decode cX12_asks 25 = .ok (.putfield 258, 3) := by decide +kernel
theorem dX12_asks_28 : decode cX12_asks 28 = .ok (.return_, 1) := by decide +kernel
theorem dX12_mayName_0 : decode cX12_mayName 0 = .ok (.iload_n 0, 1) := by decide +kernel
theorem dX12_mayName_1 : decode cX12_mayName 1 = .ok (.tableswitch 101 4 9 #[39, 54, 54, 65, 80, 90], 39) := by decide +kernel
theorem dX12_mayName_40 : decode cX12_mayName 40 = .ok (.iload_n 1, 1) := by decide +kernel
theorem dX12_mayName_41 : decode cX12_mayName 41 = .ok (.ifCond .eq 8, 3) := by decide +kernel
theorem dX12_mayName_44 : decode cX12_mayName 44 = .ok (.iload_n 1, 1) := by decide +kernel
theorem dX12_mayName_45 : decode cX12_mayName 45 = .ok (.iconst 3, 1) := by decide +kernel
theorem dX12_mayName_46 : decode cX12_mayName 46 = .ok (.if_icmp .ne 7, 3) := by decide +kernel
theorem dX12_mayName_49 : decode cX12_mayName 49 = .ok (.iconst 1, 1) := by decide +kernel
theorem dX12_mayName_50 : decode cX12_mayName 50 = .ok (.goto 4, 3) := by decide +kernel
theorem dX12_mayName_53 : decode cX12_mayName 53 = .ok (.iconst 0, 1) := by decide +kernel
theorem dX12_mayName_54 : decode cX12_mayName 54 = .ok (.ireturn, 1) := by decide +kernel
theorem dX12_mayName_55 : decode cX12_mayName 55 = .ok (.iload_n 1, 1) := by decide +kernel
theorem dX12_mayName_56 : decode cX12_mayName 56 = .ok (.iconst 3, 1) := by decide +kernel
theorem dX12_mayName_57 : decode cX12_mayName 57 = .ok (.if_icmp .eq 7, 3) := by decide +kernel
theorem dX12_mayName_60 : decode cX12_mayName 60 = .ok (.iconst 1, 1) := by decide +kernel
theorem dX12_mayName_61 : decode cX12_mayName 61 = .ok (.goto 4, 3) := by decide +kernel
theorem dX12_mayName_64 : decode cX12_mayName 64 = .ok (.iconst 0, 1) := by decide +kernel
theorem dX12_mayName_65 : decode cX12_mayName 65 = .ok (.ireturn, 1) := by decide +kernel
theorem dX12_mayName_66 : decode cX12_mayName 66 = .ok (.iload_n 1, 1) := by decide +kernel
theorem dX12_mayName_67 : decode cX12_mayName 67 = .ok (.ifCond .eq 8, 3) := by decide +kernel
theorem dX12_mayName_70 : decode cX12_mayName 70 = .ok (.iload_n 1, 1) := by decide +kernel
theorem dX12_mayName_71 : decode cX12_mayName 71 = .ok (.iconst 2, 1) := by decide +kernel
theorem dX12_mayName_72 : decode cX12_mayName 72 = .ok (.if_icmp .ne 7, 3) := by decide +kernel
theorem dX12_mayName_75 : decode cX12_mayName 75 = .ok (.iconst 1, 1) := by decide +kernel
theorem dX12_mayName_76 : decode cX12_mayName 76 = .ok (.goto 4, 3) := by decide +kernel
theorem dX12_mayName_79 : decode cX12_mayName 79 = .ok (.iconst 0, 1) := by decide +kernel
theorem dX12_mayName_80 : decode cX12_mayName 80 = .ok (.ireturn, 1) := by decide +kernel
theorem dX12_mayName_81 : decode cX12_mayName 81 = .ok (.iload_n 1, 1) := by decide +kernel
theorem dX12_mayName_82 : decode cX12_mayName 82 = .ok (.ifCond .ne 7, 3) := by decide +kernel
theorem dX12_mayName_85 : decode cX12_mayName 85 = .ok (.iconst 1, 1) := by decide +kernel
theorem dX12_mayName_86 : decode cX12_mayName 86 = .ok (.goto 4, 3) := by decide +kernel
theorem dX12_mayName_89 : decode cX12_mayName 89 = .ok (.iconst 0, 1) := by decide +kernel
theorem dX12_mayName_90 : decode cX12_mayName 90 = .ok (.ireturn, 1) := by decide +kernel
theorem dX12_mayName_91 : decode cX12_mayName 91 = .ok (.iload_n 1, 1) := by decide +kernel
theorem dX12_mayName_92 : decode cX12_mayName 92 = .ok (.iconst 1, 1) := by decide +kernel
theorem dX12_mayName_93 : decode cX12_mayName 93 = .ok (.if_icmp .ne 7, 3) := by decide +kernel
theorem dX12_mayName_96 : decode cX12_mayName 96 = .ok (.iconst 1, 1) := by decide +kernel
theorem dX12_mayName_97 : decode cX12_mayName 97 = .ok (.goto 4, 3) := by decide +kernel
theorem dX12_mayName_100 : decode cX12_mayName 100 = .ok (.iconst 0, 1) := by decide +kernel
theorem dX12_mayName_101 : decode cX12_mayName 101 = .ok (.ireturn, 1) := by decide +kernel
theorem dX12_mayName_102 : decode cX12_mayName 102 = .ok (.iconst 1, 1) := by decide +kernel
theorem dX12_mayName_103 : decode cX12_mayName 103 = .ok (.ireturn, 1) := by decide +kernel
theorem dX12_nameNow_0 : decode cX12_nameNow 0 = .ok (.aload_n 0, 1) := by decide +kernel
theorem dX12_nameNow_1 : decode cX12_nameNow 1 = .ok (.getfield 199, 3) := by decide +kernel
theorem dX12_nameNow_4 : decode cX12_nameNow 4 = .ok (.iconst 1, 1) := by decide +kernel
theorem dX12_nameNow_5 : decode cX12_nameNow 5 = .ok (.if_icmp .eq 5, 3) := by decide +kernel
theorem dX12_nameNow_8 : decode cX12_nameNow 8 = .ok (.iconst (-1), 1) := by decide +kernel
theorem dX12_nameNow_9 : decode cX12_nameNow 9 = .ok (.ireturn, 1) := by decide +kernel
theorem dX12_nameNow_10 : decode cX12_nameNow 10 = .ok (.aload_n 0, 1) := by decide +kernel
theorem dX12_nameNow_11 : decode cX12_nameNow 11 = .ok (.getfield 211, 3) := by decide +kernel
theorem dX12_nameNow_14 : decode cX12_nameNow 14 = .ok (.lookupswitch 60 #[(11, 52), (12, 58), (24, 50), (25, 54), (26, 56)], 50) := by decide +kernel
theorem dX12_nameNow_64 : decode cX12_nameNow 64 = .ok (.iconst 0, 1) := by decide +kernel
theorem dX12_nameNow_65 : decode cX12_nameNow 65 = .ok (.ireturn, 1) := by decide +kernel
theorem dX12_nameNow_66 : decode cX12_nameNow 66 = .ok (.iconst 1, 1) := by decide +kernel
theorem dX12_nameNow_67 : decode cX12_nameNow 67 = .ok (.ireturn, 1) := by decide +kernel
theorem dX12_nameNow_68 : decode cX12_nameNow 68 = .ok (.iconst 2, 1) := by decide +kernel
theorem dX12_nameNow_69 : decode cX12_nameNow 69 = .ok (.ireturn, 1) := by decide +kernel
theorem dX12_nameNow_70 : decode cX12_nameNow 70 = .ok (.iconst 3, 1) := by decide +kernel
theorem dX12_nameNow_71 : decode cX12_nameNow 71 = .ok (.ireturn, 1) := by decide +kernel
theorem dX12_nameNow_72 : decode cX12_nameNow 72 = .ok (.iconst 4, 1) := by decide +kernel
theorem dX12_nameNow_73 : decode cX12_nameNow 73 = .ok (.ireturn, 1) := by decide +kernel
theorem dX12_nameNow_74 : decode cX12_nameNow 74 = .ok (.aload_n 0, 1) := by decide +kernel
theorem dX12_nameNow_75 : decode cX12_nameNow 75 = .ok (.getfield 211, 3) := by decide +kernel
theorem dX12_nameNow_78 : decode cX12_nameNow 78 = .ok (.bipush 27, 2) := by decide +kernel
theorem dX12_nameNow_80 : decode cX12_nameNow 80 = .ok (.if_icmp .lt 15, 3) := by decide +kernel
theorem dX12_nameNow_83 : decode cX12_nameNow 83 = .ok (.aload_n 0, 1) := by decide +kernel
theorem dX12_nameNow_84 : decode cX12_nameNow 84 = .ok (.getfield 211, 3) := by decide +kernel
theorem dX12_nameNow_87 : decode cX12_nameNow 87 = .ok (.bipush 27, 2) := by decide +kernel
theorem dX12_nameNow_89 : decode cX12_nameNow 89 = .ok (.isub, 1) := by decide +kernel
theorem dX12_nameNow_90 : decode cX12_nameNow 90 = .ok (.iconst 5, 1) := by decide +kernel
theorem dX12_nameNow_91 : decode cX12_nameNow 91 = .ok (.iadd, 1) := by decide +kernel
theorem dX12_nameNow_92 : decode cX12_nameNow 92 = .ok (.goto 4, 3) := by decide +kernel
theorem dX12_nameNow_95 : decode cX12_nameNow 95 = .ok (.iconst (-1), 1) := by decide +kernel
theorem dX12_nameNow_96 : decode cX12_nameNow 96 = .ok (.ireturn, 1) := by decide +kernel
theorem dX12_begins_0 : decode cX12_begins 0 = .ok (.aload_n 0, 1) := by decide +kernel
theorem dX12_begins_1 : decode cX12_begins 1 = .ok (.invokevirtual 261, 3) := by decide +kernel
theorem dX12_begins_4 : decode cX12_begins 4 = .ok (.istore_n 1, 1) := by decide +kernel
theorem dX12_begins_5 : decode cX12_begins 5 = .ok (.aload_n 0, 1) := by decide +kernel
theorem dX12_begins_6 : decode cX12_begins 6 = .ok (.getfield 199, 3) := by decide +kernel
theorem dX12_begins_9 : decode cX12_begins 9 = .ok (.iconst 2, 1) := by decide +kernel
theorem dX12_begins_10 : decode cX12_begins 10 = .ok (.if_icmp .ne 41, 3) := by decide +kernel
theorem dX12_begins_13 : decode cX12_begins 13 = .ok (.aload_n 0, 1) := by decide +kernel
theorem dX12_begins_14 : decode cX12_begins 14 = .ok (.getfield 211, 3) := by decide +kernel
theorem dX12_begins_17 : decode cX12_begins 17 = .ok (.sipush 9999, 3) := by decide +kernel
theorem dX12_begins_20 : decode cX12_begins 20 = .ok (.if_icmp .le 9, 3) := by decide +kernel
theorem dX12_begins_23 : decode cX12_begins 23 = .ok (.aload_n 0, 1) := by decide +kernel
theorem dX12_begins_24 : decode cX12_begins 24 = .ok (.iconst 2, 1) := by decide +kernel
theorem dX12_begins_25 : decode cX12_begins 25 = .ok (.invokevirtual 230, 3) := by decide +kernel
theorem dX12_begins_28 : decode cX12_begins 28 = .ok (.return_, 1) := by decide +kernel
theorem dX12_begins_29 : decode cX12_begins 29 = .ok (.aload_n 0, 1) := by decide +kernel
theorem dX12_begins_30 : decode cX12_begins 30 = .ok (.sipush 400, 3) := by decide +kernel
theorem dX12_begins_33 : decode cX12_begins 33 = .ok (.aload_n 0, 1) := by decide +kernel
theorem dX12_begins_34 : decode cX12_begins 34 = .ok (.getfield 211, 3) := by decide +kernel
theorem dX12_begins_37 : decode cX12_begins 37 = .ok (.invokevirtual 246, 3) := by decide +kernel
theorem dX12_begins_40 : decode cX12_begins 40 = .ok (.aload_n 0, 1) := by decide +kernel
theorem dX12_begins_41 : decode cX12_begins 41 = .ok (.invokevirtual 236, 3) := by decide +kernel
theorem dX12_begins_44 : decode cX12_begins 44 = .ok (.aload_n 0, 1) := by decide +kernel
theorem dX12_begins_45 : decode cX12_begins 45 = .ok (.invokevirtual 265, 3) := by decide +kernel
theorem dX12_begins_48 : decode cX12_begins 48 = .ok (.goto 139, 3) := by decide +kernel
theorem dX12_begins_51 : decode cX12_begins 51 = .ok (.iload_n 1, 1) := by decide +kernel
theorem dX12_begins_52 : decode cX12_begins 52 = .ok (.iconst (-1), 1) := by decide +kernel
theorem dX12_begins_53 : decode cX12_begins 53 = .ok (.if_icmp .eq 39, 3) := by decide +kernel
theorem dX12_begins_56 : decode cX12_begins 56 = .ok (.iload_n 1, 1) := by decide +kernel
theorem dX12_begins_57 : decode cX12_begins 57 = .ok (.aload_n 0, 1) := by decide +kernel
theorem dX12_begins_58 : decode cX12_begins 58 = .ok (.getfield 268, 3) := by decide +kernel
theorem dX12_begins_61 : decode cX12_begins 61 = .ok (.invokestatic 271, 3) := by decide +kernel
theorem dX12_begins_64 : decode cX12_begins 64 = .ok (.ifCond .ne 9, 3) := by decide +kernel
theorem dX12_begins_67 : decode cX12_begins 67 = .ok (.aload_n 0, 1) := by decide +kernel
theorem dX12_begins_68 : decode cX12_begins 68 = .ok (.iconst 5, 1) := by decide +kernel
theorem dX12_begins_69 : decode cX12_begins 69 = .ok (.invokevirtual 230, 3) := by decide +kernel
theorem dX12_begins_72 : decode cX12_begins 72 = .ok (.return_, 1) := by decide +kernel
theorem dX12_begins_73 : decode cX12_begins 73 = .ok (.aload_n 0, 1) := by decide +kernel
theorem dX12_begins_74 : decode cX12_begins 74 = .ok (.sipush 401, 3) := by decide +kernel
theorem dX12_begins_77 : decode cX12_begins 77 = .ok (.iload_n 1, 1) := by decide +kernel
theorem dX12_begins_78 : decode cX12_begins 78 = .ok (.invokevirtual 246, 3) := by decide +kernel
theorem dX12_begins_81 : decode cX12_begins 81 = .ok (.aload_n 0, 1) := by decide +kernel
theorem dX12_begins_82 : decode cX12_begins 82 = .ok (.invokevirtual 236, 3) := by decide +kernel
theorem dX12_begins_85 : decode cX12_begins 85 = .ok (.aload_n 0, 1) := by decide +kernel
theorem dX12_begins_86 : decode cX12_begins 86 = .ok (.invokevirtual 265, 3) := by decide +kernel
theorem dX12_begins_89 : decode cX12_begins 89 = .ok (.goto 98, 3) := by decide +kernel
theorem dX12_begins_92 : decode cX12_begins 92 = .ok (.aload_n 0, 1) := by decide +kernel
theorem dX12_begins_93 : decode cX12_begins 93 = .ok (.bipush 20, 2) := by decide +kernel
theorem dX12_begins_95 : decode cX12_begins 95 = .ok (.invokevirtual 252, 3) := by decide +kernel
theorem dX12_begins_98 : decode cX12_begins 98 = .ok (.ifCond .eq 19, 3) := by decide +kernel
theorem dX12_begins_101 : decode cX12_begins 101 = .ok (.aload_n 0, 1) := by decide +kernel
theorem dX12_begins_102 : decode cX12_begins 102 = .ok (.iconst 2, 1) := by decide +kernel
theorem dX12_begins_103 : decode cX12_begins 103 = .ok (.invokevirtual 255, 3) := by decide +kernel
theorem dX12_begins_106 : decode cX12_begins 106 = .ok (.ifCond .eq 81, 3) := by decide +kernel
theorem dX12_begins_109 : decode cX12_begins 109 = .ok (.aload_n 0, 1) := by decide +kernel
theorem dX12_begins_110 : decode cX12_begins 110 = .ok (.iconst 0, 1) := by decide +kernel
theorem dX12_begins_111 : decode cX12_begins 111 = .ok (.putfield 258, 3) := by decide +kernel
theorem dX12_begins_114 : decode cX12_begins 114 = .ok (.goto 73, 3) := by decide +kernel
theorem dX12_begins_117 : decode cX12_begins 117 = .ok (.aload_n 0, 1) := by decide +kernel
theorem dX12_begins_118 : decode cX12_begins 118 = .ok (.bipush 40, 2) := by decide +kernel
theorem dX12_begins_120 : decode cX12_begins 120 = .ok (.invokevirtual 275, 3) := by decide +kernel
theorem dX12_begins_123 : decode cX12_begins 123 = .ok (.ifCond .ne 21, 3) := by decide +kernel
theorem dX12_begins_126 : decode cX12_begins 126 = .ok (.aload_n 0, 1) := by decide +kernel
theorem dX12_begins_127 : decode cX12_begins 127 = .ok (.bipush 45, 2) := by decide +kernel
theorem dX12_begins_129 : decode cX12_begins 129 = .ok (.invokevirtual 275, 3) := by decide +kernel
theorem dX12_begins_132 : decode cX12_begins 132 = .ok (.ifCond .ne 12, 3) := by decide +kernel
theorem dX12_begins_135 : decode cX12_begins 135 = .ok (.aload_n 0, 1) := by decide +kernel
theorem dX12_begins_136 : decode cX12_begins 136 = .ok (.bipush 19, 2) := by decide +kernel
theorem dX12_begins_138 : decode cX12_begins 138 = .ok (.invokevirtual 252, 3) := by decide +kernel
theorem dX12_begins_141 : decode cX12_begins 141 = .ok (.ifCond .eq 41, 3) := by decide +kernel
theorem dX12_begins_144 : decode cX12_begins 144 = .ok (.aload_n 0, 1) := by decide +kernel
theorem dX12_begins_145 : decode cX12_begins 145 = .ok (.aload_n 0, 1) := by decide +kernel
theorem dX12_begins_146 : decode cX12_begins 146 = .ok (.bipush 40, 2) := by decide +kernel
theorem dX12_begins_148 : decode cX12_begins 148 = .ok (.invokevirtual 275, 3) := by decide +kernel
theorem dX12_begins_151 : decode cX12_begins 151 = .ok (.ifCond .eq 8, 3) := by decide +kernel
theorem dX12_begins_154 : decode cX12_begins 154 = .ok (.bipush 6, 2) := by decide +kernel
theorem dX12_begins_156 : decode cX12_begins 156 = .ok (.goto 19, 3) := by decide +kernel
theorem dX12_begins_159 : decode cX12_begins 159 = .ok (.aload_n 0, 1) := by decide +kernel
theorem dX12_begins_160 : decode cX12_begins 160 = .ok (.bipush 45, 2) := by decide +kernel
theorem dX12_begins_162 : decode cX12_begins 162 = .ok (.invokevirtual 275, 3) := by decide +kernel
theorem dX12_begins_165 : decode cX12_begins 165 = .ok (.ifCond .eq 8, 3) := by decide +kernel
theorem dX12_begins_168 : decode cX12_begins 168 = .ok (.bipush 7, 2) := by decide +kernel
theorem dX12_begins_170 : decode cX12_begins 170 = .ok (.goto 5, 3) := by decide +kernel
theorem dX12_begins_173 : decode cX12_begins 173 = .ok (.bipush 10, 2) := by decide +kernel
theorem dX12_begins_175 : decode cX12_begins 175 = .ok (.invokevirtual 255, 3) := by decide +kernel
theorem dX12_begins_178 : decode cX12_begins 178 = .ok (.istore_n 2, 1) := by decide +kernel
theorem dX12_begins_179 : decode cX12_begins 179 = .ok (.goto 8, 3) := by decide +kernel
theorem dX12_begins_182 : decode cX12_begins 182 = .ok (.aload_n 0, 1) := by decide +kernel
theorem dX12_begins_183 : decode cX12_begins 183 = .ok (.iconst 1, 1) := by decide +kernel
theorem dX12_begins_184 : decode cX12_begins 184 = .ok (.invokevirtual 230, 3) := by decide +kernel
theorem dX12_begins_187 : decode cX12_begins 187 = .ok (.return_, 1) := by decide +kernel
theorem dX12_oneIsOver_0 : decode cX12_oneIsOver 0 = .ok (.aload_n 0, 1) := by decide +kernel
theorem dX12_oneIsOver_1 : decode cX12_oneIsOver 1 = .ok (.invokevirtual 278, 3) := by decide +kernel
theorem dX12_oneIsOver_4 : decode cX12_oneIsOver 4 = .ok (.bipush 7, 2) := by decide +kernel
theorem dX12_oneIsOver_6 : decode cX12_oneIsOver 6 = .ok (.if_icmp .eq 12, 3) := by decide +kernel
theorem dX12_oneIsOver_9 : decode cX12_oneIsOver 9 = .ok (.aload_n 0, 1) := by decide +kernel
theorem dX12_oneIsOver_10 : decode cX12_oneIsOver 10 = .ok (.invokevirtual 278, 3) := by decide +kernel
theorem dX12_oneIsOver_13 : decode cX12_oneIsOver 13 = .ok (.bipush 11, 2) := by decide +kernel
theorem dX12_oneIsOver_15 : decode cX12_oneIsOver 15 = .ok (.if_icmp .ne 49, 3) := by decide +kernel
theorem dX12_oneIsOver_18 : decode cX12_oneIsOver 18 = .ok (.aload_n 0, 1) := by decide +kernel
theorem dX12_oneIsOver_19 : decode cX12_oneIsOver 19 = .ok (.aload_n 0, 1) := by decide +kernel
theorem dX12_oneIsOver_20 : decode cX12_oneIsOver 20 = .ok (.invokevirtual 278, 3) := by decide +kernel
theorem dX12_oneIsOver_23 : decode cX12_oneIsOver 23 = .ok (.bipush 7, 2) := by decide +kernel
theorem dX12_oneIsOver_25 : decode cX12_oneIsOver 25 = .ok (.if_icmp .ne 9, 3) := by decide +kernel
theorem dX12_oneIsOver_28 : decode cX12_oneIsOver 28 = .ok (.sipush 402, 3) := by decide +kernel
theorem dX12_oneIsOver_31 : decode cX12_oneIsOver 31 = .ok (.goto 6, 3) := by decide +kernel
theorem dX12_oneIsOver_34 : decode cX12_oneIsOver 34 = .ok (.sipush 403, 3) := by decide +kernel
theorem dX12_oneIsOver_37 : decode cX12_oneIsOver 37 = .ok (.iconst 0, 1) := by decide +kernel
theorem dX12_oneIsOver_38 : decode cX12_oneIsOver 38 = .ok (.invokevirtual 246, 3) := by decide +kernel
theorem dX12_oneIsOver_41 : decode cX12_oneIsOver 41 = .ok (.aload_n 0, 1) := by decide +kernel
theorem dX12_oneIsOver_42 : decode cX12_oneIsOver 42 = .ok (.dup, 1) := by decide +kernel
theorem dX12_oneIsOver_43 : decode cX12_oneIsOver 43 = .ok (.getfield 224, 3) := by decide +kernel
theorem dX12_oneIsOver_46 : decode cX12_oneIsOver 46 = .ok (.iconst 1, 1) := by decide +kernel
theorem dX12_oneIsOver_47 : decode cX12_oneIsOver 47 = .ok (.isub, 1) := by decide +kernel
theorem dX12_oneIsOver_48 : decode cX12_oneIsOver 48 = .ok (.putfield 224, 3) := by decide +kernel
theorem dX12_oneIsOver_51 : decode cX12_oneIsOver 51 = .ok (.aload_n 0, 1) := by decide +kernel
theorem dX12_oneIsOver_52 : decode cX12_oneIsOver 52 = .ok (.dup, 1) := by decide +kernel
theorem dX12_oneIsOver_53 : decode cX12_oneIsOver 53 = .ok (.getfield 227, 3) := by decide +kernel
theorem dX12_oneIsOver_56 : decode cX12_oneIsOver 56 = .ok (.iconst 1, 1) := by decide +kernel
theorem dX12_oneIsOver_57 : decode cX12_oneIsOver 57 = .ok (.isub, 1) := by decide +kernel
theorem dX12_oneIsOver_58 : decode cX12_oneIsOver 58 = .ok (.putfield 227, 3) := by decide +kernel
theorem dX12_oneIsOver_61 : decode cX12_oneIsOver 61 = .ok (.goto (-61), 3) := by decide +kernel
theorem dX12_oneIsOver_64 : decode cX12_oneIsOver 64 = .ok (.aload_n 0, 1) := by decide +kernel
theorem dX12_oneIsOver_65 : decode cX12_oneIsOver 65 = .ok (.iconst 2, 1) := by decide +kernel
theorem dX12_oneIsOver_66 : decode cX12_oneIsOver 66 = .ok (.putfield 258, 3) := by decide +kernel
theorem dX12_oneIsOver_69 : decode cX12_oneIsOver 69 = .ok (.aload_n 0, 1) := by decide +kernel
theorem dX12_oneIsOver_70 : decode cX12_oneIsOver 70 = .ok (.invokevirtual 278, 3) := by decide +kernel
theorem dX12_oneIsOver_73 : decode cX12_oneIsOver 73 = .ok (.bipush 10, 2) := by decide +kernel
theorem dX12_oneIsOver_75 : decode cX12_oneIsOver 75 = .ok (.if_icmp .ne 7, 3) := by decide +kernel
theorem dX12_oneIsOver_78 : decode cX12_oneIsOver 78 = .ok (.aload_n 0, 1) := by decide +kernel
theorem dX12_oneIsOver_79 : decode cX12_oneIsOver 79 = .ok (.invokevirtual 281, 3) := by decide +kernel
theorem dX12_oneIsOver_82 : decode cX12_oneIsOver 82 = .ok (.return_, 1) := by decide +kernel
theorem dX12_bySecond_0 : decode cX12_bySecond 0 = .ok (.aload_n 0, 1) := by decide +kernel
theorem dX12_bySecond_1 : decode cX12_bySecond 1 = .ok (.bipush 14, 2) := by decide +kernel
theorem dX12_bySecond_3 : decode cX12_bySecond 3 = .ok (.invokevirtual 252, 3) := by decide +kernel
theorem dX12_bySecond_6 : decode cX12_bySecond 6 = .ok (.ifCond .ne 9, 3) := by decide +kernel
theorem dX12_bySecond_9 : decode cX12_bySecond 9 = .ok (.aload_n 0, 1) := by decide +kernel
theorem dX12_bySecond_10 : decode cX12_bySecond 10 = .ok (.iconst 1, 1) := by decide +kernel
theorem dX12_bySecond_11 : decode cX12_bySecond 11 = .ok (.invokevirtual 230, 3) := by decide +kernel
theorem dX12_bySecond_14 : decode cX12_bySecond 14 = .ok (.return_, 1) := by decide +kernel
theorem dX12_bySecond_15 : decode cX12_bySecond 15 = .ok (.aload_n 0, 1) := by decide +kernel
theorem dX12_bySecond_16 : decode cX12_bySecond 16 = .ok (.getfield 51, 3) := by decide +kernel
theorem dX12_bySecond_19 : decode cX12_bySecond 19 = .ok (.aload_n 0, 1) := by decide +kernel
theorem dX12_bySecond_20 : decode cX12_bySecond 20 = .ok (.getfield 224, 3) := by decide +kernel
theorem dX12_bySecond_23 : decode cX12_bySecond 23 = .ok (.iconst 1, 1) := by decide +kernel
theorem dX12_bySecond_24 : decode cX12_bySecond 24 = .ok (.isub, 1) := by decide +kernel
theorem dX12_bySecond_25 : decode cX12_bySecond 25 = .ok (.bipush 11, 2) := by decide +kernel
theorem dX12_bySecond_27 : decode cX12_bySecond 27 = .ok (.iastore, 1) := by decide +kernel
theorem dX12_bySecond_28 : decode cX12_bySecond 28 = .ok (.aload_n 0, 1) := by decide +kernel
theorem dX12_bySecond_29 : decode cX12_bySecond 29 = .ok (.invokevirtual 236, 3) := by decide +kernel
theorem dX12_bySecond_32 : decode cX12_bySecond 32 = .ok (.aload_n 0, 1) := by decide +kernel
theorem dX12_bySecond_33 : decode cX12_bySecond 33 = .ok (.iconst 1, 1) := by decide +kernel
theorem dX12_bySecond_34 : decode cX12_bySecond 34 = .ok (.putfield 258, 3) := by decide +kernel
theorem dX12_bySecond_37 : decode cX12_bySecond 37 = .ok (.return_, 1) := by decide +kernel
theorem dX12_askIsOver_0 : decode cX12_askIsOver 0 = .ok (.aload_n 0, 1) := by decide +kernel
theorem dX12_askIsOver_1 : decode cX12_askIsOver 1 = .ok (.invokevirtual 278, 3) := by decide +kernel
theorem dX12_askIsOver_4 : decode cX12_askIsOver 4 = .ok (.iconst 3, 1) := by decide +kernel
theorem dX12_askIsOver_5 : decode cX12_askIsOver 5 = .ok (.if_icmp .ne 34, 3) := by decide +kernel
theorem dX12_askIsOver_8 : decode cX12_askIsOver 8 = .ok (.aload_n 0, 1) := by decide +kernel
theorem dX12_askIsOver_9 : decode cX12_askIsOver 9 = .ok (.dup, 1) := by decide +kernel
theorem dX12_askIsOver_10 : decode cX12_askIsOver 10 = .ok (.getfield 224, 3) := by decide +kernel
theorem dX12_askIsOver_13 : decode cX12_askIsOver 13 = .ok (.iconst 1, 1) := by decide +kernel
theorem dX12_askIsOver_14 : decode cX12_askIsOver 14 = .ok (.isub, 1) := by decide +kernel
theorem dX12_askIsOver_15 : decode cX12_askIsOver 15 = .ok (.putfield 224, 3) := by decide +kernel
theorem dX12_askIsOver_18 : decode cX12_askIsOver 18 = .ok (.aload_n 0, 1) := by decide +kernel
theorem dX12_askIsOver_19 : decode cX12_askIsOver 19 = .ok (.dup, 1) := by decide +kernel
theorem dX12_askIsOver_20 : decode cX12_askIsOver 20 = .ok (.getfield 227, 3) := by decide +kernel
theorem dX12_askIsOver_23 : decode cX12_askIsOver 23 = .ok (.iconst 1, 1) := by decide +kernel
theorem dX12_askIsOver_24 : decode cX12_askIsOver 24 = .ok (.isub, 1) := by decide +kernel
theorem dX12_askIsOver_25 : decode cX12_askIsOver 25 = .ok (.putfield 227, 3) := by decide +kernel
theorem dX12_askIsOver_28 : decode cX12_askIsOver 28 = .ok (.aload_n 0, 1) := by decide +kernel
theorem dX12_askIsOver_29 : decode cX12_askIsOver 29 = .ok (.sipush 405, 3) := by decide +kernel
theorem dX12_askIsOver_32 : decode cX12_askIsOver 32 = .ok (.iconst 0, 1) := by decide +kernel
theorem dX12_askIsOver_33 : decode cX12_askIsOver 33 = .ok (.invokevirtual 246, 3) := by decide +kernel
theorem dX12_askIsOver_36 : decode cX12_askIsOver 36 = .ok (.goto (-36), 3) := by decide +kernel
theorem dX12_askIsOver_39 : decode cX12_askIsOver 39 = .ok (.aload_n 0, 1) := by decide +kernel
theorem dX12_askIsOver_40 : decode cX12_askIsOver 40 = .ok (.iconst 3, 1) := by decide +kernel
theorem dX12_askIsOver_41 : decode cX12_askIsOver 41 = .ok (.putfield 258, 3) := by decide +kernel
theorem dX12_askIsOver_44 : decode cX12_askIsOver 44 = .ok (.return_, 1) := by decide +kernel
theorem dX12_isAsking_0 : decode cX12_isAsking 0 = .ok (.iload_n 0, 1) := by decide +kernel
theorem dX12_isAsking_1 : decode cX12_isAsking 1 = .ok (.bipush 60, 2) := by decide +kernel
theorem dX12_isAsking_3 : decode cX12_isAsking 3 = .ok (.if_icmp .eq 35, 3) := by decide +kernel
theorem dX12_isAsking_6 : decode cX12_isAsking 6 = .ok (.iload_n 0, 1) := by decide +kernel
theorem dX12_isAsking_7 : decode cX12_isAsking 7 = .ok (.bipush 62, 2) := by decide +kernel
theorem dX12_isAsking_9 : decode cX12_isAsking 9 = .ok (.if_icmp .eq 29, 3) := by decide +kernel
theorem dX12_isAsking_12 : decode cX12_isAsking 12 = .ok (.iload_n 0, 1) := by decide +kernel
theorem dX12_isAsking_13 : decode cX12_isAsking 13 = .ok (.bipush 61, 2) := by decide +kernel
theorem dX12_isAsking_15 : decode cX12_isAsking 15 = .ok (.if_icmp .eq 23, 3) := by decide +kernel
theorem dX12_isAsking_18 : decode cX12_isAsking 18 = .ok (.iload_n 0, 1) := by decide +kernel
theorem dX12_isAsking_19 : decode cX12_isAsking 19 = .ok (.bipush 35, 2) := by decide +kernel
theorem dX12_isAsking_21 : decode cX12_isAsking 21 = .ok (.if_icmp .eq 17, 3) := by decide +kernel
theorem dX12_isAsking_24 : decode cX12_isAsking 24 = .ok (.iload_n 0, 1) := by decide +kernel
theorem dX12_isAsking_25 : decode cX12_isAsking 25 = .ok (.sipush 300, 3) := by decide +kernel
theorem dX12_isAsking_28 : decode cX12_isAsking 28 = .ok (.if_icmp .eq 10, 3) := by decide +kernel
theorem dX12_isAsking_31 : decode cX12_isAsking 31 = .ok (.iload_n 0, 1) := by decide +kernel
theorem dX12_isAsking_32 : decode cX12_isAsking 32 = .ok (.sipush 301, 3) := by decide +kernel
theorem dX12_isAsking_35 : decode cX12_isAsking 35 = .ok (.if_icmp .ne 7, 3) := by decide +kernel
theorem dX12_isAsking_38 : decode cX12_isAsking 38 = .ok (.iconst 1, 1) := by decide +kernel
theorem dX12_isAsking_39 : decode cX12_isAsking 39 = .ok (.goto 4, 3) := by decide +kernel
theorem dX12_isAsking_42 : decode cX12_isAsking 42 = .ok (.iconst 0, 1) := by decide +kernel
theorem dX12_isAsking_43 : decode cX12_isAsking 43 = .ok (.ireturn, 1) := by decide +kernel
theorem dX12_turnsTo_0 : decode cX12_turnsTo 0 = .ok (.aload_n 0, 1) := by decide +kernel
theorem dX12_turnsTo_1 : decode cX12_turnsTo 1 = .ok (.getfield 63, 3) := by decide +kernel
theorem dX12_turnsTo_4 : decode cX12_turnsTo 4 = .ok (.aload_n 0, 1) := by decide +kernel
theorem dX12_turnsTo_5 : decode cX12_turnsTo 5 = .ok (.getfield 224, 3) := by decide +kernel
theorem dX12_turnsTo_8 : decode cX12_turnsTo 8 = .ok (.iaload, 1) := by decide +kernel
theorem dX12_turnsTo_9 : decode cX12_turnsTo 9 = .ok (.istore_n 3, 1) := by decide +kernel
theorem dX12_turnsTo_10 : decode cX12_turnsTo 10 = .ok (.aload_n 0, 1) := by decide +kernel
theorem dX12_turnsTo_11 : decode cX12_turnsTo 11 = .ok (.getfield 63, 3) := by decide +kernel
theorem dX12_turnsTo_14 : decode cX12_turnsTo 14 = .ok (.aload_n 0, 1) := by decide +kernel
theorem dX12_turnsTo_15 : decode cX12_turnsTo 15 = .ok (.getfield 224, 3) := by decide +kernel
theorem dX12_turnsTo_18 : decode cX12_turnsTo 18 = .ok (.aload_n 0, 1) := by decide +kernel
theorem dX12_turnsTo_19 : decode cX12_turnsTo 19 = .ok (.getfield 221, 3) := by decide +kernel
theorem dX12_turnsTo_22 : decode cX12_turnsTo 22 = .ok (.iastore, 1) := by decide +kernel
theorem dX12_turnsTo_23 : decode cX12_turnsTo 23 = .ok (.aload_n 0, 1) := by decide +kernel
theorem dX12_turnsTo_24 : decode cX12_turnsTo 24 = .ok (.iload_n 2, 1) := by decide +kernel
theorem dX12_turnsTo_25 : decode cX12_turnsTo 25 = .ok (.iconst 0, 1) := by decide +kernel
theorem dX12_turnsTo_26 : decode cX12_turnsTo 26 = .ok (.invokevirtual 246, 3) := by decide +kernel
theorem dX12_turnsTo_29 : decode cX12_turnsTo 29 = .ok (.iload_n 2, 1) := by decide +kernel
theorem dX12_turnsTo_30 : decode cX12_turnsTo 30 = .ok (.sipush 409, 3) := by decide +kernel
theorem dX12_turnsTo_33 : decode cX12_turnsTo 33 = .ok (.if_icmp .ne 13, 3) := by decide +kernel
theorem dX12_turnsTo_36 : decode cX12_turnsTo 36 = .ok (.aload_n 0, 1) := by decide +kernel
theorem dX12_turnsTo_37 : decode cX12_turnsTo 37 = .ok (.getfield 84, 3) := by decide +kernel
theorem dX12_turnsTo_40 : decode cX12_turnsTo 40 = .ok (.iload_n 3, 1) := by decide +kernel
theorem dX12_turnsTo_41 : decode cX12_turnsTo 41 = .ok (.aload_n 0, 1) := by decide +kernel
theorem dX12_turnsTo_42 : decode cX12_turnsTo 42 = .ok (.getfield 221, 3) := by decide +kernel
theorem dX12_turnsTo_45 : decode cX12_turnsTo 45 = .ok (.iastore, 1) := by decide +kernel
theorem dX12_turnsTo_46 : decode cX12_turnsTo 46 = .ok (.aload_n 0, 1) := by decide +kernel
theorem dX12_turnsTo_47 : decode cX12_turnsTo 47 = .ok (.getfield 51, 3) := by decide +kernel
theorem dX12_turnsTo_50 : decode cX12_turnsTo 50 = .ok (.aload_n 0, 1) := by decide +kernel
theorem dX12_turnsTo_51 : decode cX12_turnsTo 51 = .ok (.getfield 224, 3) := by decide +kernel
theorem dX12_turnsTo_54 : decode cX12_turnsTo 54 = .ok (.iconst 1, 1) := by decide +kernel
theorem dX12_turnsTo_55 : decode cX12_turnsTo 55 = .ok (.isub, 1) := by decide +kernel
theorem dX12_turnsTo_56 : decode cX12_turnsTo 56 = .ok (.iload_n 1, 1) := by decide +kernel
theorem dX12_turnsTo_57 : decode cX12_turnsTo 57 = .ok (.iastore, 1) := by decide +kernel
theorem dX12_turnsTo_58 : decode cX12_turnsTo 58 = .ok (.aload_n 0, 1) := by decide +kernel
theorem dX12_turnsTo_59 : decode cX12_turnsTo 59 = .ok (.invokevirtual 236, 3) := by decide +kernel
theorem dX12_turnsTo_62 : decode cX12_turnsTo 62 = .ok (.aload_n 0, 1) := by decide +kernel
theorem dX12_turnsTo_63 : decode cX12_turnsTo 63 = .ok (.iconst 1, 1) := by decide +kernel
theorem dX12_turnsTo_64 : decode cX12_turnsTo 64 = .ok (.putfield 258, 3) := by decide +kernel
theorem dX12_turnsTo_67 : decode cX12_turnsTo 67 = .ok (.return_, 1) := by decide +kernel
theorem dX12_goesOn_0 : decode cX12_goesOn 0 = .ok (.aload_n 0, 1) := by decide +kernel
theorem dX12_goesOn_1 : decode cX12_goesOn 1 = .ok (.invokevirtual 278, 3) := by decide +kernel
theorem dX12_goesOn_4 : decode cX12_goesOn 4 = .ok (.istore_n 1, 1) := by decide +kernel
theorem dX12_goesOn_5 : decode cX12_goesOn 5 = .ok (.aload_n 0, 1) := by decide +kernel
theorem dX12_goesOn_6 : decode cX12_goesOn 6 = .ok (.getfield 199, 3) := by decide +kernel
theorem dX12_goesOn_9 : decode cX12_goesOn 9 = .ok (.iconst 3, 1) := by decide +kernel
theorem dX12_goesOn_10 : decode cX12_goesOn 10 = .ok (.if_icmp .ne 55, 3) := by decide +kernel
theorem dX12_goesOn_13 : decode cX12_goesOn 13 = .ok (.aload_n 0, 1) := by decide +kernel
theorem dX12_goesOn_14 : decode cX12_goesOn 14 = .ok (.getfield 211, 3) := by decide +kernel
theorem dX12_goesOn_17 : decode cX12_goesOn 17 = .ok (.bipush 43, 2) := by decide +kernel
theorem dX12_goesOn_19 : decode cX12_goesOn 19 = .ok (.if_icmp .eq 30, 3) := by decide +kernel
theorem dX12_goesOn_22 : decode cX12_goesOn 22 = .ok (.aload_n 0, 1) := by decide +kernel
theorem dX12_goesOn_23 : decode cX12_goesOn 23 = .ok (.getfield 211, 3) := by decide +kernel
theorem dX12_goesOn_26 : decode cX12_goesOn 26 = .ok (.bipush 45, 2) := by decide +kernel
theorem dX12_goesOn_28 : decode cX12_goesOn 28 = .ok (.if_icmp .eq 21, 3) := by decide +kernel
theorem dX12_goesOn_31 : decode cX12_goesOn 31 = .ok (.aload_n 0, 1) := by decide +kernel
theorem dX12_goesOn_32 : decode cX12_goesOn 32 = .ok (.getfield 211, 3) := by decide +kernel
theorem dX12_goesOn_35 : decode cX12_goesOn 35 = .ok (.bipush 42, 2) := by decide +kernel
theorem dX12_goesOn_37 : decode cX12_goesOn 37 = .ok (.if_icmp .eq 12, 3) := by decide +kernel
theorem dX12_goesOn_40 : decode cX12_goesOn 40 = .ok (.aload_n 0, 1) := by decide +kernel
theorem dX12_goesOn_41 : decode cX12_goesOn 41 = .ok (.getfield 211, 3) := by decide +kernel
theorem dX12_goesOn_44 : decode cX12_goesOn 44 = .ok (.bipush 47, 2) := by decide +kernel
theorem dX12_goesOn_46 : decode cX12_goesOn 46 = .ok (.if_icmp .ne 19, 3) := by decide +kernel
theorem dX12_goesOn_49 : decode cX12_goesOn 49 = .ok (.aload_n 0, 1) := by decide +kernel
theorem dX12_goesOn_50 : decode cX12_goesOn 50 = .ok (.aload_n 0, 1) := by decide +kernel
theorem dX12_goesOn_51 : decode cX12_goesOn 51 = .ok (.getfield 211, 3) := by decide +kernel
theorem dX12_goesOn_54 : decode cX12_goesOn 54 = .ok (.invokevirtual 284, 3) := by decide +kernel
theorem dX12_goesOn_57 : decode cX12_goesOn 57 = .ok (.aload_n 0, 1) := by decide +kernel
theorem dX12_goesOn_58 : decode cX12_goesOn 58 = .ok (.iconst 1, 1) := by decide +kernel
theorem dX12_goesOn_59 : decode cX12_goesOn 59 = .ok (.putfield 258, 3) := by decide +kernel
theorem dX12_goesOn_62 : decode cX12_goesOn 62 = .ok (.goto 289, 3) := by decide +kernel
theorem dX12_goesOn_65 : decode cX12_goesOn 65 = .ok (.iload_n 1, 1) := by decide +kernel
theorem dX12_goesOn_66 : decode cX12_goesOn 66 = .ok (.bipush 6, 2) := by decide +kernel
theorem dX12_goesOn_68 : decode cX12_goesOn 68 = .ok (.if_icmp .ne 48, 3) := by decide +kernel
theorem dX12_goesOn_71 : decode cX12_goesOn 71 = .ok (.aload_n 0, 1) := by decide +kernel
theorem dX12_goesOn_72 : decode cX12_goesOn 72 = .ok (.bipush 41, 2) := by decide +kernel
theorem dX12_goesOn_74 : decode cX12_goesOn 74 = .ok (.invokevirtual 275, 3) := by decide +kernel
theorem dX12_goesOn_77 : decode cX12_goesOn 77 = .ok (.ifCond .eq 39, 3) := by decide +kernel
theorem dX12_goesOn_80 : decode cX12_goesOn 80 = .ok (.aload_n 0, 1) := by decide +kernel
theorem dX12_goesOn_81 : decode cX12_goesOn 81 = .ok (.iconst 3, 1) := by decide +kernel
theorem dX12_goesOn_82 : decode cX12_goesOn 82 = .ok (.invokevirtual 249, 3) := by decide +kernel
theorem dX12_goesOn_85 : decode cX12_goesOn 85 = .ok (.aload_n 0, 1) := by decide +kernel
theorem dX12_goesOn_86 : decode cX12_goesOn 86 = .ok (.dup, 1) := by decide +kernel
theorem dX12_goesOn_87 : decode cX12_goesOn 87 = .ok (.getfield 224, 3) := by decide +kernel
theorem dX12_goesOn_90 : decode cX12_goesOn 90 = .ok (.iconst 1, 1) := by decide +kernel
theorem dX12_goesOn_91 : decode cX12_goesOn 91 = .ok (.isub, 1) := by decide +kernel
theorem dX12_goesOn_92 : decode cX12_goesOn 92 = .ok (.putfield 224, 3) := by decide +kernel
theorem dX12_goesOn_95 : decode cX12_goesOn 95 = .ok (.aload_n 0, 1) := by decide +kernel
theorem dX12_goesOn_96 : decode cX12_goesOn 96 = .ok (.dup, 1) := by decide +kernel
theorem dX12_goesOn_97 : decode cX12_goesOn 97 = .ok (.getfield 227, 3) := by decide +kernel
theorem dX12_goesOn_100 : decode cX12_goesOn 100 = .ok (.iconst 1, 1) := by decide +kernel
theorem dX12_goesOn_101 : decode cX12_goesOn 101 = .ok (.isub, 1) := by decide +kernel
theorem dX12_goesOn_102 : decode cX12_goesOn 102 = .ok (.putfield 227, 3) := by decide +kernel
theorem dX12_goesOn_105 : decode cX12_goesOn 105 = .ok (.aload_n 0, 1) := by decide +kernel
theorem dX12_goesOn_106 : decode cX12_goesOn 106 = .ok (.invokevirtual 236, 3) := by decide +kernel
theorem dX12_goesOn_109 : decode cX12_goesOn 109 = .ok (.aload_n 0, 1) := by decide +kernel
theorem dX12_goesOn_110 : decode cX12_goesOn 110 = .ok (.invokevirtual 265, 3) := by decide +kernel
theorem dX12_goesOn_113 : decode cX12_goesOn 113 = .ok (.goto 238, 3) := by decide +kernel
theorem dX12_goesOn_116 : decode cX12_goesOn 116 = .ok (.iload_n 1, 1) := by decide +kernel
theorem dX12_goesOn_117 : decode cX12_goesOn 117 = .ok (.bipush 8, 2) := by decide +kernel
theorem dX12_goesOn_119 : decode cX12_goesOn 119 = .ok (.if_icmp .ne 29, 3) := by decide +kernel
theorem dX12_goesOn_122 : decode cX12_goesOn 122 = .ok (.aload_n 0, 1) := by decide +kernel
theorem dX12_goesOn_123 : decode cX12_goesOn 123 = .ok (.bipush 22, 2) := by decide +kernel
theorem dX12_goesOn_125 : decode cX12_goesOn 125 = .ok (.invokevirtual 252, 3) := by decide +kernel
theorem dX12_goesOn_128 : decode cX12_goesOn 128 = .ok (.ifCond .eq 20, 3) := by decide +kernel
theorem dX12_goesOn_131 : decode cX12_goesOn 131 = .ok (.aload_n 0, 1) := by decide +kernel
theorem dX12_goesOn_132 : decode cX12_goesOn 132 = .ok (.iconst 3, 1) := by decide +kernel
theorem dX12_goesOn_133 : decode cX12_goesOn 133 = .ok (.invokevirtual 249, 3) := by decide +kernel
theorem dX12_goesOn_136 : decode cX12_goesOn 136 = .ok (.aload_n 0, 1) := by decide +kernel
theorem dX12_goesOn_137 : decode cX12_goesOn 137 = .ok (.bipush 9, 2) := by decide +kernel
theorem dX12_goesOn_139 : decode cX12_goesOn 139 = .ok (.sipush 409, 3) := by decide +kernel
theorem dX12_goesOn_142 : decode cX12_goesOn 142 = .ok (.invokevirtual 287, 3) := by decide +kernel
theorem dX12_goesOn_145 : decode cX12_goesOn 145 = .ok (.goto 206, 3) := by decide +kernel
theorem dX12_goesOn_148 : decode cX12_goesOn 148 = .ok (.iload_n 1, 1) := by decide +kernel
theorem dX12_goesOn_149 : decode cX12_goesOn 149 = .ok (.bipush 9, 2) := by decide +kernel
theorem dX12_goesOn_151 : decode cX12_goesOn 151 = .ok (.if_icmp .ne 66, 3) := by decide +kernel
theorem dX12_goesOn_154 : decode cX12_goesOn 154 = .ok (.aload_n 0, 1) := by decide +kernel
theorem dX12_goesOn_155 : decode cX12_goesOn 155 = .ok (.bipush 23, 2) := by decide +kernel
theorem dX12_goesOn_157 : decode cX12_goesOn 157 = .ok (.invokevirtual 252, 3) := by decide +kernel
theorem dX12_goesOn_160 : decode cX12_goesOn 160 = .ok (.ifCond .eq 57, 3) := by decide +kernel
theorem dX12_goesOn_163 : decode cX12_goesOn 163 = .ok (.aload_n 0, 1) := by decide +kernel
theorem dX12_goesOn_164 : decode cX12_goesOn 164 = .ok (.iconst 3, 1) := by decide +kernel
theorem dX12_goesOn_165 : decode cX12_goesOn 165 = .ok (.invokevirtual 249, 3) := by decide +kernel
theorem dX12_goesOn_168 : decode cX12_goesOn 168 = .ok (.aload_n 0, 1) := by decide +kernel
theorem dX12_goesOn_169 : decode cX12_goesOn 169 = .ok (.getfield 84, 3) := by decide +kernel
theorem dX12_goesOn_172 : decode cX12_goesOn 172 = .ok (.aload_n 0, 1) := by decide +kernel
theorem dX12_goesOn_173 : decode cX12_goesOn 173 = .ok (.getfield 63, 3) := by decide +kernel
theorem dX12_goesOn_176 : decode cX12_goesOn 176 = .ok (.aload_n 0, 1) := by decide +kernel
theorem dX12_goesOn_177 : decode cX12_goesOn 177 = .ok (.getfield 224, 3) := by decide +kernel
theorem dX12_goesOn_180 : decode cX12_goesOn 180 = .ok (.iaload, 1) := by decide +kernel
theorem dX12_goesOn_181 : decode cX12_goesOn 181 = .ok (.aload_n 0, 1) := by decide +kernel
theorem dX12_goesOn_182 : decode cX12_goesOn 182 = .ok (.getfield 221, 3) := by decide +kernel
theorem dX12_goesOn_185 : decode cX12_goesOn 185 = .ok (.iastore, 1) := by decide +kernel
theorem dX12_goesOn_186 : decode cX12_goesOn 186 = .ok (.aload_n 0, 1) := by decide +kernel
theorem dX12_goesOn_187 : decode cX12_goesOn 187 = .ok (.dup, 1) := by decide +kernel
theorem dX12_goesOn_188 : decode cX12_goesOn 188 = .ok (.getfield 224, 3) := by decide +kernel
theorem dX12_goesOn_191 : decode cX12_goesOn 191 = .ok (.iconst 1, 1) := by decide +kernel
theorem dX12_goesOn_192 : decode cX12_goesOn 192 = .ok (.isub, 1) := by decide +kernel
theorem dX12_goesOn_193 : decode cX12_goesOn 193 = .ok (.putfield 224, 3) := by decide +kernel
theorem dX12_goesOn_196 : decode cX12_goesOn 196 = .ok (.aload_n 0, 1) := by decide +kernel
theorem dX12_goesOn_197 : decode cX12_goesOn 197 = .ok (.dup, 1) := by decide +kernel
theorem dX12_goesOn_198 : decode cX12_goesOn 198 = .ok (.getfield 227, 3) := by decide +kernel
theorem dX12_goesOn_201 : decode cX12_goesOn 201 = .ok (.iconst 1, 1) := by decide +kernel
theorem dX12_goesOn_202 : decode cX12_goesOn 202 = .ok (.isub, 1) := by decide +kernel
theorem dX12_goesOn_203 : decode cX12_goesOn 203 = .ok (.putfield 227, 3) := by decide +kernel
theorem dX12_goesOn_206 : decode cX12_goesOn 206 = .ok (.aload_n 0, 1) := by decide +kernel
theorem dX12_goesOn_207 : decode cX12_goesOn 207 = .ok (.invokevirtual 236, 3) := by decide +kernel
theorem dX12_goesOn_210 : decode cX12_goesOn 210 = .ok (.aload_n 0, 1) := by decide +kernel
theorem dX12_goesOn_211 : decode cX12_goesOn 211 = .ok (.invokevirtual 265, 3) := by decide +kernel
theorem dX12_goesOn_214 : decode cX12_goesOn 214 = .ok (.goto 137, 3) := by decide +kernel
theorem dX12_goesOn_217 : decode cX12_goesOn 217 = .ok (.iload_n 1, 1) := by decide +kernel
theorem dX12_goesOn_218 : decode cX12_goesOn 218 = .ok (.iconst 4, 1) := by decide +kernel
theorem dX12_goesOn_219 : decode cX12_goesOn 219 = .ok (.if_icmp .ne 63, 3) := by decide +kernel
theorem dX12_goesOn_222 : decode cX12_goesOn 222 = .ok (.aload_n 0, 1) := by decide +kernel
theorem dX12_goesOn_223 : decode cX12_goesOn 223 = .ok (.getfield 199, 3) := by decide +kernel
theorem dX12_goesOn_226 : decode cX12_goesOn 226 = .ok (.iconst 3, 1) := by decide +kernel
theorem dX12_goesOn_227 : decode cX12_goesOn 227 = .ok (.if_icmp .ne 55, 3) := by decide +kernel
theorem dX12_goesOn_230 : decode cX12_goesOn 230 = .ok (.aload_n 0, 1) := by decide +kernel
theorem dX12_goesOn_231 : decode cX12_goesOn 231 = .ok (.getfield 211, 3) := by decide +kernel
theorem dX12_goesOn_234 : decode cX12_goesOn 234 = .ok (.invokestatic 290, 3) := by decide +kernel
theorem dX12_goesOn_237 : decode cX12_goesOn 237 = .ok (.ifCond .eq 45, 3) := by decide +kernel
theorem dX12_goesOn_240 : decode cX12_goesOn 240 = .ok (.aload_n 0, 1) := by decide +kernel
theorem dX12_goesOn_241 : decode cX12_goesOn 241 = .ok (.iconst 3, 1) := by decide +kernel
theorem dX12_goesOn_242 : decode cX12_goesOn 242 = .ok (.invokevirtual 249, 3) := by decide +kernel
theorem dX12_goesOn_245 : decode cX12_goesOn 245 = .ok (.aload_n 0, 1) := by decide +kernel
theorem dX12_goesOn_246 : decode cX12_goesOn 246 = .ok (.getfield 54, 3) := by decide +kernel
theorem dX12_goesOn_249 : decode cX12_goesOn 249 = .ok (.aload_n 0, 1) := by decide +kernel
theorem dX12_goesOn_250 : decode cX12_goesOn 250 = .ok (.getfield 224, 3) := by decide +kernel
theorem dX12_goesOn_253 : decode cX12_goesOn 253 = .ok (.aload_n 0, 1) := by decide +kernel
theorem dX12_goesOn_254 : decode cX12_goesOn 254 = .ok (.getfield 211, 3) := by decide +kernel
theorem dX12_goesOn_257 : decode cX12_goesOn 257 = .ok (.iastore, 1) := by decide +kernel
theorem dX12_goesOn_258 : decode cX12_goesOn 258 = .ok (.aload_n 0, 1) := by decide +kernel
theorem dX12_goesOn_259 : decode cX12_goesOn 259 = .ok (.getfield 51, 3) := by decide +kernel
theorem dX12_goesOn_262 : decode cX12_goesOn 262 = .ok (.aload_n 0, 1) := by decide +kernel
theorem dX12_goesOn_263 : decode cX12_goesOn 263 = .ok (.getfield 224, 3) := by decide +kernel
theorem dX12_goesOn_266 : decode cX12_goesOn 266 = .ok (.iconst 1, 1) := by decide +kernel
theorem dX12_goesOn_267 : decode cX12_goesOn 267 = .ok (.isub, 1) := by decide +kernel
theorem dX12_goesOn_268 : decode cX12_goesOn 268 = .ok (.iconst 5, 1) := by decide +kernel
theorem dX12_goesOn_269 : decode cX12_goesOn 269 = .ok (.iastore, 1) := by decide +kernel
theorem dX12_goesOn_270 : decode cX12_goesOn 270 = .ok (.aload_n 0, 1) := by decide +kernel
theorem dX12_goesOn_271 : decode cX12_goesOn 271 = .ok (.invokevirtual 236, 3) := by decide +kernel
theorem dX12_goesOn_274 : decode cX12_goesOn 274 = .ok (.aload_n 0, 1) := by decide +kernel
theorem dX12_goesOn_275 : decode cX12_goesOn 275 = .ok (.iconst 1, 1) := by decide +kernel
theorem dX12_goesOn_276 : decode cX12_goesOn 276 = .ok (.putfield 258, 3) := by decide +kernel
theorem dX12_goesOn_279 : decode cX12_goesOn 279 = .ok (.goto 72, 3) := by decide +kernel
theorem dX12_goesOn_282 : decode cX12_goesOn 282 = .ok (.iload_n 1, 1) := by decide +kernel
theorem dX12_goesOn_283 : decode cX12_goesOn 283 = .ok (.iconst 5, 1) := by decide +kernel
theorem dX12_goesOn_284 : decode cX12_goesOn 284 = .ok (.if_icmp .ne 41, 3) := by decide +kernel
theorem dX12_goesOn_287 : decode cX12_goesOn 287 = .ok (.aload_n 0, 1) := by decide +kernel
theorem dX12_goesOn_288 : decode cX12_goesOn 288 = .ok (.iconst 3, 1) := by decide +kernel
theorem dX12_goesOn_289 : decode cX12_goesOn 289 = .ok (.invokevirtual 249, 3) := by decide +kernel
theorem dX12_goesOn_292 : decode cX12_goesOn 292 = .ok (.aload_n 0, 1) := by decide +kernel
theorem dX12_goesOn_293 : decode cX12_goesOn 293 = .ok (.getfield 54, 3) := by decide +kernel
theorem dX12_goesOn_296 : decode cX12_goesOn 296 = .ok (.aload_n 0, 1) := by decide +kernel
theorem dX12_goesOn_297 : decode cX12_goesOn 297 = .ok (.getfield 224, 3) := by decide +kernel
theorem dX12_goesOn_300 : decode cX12_goesOn 300 = .ok (.iaload, 1) := by decide +kernel
theorem dX12_goesOn_301 : decode cX12_goesOn 301 = .ok (.istore_n 2, 1) := by decide +kernel
theorem dX12_goesOn_302 : decode cX12_goesOn 302 = .ok (.aload_n 0, 1) := by decide +kernel
theorem dX12_goesOn_303 : decode cX12_goesOn 303 = .ok (.dup, 1) := by decide +kernel
theorem dX12_goesOn_304 : decode cX12_goesOn 304 = .ok (.getfield 224, 3) := by decide +kernel
theorem dX12_goesOn_307 : decode cX12_goesOn 307 = .ok (.iconst 1, 1) := by decide +kernel
theorem dX12_goesOn_308 : decode cX12_goesOn 308 = .ok (.isub, 1) := by decide +kernel
theorem dX12_goesOn_309 : decode cX12_goesOn 309 = .ok (.putfield 224, 3) := by decide +kernel
theorem dX12_goesOn_312 : decode cX12_goesOn 312 = .ok (.aload_n 0, 1) := by decide +kernel
theorem dX12_goesOn_313 : decode cX12_goesOn 313 = .ok (.iload_n 2, 1) := by decide +kernel
theorem dX12_goesOn_314 : decode cX12_goesOn 314 = .ok (.iconst 0, 1) := by decide +kernel
theorem dX12_goesOn_315 : decode cX12_goesOn 315 = .ok (.invokevirtual 246, 3) := by decide +kernel
theorem dX12_goesOn_318 : decode cX12_goesOn 318 = .ok (.aload_n 0, 1) := by decide +kernel
theorem dX12_goesOn_319 : decode cX12_goesOn 319 = .ok (.invokevirtual 293, 3) := by decide +kernel
theorem dX12_goesOn_322 : decode cX12_goesOn 322 = .ok (.goto 29, 3) := by decide +kernel
theorem dX12_goesOn_325 : decode cX12_goesOn 325 = .ok (.iload_n 1, 1) := by decide +kernel
theorem dX12_goesOn_326 : decode cX12_goesOn 326 = .ok (.iconst 1, 1) := by decide +kernel
theorem dX12_goesOn_327 : decode cX12_goesOn 327 = .ok (.if_icmp .ne 19, 3) := by decide +kernel
theorem dX12_goesOn_330 : decode cX12_goesOn 330 = .ok (.aload_n 0, 1) := by decide +kernel
theorem dX12_goesOn_331 : decode cX12_goesOn 331 = .ok (.bipush 59, 2) := by decide +kernel
theorem dX12_goesOn_333 : decode cX12_goesOn 333 = .ok (.invokevirtual 275, 3) := by decide +kernel
theorem dX12_goesOn_336 : decode cX12_goesOn 336 = .ok (.ifCond .eq 10, 3) := by decide +kernel
theorem dX12_goesOn_339 : decode cX12_goesOn 339 = .ok (.aload_n 0, 1) := by decide +kernel
theorem dX12_goesOn_340 : decode cX12_goesOn 340 = .ok (.invokevirtual 296, 3) := by decide +kernel
theorem dX12_goesOn_343 : decode cX12_goesOn 343 = .ok (.goto 8, 3) := by decide +kernel
theorem dX12_goesOn_346 : decode cX12_goesOn 346 = .ok (.aload_n 0, 1) := by decide +kernel
theorem dX12_goesOn_347 : decode cX12_goesOn 347 = .ok (.iconst 1, 1) := by decide +kernel
theorem dX12_goesOn_348 : decode cX12_goesOn 348 = .ok (.invokevirtual 230, 3) := by decide +kernel
theorem dX12_goesOn_351 : decode cX12_goesOn 351 = .ok (.return_, 1) := by decide +kernel
theorem dX12_asksOn_0 : decode cX12_asksOn 0 = .ok (.aload_n 0, 1) := by decide +kernel
theorem dX12_asksOn_1 : decode cX12_asksOn 1 = .ok (.bipush 17, 2) := by decide +kernel
theorem dX12_asksOn_3 : decode cX12_asksOn 3 = .ok (.invokevirtual 252, 3) := by decide +kernel
theorem dX12_asksOn_6 : decode cX12_asksOn 6 = .ok (.ifCond .ne 12, 3) := by decide +kernel
theorem dX12_asksOn_9 : decode cX12_asksOn 9 = .ok (.aload_n 0, 1) := by decide +kernel
theorem dX12_asksOn_10 : decode cX12_asksOn 10 = .ok (.bipush 16, 2) := by decide +kernel
theorem dX12_asksOn_12 : decode cX12_asksOn 12 = .ok (.invokevirtual 252, 3) := by decide +kernel
theorem dX12_asksOn_15 : decode cX12_asksOn 15 = .ok (.ifCond .eq 33, 3) := by decide +kernel
theorem dX12_asksOn_18 : decode cX12_asksOn 18 = .ok (.aload_n 0, 1) := by decide +kernel
theorem dX12_asksOn_19 : decode cX12_asksOn 19 = .ok (.aload_n 0, 1) := by decide +kernel
theorem dX12_asksOn_20 : decode cX12_asksOn 20 = .ok (.bipush 17, 2) := by decide +kernel
theorem dX12_asksOn_22 : decode cX12_asksOn 22 = .ok (.invokevirtual 252, 3) := by decide +kernel
theorem dX12_asksOn_25 : decode cX12_asksOn 25 = .ok (.ifCond .eq 9, 3) := by decide +kernel
theorem dX12_asksOn_28 : decode cX12_asksOn 28 = .ok (.sipush 407, 3) := by decide +kernel
theorem dX12_asksOn_31 : decode cX12_asksOn 31 = .ok (.goto 6, 3) := by decide +kernel
theorem dX12_asksOn_34 : decode cX12_asksOn 34 = .ok (.sipush 406, 3) := by decide +kernel
theorem dX12_asksOn_37 : decode cX12_asksOn 37 = .ok (.invokevirtual 284, 3) := by decide +kernel
theorem dX12_asksOn_40 : decode cX12_asksOn 40 = .ok (.aload_n 0, 1) := by decide +kernel
theorem dX12_asksOn_41 : decode cX12_asksOn 41 = .ok (.iconst 0, 1) := by decide +kernel
theorem dX12_asksOn_42 : decode cX12_asksOn 42 = .ok (.putfield 258, 3) := by decide +kernel
theorem dX12_asksOn_45 : decode cX12_asksOn 45 = .ok (.goto 42, 3) := by decide +kernel
theorem dX12_asksOn_48 : decode cX12_asksOn 48 = .ok (.aload_n 0, 1) := by decide +kernel
theorem dX12_asksOn_49 : decode cX12_asksOn 49 = .ok (.invokevirtual 278, 3) := by decide +kernel
theorem dX12_asksOn_52 : decode cX12_asksOn 52 = .ok (.iconst 2, 1) := by decide +kernel
theorem dX12_asksOn_53 : decode cX12_asksOn 53 = .ok (.if_icmp .ne 29, 3) := by decide +kernel
theorem dX12_asksOn_56 : decode cX12_asksOn 56 = .ok (.aload_n 0, 1) := by decide +kernel
theorem dX12_asksOn_57 : decode cX12_asksOn 57 = .ok (.bipush 21, 2) := by decide +kernel
theorem dX12_asksOn_59 : decode cX12_asksOn 59 = .ok (.invokevirtual 252, 3) := by decide +kernel
theorem dX12_asksOn_62 : decode cX12_asksOn 62 = .ok (.ifCond .eq 20, 3) := by decide +kernel
theorem dX12_asksOn_65 : decode cX12_asksOn 65 = .ok (.aload_n 0, 1) := by decide +kernel
theorem dX12_asksOn_66 : decode cX12_asksOn 66 = .ok (.iconst 1, 1) := by decide +kernel
theorem dX12_asksOn_67 : decode cX12_asksOn 67 = .ok (.invokevirtual 249, 3) := by decide +kernel
theorem dX12_asksOn_70 : decode cX12_asksOn 70 = .ok (.aload_n 0, 1) := by decide +kernel
theorem dX12_asksOn_71 : decode cX12_asksOn 71 = .ok (.bipush 8, 2) := by decide +kernel
theorem dX12_asksOn_73 : decode cX12_asksOn 73 = .ok (.sipush 404, 3) := by decide +kernel
theorem dX12_asksOn_76 : decode cX12_asksOn 76 = .ok (.invokevirtual 287, 3) := by decide +kernel
theorem dX12_asksOn_79 : decode cX12_asksOn 79 = .ok (.goto 8, 3) := by decide +kernel
theorem dX12_asksOn_82 : decode cX12_asksOn 82 = .ok (.aload_n 0, 1) := by decide +kernel
theorem dX12_asksOn_83 : decode cX12_asksOn 83 = .ok (.iconst 1, 1) := by decide +kernel
theorem dX12_asksOn_84 : decode cX12_asksOn 84 = .ok (.invokevirtual 230, 3) := by decide +kernel
theorem dX12_asksOn_87 : decode cX12_asksOn 87 = .ok (.return_, 1) := by decide +kernel
theorem dX12_clauseIsOver_0 : decode cX12_clauseIsOver 0 = .ok (.aload_n 0, 1) := by decide +kernel
theorem dX12_clauseIsOver_1 : decode cX12_clauseIsOver 1 = .ok (.iconst 1, 1) := by decide +kernel
theorem dX12_clauseIsOver_2 : decode cX12_clauseIsOver 2 = .ok (.invokevirtual 249, 3) := by decide +kernel
theorem dX12_clauseIsOver_5 : decode cX12_clauseIsOver 5 = .ok (.aload_n 0, 1) := by decide +kernel
theorem dX12_clauseIsOver_6 : decode cX12_clauseIsOver 6 = .ok (.iconst 0, 1) := by decide +kernel
theorem dX12_clauseIsOver_7 : decode cX12_clauseIsOver 7 = .ok (.putfield 224, 3) := by decide +kernel
theorem dX12_clauseIsOver_10 : decode cX12_clauseIsOver 10 = .ok (.aload_n 0, 1) := by decide +kernel
theorem dX12_clauseIsOver_11 : decode cX12_clauseIsOver 11 = .ok (.sipush 408, 3) := by decide +kernel
theorem dX12_clauseIsOver_14 : decode cX12_clauseIsOver 14 = .ok (.iconst 0, 1) := by decide +kernel
theorem dX12_clauseIsOver_15 : decode cX12_clauseIsOver 15 = .ok (.invokevirtual 246, 3) := by decide +kernel
theorem dX12_clauseIsOver_18 : decode cX12_clauseIsOver 18 = .ok (.aload_n 0, 1) := by decide +kernel
theorem dX12_clauseIsOver_19 : decode cX12_clauseIsOver 19 = .ok (.dup, 1) := by decide +kernel
theorem dX12_clauseIsOver_20 : decode cX12_clauseIsOver 20 = .ok (.getfield 299, 3) := by decide +kernel
theorem dX12_clauseIsOver_23 : decode cX12_clauseIsOver 23 = .ok (.iconst 1, 1) := by decide +kernel
theorem dX12_clauseIsOver_24 : decode cX12_clauseIsOver 24 = .ok (.iadd, 1) := by decide +kernel
theorem dX12_clauseIsOver_25 : decode cX12_clauseIsOver 25 = .ok (.putfield 299, 3) := by decide +kernel
theorem dX12_clauseIsOver_28 : decode cX12_clauseIsOver 28 = .ok (.aload_n 0, 1) := by decide +kernel
theorem dX12_clauseIsOver_29 : decode cX12_clauseIsOver 29 = .ok (.invokevirtual 236, 3) := by decide +kernel
theorem dX12_clauseIsOver_32 : decode cX12_clauseIsOver 32 = .ok (.aload_n 0, 1) := by decide +kernel
theorem dX12_clauseIsOver_33 : decode cX12_clauseIsOver 33 = .ok (.iconst 4, 1) := by decide +kernel
theorem dX12_clauseIsOver_34 : decode cX12_clauseIsOver 34 = .ok (.putfield 258, 3) := by decide +kernel
theorem dX12_clauseIsOver_37 : decode cX12_clauseIsOver 37 = .ok (.return_, 1) := by decide +kernel
theorem dX12_number_0 : decode cX12_number 0 = .ok (.aload_n 0, 1) := by decide +kernel
theorem dX12_number_1 : decode cX12_number 1 = .ok (.getfield 215, 3) := by decide +kernel
theorem dX12_number_4 : decode cX12_number 4 = .ok (.ifCond .gt 11, 3) := by decide +kernel
theorem dX12_number_7 : decode cX12_number 7 = .ok (.aload_n 0, 1) := by decide +kernel
theorem dX12_number_8 : decode cX12_number 8 = .ok (.getfield 199, 3) := by decide +kernel
theorem dX12_number_11 : decode cX12_number 11 = .ok (.iconst 2, 1) := by decide +kernel
theorem dX12_number_12 : decode cX12_number 12 = .ok (.if_icmp .eq 10, 3) := by decide +kernel
theorem dX12_number_15 : decode cX12_number 15 = .ok (.aload_n 0, 1) := by decide +kernel
theorem dX12_number_16 : decode cX12_number 16 = .ok (.iconst 1, 1) := by decide +kernel
theorem dX12_number_17 : decode cX12_number 17 = .ok (.invokevirtual 230, 3) := by decide +kernel
theorem dX12_number_20 : decode cX12_number 20 = .ok (.iload_n 1, 1) := by decide +kernel
theorem dX12_number_21 : decode cX12_number 21 = .ok (.ireturn, 1) := by decide +kernel
theorem dX12_number_22 : decode cX12_number 22 = .ok (.aload_n 0, 1) := by decide +kernel
theorem dX12_number_23 : decode cX12_number 23 = .ok (.getfield 211, 3) := by decide +kernel
theorem dX12_number_26 : decode cX12_number 26 = .ok (.iload_n 1, 1) := by decide +kernel
theorem dX12_number_27 : decode cX12_number 27 = .ok (.iload_n 2, 1) := by decide +kernel
theorem dX12_number_28 : decode cX12_number 28 = .ok (.invokestatic 107, 3) := by decide +kernel
theorem dX12_number_31 : decode cX12_number 31 = .ok (.ifCond .ne 10, 3) := by decide +kernel
theorem dX12_number_34 : decode cX12_number 34 = .ok (.aload_n 0, 1) := by decide +kernel
theorem dX12_number_35 : decode cX12_number 35 = .ok (.iconst 2, 1) := by decide +kernel
theorem dX12_number_36 : decode cX12_number 36 = .ok (.invokevirtual 230, 3) := by decide +kernel
theorem dX12_number_39 : decode cX12_number 39 = .ok (.iload_n 1, 1) := by decide +kernel
theorem dX12_number_40 : decode cX12_number 40 = .ok (.ireturn, 1) := by decide +kernel
theorem dX12_number_41 : decode cX12_number 41 = .ok (.aload_n 0, 1) := by decide +kernel
theorem dX12_number_42 : decode cX12_number 42 = .ok (.getfield 211, 3) := by decide +kernel
theorem dX12_number_45 : decode cX12_number 45 = .ok (.istore_n 3, 1) := by decide +kernel
theorem dX12_number_46 : decode cX12_number 46 = .ok (.aload_n 0, 1) := by decide +kernel
theorem dX12_number_47 : decode cX12_number 47 = .ok (.invokevirtual 236, 3) := by decide +kernel
theorem dX12_number_50 : decode cX12_number 50 = .ok (.iload_n 3, 1) := by decide +kernel
theorem dX12_number_51 : decode cX12_number 51 = .ok (.ireturn, 1) := by decide +kernel
theorem dX12_wasTold_0 : decode cX12_wasTold 0 = .ok (.iconst 0, 1) := by decide +kernel
theorem dX12_wasTold_1 : decode cX12_wasTold 1 = .ok (.istore_n 2, 1) := by decide +kernel
theorem dX12_wasTold_2 : decode cX12_wasTold 2 = .ok (.iconst 0, 1) := by decide +kernel
theorem dX12_wasTold_3 : decode cX12_wasTold 3 = .ok (.istore_n 3, 1) := by decide +kernel
theorem dX12_wasTold_4 : decode cX12_wasTold 4 = .ok (.iload_n 3, 1) := by decide +kernel
theorem dX12_wasTold_5 : decode cX12_wasTold 5 = .ok (.aload_n 0, 1) := by decide +kernel
theorem dX12_wasTold_6 : decode cX12_wasTold 6 = .ok (.getfield 299, 3) := by decide +kernel
theorem dX12_wasTold_9 : decode cX12_wasTold 9 = .ok (.if_icmp .ge 29, 3) := by decide +kernel
theorem dX12_wasTold_12 : decode cX12_wasTold 12 = .ok (.iload_n 2, 1) := by decide +kernel
theorem dX12_wasTold_13 : decode cX12_wasTold 13 = .ok (.ifCond .ne 13, 3) := by decide +kernel
theorem dX12_wasTold_16 : decode cX12_wasTold 16 = .ok (.aload_n 0, 1) := by decide +kernel
theorem dX12_wasTold_17 : decode cX12_wasTold 17 = .ok (.getfield 66, 3) := by decide +kernel
theorem dX12_wasTold_20 : decode cX12_wasTold 20 = .ok (.iload_n 3, 1) := by decide +kernel
theorem dX12_wasTold_21 : decode cX12_wasTold 21 = .ok (.iaload, 1) := by decide +kernel
theorem dX12_wasTold_22 : decode cX12_wasTold 22 = .ok (.iload_n 1, 1) := by decide +kernel
theorem dX12_wasTold_23 : decode cX12_wasTold 23 = .ok (.if_icmp .ne 7, 3) := by decide +kernel
theorem dX12_wasTold_26 : decode cX12_wasTold 26 = .ok (.iconst 1, 1) := by decide +kernel
theorem dX12_wasTold_27 : decode cX12_wasTold 27 = .ok (.goto 4, 3) := by decide +kernel
theorem dX12_wasTold_30 : decode cX12_wasTold 30 = .ok (.iconst 0, 1) := by decide +kernel
theorem dX12_wasTold_31 : decode cX12_wasTold 31 = .ok (.istore_n 2, 1) := by decide +kernel
theorem dX12_wasTold_32 : decode cX12_wasTold 32 = .ok (.iinc 3 1, 3) := by decide +kernel
theorem dX12_wasTold_35 : decode cX12_wasTold 35 = .ok (.goto (-31), 3) := by decide +kernel
theorem dX12_wasTold_38 : decode cX12_wasTold 38 = .ok (.iload_n 2, 1) := by decide +kernel
theorem dX12_wasTold_39 : decode cX12_wasTold 39 = .ok (.ireturn, 1) := by decide +kernel
theorem dX12_numberBehind_0 : decode cX12_numberBehind 0 = .ok (.aload_n 0, 1) := by decide +kernel
theorem dX12_numberBehind_1 : decode cX12_numberBehind 1 = .ok (.getfield 215, 3) := by decide +kernel
theorem dX12_numberBehind_4 : decode cX12_numberBehind 4 = .ok (.ifCond .ne 16, 3) := by decide +kernel
theorem dX12_numberBehind_7 : decode cX12_numberBehind 7 = .ok (.aload_n 0, 1) := by decide +kernel
theorem dX12_numberBehind_8 : decode cX12_numberBehind 8 = .ok (.iload_n 1, 1) := by decide +kernel
theorem dX12_numberBehind_9 : decode cX12_numberBehind 9 = .ok (.invokevirtual 252, 3) := by decide +kernel
theorem dX12_numberBehind_12 : decode cX12_numberBehind 12 = .ok (.ifCond .ne 8, 3) := by decide +kernel
theorem dX12_numberBehind_15 : decode cX12_numberBehind 15 = .ok (.aload_n 0, 1) := by decide +kernel
theorem dX12_numberBehind_16 : decode cX12_numberBehind 16 = .ok (.iconst 1, 1) := by decide +kernel
theorem dX12_numberBehind_17 : decode cX12_numberBehind 17 = .ok (.invokevirtual 230, 3) := by decide +kernel
theorem dX12_numberBehind_20 : decode cX12_numberBehind 20 = .ok (.aload_n 0, 1) := by decide +kernel
theorem dX12_numberBehind_21 : decode cX12_numberBehind 21 = .ok (.getfield 215, 3) := by decide +kernel
theorem dX12_numberBehind_24 : decode cX12_numberBehind 24 = .ok (.ifCond .ne 7, 3) := by decide +kernel
theorem dX12_numberBehind_27 : decode cX12_numberBehind 27 = .ok (.aload_n 0, 1) := by decide +kernel
theorem dX12_numberBehind_28 : decode cX12_numberBehind 28 = .ok (.invokevirtual 236, 3) := by decide +kernel
theorem dX12_numberBehind_31 : decode cX12_numberBehind 31 = .ok (.aload_n 0, 1) := by decide +kernel
theorem dX12_numberBehind_32 : decode cX12_numberBehind 32 = .ok (.iload_n 2, 1) := by decide +kernel
theorem dX12_numberBehind_33 : decode cX12_numberBehind 33 = .ok (.iload_n 3, 1) := by decide +kernel
theorem dX12_numberBehind_34 : decode cX12_numberBehind 34 = .ok (.invokevirtual 302, 3) := by decide +kernel
theorem dX12_numberBehind_37 : decode cX12_numberBehind 37 = .ok (.ireturn, 1) := by decide +kernel
theorem dX12_doing_0 : decode cX12_doing 0 = .ok (.iconst (-1), 1) := by decide +kernel
theorem dX12_doing_1 : decode cX12_doing 1 = .ok (.istore_n 1, 1) := by decide +kernel
theorem dX12_doing_2 : decode cX12_doing 2 = .ok (.iconst (-1), 1) := by decide +kernel
theorem dX12_doing_3 : decode cX12_doing 3 = .ok (.istore_n 2, 1) := by decide +kernel
theorem dX12_doing_4 : decode cX12_doing 4 = .ok (.iconst (-1), 1) := by decide +kernel
theorem dX12_doing_5 : decode cX12_doing 5 = .ok (.istore_n 3, 1) := by decide +kernel
theorem dX12_doing_6 : decode cX12_doing 6 = .ok (.aload_n 0, 1) := by decide +kernel
theorem dX12_doing_7 : decode cX12_doing 7 = .ok (.getfield 268, 3) := by decide +kernel
theorem dX12_doing_10 : decode cX12_doing 10 = .ok (.tableswitch 175 4 11 #[46, 77, 98, 175, 175, 130, 161, 164], 46) := by decide +kernel
theorem dX12_doing_56 : decode cX12_doing 56 = .ok (.aload_n 0, 1) := by decide +kernel
theorem dX12_doing_57 : decode cX12_doing 57 = .ok (.iconst 0, 1) := by decide +kernel
theorem dX12_doing_58 : decode cX12_doing 58 = .ok (.bipush 99, 2) := by decide +kernel
theorem dX12_doing_60 : decode cX12_doing 60 = .ok (.invokevirtual 302, 3) := by decide +kernel
theorem dX12_doing_63 : decode cX12_doing 63 = .ok (.istore_n 1, 1) := by decide +kernel
theorem dX12_doing_64 : decode cX12_doing 64 = .ok (.aload_n 0, 1) := by decide +kernel
theorem dX12_doing_65 : decode cX12_doing 65 = .ok (.bipush 12, 2) := by decide +kernel
theorem dX12_doing_67 : decode cX12_doing 67 = .ok (.iconst 0, 1) := by decide +kernel
theorem dX12_doing_68 : decode cX12_doing 68 = .ok (.bipush 99, 2) := by decide +kernel
theorem dX12_doing_70 : decode cX12_doing 70 = .ok (.invokevirtual 306, 3) := by decide +kernel
theorem dX12_doing_73 : decode cX12_doing 73 = .ok (.istore_n 2, 1) := by decide +kernel
theorem dX12_doing_74 : decode cX12_doing 74 = .ok (.aload_n 0, 1) := by decide +kernel
theorem dX12_doing_75 : decode cX12_doing 75 = .ok (.bipush 13, 2) := by decide +kernel
theorem dX12_doing_77 : decode cX12_doing 77 = .ok (.iconst 0, 1) := by decide +kernel
theorem dX12_doing_78 : decode cX12_doing 78 = .ok (.bipush 7, 2) := by decide +kernel
theorem dX12_doing_80 : decode cX12_doing 80 = .ok (.invokevirtual 306, 3) := by decide +kernel
theorem dX12_doing_83 : decode cX12_doing 83 = .ok (.istore_n 3, 1) := by decide +kernel
theorem dX12_doing_84 : decode cX12_doing 84 = .ok (.goto 109, 3) := by decide +kernel
theorem dX12_doing_87 : decode cX12_doing 87 = .ok (.aload_n 0, 1) := by decide +kernel
theorem dX12_doing_88 : decode cX12_doing 88 = .ok (.iconst 0, 1) := by decide +kernel
theorem dX12_doing_89 : decode cX12_doing 89 = .ok (.bipush 6, 2) := by decide +kernel
theorem dX12_doing_91 : decode cX12_doing 91 = .ok (.invokevirtual 302, 3) := by decide +kernel
theorem dX12_doing_94 : decode cX12_doing 94 = .ok (.istore_n 1, 1) := by decide +kernel
theorem dX12_doing_95 : decode cX12_doing 95 = .ok (.aload_n 0, 1) := by decide +kernel
theorem dX12_doing_96 : decode cX12_doing 96 = .ok (.bipush 14, 2) := by decide +kernel
theorem dX12_doing_98 : decode cX12_doing 98 = .ok (.iconst 0, 1) := by decide +kernel
theorem dX12_doing_99 : decode cX12_doing 99 = .ok (.bipush 6, 2) := by decide +kernel
theorem dX12_doing_101 : decode cX12_doing 101 = .ok (.invokevirtual 306, 3) := by decide +kernel
theorem dX12_doing_104 : decode cX12_doing 104 = .ok (.istore_n 2, 1) := by decide +kernel
theorem dX12_doing_105 : decode cX12_doing 105 = .ok (.goto 88, 3) := by decide +kernel
theorem dX12_doing_108 : decode cX12_doing 108 = .ok (.aload_n 0, 1) := by decide +kernel
theorem dX12_doing_109 : decode cX12_doing 109 = .ok (.iconst 0, 1) := by decide +kernel
theorem dX12_doing_110 : decode cX12_doing 110 = .ok (.bipush 6, 2) := by decide +kernel
theorem dX12_doing_112 : decode cX12_doing 112 = .ok (.invokevirtual 302, 3) := by decide +kernel
theorem dX12_doing_115 : decode cX12_doing 115 = .ok (.istore_n 1, 1) := by decide +kernel
theorem dX12_doing_116 : decode cX12_doing 116 = .ok (.aload_n 0, 1) := by decide +kernel
theorem dX12_doing_117 : decode cX12_doing 117 = .ok (.bipush 14, 2) := by decide +kernel
theorem dX12_doing_119 : decode cX12_doing 119 = .ok (.iconst 0, 1) := by decide +kernel
theorem dX12_doing_120 : decode cX12_doing 120 = .ok (.bipush 6, 2) := by decide +kernel
theorem dX12_doing_122 : decode cX12_doing 122 = .ok (.invokevirtual 306, 3) := by decide +kernel
theorem dX12_doing_125 : decode cX12_doing 125 = .ok (.istore_n 2, 1) := by decide +kernel
theorem dX12_doing_126 : decode cX12_doing 126 = .ok (.aload_n 0, 1) := by decide +kernel
theorem dX12_doing_127 : decode cX12_doing 127 = .ok (.bipush 15, 2) := by decide +kernel
theorem dX12_doing_129 : decode cX12_doing 129 = .ok (.iconst 0, 1) := by decide +kernel
theorem dX12_doing_130 : decode cX12_doing 130 = .ok (.sipush 9999, 3) := by decide +kernel
theorem dX12_doing_133 : decode cX12_doing 133 = .ok (.invokevirtual 306, 3) := by decide +kernel
theorem dX12_doing_136 : decode cX12_doing 136 = .ok (.istore_n 3, 1) := by decide +kernel
theorem dX12_doing_137 : decode cX12_doing 137 = .ok (.goto 56, 3) := by decide +kernel
theorem dX12_doing_140 : decode cX12_doing 140 = .ok (.aload_n 0, 1) := by decide +kernel
theorem dX12_doing_141 : decode cX12_doing 141 = .ok (.iconst 0, 1) := by decide +kernel
theorem dX12_doing_142 : decode cX12_doing 142 = .ok (.bipush 6, 2) := by decide +kernel
theorem dX12_doing_144 : decode cX12_doing 144 = .ok (.invokevirtual 302, 3) := by decide +kernel
theorem dX12_doing_147 : decode cX12_doing 147 = .ok (.istore_n 1, 1) := by decide +kernel
theorem dX12_doing_148 : decode cX12_doing 148 = .ok (.aload_n 0, 1) := by decide +kernel
theorem dX12_doing_149 : decode cX12_doing 149 = .ok (.bipush 16, 2) := by decide +kernel
theorem dX12_doing_151 : decode cX12_doing 151 = .ok (.iconst 0, 1) := by decide +kernel
theorem dX12_doing_152 : decode cX12_doing 152 = .ok (.bipush 6, 2) := by decide +kernel
theorem dX12_doing_154 : decode cX12_doing 154 = .ok (.invokevirtual 306, 3) := by decide +kernel
theorem dX12_doing_157 : decode cX12_doing 157 = .ok (.istore_n 2, 1) := by decide +kernel
theorem dX12_doing_158 : decode cX12_doing 158 = .ok (.aload_n 0, 1) := by decide +kernel
theorem dX12_doing_159 : decode cX12_doing 159 = .ok (.bipush 16, 2) := by decide +kernel
theorem dX12_doing_161 : decode cX12_doing 161 = .ok (.iconst 0, 1) := by decide +kernel
theorem dX12_doing_162 : decode cX12_doing 162 = .ok (.bipush 6, 2) := by decide +kernel
theorem dX12_doing_164 : decode cX12_doing 164 = .ok (.invokevirtual 306, 3) := by decide +kernel
theorem dX12_doing_167 : decode cX12_doing 167 = .ok (.istore_n 3, 1) := by decide +kernel
theorem dX12_doing_168 : decode cX12_doing 168 = .ok (.goto 25, 3) := by decide +kernel
theorem dX12_doing_171 : decode cX12_doing 171 = .ok (.goto 22, 3) := by decide +kernel
theorem dX12_doing_174 : decode cX12_doing 174 = .ok (.aload_n 0, 1) := by decide +kernel
theorem dX12_doing_175 : decode cX12_doing 175 = .ok (.iconst 1, 1) := by decide +kernel
theorem dX12_doing_176 : decode cX12_doing 176 = .ok (.bipush 60, 2) := by decide +kernel
theorem dX12_doing_178 : decode cX12_doing 178 = .ok (.invokevirtual 302, 3) := by decide +kernel
theorem dX12_doing_181 : decode cX12_doing 181 = .ok (.istore_n 1, 1) := by decide +kernel
theorem dX12_doing_182 : decode cX12_doing 182 = .ok (.goto 11, 3) := by decide +kernel
theorem dX12_doing_185 : decode cX12_doing 185 = .ok (.aload_n 0, 1) := by decide +kernel
theorem dX12_doing_186 : decode cX12_doing 186 = .ok (.iconst 0, 1) := by decide +kernel
theorem dX12_doing_187 : decode cX12_doing 187 = .ok (.bipush 6, 2) := by decide +kernel
theorem dX12_doing_189 : decode cX12_doing 189 = .ok (.invokevirtual 302, 3) := by decide +kernel
theorem dX12_doing_192 : decode cX12_doing 192 = .ok (.istore_n 1, 1) := by decide +kernel
theorem dX12_doing_193 : decode cX12_doing 193 = .ok (.aload_n 0, 1) := by decide +kernel
theorem dX12_doing_194 : decode cX12_doing 194 = .ok (.getfield 72, 3) := by decide +kernel
theorem dX12_doing_197 : decode cX12_doing 197 = .ok (.aload_n 0, 1) := by decide +kernel
theorem dX12_doing_198 : decode cX12_doing 198 = .ok (.getfield 299, 3) := by decide +kernel
theorem dX12_doing_201 : decode cX12_doing 201 = .ok (.iload_n 1, 1) := by decide +kernel
theorem dX12_doing_202 : decode cX12_doing 202 = .ok (.iastore, 1) := by decide +kernel
theorem dX12_doing_203 : decode cX12_doing 203 = .ok (.aload_n 0, 1) := by decide +kernel
theorem dX12_doing_204 : decode cX12_doing 204 = .ok (.getfield 75, 3) := by decide +kernel
theorem dX12_doing_207 : decode cX12_doing 207 = .ok (.aload_n 0, 1) := by decide +kernel
theorem dX12_doing_208 : decode cX12_doing 208 = .ok (.getfield 299, 3) := by decide +kernel
theorem dX12_doing_211 : decode cX12_doing 211 = .ok (.iload_n 2, 1) := by decide +kernel
theorem dX12_doing_212 : decode cX12_doing 212 = .ok (.iastore, 1) := by decide +kernel
theorem dX12_doing_213 : decode cX12_doing 213 = .ok (.aload_n 0, 1) := by decide +kernel
theorem dX12_doing_214 : decode cX12_doing 214 = .ok (.getfield 78, 3) := by decide +kernel
theorem dX12_doing_217 : decode cX12_doing 217 = .ok (.aload_n 0, 1) := by decide +kernel
theorem dX12_doing_218 : decode cX12_doing 218 = .ok (.getfield 299, 3) := by decide +kernel
