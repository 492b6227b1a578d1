theorem dX12_doing_221 : decode cX12_doing 221 = .ok (.iload_n 3, 1) := by decide +kernel
theorem dX12_doing_222 : decode cX12_doing 222 = .ok (.iastore, 1) := by decide +kernel
theorem dX12_doing_223 : decode cX12_doing 223 = .ok (.return_, 1) := by decide +kernel
theorem dX12_clause_0 : decode cX12_clause 0 = .ok (.aload_n 0, 1) := by decide +kernel
theorem dX12_clause_1 : decode cX12_clause 1 = .ok (.getfield 199, 3) := by decide +kernel
theorem dX12_clause_4 : decode cX12_clause 4 = .ok (.iconst 1, 1) := by decide +kernel
theorem dX12_clause_5 : decode cX12_clause 5 = .ok (.if_icmp .ne 12, 3) := by decide +kernel
theorem dX12_clause_8 : decode cX12_clause 8 = .ok (.aload_n 0, 1) := by decide +kernel
theorem dX12_clause_9 : decode cX12_clause 9 = .ok (.getfield 211, 3) := by decide +kernel
theorem dX12_clause_12 : decode cX12_clause 12 = .ok (.bipush 11, 2) := by decide +kernel
theorem dX12_clause_14 : decode cX12_clause 14 = .ok (.if_icmp .le 9, 3) := by decide +kernel
theorem dX12_clause_17 : decode cX12_clause 17 = .ok (.aload_n 0, 1) := by decide +kernel
theorem dX12_clause_18 : decode cX12_clause 18 = .ok (.iconst 1, 1) := by decide +kernel
theorem dX12_clause_19 : decode cX12_clause 19 = .ok (.invokevirtual 230, 3) := by decide +kernel
theorem dX12_clause_22 : decode cX12_clause 22 = .ok (.return_, 1) := by decide +kernel
theorem dX12_clause_23 : decode cX12_clause 23 = .ok (.aload_n 0, 1) := by decide +kernel
theorem dX12_clause_24 : decode cX12_clause 24 = .ok (.aload_n 0, 1) := by decide +kernel
theorem dX12_clause_25 : decode cX12_clause 25 = .ok (.getfield 211, 3) := by decide +kernel
theorem dX12_clause_28 : decode cX12_clause 28 = .ok (.putfield 268, 3) := by decide +kernel
theorem dX12_clause_31 : decode cX12_clause 31 = .ok (.aload_n 0, 1) := by decide +kernel
theorem dX12_clause_32 : decode cX12_clause 32 = .ok (.getfield 268, 3) := by decide +kernel
theorem dX12_clause_35 : decode cX12_clause 35 = .ok (.iconst 3, 1) := by decide +kernel
theorem dX12_clause_36 : decode cX12_clause 36 = .ok (.if_icmp .gt 22, 3) := by decide +kernel
theorem dX12_clause_39 : decode cX12_clause 39 = .ok (.aload_n 0, 1) := by decide +kernel
theorem dX12_clause_40 : decode cX12_clause 40 = .ok (.aload_n 0, 1) := by decide +kernel
theorem dX12_clause_41 : decode cX12_clause 41 = .ok (.getfield 268, 3) := by decide +kernel
theorem dX12_clause_44 : decode cX12_clause 44 = .ok (.invokevirtual 310, 3) := by decide +kernel
theorem dX12_clause_47 : decode cX12_clause 47 = .ok (.ifCond .eq 11, 3) := by decide +kernel
theorem dX12_clause_50 : decode cX12_clause 50 = .ok (.aload_n 0, 1) := by decide +kernel
theorem dX12_clause_51 : decode cX12_clause 51 = .ok (.iconst 4, 1) := by decide +kernel
theorem dX12_clause_52 : decode cX12_clause 52 = .ok (.invokevirtual 230, 3) := by decide +kernel
theorem dX12_clause_55 : decode cX12_clause 55 = .ok (.goto 18, 3) := by decide +kernel
theorem dX12_clause_58 : decode cX12_clause 58 = .ok (.aload_n 0, 1) := by decide +kernel
theorem dX12_clause_59 : decode cX12_clause 59 = .ok (.getfield 299, 3) := by decide +kernel
theorem dX12_clause_62 : decode cX12_clause 62 = .ok (.bipush 24, 2) := by decide +kernel
theorem dX12_clause_64 : decode cX12_clause 64 = .ok (.if_icmp .ne 9, 3) := by decide +kernel
theorem dX12_clause_67 : decode cX12_clause 67 = .ok (.aload_n 0, 1) := by decide +kernel
theorem dX12_clause_68 : decode cX12_clause 68 = .ok (.bipush 6, 2) := by decide +kernel
theorem dX12_clause_70 : decode cX12_clause 70 = .ok (.invokevirtual 230, 3) := by decide +kernel
theorem dX12_clause_73 : decode cX12_clause 73 = .ok (.aload_n 0, 1) := by decide +kernel
theorem dX12_clause_74 : decode cX12_clause 74 = .ok (.getfield 215, 3) := by decide +kernel
theorem dX12_clause_77 : decode cX12_clause 77 = .ok (.ifCond .le 4, 3) := by decide +kernel
theorem dX12_clause_80 : decode cX12_clause 80 = .ok (.return_, 1) := by decide +kernel
theorem dX12_clause_81 : decode cX12_clause 81 = .ok (.aload_n 0, 1) := by decide +kernel
theorem dX12_clause_82 : decode cX12_clause 82 = .ok (.getfield 66, 3) := by decide +kernel
theorem dX12_clause_85 : decode cX12_clause 85 = .ok (.aload_n 0, 1) := by decide +kernel
theorem dX12_clause_86 : decode cX12_clause 86 = .ok (.getfield 299, 3) := by decide +kernel
theorem dX12_clause_89 : decode cX12_clause 89 = .ok (.aload_n 0, 1) := by decide +kernel
theorem dX12_clause_90 : decode cX12_clause 90 = .ok (.getfield 268, 3) := by decide +kernel
theorem dX12_clause_93 : decode cX12_clause 93 = .ok (.iastore, 1) := by decide +kernel
theorem dX12_clause_94 : decode cX12_clause 94 = .ok (.aload_n 0, 1) := by decide +kernel
theorem dX12_clause_95 : decode cX12_clause 95 = .ok (.getfield 69, 3) := by decide +kernel
theorem dX12_clause_98 : decode cX12_clause 98 = .ok (.aload_n 0, 1) := by decide +kernel
theorem dX12_clause_99 : decode cX12_clause 99 = .ok (.getfield 299, 3) := by decide +kernel
theorem dX12_clause_102 : decode cX12_clause 102 = .ok (.aload_n 0, 1) := by decide +kernel
theorem dX12_clause_103 : decode cX12_clause 103 = .ok (.getfield 221, 3) := by decide +kernel
theorem dX12_clause_106 : decode cX12_clause 106 = .ok (.iastore, 1) := by decide +kernel
theorem dX12_clause_107 : decode cX12_clause 107 = .ok (.aload_n 0, 1) := by decide +kernel
theorem dX12_clause_108 : decode cX12_clause 108 = .ok (.invokevirtual 236, 3) := by decide +kernel
theorem dX12_clause_111 : decode cX12_clause 111 = .ok (.aload_n 0, 1) := by decide +kernel
theorem dX12_clause_112 : decode cX12_clause 112 = .ok (.getfield 268, 3) := by decide +kernel
theorem dX12_clause_115 : decode cX12_clause 115 = .ok (.iconst 3, 1) := by decide +kernel
theorem dX12_clause_116 : decode cX12_clause 116 = .ok (.if_icmp .gt 14, 3) := by decide +kernel
theorem dX12_clause_119 : decode cX12_clause 119 = .ok (.aload_n 0, 1) := by decide +kernel
theorem dX12_clause_120 : decode cX12_clause 120 = .ok (.iconst 1, 1) := by decide +kernel
theorem dX12_clause_121 : decode cX12_clause 121 = .ok (.invokevirtual 233, 3) := by decide +kernel
theorem dX12_clause_124 : decode cX12_clause 124 = .ok (.aload_n 0, 1) := by decide +kernel
theorem dX12_clause_125 : decode cX12_clause 125 = .ok (.iconst 1, 1) := by decide +kernel
theorem dX12_clause_126 : decode cX12_clause 126 = .ok (.putfield 258, 3) := by decide +kernel
theorem dX12_clause_129 : decode cX12_clause 129 = .ok (.return_, 1) := by decide +kernel
theorem dX12_clause_130 : decode cX12_clause 130 = .ok (.aload_n 0, 1) := by decide +kernel
theorem dX12_clause_131 : decode cX12_clause 131 = .ok (.invokevirtual 313, 3) := by decide +kernel
theorem dX12_clause_134 : decode cX12_clause 134 = .ok (.aload_n 0, 1) := by decide +kernel
theorem dX12_clause_135 : decode cX12_clause 135 = .ok (.getfield 215, 3) := by decide +kernel
theorem dX12_clause_138 : decode cX12_clause 138 = .ok (.ifCond .ne 17, 3) := by decide +kernel
theorem dX12_clause_141 : decode cX12_clause 141 = .ok (.aload_n 0, 1) := by decide +kernel
theorem dX12_clause_142 : decode cX12_clause 142 = .ok (.bipush 59, 2) := by decide +kernel
theorem dX12_clause_144 : decode cX12_clause 144 = .ok (.invokevirtual 275, 3) := by decide +kernel
theorem dX12_clause_147 : decode cX12_clause 147 = .ok (.ifCond .ne 8, 3) := by decide +kernel
theorem dX12_clause_150 : decode cX12_clause 150 = .ok (.aload_n 0, 1) := by decide +kernel
theorem dX12_clause_151 : decode cX12_clause 151 = .ok (.iconst 1, 1) := by decide +kernel
theorem dX12_clause_152 : decode cX12_clause 152 = .ok (.invokevirtual 230, 3) := by decide +kernel
theorem dX12_clause_155 : decode cX12_clause 155 = .ok (.aload_n 0, 1) := by decide +kernel
theorem dX12_clause_156 : decode cX12_clause 156 = .ok (.getfield 215, 3) := by decide +kernel
theorem dX12_clause_159 : decode cX12_clause 159 = .ok (.ifCond .ne 7, 3) := by decide +kernel
theorem dX12_clause_162 : decode cX12_clause 162 = .ok (.aload_n 0, 1) := by decide +kernel
theorem dX12_clause_163 : decode cX12_clause 163 = .ok (.invokevirtual 296, 3) := by decide +kernel
theorem dX12_clause_166 : decode cX12_clause 166 = .ok (.return_, 1) := by decide +kernel
theorem dX12_text_0 : decode cX12_text 0 = .ok (.aload_n 0, 1) := by decide +kernel
theorem dX12_text_1 : decode cX12_text 1 = .ok (.getfield 7, 3) := by decide +kernel
theorem dX12_text_4 : decode cX12_text 4 = .ok (.iconst 1, 1) := by decide +kernel
theorem dX12_text_5 : decode cX12_text 5 = .ok (.iaload, 1) := by decide +kernel
theorem dX12_text_6 : decode cX12_text 6 = .ok (.iconst 4, 1) := by decide +kernel
theorem dX12_text_7 : decode cX12_text 7 = .ok (.if_icmp .ne 5, 3) := by decide +kernel
theorem dX12_text_10 : decode cX12_text 10 = .ok (.iconst (-1), 1) := by decide +kernel
theorem dX12_text_11 : decode cX12_text 11 = .ok (.ireturn, 1) := by decide +kernel
theorem dX12_text_12 : decode cX12_text 12 = .ok (.aload_n 0, 1) := by decide +kernel
theorem dX12_text_13 : decode cX12_text 13 = .ok (.aload_n 0, 1) := by decide +kernel
theorem dX12_text_14 : decode cX12_text 14 = .ok (.getfield 119, 3) := by decide +kernel
theorem dX12_text_17 : decode cX12_text 17 = .ok (.putfield 193, 3) := by decide +kernel
theorem dX12_text_20 : decode cX12_text 20 = .ok (.aload_n 0, 1) := by decide +kernel
theorem dX12_text_21 : decode cX12_text 21 = .ok (.iconst 0, 1) := by decide +kernel
theorem dX12_text_22 : decode cX12_text 22 = .ok (.putfield 119, 3) := by decide +kernel
theorem dX12_text_25 : decode cX12_text 25 = .ok (.aload_n 0, 1) := by decide +kernel
theorem dX12_text_26 : decode cX12_text 26 = .ok (.iconst 0, 1) := by decide +kernel
theorem dX12_text_27 : decode cX12_text 27 = .ok (.putfield 190, 3) := by decide +kernel
theorem dX12_text_30 : decode cX12_text 30 = .ok (.aload_n 0, 1) := by decide +kernel
theorem dX12_text_31 : decode cX12_text 31 = .ok (.iconst 0, 1) := by decide +kernel
theorem dX12_text_32 : decode cX12_text 32 = .ok (.putfield 215, 3) := by decide +kernel
theorem dX12_text_35 : decode cX12_text 35 = .ok (.aload_n 0, 1) := by decide +kernel
theorem dX12_text_36 : decode cX12_text 36 = .ok (.iconst (-1), 1) := by decide +kernel
theorem dX12_text_37 : decode cX12_text 37 = .ok (.putfield 218, 3) := by decide +kernel
theorem dX12_text_40 : decode cX12_text 40 = .ok (.aload_n 0, 1) := by decide +kernel
theorem dX12_text_41 : decode cX12_text 41 = .ok (.iconst 0, 1) := by decide +kernel
theorem dX12_text_42 : decode cX12_text 42 = .ok (.putfield 227, 3) := by decide +kernel
theorem dX12_text_45 : decode cX12_text 45 = .ok (.aload_n 0, 1) := by decide +kernel
theorem dX12_text_46 : decode cX12_text 46 = .ok (.iconst 0, 1) := by decide +kernel
theorem dX12_text_47 : decode cX12_text 47 = .ok (.putfield 224, 3) := by decide +kernel
theorem dX12_text_50 : decode cX12_text 50 = .ok (.aload_n 0, 1) := by decide +kernel
theorem dX12_text_51 : decode cX12_text 51 = .ok (.iconst 0, 1) := by decide +kernel
theorem dX12_text_52 : decode cX12_text 52 = .ok (.putfield 239, 3) := by decide +kernel
theorem dX12_text_55 : decode cX12_text 55 = .ok (.aload_n 0, 1) := by decide +kernel
theorem dX12_text_56 : decode cX12_text 56 = .ok (.iconst 4, 1) := by decide +kernel
theorem dX12_text_57 : decode cX12_text 57 = .ok (.putfield 258, 3) := by decide +kernel
theorem dX12_text_60 : decode cX12_text 60 = .ok (.aload_n 0, 1) := by decide +kernel
theorem dX12_text_61 : decode cX12_text 61 = .ok (.iconst 0, 1) := by decide +kernel
theorem dX12_text_62 : decode cX12_text 62 = .ok (.putfield 299, 3) := by decide +kernel
theorem dX12_text_65 : decode cX12_text 65 = .ok (.aload_n 0, 1) := by decide +kernel
theorem dX12_text_66 : decode cX12_text 66 = .ok (.iconst 0, 1) := by decide +kernel
theorem dX12_text_67 : decode cX12_text 67 = .ok (.putfield 221, 3) := by decide +kernel
theorem dX12_text_70 : decode cX12_text 70 = .ok (.aload_n 0, 1) := by decide +kernel
theorem dX12_text_71 : decode cX12_text 71 = .ok (.invokevirtual 236, 3) := by decide +kernel
theorem dX12_text_74 : decode cX12_text 74 = .ok (.aload_n 0, 1) := by decide +kernel
theorem dX12_text_75 : decode cX12_text 75 = .ok (.getfield 215, 3) := by decide +kernel
theorem dX12_text_78 : decode cX12_text 78 = .ok (.ifCond .ne 89, 3) := by decide +kernel
theorem dX12_text_81 : decode cX12_text 81 = .ok (.aload_n 0, 1) := by decide +kernel
theorem dX12_text_82 : decode cX12_text 82 = .ok (.getfield 258, 3) := by decide +kernel
theorem dX12_text_85 : decode cX12_text 85 = .ok (.iconst 4, 1) := by decide +kernel
theorem dX12_text_86 : decode cX12_text 86 = .ok (.if_icmp .ne 10, 3) := by decide +kernel
theorem dX12_text_89 : decode cX12_text 89 = .ok (.aload_n 0, 1) := by decide +kernel
theorem dX12_text_90 : decode cX12_text 90 = .ok (.getfield 199, 3) := by decide +kernel
theorem dX12_text_93 : decode cX12_text 93 = .ok (.ifCond .eq 74, 3) := by decide +kernel
theorem dX12_text_96 : decode cX12_text 96 = .ok (.aload_n 0, 1) := by decide +kernel
theorem dX12_text_97 : decode cX12_text 97 = .ok (.getfield 258, 3) := by decide +kernel
theorem dX12_text_100 : decode cX12_text 100 = .ok (.tableswitch 60 0 3 #[32, 39, 46, 53], 32) := by decide +kernel
theorem dX12_text_132 : decode cX12_text 132 = .ok (.aload_n 0, 1) := by decide +kernel
theorem dX12_text_133 : decode cX12_text 133 = .ok (.invokevirtual 316, 3) := by decide +kernel
theorem dX12_text_136 : decode cX12_text 136 = .ok (.goto (-62), 3) := by decide +kernel
theorem dX12_text_139 : decode cX12_text 139 = .ok (.aload_n 0, 1) := by decide +kernel
theorem dX12_text_140 : decode cX12_text 140 = .ok (.invokevirtual 319, 3) := by decide +kernel
theorem dX12_text_143 : decode cX12_text 143 = .ok (.goto (-69), 3) := by decide +kernel
theorem dX12_text_146 : decode cX12_text 146 = .ok (.aload_n 0, 1) := by decide +kernel
theorem dX12_text_147 : decode cX12_text 147 = .ok (.invokevirtual 322, 3) := by decide +kernel
theorem dX12_text_150 : decode cX12_text 150 = .ok (.goto (-76), 3) := by decide +kernel
theorem dX12_text_153 : decode cX12_text 153 = .ok (.aload_n 0, 1) := by decide +kernel
theorem dX12_text_154 : decode cX12_text 154 = .ok (.invokevirtual 325, 3) := by decide +kernel
theorem dX12_text_157 : decode cX12_text 157 = .ok (.goto (-83), 3) := by decide +kernel
theorem dX12_text_160 : decode cX12_text 160 = .ok (.aload_n 0, 1) := by decide +kernel
theorem dX12_text_161 : decode cX12_text 161 = .ok (.invokevirtual 328, 3) := by decide +kernel
theorem dX12_text_164 : decode cX12_text 164 = .ok (.goto (-90), 3) := by decide +kernel
theorem dX12_text_167 : decode cX12_text 167 = .ok (.aload_n 0, 1) := by decide +kernel
theorem dX12_text_168 : decode cX12_text 168 = .ok (.aload_n 0, 1) := by decide +kernel
theorem dX12_text_169 : decode cX12_text 169 = .ok (.getfield 215, 3) := by decide +kernel
theorem dX12_text_172 : decode cX12_text 172 = .ok (.putfield 20, 3) := by decide +kernel
theorem dX12_text_175 : decode cX12_text 175 = .ok (.aload_n 0, 1) := by decide +kernel
theorem dX12_text_176 : decode cX12_text 176 = .ok (.aload_n 0, 1) := by decide +kernel
theorem dX12_text_177 : decode cX12_text 177 = .ok (.getfield 218, 3) := by decide +kernel
theorem dX12_text_180 : decode cX12_text 180 = .ok (.putfield 24, 3) := by decide +kernel
theorem dX12_text_183 : decode cX12_text 183 = .ok (.aload_n 0, 1) := by decide +kernel
theorem dX12_text_184 : decode cX12_text 184 = .ok (.getfield 215, 3) := by decide +kernel
theorem dX12_text_187 : decode cX12_text 187 = .ok (.ifCond .le 5, 3) := by decide +kernel
theorem dX12_text_190 : decode cX12_text 190 = .ok (.iconst (-1), 1) := by decide +kernel
theorem dX12_text_191 : decode cX12_text 191 = .ok (.ireturn, 1) := by decide +kernel
theorem dX12_text_192 : decode cX12_text 192 = .ok (.aload_n 0, 1) := by decide +kernel
theorem dX12_text_193 : decode cX12_text 193 = .ok (.getfield 7, 3) := by decide +kernel
theorem dX12_text_196 : decode cX12_text 196 = .ok (.iconst 1, 1) := by decide +kernel
theorem dX12_text_197 : decode cX12_text 197 = .ok (.iaload, 1) := by decide +kernel
theorem dX12_text_198 : decode cX12_text 198 = .ok (.istore_n 1, 1) := by decide +kernel
theorem dX12_text_199 : decode cX12_text 199 = .ok (.aload_n 0, 1) := by decide +kernel
theorem dX12_text_200 : decode cX12_text 200 = .ok (.getfield 27, 3) := by decide +kernel
theorem dX12_text_203 : decode cX12_text 203 = .ok (.iload_n 1, 1) := by decide +kernel
theorem dX12_text_204 : decode cX12_text 204 = .ok (.aload_n 0, 1) := by decide +kernel
theorem dX12_text_205 : decode cX12_text 205 = .ok (.getfield 299, 3) := by decide +kernel
theorem dX12_text_208 : decode cX12_text 208 = .ok (.iastore, 1) := by decide +kernel
theorem dX12_text_209 : decode cX12_text 209 = .ok (.iconst 0, 1) := by decide +kernel
theorem dX12_text_210 : decode cX12_text 210 = .ok (.istore_n 2, 1) := by decide +kernel
theorem dX12_text_211 : decode cX12_text 211 = .ok (.iload_n 2, 1) := by decide +kernel
theorem dX12_text_212 : decode cX12_text 212 = .ok (.aload_n 0, 1) := by decide +kernel
theorem dX12_text_213 : decode cX12_text 213 = .ok (.getfield 299, 3) := by decide +kernel
theorem dX12_text_216 : decode cX12_text 216 = .ok (.if_icmp .ge 100, 3) := by decide +kernel
theorem dX12_text_219 : decode cX12_text 219 = .ok (.aload_n 0, 1) := by decide +kernel
theorem dX12_text_220 : decode cX12_text 220 = .ok (.getfield 30, 3) := by decide +kernel
theorem dX12_text_223 : decode cX12_text 223 = .ok (.bipush 24, 2) := by decide +kernel
theorem dX12_text_225 : decode cX12_text 225 = .ok (.iload_n 1, 1) := by decide +kernel
theorem dX12_text_226 : decode cX12_text 226 = .ok (.imul, 1) := by decide +kernel
theorem dX12_text_227 : decode cX12_text 227 = .ok (.iload_n 2, 1) := by decide +kernel
theorem dX12_text_228 : decode cX12_text 228 = .ok (.iadd, 1) := by decide +kernel
theorem dX12_text_229 : decode cX12_text 229 = .ok (.aload_n 0, 1) := by decide +kernel
theorem dX12_text_230 : decode cX12_text 230 = .ok (.getfield 66, 3) := by decide +kernel
theorem dX12_text_233 : decode cX12_text 233 = .ok (.iload_n 2, 1) := by decide +kernel
theorem dX12_text_234 : decode cX12_text 234 = .ok (.iaload, 1) := by decide +kernel
theorem dX12_text_235 : decode cX12_text 235 = .ok (.iastore, 1) := by decide +kernel
theorem dX12_text_236 : decode cX12_text 236 = .ok (.aload_n 0, 1) := by decide +kernel
theorem dX12_text_237 : decode cX12_text 237 = .ok (.getfield 33, 3) := by decide +kernel
theorem dX12_text_240 : decode cX12_text 240 = .ok (.bipush 24, 2) := by decide +kernel
theorem dX12_text_242 : decode cX12_text 242 = .ok (.iload_n 1, 1) := by decide +kernel
theorem dX12_text_243 : decode cX12_text 243 = .ok (.imul, 1) := by decide +kernel
theorem dX12_text_244 : decode cX12_text 244 = .ok (.iload_n 2, 1) := by decide +kernel
theorem dX12_text_245 : decode cX12_text 245 = .ok (.iadd, 1) := by decide +kernel
theorem dX12_text_246 : decode cX12_text 246 = .ok (.sipush 400, 3) := by decide +kernel
theorem dX12_text_249 : decode cX12_text 249 = .ok (.iload_n 1, 1) := by decide +kernel
theorem dX12_text_250 : decode cX12_text 250 = .ok (.imul, 1) := by decide +kernel
theorem dX12_text_251 : decode cX12_text 251 = .ok (.aload_n 0, 1) := by decide +kernel
theorem dX12_text_252 : decode cX12_text 252 = .ok (.getfield 69, 3) := by decide +kernel
theorem dX12_text_255 : decode cX12_text 255 = .ok (.iload_n 2, 1) := by decide +kernel
theorem dX12_text_256 : decode cX12_text 256 = .ok (.iaload, 1) := by decide +kernel
theorem dX12_text_257 : decode cX12_text 257 = .ok (.iadd, 1) := by decide +kernel
theorem dX12_text_258 : decode cX12_text 258 = .ok (.iastore, 1) := by decide +kernel
theorem dX12_text_259 : decode cX12_text 259 = .ok (.aload_n 0, 1) := by decide +kernel
theorem dX12_text_260 : decode cX12_text 260 = .ok (.getfield 36, 3) := by decide +kernel
theorem dX12_text_263 : decode cX12_text 263 = .ok (.bipush 24, 2) := by decide +kernel
theorem dX12_text_265 : decode cX12_text 265 = .ok (.iload_n 1, 1) := by decide +kernel
theorem dX12_text_266 : decode cX12_text 266 = .ok (.imul, 1) := by decide +kernel
theorem dX12_text_267 : decode cX12_text 267 = .ok (.iload_n 2, 1) := by decide +kernel
theorem dX12_text_268 : decode cX12_text 268 = .ok (.iadd, 1) := by decide +kernel
theorem dX12_text_269 : decode cX12_text 269 = .ok (.aload_n 0, 1) := by decide +kernel
theorem dX12_text_270 : decode cX12_text 270 = .ok (.getfield 72, 3) := by decide +kernel
theorem dX12_text_273 : decode cX12_text 273 = .ok (.iload_n 2, 1) := by decide +kernel
theorem dX12_text_274 : decode cX12_text 274 = .ok (.iaload, 1) := by decide +kernel
theorem dX12_text_275 : decode cX12_text 275 = .ok (.iastore, 1) := by decide +kernel
theorem dX12_text_276 : decode cX12_text 276 = .ok (.aload_n 0, 1) := by decide +kernel
theorem dX12_text_277 : decode cX12_text 277 = .ok (.getfield 39, 3) := by decide +kernel
theorem dX12_text_280 : decode cX12_text 280 = .ok (.bipush 24, 2) := by decide +kernel
theorem dX12_text_282 : decode cX12_text 282 = .ok (.iload_n 1, 1) := by decide +kernel
theorem dX12_text_283 : decode cX12_text 283 = .ok (.imul, 1) := by decide +kernel
theorem dX12_text_284 : decode cX12_text 284 = .ok (.iload_n 2, 1) := by decide +kernel
theorem dX12_text_285 : decode cX12_text 285 = .ok (.iadd, 1) := by decide +kernel
theorem dX12_text_286 : decode cX12_text 286 = .ok (.aload_n 0, 1) := by decide +kernel
theorem dX12_text_287 : decode cX12_text 287 = .ok (.getfield 75, 3) := by decide +kernel
theorem dX12_text_290 : decode cX12_text 290 = .ok (.iload_n 2, 1) := by decide +kernel
theorem dX12_text_291 : decode cX12_text 291 = .ok (.iaload, 1) := by decide +kernel
theorem dX12_text_292 : decode cX12_text 292 = .ok (.iastore, 1) := by decide +kernel
theorem dX12_text_293 : decode cX12_text 293 = .ok (.aload_n 0, 1) := by decide +kernel
theorem dX12_text_294 : decode cX12_text 294 = .ok (.getfield 42, 3) := by decide +kernel
theorem dX12_text_297 : decode cX12_text 297 = .ok (.bipush 24, 2) := by decide +kernel
theorem dX12_text_299 : decode cX12_text 299 = .ok (.iload_n 1, 1) := by decide +kernel
theorem dX12_text_300 : decode cX12_text 300 = .ok (.imul, 1) := by decide +kernel
theorem dX12_text_301 : decode cX12_text 301 = .ok (.iload_n 2, 1) := by decide +kernel
theorem dX12_text_302 : decode cX12_text 302 = .ok (.iadd, 1) := by decide +kernel
theorem dX12_text_303 : decode cX12_text 303 = .ok (.aload_n 0, 1) := by decide +kernel
theorem dX12_text_304 : decode cX12_text 304 = .ok (.getfield 78, 3) := by decide +kernel
theorem dX12_text_307 : decode cX12_text 307 = .ok (.iload_n 2, 1) := by decide +kernel
theorem dX12_text_308 : decode cX12_text 308 = .ok (.iaload, 1) := by decide +kernel
theorem dX12_text_309 : decode cX12_text 309 = .ok (.iastore, 1) := by decide +kernel
theorem dX12_text_310 : decode cX12_text 310 = .ok (.iinc 2 1, 3) := by decide +kernel
theorem dX12_text_313 : decode cX12_text 313 = .ok (.goto (-102), 3) := by decide +kernel
theorem dX12_text_316 : decode cX12_text 316 = .ok (.iconst 0, 1) := by decide +kernel
theorem dX12_text_317 : decode cX12_text 317 = .ok (.istore_n 2, 1) := by decide +kernel
theorem dX12_text_318 : decode cX12_text 318 = .ok (.iload_n 2, 1) := by decide +kernel
theorem dX12_text_319 : decode cX12_text 319 = .ok (.aload_n 0, 1) := by decide +kernel
theorem dX12_text_320 : decode cX12_text 320 = .ok (.getfield 221, 3) := by decide +kernel
theorem dX12_text_323 : decode cX12_text 323 = .ok (.if_icmp .ge 71, 3) := by decide +kernel
theorem dX12_text_326 : decode cX12_text 326 = .ok (.aload_n 0, 1) := by decide +kernel
theorem dX12_text_327 : decode cX12_text 327 = .ok (.getfield 81, 3) := by decide +kernel
theorem dX12_text_330 : decode cX12_text 330 = .ok (.iload_n 2, 1) := by decide +kernel
theorem dX12_text_331 : decode cX12_text 331 = .ok (.iaload, 1) := by decide +kernel
theorem dX12_text_332 : decode cX12_text 332 = .ok (.istore_n 3, 1) := by decide +kernel
theorem dX12_text_333 : decode cX12_text 333 = .ok (.aload_n 0, 1) := by decide +kernel
theorem dX12_text_334 : decode cX12_text 334 = .ok (.getfield 45, 3) := by decide +kernel
theorem dX12_text_337 : decode cX12_text 337 = .ok (.sipush 400, 3) := by decide +kernel
theorem dX12_text_340 : decode cX12_text 340 = .ok (.iload_n 1, 1) := by decide +kernel
theorem dX12_text_341 : decode cX12_text 341 = .ok (.imul, 1) := by decide +kernel
theorem dX12_text_342 : decode cX12_text 342 = .ok (.iload_n 2, 1) := by decide +kernel
theorem dX12_text_343 : decode cX12_text 343 = .ok (.iadd, 1) := by decide +kernel
theorem dX12_text_344 : decode cX12_text 344 = .ok (.iload_n 3, 1) := by decide +kernel
theorem dX12_text_345 : decode cX12_text 345 = .ok (.iastore, 1) := by decide +kernel
theorem dX12_text_346 : decode cX12_text 346 = .ok (.aload_n 0, 1) := by decide +kernel
theorem dX12_text_347 : decode cX12_text 347 = .ok (.getfield 48, 3) := by decide +kernel
theorem dX12_text_350 : decode cX12_text 350 = .ok (.sipush 400, 3) := by decide +kernel
theorem dX12_text_353 : decode cX12_text 353 = .ok (.iload_n 1, 1) := by decide +kernel
theorem dX12_text_354 : decode cX12_text 354 = .ok (.imul, 1) := by decide +kernel
theorem dX12_text_355 : decode cX12_text 355 = .ok (.iload_n 2, 1) := by decide +kernel
theorem dX12_text_356 : decode cX12_text 356 = .ok (.iadd, 1) := by decide +kernel
theorem dX12_text_357 : decode cX12_text 357 = .ok (.aload_n 0, 1) := by decide +kernel
theorem dX12_text_358 : decode cX12_text 358 = .ok (.getfield 84, 3) := by decide +kernel
theorem dX12_text_361 : decode cX12_text 361 = .ok (.iload_n 2, 1) := by decide +kernel
theorem dX12_text_362 : decode cX12_text 362 = .ok (.iaload, 1) := by decide +kernel
theorem dX12_text_363 : decode cX12_text 363 = .ok (.iload_n 3, 1) := by decide +kernel
theorem dX12_text_364 : decode cX12_text 364 = .ok (.sipush 404, 3) := by decide +kernel
theorem dX12_text_367 : decode cX12_text 367 = .ok (.if_icmp .eq 10, 3) := by decide +kernel
theorem dX12_text_370 : decode cX12_text 370 = .ok (.iload_n 3, 1) := by decide +kernel
theorem dX12_text_371 : decode cX12_text 371 = .ok (.sipush 409, 3) := by decide +kernel
theorem dX12_text_374 : decode cX12_text 374 = .ok (.if_icmp .ne 11, 3) := by decide +kernel
theorem dX12_text_377 : decode cX12_text 377 = .ok (.sipush 400, 3) := by decide +kernel
theorem dX12_text_380 : decode cX12_text 380 = .ok (.iload_n 1, 1) := by decide +kernel
theorem dX12_text_381 : decode cX12_text 381 = .ok (.imul, 1) := by decide +kernel
theorem dX12_text_382 : decode cX12_text 382 = .ok (.goto 4, 3) := by decide +kernel
theorem dX12_text_385 : decode cX12_text 385 = .ok (.iconst 0, 1) := by decide +kernel
theorem dX12_text_386 : decode cX12_text 386 = .ok (.iadd, 1) := by decide +kernel
theorem dX12_text_387 : decode cX12_text 387 = .ok (.iastore, 1) := by decide +kernel
theorem dX12_text_388 : decode cX12_text 388 = .ok (.iinc 2 1, 3) := by decide +kernel
theorem dX12_text_391 : decode cX12_text 391 = .ok (.goto (-73), 3) := by decide +kernel
theorem dX12_text_394 : decode cX12_text 394 = .ok (.aload_n 0, 1) := by decide +kernel
theorem dX12_text_395 : decode cX12_text 395 = .ok (.getfield 7, 3) := by decide +kernel
theorem dX12_text_398 : decode cX12_text 398 = .ok (.iconst 1, 1) := by decide +kernel
theorem dX12_text_399 : decode cX12_text 399 = .ok (.dup2, 1) := by decide +kernel
theorem dX12_text_400 : decode cX12_text 400 = .ok (.iaload, 1) := by decide +kernel
theorem dX12_text_401 : decode cX12_text 401 = .ok (.iconst 1, 1) := by decide +kernel
theorem dX12_text_402 : decode cX12_text 402 = .ok (.iadd, 1) := by decide +kernel
theorem dX12_text_403 : decode cX12_text 403 = .ok (.iastore, 1) := by decide +kernel
theorem dX12_text_404 : decode cX12_text 404 = .ok (.iload_n 1, 1) := by decide +kernel
theorem dX12_text_405 : decode cX12_text 405 = .ok (.ireturn, 1) := by decide +kernel
theorem dX12_fault_0 : decode cX12_fault 0 = .ok (.iload_n 1, 1) := by decide +kernel
theorem dX12_fault_1 : decode cX12_fault 1 = .ok (.ifCond .ne 10, 3) := by decide +kernel
theorem dX12_fault_4 : decode cX12_fault 4 = .ok (.aload_n 0, 1) := by decide +kernel
theorem dX12_fault_5 : decode cX12_fault 5 = .ok (.getfield 20, 3) := by decide +kernel
theorem dX12_fault_8 : decode cX12_fault 8 = .ok (.goto 16, 3) := by decide +kernel
theorem dX12_fault_11 : decode cX12_fault 11 = .ok (.iload_n 1, 1) := by decide +kernel
theorem dX12_fault_12 : decode cX12_fault 12 = .ok (.iconst 1, 1) := by decide +kernel
theorem dX12_fault_13 : decode cX12_fault 13 = .ok (.if_icmp .ne 10, 3) := by decide +kernel
theorem dX12_fault_16 : decode cX12_fault 16 = .ok (.aload_n 0, 1) := by decide +kernel
theorem dX12_fault_17 : decode cX12_fault 17 = .ok (.getfield 24, 3) := by decide +kernel
theorem dX12_fault_20 : decode cX12_fault 20 = .ok (.goto 4, 3) := by decide +kernel
theorem dX12_fault_23 : decode cX12_fault 23 = .ok (.iconst (-1), 1) := by decide +kernel
theorem dX12_fault_24 : decode cX12_fault 24 = .ok (.ireturn, 1) := by decide +kernel
theorem dX12_laysNow_0 : decode cX12_laysNow 0 = .ok (.iconst 0, 1) := by decide +kernel
theorem dX12_laysNow_1 : decode cX12_laysNow 1 = .ok (.istore_n 1, 1) := by decide +kernel
theorem dX12_laysNow_2 : decode cX12_laysNow 2 = .ok (.iload_n 1, 1) := by decide +kernel
theorem dX12_laysNow_3 : decode cX12_laysNow 3 = .ok (.sipush 164, 3) := by decide +kernel
theorem dX12_laysNow_6 : decode cX12_laysNow 6 = .ok (.if_icmp .ge 24, 3) := by decide +kernel
theorem dX12_laysNow_9 : decode cX12_laysNow 9 = .ok (.aload_n 0, 1) := by decide +kernel
theorem dX12_laysNow_10 : decode cX12_laysNow 10 = .ok (.getfield 87, 3) := by decide +kernel
theorem dX12_laysNow_13 : decode cX12_laysNow 13 = .ok (.iload_n 1, 1) := by decide +kernel
theorem dX12_laysNow_14 : decode cX12_laysNow 14 = .ok (.aload_n 0, 1) := by decide +kernel
theorem dX12_laysNow_15 : decode cX12_laysNow 15 = .ok (.getfield 7, 3) := by decide +kernel
theorem dX12_laysNow_18 : decode cX12_laysNow 18 = .ok (.bipush 40, 2) := by decide +kernel
theorem dX12_laysNow_20 : decode cX12_laysNow 20 = .ok (.iload_n 1, 1) := by decide +kernel
theorem dX12_laysNow_21 : decode cX12_laysNow 21 = .ok (.iadd, 1) := by decide +kernel
theorem dX12_laysNow_22 : decode cX12_laysNow 22 = .ok (.iaload, 1) := by decide +kernel
theorem dX12_laysNow_23 : decode cX12_laysNow 23 = .ok (.iastore, 1) := by decide +kernel
theorem dX12_laysNow_24 : decode cX12_laysNow 24 = .ok (.iinc 1 1, 3) := by decide +kernel
theorem dX12_laysNow_27 : decode cX12_laysNow 27 = .ok (.goto (-25), 3) := by decide +kernel
theorem dX12_laysNow_30 : decode cX12_laysNow 30 = .ok (.return_, 1) := by decide +kernel
theorem dX12_keepsNow_0 : decode cX12_keepsNow 0 = .ok (.iconst 0, 1) := by decide +kernel
theorem dX12_keepsNow_1 : decode cX12_keepsNow 1 = .ok (.istore_n 1, 1) := by decide +kernel
theorem dX12_keepsNow_2 : decode cX12_keepsNow 2 = .ok (.iload_n 1, 1) := by decide +kernel
theorem dX12_keepsNow_3 : decode cX12_keepsNow 3 = .ok (.sipush 164, 3) := by decide +kernel
theorem dX12_keepsNow_6 : decode cX12_keepsNow 6 = .ok (.if_icmp .ge 24, 3) := by decide +kernel
theorem dX12_keepsNow_9 : decode cX12_keepsNow 9 = .ok (.aload_n 0, 1) := by decide +kernel
theorem dX12_keepsNow_10 : decode cX12_keepsNow 10 = .ok (.getfield 7, 3) := by decide +kernel
theorem dX12_keepsNow_13 : decode cX12_keepsNow 13 = .ok (.bipush 40, 2) := by decide +kernel
theorem dX12_keepsNow_15 : decode cX12_keepsNow 15 = .ok (.iload_n 1, 1) := by decide +kernel
theorem dX12_keepsNow_16 : decode cX12_keepsNow 16 = .ok (.iadd, 1) := by decide +kernel
theorem dX12_keepsNow_17 : decode cX12_keepsNow 17 = .ok (.aload_n 0, 1) := by decide +kernel
theorem dX12_keepsNow_18 : decode cX12_keepsNow 18 = .ok (.getfield 87, 3) := by decide +kernel
theorem dX12_keepsNow_21 : decode cX12_keepsNow 21 = .ok (.iload_n 1, 1) := by decide +kernel
theorem dX12_keepsNow_22 : decode cX12_keepsNow 22 = .ok (.iaload, 1) := by decide +kernel
theorem dX12_keepsNow_23 : decode cX12_keepsNow 23 = .ok (.iastore, 1) := by decide +kernel
theorem dX12_keepsNow_24 : decode cX12_keepsNow 24 = .ok (.iinc 1 1, 3) := by decide +kernel
theorem dX12_keepsNow_27 : decode cX12_keepsNow 27 = .ok (.goto (-25), 3) := by decide +kernel
theorem dX12_keepsNow_30 : decode cX12_keepsNow 30 = .ok (.return_, 1) := by decide +kernel
theorem dX12_debtAt_0 : decode cX12_debtAt 0 = .ok (.bipush 21, 2) := by decide +kernel
theorem dX12_debtAt_2 : decode cX12_debtAt 2 = .ok (.bipush 7, 2) := by decide +kernel
theorem dX12_debtAt_4 : decode cX12_debtAt 4 = .ok (.iload_n 0, 1) := by decide +kernel
theorem dX12_debtAt_5 : decode cX12_debtAt 5 = .ok (.imul, 1) := by decide +kernel
theorem dX12_debtAt_6 : decode cX12_debtAt 6 = .ok (.iadd, 1) := by decide +kernel
theorem dX12_debtAt_7 : decode cX12_debtAt 7 = .ok (.iload_n 1, 1) := by decide +kernel
theorem dX12_debtAt_8 : decode cX12_debtAt 8 = .ok (.iadd, 1) := by decide +kernel
theorem dX12_debtAt_9 : decode cX12_debtAt 9 = .ok (.ireturn, 1) := by decide +kernel
theorem dX12_bound_0 : decode cX12_bound 0 = .ok (.lload_n 0, 1) := by decide +kernel
theorem dX12_bound_1 : decode cX12_bound 1 = .ok (.ldc2_w 331, 3) := by decide +kernel
theorem dX12_bound_4 : decode cX12_bound 4 = .ok (.lcmp, 1) := by decide +kernel
theorem dX12_bound_5 : decode cX12_bound 5 = .ok (.ifCond .le 9, 3) := by decide +kernel
theorem dX12_bound_8 : decode cX12_bound 8 = .ok (.ldc2_w 331, 3) := by decide +kernel
theorem dX12_bound_11 : decode cX12_bound 11 = .ok (.goto 18, 3) := by decide +kernel
theorem dX12_bound_14 : decode cX12_bound 14 = .ok (.lload_n 0, 1) := by decide +kernel
theorem dX12_bound_15 : decode cX12_bound 15 = .ok (.ldc2_w 333, 3) := by decide +kernel
theorem dX12_bound_18 : decode cX12_bound 18 = .ok (.lcmp, 1) := by decide +kernel
theorem dX12_bound_19 : decode cX12_bound 19 = .ok (.ifCond .ge 9, 3) := by decide +kernel
theorem dX12_bound_22 : decode cX12_bound 22 = .ok (.ldc2_w 333, 3) := by decide +kernel
theorem dX12_bound_25 : decode cX12_bound 25 = .ok (.goto 4, 3) := by decide +kernel
theorem dX12_bound_28 : decode cX12_bound 28 = .ok (.lload_n 0, 1) := by decide +kernel
theorem dX12_bound_29 : decode cX12_bound 29 = .ok (.lreturn, 1) := by decide +kernel
theorem dX12_owedBy_0 : decode cX12_owedBy 0 = .ok (.aload_n 0, 1) := by decide +kernel
theorem dX12_owedBy_1 : decode cX12_owedBy 1 = .ok (.getfield 7, 3) := by decide +kernel
theorem dX12_owedBy_4 : decode cX12_owedBy 4 = .ok (.iconst 0, 1) := by decide +kernel
theorem dX12_owedBy_5 : decode cX12_owedBy 5 = .ok (.iaload, 1) := by decide +kernel
theorem dX12_owedBy_6 : decode cX12_owedBy 6 = .ok (.istore 5, 2) := by decide +kernel
theorem dX12_owedBy_8 : decode cX12_owedBy 8 = .ok (.lload_n 1, 1) := by decide +kernel
theorem dX12_owedBy_9 : decode cX12_owedBy 9 = .ok (.lconst 0, 1) := by decide +kernel
theorem dX12_owedBy_10 : decode cX12_owedBy 10 = .ok (.lcmp, 1) := by decide +kernel
theorem dX12_owedBy_11 : decode cX12_owedBy 11 = .ok (.ifCond .lt 31, 3) := by decide +kernel
theorem dX12_owedBy_14 : decode cX12_owedBy 14 = .ok (.lload_n 3, 1) := by decide +kernel
theorem dX12_owedBy_15 : decode cX12_owedBy 15 = .ok (.lconst 0, 1) := by decide +kernel
theorem dX12_owedBy_16 : decode cX12_owedBy 16 = .ok (.lcmp, 1) := by decide +kernel
theorem dX12_owedBy_17 : decode cX12_owedBy 17 = .ok (.ifCond .lt 25, 3) := by decide +kernel
theorem dX12_owedBy_20 : decode cX12_owedBy 20 = .ok (.lload_n 1, 1) := by decide +kernel
theorem dX12_owedBy_21 : decode cX12_owedBy 21 = .ok (.iload 5, 2) := by decide +kernel
theorem dX12_owedBy_23 : decode cX12_owedBy 23 = .ok (.i2l, 1) := by decide +kernel
theorem dX12_owedBy_24 : decode cX12_owedBy 24 = .ok (.lcmp, 1) := by decide +kernel
theorem dX12_owedBy_25 : decode cX12_owedBy 25 = .ok (.ifCond .ge 17, 3) := by decide +kernel
theorem dX12_owedBy_28 : decode cX12_owedBy 28 = .ok (.lload_n 3, 1) := by decide +kernel
theorem dX12_owedBy_29 : decode cX12_owedBy 29 = .ok (.iload 5, 2) := by decide +kernel
theorem dX12_owedBy_31 : decode cX12_owedBy 31 = .ok (.i2l, 1) := by decide +kernel
theorem dX12_owedBy_32 : decode cX12_owedBy 32 = .ok (.lcmp, 1) := by decide +kernel
theorem dX12_owedBy_33 : decode cX12_owedBy 33 = .ok (.ifCond .ge 9, 3) := by decide +kernel
theorem dX12_owedBy_36 : decode cX12_owedBy 36 = .ok (.lload_n 1, 1) := by decide +kernel
theorem dX12_owedBy_37 : decode cX12_owedBy 37 = .ok (.lload_n 3, 1) := by decide +kernel
theorem dX12_owedBy_38 : decode cX12_owedBy 38 = .ok (.lcmp, 1) := by decide +kernel
theorem dX12_owedBy_39 : decode cX12_owedBy 39 = .ok (.ifCond .ne 7, 3) := by decide +kernel
theorem dX12_owedBy_42 : decode cX12_owedBy 42 = .ok (.lconst 0, 1) := by decide +kernel
theorem dX12_owedBy_43 : decode cX12_owedBy 43 = .ok (.goto 16, 3) := by decide +kernel
theorem dX12_owedBy_46 : decode cX12_owedBy 46 = .ok (.aload_n 0, 1) := by decide +kernel
theorem dX12_owedBy_47 : decode cX12_owedBy 47 = .ok (.getfield 87, 3) := by decide +kernel
theorem dX12_owedBy_50 : decode cX12_owedBy 50 = .ok (.lload_n 1, 1) := by decide +kernel
theorem dX12_owedBy_51 : decode cX12_owedBy 51 = .ok (.l2i, 1) := by decide +kernel
theorem dX12_owedBy_52 : decode cX12_owedBy 52 = .ok (.lload_n 3, 1) := by decide +kernel
theorem dX12_owedBy_53 : decode cX12_owedBy 53 = .ok (.l2i, 1) := by decide +kernel
theorem dX12_owedBy_54 : decode cX12_owedBy 54 = .ok (.invokestatic 335, 3) := by decide +kernel
theorem dX12_owedBy_57 : decode cX12_owedBy 57 = .ok (.iaload, 1) := by decide +kernel
theorem dX12_owedBy_58 : decode cX12_owedBy 58 = .ok (.i2l, 1) := by decide +kernel
theorem dX12_owedBy_59 : decode cX12_owedBy 59 = .ok (.lreturn, 1) := by decide +kernel
theorem dX12_worked_0 : decode cX12_worked 0 = .ok (.iload_n 1, 1) := by decide +kernel
theorem dX12_worked_1 : decode cX12_worked 1 = .ok (.lookupswitch 238 #[(35, 186), (42, 123), (43, 107), (45, 115), (47, 131), (60, 147), (61, 173), (62, 160), (300, 199), (301, 212), (403, 225), (406, 233)], 107) := by decide +kernel
theorem dX12_worked_108 : decode cX12_worked 108 = .ok (.lload_n 2, 1) := by decide +kernel
theorem dX12_worked_109 : decode cX12_worked 109 = .ok (.lload 4, 2) := by decide +kernel
theorem dX12_worked_111 : decode cX12_worked 111 = .ok (.ladd, 1) := by decide +kernel
theorem dX12_worked_112 : decode cX12_worked 112 = .ok (.invokestatic 338, 3) := by decide +kernel
theorem dX12_worked_115 : decode cX12_worked 115 = .ok (.lreturn, 1) := by decide +kernel
theorem dX12_worked_116 : decode cX12_worked 116 = .ok (.lload_n 2, 1) := by decide +kernel
theorem dX12_worked_117 : decode cX12_worked 117 = .ok (.lload 4, 2) := by decide +kernel
theorem dX12_worked_119 : decode cX12_worked 119 = .ok (.lsub, 1) := by decide +kernel
theorem dX12_worked_120 : decode cX12_worked 120 = .ok (.invokestatic 338, 3) := by decide +kernel
theorem dX12_worked_123 : decode cX12_worked 123 = .ok (.lreturn, 1) := by decide +kernel
theorem dX12_worked_124 : decode cX12_worked 124 = .ok (.lload_n 2, 1) := by decide +kernel
theorem dX12_worked_125 : decode cX12_worked 125 = .ok (.lload 4, 2) := by decide +kernel
theorem dX12_worked_127 : decode cX12_worked 127 = .ok (.lmul, 1) := by decide +kernel
theorem dX12_worked_128 : decode cX12_worked 128 = .ok (.invokestatic 338, 3) := by decide +kernel
theorem dX12_worked_131 : decode cX12_worked 131 = .ok (.lreturn, 1) := by decide +kernel
theorem dX12_worked_132 : decode cX12_worked 132 = .ok (.lload 4, 2) := by decide +kernel
theorem dX12_worked_134 : decode cX12_worked 134 = .ok (.lconst 0, 1) := by decide +kernel
theorem dX12_worked_135 : decode cX12_worked 135 = .ok (.lcmp, 1) := by decide +kernel
theorem dX12_worked_136 : decode cX12_worked 136 = .ok (.ifCond .ne 7, 3) := by decide +kernel
theorem dX12_worked_139 : decode cX12_worked 139 = .ok (.lconst 0, 1) := by decide +kernel
theorem dX12_worked_140 : decode cX12_worked 140 = .ok (.goto 7, 3) := by decide +kernel
theorem dX12_worked_143 : decode cX12_worked 143 = .ok (.lload_n 2, 1) := by decide +kernel
theorem dX12_worked_144 : decode cX12_worked 144 = .ok (.lload 4, 2) := by decide +kernel
theorem dX12_worked_146 : decode cX12_worked 146 = .ok (.ldiv, 1) := by decide +kernel
theorem dX12_worked_147 : decode cX12_worked 147 = .ok (.lreturn, 1) := by decide +kernel
theorem dX12_worked_148 : decode cX12_worked 148 = .ok (.lload_n 2, 1) := by decide +kernel
theorem dX12_worked_149 : decode cX12_worked 149 = .ok (.lload 4, 2) := by decide +kernel
theorem dX12_worked_151 : decode cX12_worked 151 = .ok (.lcmp, 1) := by decide +kernel
theorem dX12_worked_152 : decode cX12_worked 152 = .ok (.ifCond .ge 7, 3) := by decide +kernel
theorem dX12_worked_155 : decode cX12_worked 155 = .ok (.lconst 1, 1) := by decide +kernel
theorem dX12_worked_156 : decode cX12_worked 156 = .ok (.goto 4, 3) := by decide +kernel
theorem dX12_worked_159 : decode cX12_worked 159 = .ok (.lconst 0, 1) := by decide +kernel
theorem dX12_worked_160 : decode cX12_worked 160 = .ok (.lreturn, 1) := by decide +kernel
theorem dX12_worked_161 : decode cX12_worked 161 = .ok (.lload_n 2, 1) := by decide +kernel
theorem dX12_worked_162 : decode cX12_worked 162 = .ok (.lload 4, 2) := by decide +kernel
theorem dX12_worked_164 : decode cX12_worked 164 = .ok (.lcmp, 1) := by decide +kernel
theorem dX12_worked_165 : decode cX12_worked 165 = .ok (.ifCond .le 7, 3) := by decide +kernel
theorem dX12_worked_168 : decode cX12_worked 168 = .ok (.lconst 1, 1) := by decide +kernel
theorem dX12_worked_169 : decode cX12_worked 169 = .ok (.goto 4, 3) := by decide +kernel
theorem dX12_worked_172 : decode cX12_worked 172 = .ok (.lconst 0, 1) := by decide +kernel
theorem dX12_worked_173 : decode cX12_worked 173 = .ok (.lreturn, 1) := by decide +kernel
theorem dX12_worked_174 : decode cX12_worked 174 = .ok (.lload_n 2, 1) := by decide +kernel
theorem dX12_worked_175 : decode cX12_worked 175 = .ok (.lload 4, 2) := by decide +kernel
theorem dX12_worked_177 : decode cX12_worked 177 = .ok (.lcmp, 1) := by decide +kernel
theorem dX12_worked_178 : decode cX12_worked 178 = .ok (.ifCond .ne 7, 3) := by decide +kernel
theorem dX12_worked_181 : decode cX12_worked 181 = .ok (.lconst 1, 1) := by decide +kernel
theorem dX12_worked_182 : decode cX12_worked 182 = .ok (.goto 4, 3) := by decide +kernel
theorem dX12_worked_185 : decode cX12_worked 185 = .ok (.lconst 0, 1) := by decide +kernel
theorem dX12_worked_186 : decode cX12_worked 186 = .ok (.lreturn, 1) := by decide +kernel
theorem dX12_worked_187 : decode cX12_worked 187 = .ok (.lload_n 2, 1) := by decide +kernel
theorem dX12_worked_188 : decode cX12_worked 188 = .ok (.lload 4, 2) := by decide +kernel
theorem dX12_worked_190 : decode cX12_worked 190 = .ok (.lcmp, 1) := by decide +kernel
theorem dX12_worked_191 : decode cX12_worked 191 = .ok (.ifCond .eq 7, 3) := by decide +kernel
theorem dX12_worked_194 : decode cX12_worked 194 = .ok (.lconst 1, 1) := by decide +kernel
theorem dX12_worked_195 : decode cX12_worked 195 = .ok (.goto 4, 3) := by decide +kernel
theorem dX12_worked_198 : decode cX12_worked 198 = .ok (.lconst 0, 1) := by decide +kernel
theorem dX12_worked_199 : decode cX12_worked 199 = .ok (.lreturn, 1) := by decide +kernel
theorem dX12_worked_200 : decode cX12_worked 200 = .ok (.lload_n 2, 1) := by decide +kernel
theorem dX12_worked_201 : decode cX12_worked 201 = .ok (.lload 4, 2) := by decide +kernel
theorem dX12_worked_203 : decode cX12_worked 203 = .ok (.lcmp, 1) := by decide +kernel
theorem dX12_worked_204 : decode cX12_worked 204 = .ok (.ifCond .gt 7, 3) := by decide +kernel
theorem dX12_worked_207 : decode cX12_worked 207 = .ok (.lconst 1, 1) := by decide +kernel
theorem dX12_worked_208 : decode cX12_worked 208 = .ok (.goto 4, 3) := by decide +kernel
theorem dX12_worked_211 : decode cX12_worked 211 = .ok (.lconst 0, 1) := by decide +kernel
theorem dX12_worked_212 : decode cX12_worked 212 = .ok (.lreturn, 1) := by decide +kernel
theorem dX12_worked_213 : decode cX12_worked 213 = .ok (.lload_n 2, 1) := by decide +kernel
theorem dX12_worked_214 : decode cX12_worked 214 = .ok (.lload 4, 2) := by decide +kernel
theorem dX12_worked_216 : decode cX12_worked 216 = .ok (.lcmp, 1) := by decide +kernel
theorem dX12_worked_217 : decode cX12_worked 217 = .ok (.ifCond .lt 7, 3) := by decide +kernel
theorem dX12_worked_220 : decode cX12_worked 220 = .ok (.lconst 1, 1) := by decide +kernel
theorem dX12_worked_221 : decode cX12_worked 221 = .ok (.goto 4, 3) := by decide +kernel
theorem dX12_worked_224 : decode cX12_worked 224 = .ok (.lconst 0, 1) := by decide +kernel
theorem dX12_worked_225 : decode cX12_worked 225 = .ok (.lreturn, 1) := by decide +kernel
theorem dX12_worked_226 : decode cX12_worked 226 = .ok (.aload_n 0, 1) := by decide +kernel
theorem dX12_worked_227 : decode cX12_worked 227 = .ok (.lload_n 2, 1) := by decide +kernel
theorem dX12_worked_228 : decode cX12_worked 228 = .ok (.lload 4, 2) := by decide +kernel
theorem dX12_worked_230 : decode cX12_worked 230 = .ok (.invokevirtual 342, 3) := by decide +kernel
theorem dX12_worked_233 : decode cX12_worked 233 = .ok (.lreturn, 1) := by decide +kernel
theorem dX12_worked_234 : decode cX12_worked 234 = .ok (.lload_n 2, 1) := by decide +kernel
theorem dX12_worked_235 : decode cX12_worked 235 = .ok (.lload 4, 2) := by decide +kernel
theorem dX12_worked_237 : decode cX12_worked 237 = .ok (.lmul, 1) := by decide +kernel
theorem dX12_worked_238 : decode cX12_worked 238 = .ok (.lreturn, 1) := by decide +kernel
theorem dX12_worked_239 : decode cX12_worked 239 = .ok (.lload_n 2, 1) := by decide +kernel
theorem dX12_worked_240 : decode cX12_worked 240 = .ok (.lload 4, 2) := by decide +kernel
theorem dX12_worked_242 : decode cX12_worked 242 = .ok (.ladd, 1) := by decide +kernel
theorem dX12_worked_243 : decode cX12_worked 243 = .ok (.lconst 0, 1) := by decide +kernel
theorem dX12_worked_244 : decode cX12_worked 244 = .ok (.lcmp, 1) := by decide +kernel
theorem dX12_worked_245 : decode cX12_worked 245 = .ok (.ifCond .le 7, 3) := by decide +kernel
theorem dX12_worked_248 : decode cX12_worked 248 = .ok (.lconst 1, 1) := by decide +kernel
theorem dX12_worked_249 : decode cX12_worked 249 = .ok (.goto 4, 3) := by decide +kernel
theorem dX12_worked_252 : decode cX12_worked 252 = .ok (.lconst 0, 1) := by decide +kernel
theorem dX12_worked_253 : decode cX12_worked 253 = .ok (.lreturn, 1) := by decide +kernel
theorem dX12_saysOf_0 : decode cX12_saysOf 0 = .ok (.iconst 0, 1) := by decide +kernel
theorem dX12_saysOf_1 : decode cX12_saysOf 1 = .ok (.istore_n 2, 1) := by decide +kernel
theorem dX12_saysOf_2 : decode cX12_saysOf 2 = .ok (.iload_n 1, 1) := by decide +kernel
theorem dX12_saysOf_3 : decode cX12_saysOf 3 = .ok (.istore_n 3, 1) := by decide +kernel
theorem dX12_saysOf_4 : decode cX12_saysOf 4 = .ok (.aload_n 0, 1) := by decide +kernel
theorem dX12_saysOf_5 : decode cX12_saysOf 5 = .ok (.getfield 45, 3) := by decide +kernel
theorem dX12_saysOf_8 : decode cX12_saysOf 8 = .ok (.iload_n 3, 1) := by decide +kernel
theorem dX12_saysOf_9 : decode cX12_saysOf 9 = .ok (.iaload, 1) := by decide +kernel
theorem dX12_saysOf_10 : decode cX12_saysOf 10 = .ok (.sipush 408, 3) := by decide +kernel
theorem dX12_saysOf_13 : decode cX12_saysOf 13 = .ok (.if_icmp .eq 221, 3) := by decide +kernel
theorem dX12_saysOf_16 : decode cX12_saysOf 16 = .ok (.aload_n 0, 1) := by decide +kernel
theorem dX12_saysOf_17 : decode cX12_saysOf 17 = .ok (.getfield 45, 3) := by decide +kernel
theorem dX12_saysOf_20 : decode cX12_saysOf 20 = .ok (.iload_n 3, 1) := by decide +kernel
theorem dX12_saysOf_21 : decode cX12_saysOf 21 = .ok (.iaload, 1) := by decide +kernel
theorem dX12_saysOf_22 : decode cX12_saysOf 22 = .ok (.istore 4, 2) := by decide +kernel
theorem dX12_saysOf_24 : decode cX12_saysOf 24 = .ok (.iload 4, 2) := by decide +kernel
theorem dX12_saysOf_26 : decode cX12_saysOf 26 = .ok (.sipush 400, 3) := by decide +kernel
theorem dX12_saysOf_29 : decode cX12_saysOf 29 = .ok (.if_icmp .eq 11, 3) := by decide +kernel
theorem dX12_saysOf_32 : decode cX12_saysOf 32 = .ok (.iload 4, 2) := by decide +kernel
theorem dX12_saysOf_34 : decode cX12_saysOf 34 = .ok (.sipush 401, 3) := by decide +kernel
theorem dX12_saysOf_37 : decode cX12_saysOf 37 = .ok (.if_icmp .ne 45, 3) := by decide +kernel
theorem dX12_saysOf_40 : decode cX12_saysOf 40 = .ok (.aload_n 0, 1) := by decide +kernel
theorem dX12_saysOf_41 : decode cX12_saysOf 41 = .ok (.getfield 93, 3) := by decide +kernel
theorem dX12_saysOf_44 : decode cX12_saysOf 44 = .ok (.iload_n 2, 1) := by decide +kernel
theorem dX12_saysOf_45 : decode cX12_saysOf 45 = .ok (.iload 4, 2) := by decide +kernel
theorem dX12_saysOf_47 : decode cX12_saysOf 47 = .ok (.sipush 400, 3) := by decide +kernel
theorem dX12_saysOf_50 : decode cX12_saysOf 50 = .ok (.if_icmp .ne 13, 3) := by decide +kernel
theorem dX12_saysOf_53 : decode cX12_saysOf 53 = .ok (.aload_n 0, 1) := by decide +kernel
theorem dX12_saysOf_54 : decode cX12_saysOf 54 = .ok (.getfield 48, 3) := by decide +kernel
theorem dX12_saysOf_57 : decode cX12_saysOf 57 = .ok (.iload_n 3, 1) := by decide +kernel
theorem dX12_saysOf_58 : decode cX12_saysOf 58 = .ok (.iaload, 1) := by decide +kernel
theorem dX12_saysOf_59 : decode cX12_saysOf 59 = .ok (.i2l, 1) := by decide +kernel
theorem dX12_saysOf_60 : decode cX12_saysOf 60 = .ok (.goto 15, 3) := by decide +kernel
theorem dX12_saysOf_63 : decode cX12_saysOf 63 = .ok (.aload_n 0, 1) := by decide +kernel
theorem dX12_saysOf_64 : decode cX12_saysOf 64 = .ok (.getfield 90, 3) := by decide +kernel
theorem dX12_saysOf_67 : decode cX12_saysOf 67 = .ok (.aload_n 0, 1) := by decide +kernel
theorem dX12_saysOf_68 : decode cX12_saysOf 68 = .ok (.getfield 48, 3) := by decide +kernel
theorem dX12_saysOf_71 : decode cX12_saysOf 71 = .ok (.iload_n 3, 1) := by decide +kernel
theorem dX12_saysOf_72 : decode cX12_saysOf 72 = .ok (.iaload, 1) := by decide +kernel
theorem dX12_saysOf_73 : decode cX12_saysOf 73 = .ok (.iaload, 1) := by decide +kernel
theorem dX12_saysOf_74 : decode cX12_saysOf 74 = .ok (.i2l, 1) := by decide +kernel
theorem dX12_saysOf_75 : decode cX12_saysOf 75 = .ok (.lastore, 1) := by decide +kernel
theorem dX12_saysOf_76 : decode cX12_saysOf 76 = .ok (.iinc 2 1, 3) := by decide +kernel
theorem dX12_saysOf_79 : decode cX12_saysOf 79 = .ok (.goto 149, 3) := by decide +kernel
theorem dX12_saysOf_82 : decode cX12_saysOf 82 = .ok (.iload 4, 2) := by decide +kernel
theorem dX12_saysOf_84 : decode cX12_saysOf 84 = .ok (.sipush 404, 3) := by decide +kernel
theorem dX12_saysOf_87 : decode cX12_saysOf 87 = .ok (.if_icmp .ne 33, 3) := by decide +kernel
theorem dX12_saysOf_90 : decode cX12_saysOf 90 = .ok (.iinc 2 (-1), 3) := by decide +kernel
theorem dX12_saysOf_93 : decode cX12_saysOf 93 = .ok (.aload_n 0, 1) := by decide +kernel
theorem dX12_saysOf_94 : decode cX12_saysOf 94 = .ok (.getfield 93, 3) := by decide +kernel
theorem dX12_saysOf_97 : decode cX12_saysOf 97 = .ok (.iload_n 2, 1) := by decide +kernel
theorem dX12_saysOf_98 : decode cX12_saysOf 98 = .ok (.laload, 1) := by decide +kernel
theorem dX12_saysOf_99 : decode cX12_saysOf 99 = .ok (.lconst 0, 1) := by decide +kernel
theorem dX12_saysOf_100 : decode cX12_saysOf 100 = .ok (.lcmp, 1) := by decide +kernel
theorem dX12_saysOf_101 : decode cX12_saysOf 101 = .ok (.ifCond .ne 14, 3) := by decide +kernel
theorem dX12_saysOf_104 : decode cX12_saysOf 104 = .ok (.aload_n 0, 1) := by decide +kernel
theorem dX12_saysOf_105 : decode cX12_saysOf 105 = .ok (.getfield 48, 3) := by decide +kernel
theorem dX12_saysOf_108 : decode cX12_saysOf 108 = .ok (.iload_n 3, 1) := by decide +kernel
theorem dX12_saysOf_109 : decode cX12_saysOf 109 = .ok (.iaload, 1) := by decide +kernel
theorem dX12_saysOf_110 : decode cX12_saysOf 110 = .ok (.iconst 1, 1) := by decide +kernel
theorem dX12_saysOf_111 : decode cX12_saysOf 111 = .ok (.isub, 1) := by decide +kernel
theorem dX12_saysOf_112 : decode cX12_saysOf 112 = .ok (.goto 4, 3) := by decide +kernel
theorem dX12_saysOf_115 : decode cX12_saysOf 115 = .ok (.iload_n 3, 1) := by decide +kernel
theorem dX12_saysOf_116 : decode cX12_saysOf 116 = .ok (.istore_n 3, 1) := by decide +kernel
theorem dX12_saysOf_117 : decode cX12_saysOf 117 = .ok (.goto 111, 3) := by decide +kernel
theorem dX12_saysOf_120 : decode cX12_saysOf 120 = .ok (.iload 4, 2) := by decide +kernel
theorem dX12_saysOf_122 : decode cX12_saysOf 122 = .ok (.sipush 409, 3) := by decide +kernel
theorem dX12_saysOf_125 : decode cX12_saysOf 125 = .ok (.if_icmp .ne 15, 3) := by decide +kernel
theorem dX12_saysOf_128 : decode cX12_saysOf 128 = .ok (.aload_n 0, 1) := by decide +kernel
theorem dX12_saysOf_129 : decode cX12_saysOf 129 = .ok (.getfield 48, 3) := by decide +kernel
theorem dX12_saysOf_132 : decode cX12_saysOf 132 = .ok (.iload_n 3, 1) := by decide +kernel
theorem dX12_saysOf_133 : decode cX12_saysOf 133 = .ok (.iaload, 1) := by decide +kernel
theorem dX12_saysOf_134 : decode cX12_saysOf 134 = .ok (.iconst 1, 1) := by decide +kernel
theorem dX12_saysOf_135 : decode cX12_saysOf 135 = .ok (.isub, 1) := by decide +kernel
theorem dX12_saysOf_136 : decode cX12_saysOf 136 = .ok (.istore_n 3, 1) := by decide +kernel
theorem dX12_saysOf_137 : decode cX12_saysOf 137 = .ok (.goto 91, 3) := by decide +kernel
theorem dX12_saysOf_140 : decode cX12_saysOf 140 = .ok (.iload 4, 2) := by decide +kernel
theorem dX12_saysOf_142 : decode cX12_saysOf 142 = .ok (.sipush 402, 3) := by decide +kernel
theorem dX12_saysOf_145 : decode cX12_saysOf 145 = .ok (.if_icmp .ne 23, 3) := by decide +kernel
theorem dX12_saysOf_148 : decode cX12_saysOf 148 = .ok (.aload_n 0, 1) := by decide +kernel
theorem dX12_saysOf_149 : decode cX12_saysOf 149 = .ok (.getfield 93, 3) := by decide +kernel
theorem dX12_saysOf_152 : decode cX12_saysOf 152 = .ok (.iload_n 2, 1) := by decide +kernel
theorem dX12_saysOf_153 : decode cX12_saysOf 153 = .ok (.iconst 1, 1) := by decide +kernel
theorem dX12_saysOf_154 : decode cX12_saysOf 154 = .ok (.isub, 1) := by decide +kernel
theorem dX12_saysOf_155 : decode cX12_saysOf 155 = .ok (.aload_n 0, 1) := by decide +kernel
theorem dX12_saysOf_156 : decode cX12_saysOf 156 = .ok (.getfield 93, 3) := by decide +kernel
theorem dX12_saysOf_159 : decode cX12_saysOf 159 = .ok (.iload_n 2, 1) := by decide +kernel
theorem dX12_saysOf_160 : decode cX12_saysOf 160 = .ok (.iconst 1, 1) := by decide +kernel
theorem dX12_saysOf_161 : decode cX12_saysOf 161 = .ok (.isub, 1) := by decide +kernel
theorem dX12_saysOf_162 : decode cX12_saysOf 162 = .ok (.laload, 1) := by decide +kernel
theorem dX12_saysOf_163 : decode cX12_saysOf 163 = .ok (.lneg, 1) := by decide +kernel
theorem dX12_saysOf_164 : decode cX12_saysOf 164 = .ok (.lastore, 1) := by decide +kernel
theorem dX12_saysOf_165 : decode cX12_saysOf 165 = .ok (.goto 63, 3) := by decide +kernel
theorem dX12_saysOf_168 : decode cX12_saysOf 168 = .ok (.iload 4, 2) := by decide +kernel
theorem dX12_saysOf_170 : decode cX12_saysOf 170 = .ok (.sipush 405, 3) := by decide +kernel
theorem dX12_saysOf_173 : decode cX12_saysOf 173 = .ok (.if_icmp .ne 24, 3) := by decide +kernel
theorem dX12_saysOf_176 : decode cX12_saysOf 176 = .ok (.aload_n 0, 1) := by decide +kernel
theorem dX12_saysOf_177 : decode cX12_saysOf 177 = .ok (.getfield 93, 3) := by decide +kernel
theorem dX12_saysOf_180 : decode cX12_saysOf 180 = .ok (.iload_n 2, 1) := by decide +kernel
theorem dX12_saysOf_181 : decode cX12_saysOf 181 = .ok (.iconst 1, 1) := by decide +kernel
theorem dX12_saysOf_182 : decode cX12_saysOf 182 = .ok (.isub, 1) := by decide +kernel
theorem dX12_saysOf_183 : decode cX12_saysOf 183 = .ok (.lconst 1, 1) := by decide +kernel
theorem dX12_saysOf_184 : decode cX12_saysOf 184 = .ok (.aload_n 0, 1) := by decide +kernel
theorem dX12_saysOf_185 : decode cX12_saysOf 185 = .ok (.getfield 93, 3) := by decide +kernel
theorem dX12_saysOf_188 : decode cX12_saysOf 188 = .ok (.iload_n 2, 1) := by decide +kernel
theorem dX12_saysOf_189 : decode cX12_saysOf 189 = .ok (.iconst 1, 1) := by decide +kernel
theorem dX12_saysOf_190 : decode cX12_saysOf 190 = .ok (.isub, 1) := by decide +kernel
theorem dX12_saysOf_191 : decode cX12_saysOf 191 = .ok (.laload, 1) := by decide +kernel
theorem dX12_saysOf_192 : decode cX12_saysOf 192 = .ok (.lsub, 1) := by decide +kernel
theorem dX12_saysOf_193 : decode cX12_saysOf 193 = .ok (.lastore, 1) := by decide +kernel
theorem dX12_saysOf_194 : decode cX12_saysOf 194 = .ok (.goto 34, 3) := by decide +kernel
theorem dX12_saysOf_197 : decode cX12_saysOf 197 = .ok (.iinc 2 (-1), 3) := by decide +kernel
theorem dX12_saysOf_200 : decode cX12_saysOf 200 = .ok (.aload_n 0, 1) := by decide +kernel
theorem dX12_saysOf_201 : decode cX12_saysOf 201 = .ok (.getfield 93, 3) := by decide +kernel
theorem dX12_saysOf_204 : decode cX12_saysOf 204 = .ok (.iload_n 2, 1) := by decide +kernel
theorem dX12_saysOf_205 : decode cX12_saysOf 205 = .ok (.iconst 1, 1) := by decide +kernel
theorem dX12_saysOf_206 : decode cX12_saysOf 206 = .ok (.isub, 1) := by decide +kernel
theorem dX12_saysOf_207 : decode cX12_saysOf 207 = .ok (.aload_n 0, 1) := by decide +kernel
theorem dX12_saysOf_208 : decode cX12_saysOf 208 = .ok (.iload 4, 2) := by decide +kernel
theorem dX12_saysOf_210 : decode cX12_saysOf 210 = .ok (.aload_n 0, 1) := by decide +kernel
theorem dX12_saysOf_211 : decode cX12_saysOf 211 = .ok (.getfield 93, 3) := by decide +kernel
theorem dX12_saysOf_214 : decode cX12_saysOf 214 = .ok (.iload_n 2, 1) := by decide +kernel
theorem dX12_saysOf_215 : decode cX12_saysOf 215 = .ok (.iconst 1, 1) := by decide +kernel
theorem dX12_saysOf_216 : decode cX12_saysOf 216 = .ok (.isub, 1) := by decide +kernel
theorem dX12_saysOf_217 : decode cX12_saysOf 217 = .ok (.laload, 1) := by decide +kernel
theorem dX12_saysOf_218 : decode cX12_saysOf 218 = .ok (.aload_n 0, 1) := by decide +kernel
theorem dX12_saysOf_219 : decode cX12_saysOf 219 = .ok (.getfield 93, 3) := by decide +kernel
theorem dX12_saysOf_222 : decode cX12_saysOf 222 = .ok (.iload_n 2, 1) := by decide +kernel
theorem dX12_saysOf_223 : decode cX12_saysOf 223 = .ok (.laload, 1) := by decide +kernel
theorem dX12_saysOf_224 : decode cX12_saysOf 224 = .ok (.invokevirtual 346, 3) := by decide +kernel
theorem dX12_saysOf_227 : decode cX12_saysOf 227 = .ok (.lastore, 1) := by decide +kernel
theorem dX12_saysOf_228 : decode cX12_saysOf 228 = .ok (.iinc 3 1, 3) := by decide +kernel
theorem dX12_saysOf_231 : decode cX12_saysOf 231 = .ok (.goto (-227), 3) := by decide +kernel
theorem dX12_saysOf_234 : decode cX12_saysOf 234 = .ok (.aload_n 0, 1) := by decide +kernel
theorem dX12_saysOf_235 : decode cX12_saysOf 235 = .ok (.getfield 93, 3) := by decide +kernel
theorem dX12_saysOf_238 : decode cX12_saysOf 238 = .ok (.iconst 0, 1) := by decide +kernel
theorem dX12_saysOf_239 : decode cX12_saysOf 239 = .ok (.laload, 1) := by decide +kernel
theorem dX12_saysOf_240 : decode cX12_saysOf 240 = .ok (.lreturn, 1) := by decide +kernel
theorem dX12_by_0 : decode cX12_by 0 = .ok (.iload_n 1, 1) := by decide +kernel
theorem dX12_by_1 : decode cX12_by 1 = .ok (.iconst (-1), 1) := by decide +kernel
theorem dX12_by_2 : decode cX12_by 2 = .ok (.if_icmp .eq 21, 3) := by decide +kernel
theorem dX12_by_5 : decode cX12_by 5 = .ok (.iload_n 1, 1) := by decide +kernel
theorem dX12_by_6 : decode cX12_by 6 = .ok (.iconst 0, 1) := by decide +kernel
theorem dX12_by_7 : decode cX12_by 7 = .ok (.aload_n 0, 1) := by decide +kernel
theorem dX12_by_8 : decode cX12_by 8 = .ok (.getfield 7, 3) := by decide +kernel
theorem dX12_by_11 : decode cX12_by 11 = .ok (.iconst 1, 1) := by decide +kernel
theorem dX12_by_12 : decode cX12_by 12 = .ok (.iaload, 1) := by decide +kernel
theorem dX12_by_13 : decode cX12_by 13 = .ok (.iconst 1, 1) := by decide +kernel
theorem dX12_by_14 : decode cX12_by 14 = .ok (.isub, 1) := by decide +kernel
theorem dX12_by_15 : decode cX12_by 15 = .ok (.invokestatic 107, 3) := by decide +kernel
theorem dX12_by_18 : decode cX12_by 18 = .ok (.ifCond .ne 5, 3) := by decide +kernel
theorem dX12_by_21 : decode cX12_by 21 = .ok (.iconst 0, 1) := by decide +kernel
theorem dX12_by_22 : decode cX12_by 22 = .ok (.ireturn, 1) := by decide +kernel
theorem dX12_by_23 : decode cX12_by 23 = .ok (.aload_n 0, 1) := by decide +kernel
theorem dX12_by_24 : decode cX12_by 24 = .ok (.getfield 7, 3) := by decide +kernel
theorem dX12_by_27 : decode cX12_by 27 = .ok (.iconst 2, 1) := by decide +kernel
theorem dX12_by_28 : decode cX12_by 28 = .ok (.iload_n 1, 1) := by decide +kernel
theorem dX12_by_29 : decode cX12_by 29 = .ok (.iastore, 1) := by decide +kernel
theorem dX12_by_30 : decode cX12_by 30 = .ok (.iconst 1, 1) := by decide +kernel
theorem dX12_by_31 : decode cX12_by 31 = .ok (.ireturn, 1) := by decide +kernel
theorem dX12_ordersOf_0 : decode cX12_ordersOf 0 = .ok (.iconst (-1), 1) := by decide +kernel
theorem dX12_ordersOf_1 : decode cX12_ordersOf 1 = .ok (.istore_n 2, 1) := by decide +kernel
theorem dX12_ordersOf_2 : decode cX12_ordersOf 2 = .ok (.iconst 0, 1) := by decide +kernel
theorem dX12_ordersOf_3 : decode cX12_ordersOf 3 = .ok (.istore_n 3, 1) := by decide +kernel
theorem dX12_ordersOf_4 : decode cX12_ordersOf 4 = .ok (.aload_n 0, 1) := by decide +kernel
theorem dX12_ordersOf_5 : decode cX12_ordersOf 5 = .ok (.getfield 7, 3) := by decide +kernel
theorem dX12_ordersOf_8 : decode cX12_ordersOf 8 = .ok (.iconst 2, 1) := by decide +kernel
theorem dX12_ordersOf_9 : decode cX12_ordersOf 9 = .ok (.iaload, 1) := by decide +kernel
theorem dX12_ordersOf_10 : decode cX12_ordersOf 10 = .ok (.iconst (-1), 1) := by decide +kernel
theorem dX12_ordersOf_11 : decode cX12_ordersOf 11 = .ok (.if_icmp .eq 60, 3) := by decide +kernel
theorem dX12_ordersOf_14 : decode cX12_ordersOf 14 = .ok (.iload_n 3, 1) := by decide +kernel
theorem dX12_ordersOf_15 : decode cX12_ordersOf 15 = .ok (.aload_n 0, 1) := by decide +kernel
theorem dX12_ordersOf_16 : decode cX12_ordersOf 16 = .ok (.getfield 27, 3) := by decide +kernel
theorem dX12_ordersOf_19 : decode cX12_ordersOf 19 = .ok (.aload_n 0, 1) := by decide +kernel
theorem dX12_ordersOf_20 : decode cX12_ordersOf 20 = .ok (.getfield 7, 3) := by decide +kernel
theorem dX12_ordersOf_23 : decode cX12_ordersOf 23 = .ok (.iconst 2, 1) := by decide +kernel
theorem dX12_ordersOf_24 : decode cX12_ordersOf 24 = .ok (.iaload, 1) := by decide +kernel
theorem dX12_ordersOf_25 : decode cX12_ordersOf 25 = .ok (.iaload, 1) := by decide +kernel
theorem dX12_ordersOf_26 : decode cX12_ordersOf 26 = .ok (.if_icmp .ge 45, 3) := by decide +kernel
theorem dX12_ordersOf_29 : decode cX12_ordersOf 29 = .ok (.bipush 24, 2) := by decide +kernel
theorem dX12_ordersOf_31 : decode cX12_ordersOf 31 = .ok (.aload_n 0, 1) := by decide +kernel
theorem dX12_ordersOf_32 : decode cX12_ordersOf 32 = .ok (.getfield 7, 3) := by decide +kernel
theorem dX12_ordersOf_35 : decode cX12_ordersOf 35 = .ok (.iconst 2, 1) := by decide +kernel
theorem dX12_ordersOf_36 : decode cX12_ordersOf 36 = .ok (.iaload, 1) := by decide +kernel
theorem dX12_ordersOf_37 : decode cX12_ordersOf 37 = .ok (.imul, 1) := by decide +kernel
theorem dX12_ordersOf_38 : decode cX12_ordersOf 38 = .ok (.iload_n 3, 1) := by decide +kernel
theorem dX12_ordersOf_39 : decode cX12_ordersOf 39 = .ok (.iadd, 1) := by decide +kernel
theorem dX12_ordersOf_40 : decode cX12_ordersOf 40 = .ok (.istore 4, 2) := by decide +kernel
theorem dX12_ordersOf_42 : decode cX12_ordersOf 42 = .ok (.aload_n 0, 1) := by decide +kernel
theorem dX12_ordersOf_43 : decode cX12_ordersOf 43 = .ok (.getfield 30, 3) := by decide +kernel
theorem dX12_ordersOf_46 : decode cX12_ordersOf 46 = .ok (.iload 4, 2) := by decide +kernel
theorem dX12_ordersOf_48 : decode cX12_ordersOf 48 = .ok (.iaload, 1) := by decide +kernel
theorem dX12_ordersOf_49 : decode cX12_ordersOf 49 = .ok (.iload_n 1, 1) := by decide +kernel
theorem dX12_ordersOf_50 : decode cX12_ordersOf 50 = .ok (.if_icmp .ne 13, 3) := by decide +kernel
theorem dX12_ordersOf_53 : decode cX12_ordersOf 53 = .ok (.aload_n 0, 1) := by decide +kernel
theorem dX12_ordersOf_54 : decode cX12_ordersOf 54 = .ok (.getfield 33, 3) := by decide +kernel
theorem dX12_ordersOf_57 : decode cX12_ordersOf 57 = .ok (.iload 4, 2) := by decide +kernel
theorem dX12_ordersOf_59 : decode cX12_ordersOf 59 = .ok (.iaload, 1) := by decide +kernel
theorem dX12_ordersOf_60 : decode cX12_ordersOf 60 = .ok (.goto 4, 3) := by decide +kernel
theorem dX12_ordersOf_63 : decode cX12_ordersOf 63 = .ok (.iload_n 2, 1) := by decide +kernel
theorem dX12_ordersOf_64 : decode cX12_ordersOf 64 = .ok (.istore_n 2, 1) := by decide +kernel
theorem dX12_ordersOf_65 : decode cX12_ordersOf 65 = .ok (.iinc 3 1, 3) := by decide +kernel
theorem dX12_ordersOf_68 : decode cX12_ordersOf 68 = .ok (.goto (-64), 3) := by decide +kernel
theorem dX12_ordersOf_71 : decode cX12_ordersOf 71 = .ok (.iload_n 2, 1) := by decide +kernel
theorem dX12_ordersOf_72 : decode cX12_ordersOf 72 = .ok (.ireturn, 1) := by decide +kernel
theorem dX12_names_0 : decode cX12_names 0 = .ok (.aload_n 0, 1) := by decide +kernel
theorem dX12_names_1 : decode cX12_names 1 = .ok (.getfield 90, 3) := by decide +kernel
theorem dX12_names_4 : decode cX12_names 4 = .ok (.iconst 0, 1) := by decide +kernel
theorem dX12_names_5 : decode cX12_names 5 = .ok (.aload_n 0, 1) := by decide +kernel
theorem dX12_names_6 : decode cX12_names 6 = .ok (.getfield 87, 3) := by decide +kernel
theorem dX12_names_9 : decode cX12_names 9 = .ok (.bipush 70, 2) := by decide +kernel
theorem dX12_names_11 : decode cX12_names 11 = .ok (.iaload, 1) := by decide +kernel
theorem dX12_names_12 : decode cX12_names 12 = .ok (.iastore, 1) := by decide +kernel
theorem dX12_names_13 : decode cX12_names 13 = .ok (.aload_n 0, 1) := by decide +kernel
theorem dX12_names_14 : decode cX12_names 14 = .ok (.getfield 90, 3) := by decide +kernel
theorem dX12_names_17 : decode cX12_names 17 = .ok (.iconst 1, 1) := by decide +kernel
theorem dX12_names_18 : decode cX12_names 18 = .ok (.aload_n 0, 1) := by decide +kernel
theorem dX12_names_19 : decode cX12_names 19 = .ok (.getfield 87, 3) := by decide +kernel
theorem dX12_names_22 : decode cX12_names 22 = .ok (.bipush 71, 2) := by decide +kernel
theorem dX12_names_24 : decode cX12_names 24 = .ok (.iaload, 1) := by decide +kernel
theorem dX12_names_25 : decode cX12_names 25 = .ok (.iastore, 1) := by decide +kernel
theorem dX12_names_26 : decode cX12_names 26 = .ok (.aload_n 0, 1) := by decide +kernel
theorem dX12_names_27 : decode cX12_names 27 = .ok (.getfield 90, 3) := by decide +kernel
theorem dX12_names_30 : decode cX12_names 30 = .ok (.iconst 2, 1) := by decide +kernel
theorem dX12_names_31 : decode cX12_names 31 = .ok (.iload_n 1, 1) := by decide +kernel
theorem dX12_names_32 : decode cX12_names 32 = .ok (.iastore, 1) := by decide +kernel
theorem dX12_names_33 : decode cX12_names 33 = .ok (.aload_n 0, 1) := by decide +kernel
theorem dX12_names_34 : decode cX12_names 34 = .ok (.getfield 90, 3) := by decide +kernel
theorem dX12_names_37 : decode cX12_names 37 = .ok (.iconst 3, 1) := by decide +kernel
theorem dX12_names_38 : decode cX12_names 38 = .ok (.aload_n 0, 1) := by decide +kernel
theorem dX12_names_39 : decode cX12_names 39 = .ok (.getfield 7, 3) := by decide +kernel
theorem dX12_names_42 : decode cX12_names 42 = .ok (.bipush 10, 2) := by decide +kernel
theorem dX12_names_44 : decode cX12_names 44 = .ok (.iload_n 1, 1) := by decide +kernel
theorem dX12_names_45 : decode cX12_names 45 = .ok (.iadd, 1) := by decide +kernel
theorem dX12_names_46 : decode cX12_names 46 = .ok (.iaload, 1) := by decide +kernel
theorem dX12_names_47 : decode cX12_names 47 = .ok (.iastore, 1) := by decide +kernel
theorem dX12_names_48 : decode cX12_names 48 = .ok (.aload_n 0, 1) := by decide +kernel
theorem dX12_names_49 : decode cX12_names 49 = .ok (.getfield 90, 3) := by decide +kernel
theorem dX12_names_52 : decode cX12_names 52 = .ok (.iconst 4, 1) := by decide +kernel
theorem dX12_names_53 : decode cX12_names 53 = .ok (.aload_n 0, 1) := by decide +kernel
theorem dX12_names_54 : decode cX12_names 54 = .ok (.getfield 87, 3) := by decide +kernel
theorem dX12_names_57 : decode cX12_names 57 = .ok (.iconst 0, 1) := by decide +kernel
theorem dX12_names_58 : decode cX12_names 58 = .ok (.iload_n 1, 1) := by decide +kernel
theorem dX12_names_59 : decode cX12_names 59 = .ok (.iadd, 1) := by decide +kernel
theorem dX12_names_60 : decode cX12_names 60 = .ok (.iaload, 1) := by decide +kernel
theorem dX12_names_61 : decode cX12_names 61 = .ok (.iastore, 1) := by decide +kernel
theorem dX12_names_62 : decode cX12_names 62 = .ok (.return_, 1) := by decide +kernel
theorem dX12_namesOf_0 : decode cX12_namesOf 0 = .ok (.aload_n 0, 1) := by decide +kernel
theorem dX12_namesOf_1 : decode cX12_namesOf 1 = .ok (.iload_n 1, 1) := by decide +kernel
theorem dX12_namesOf_2 : decode cX12_namesOf 2 = .ok (.invokevirtual 350, 3) := by decide +kernel
theorem dX12_namesOf_5 : decode cX12_namesOf 5 = .ok (.aload_n 0, 1) := by decide +kernel
theorem dX12_namesOf_6 : decode cX12_namesOf 6 = .ok (.getfield 90, 3) := by decide +kernel
theorem dX12_namesOf_9 : decode cX12_namesOf 9 = .ok (.iconst 5, 1) := by decide +kernel
theorem dX12_namesOf_10 : decode cX12_namesOf 10 = .ok (.iload_n 2, 1) := by decide +kernel
theorem dX12_namesOf_11 : decode cX12_namesOf 11 = .ok (.iastore, 1) := by decide +kernel
theorem dX12_namesOf_12 : decode cX12_namesOf 12 = .ok (.aload_n 0, 1) := by decide +kernel
theorem dX12_namesOf_13 : decode cX12_namesOf 13 = .ok (.getfield 90, 3) := by decide +kernel
theorem dX12_namesOf_16 : decode cX12_namesOf 16 = .ok (.bipush 6, 2) := by decide +kernel
theorem dX12_namesOf_18 : decode cX12_namesOf 18 = .ok (.aload_n 0, 1) := by decide +kernel
theorem dX12_namesOf_19 : decode cX12_namesOf 19 = .ok (.getfield 7, 3) := by decide +kernel
theorem dX12_namesOf_22 : decode cX12_namesOf 22 = .ok (.bipush 10, 2) := by decide +kernel
theorem dX12_namesOf_24 : decode cX12_namesOf 24 = .ok (.iload_n 2, 1) := by decide +kernel
theorem dX12_namesOf_25 : decode cX12_namesOf 25 = .ok (.iadd, 1) := by decide +kernel
theorem dX12_namesOf_26 : decode cX12_namesOf 26 = .ok (.iaload, 1) := by decide +kernel
theorem dX12_namesOf_27 : decode cX12_namesOf 27 = .ok (.iastore, 1) := by decide +kernel
theorem dX12_namesOf_28 : decode cX12_namesOf 28 = .ok (.aload_n 0, 1) := by decide +kernel
theorem dX12_namesOf_29 : decode cX12_namesOf 29 = .ok (.getfield 90, 3) := by decide +kernel
theorem dX12_namesOf_32 : decode cX12_namesOf 32 = .ok (.bipush 7, 2) := by decide +kernel
theorem dX12_namesOf_34 : decode cX12_namesOf 34 = .ok (.aload_n 0, 1) := by decide +kernel
theorem dX12_namesOf_35 : decode cX12_namesOf 35 = .ok (.getfield 87, 3) := by decide +kernel
theorem dX12_namesOf_38 : decode cX12_namesOf 38 = .ok (.iload_n 1, 1) := by decide +kernel
theorem dX12_namesOf_39 : decode cX12_namesOf 39 = .ok (.iload_n 2, 1) := by decide +kernel
theorem dX12_namesOf_40 : decode cX12_namesOf 40 = .ok (.invokestatic 335, 3) := by decide +kernel
theorem dX12_namesOf_43 : decode cX12_namesOf 43 = .ok (.iaload, 1) := by decide +kernel
theorem dX12_namesOf_44 : decode cX12_namesOf 44 = .ok (.iastore, 1) := by decide +kernel
theorem dX12_namesOf_45 : decode cX12_namesOf 45 = .ok (.aload_n 0, 1) := by decide +kernel
theorem dX12_namesOf_46 : decode cX12_namesOf 46 = .ok (.getfield 90, 3) := by decide +kernel
theorem dX12_namesOf_49 : decode cX12_namesOf 49 = .ok (.bipush 8, 2) := by decide +kernel
theorem dX12_namesOf_51 : decode cX12_namesOf 51 = .ok (.aload_n 0, 1) := by decide +kernel
theorem dX12_namesOf_52 : decode cX12_namesOf 52 = .ok (.getfield 87, 3) := by decide +kernel
theorem dX12_namesOf_55 : decode cX12_namesOf 55 = .ok (.iload_n 2, 1) := by decide +kernel
theorem dX12_namesOf_56 : decode cX12_namesOf 56 = .ok (.iload_n 1, 1) := by decide +kernel
theorem dX12_namesOf_57 : decode cX12_namesOf 57 = .ok (.invokestatic 335, 3) := by decide +kernel
theorem dX12_namesOf_60 : decode cX12_namesOf 60 = .ok (.iaload, 1) := by decide +kernel
theorem dX12_namesOf_61 : decode cX12_namesOf 61 = .ok (.iastore, 1) := by decide +kernel
theorem dX12_namesOf_62 : decode cX12_namesOf 62 = .ok (.return_, 1) := by decide +kernel
theorem dX12_sizeOf_0 : decode cX12_sizeOf 0 = .ok (.aload_n 0, 1) := by decide +kernel
theorem dX12_sizeOf_1 : decode cX12_sizeOf 1 = .ok (.iconst 0, 1) := by decide +kernel
theorem dX12_sizeOf_2 : decode cX12_sizeOf 2 = .ok (.invokevirtual 353, 3) := by decide +kernel
theorem dX12_sizeOf_5 : decode cX12_sizeOf 5 = .ok (.istore_n 3, 1) := by decide +kernel
theorem dX12_sizeOf_6 : decode cX12_sizeOf 6 = .ok (.aload_n 0, 1) := by decide +kernel
theorem dX12_sizeOf_7 : decode cX12_sizeOf 7 = .ok (.iload_n 1, 1) := by decide +kernel
theorem dX12_sizeOf_8 : decode cX12_sizeOf 8 = .ok (.iload_n 2, 1) := by decide +kernel
theorem dX12_sizeOf_9 : decode cX12_sizeOf 9 = .ok (.invokevirtual 356, 3) := by decide +kernel
theorem dX12_sizeOf_12 : decode cX12_sizeOf 12 = .ok (.iload_n 3, 1) := by decide +kernel
theorem dX12_sizeOf_13 : decode cX12_sizeOf 13 = .ok (.iconst (-1), 1) := by decide +kernel
theorem dX12_sizeOf_14 : decode cX12_sizeOf 14 = .ok (.if_icmp .ne 17, 3) := by decide +kernel
theorem dX12_sizeOf_17 : decode cX12_sizeOf 17 = .ok (.aload_n 0, 1) := by decide +kernel
theorem dX12_sizeOf_18 : decode cX12_sizeOf 18 = .ok (.getfield 87, 3) := by decide +kernel
theorem dX12_sizeOf_21 : decode cX12_sizeOf 21 = .ok (.iload_n 1, 1) := by decide +kernel
theorem dX12_sizeOf_22 : decode cX12_sizeOf 22 = .ok (.iload_n 2, 1) := by decide +kernel
theorem dX12_sizeOf_23 : decode cX12_sizeOf 23 = .ok (.invokestatic 335, 3) := by decide +kernel
theorem dX12_sizeOf_26 : decode cX12_sizeOf 26 = .ok (.iaload, 1) := by decide +kernel
theorem dX12_sizeOf_27 : decode cX12_sizeOf 27 = .ok (.i2l, 1) := by decide +kernel
theorem dX12_sizeOf_28 : decode cX12_sizeOf 28 = .ok (.goto 8, 3) := by decide +kernel
theorem dX12_sizeOf_31 : decode cX12_sizeOf 31 = .ok (.aload_n 0, 1) := by decide +kernel
theorem dX12_sizeOf_32 : decode cX12_sizeOf 32 = .ok (.iload_n 3, 1) := by decide +kernel
theorem dX12_sizeOf_33 : decode cX12_sizeOf 33 = .ok (.invokevirtual 359, 3) := by decide +kernel
theorem dX12_sizeOf_36 : decode cX12_sizeOf 36 = .ok (.iconst 1, 1) := by decide +kernel
theorem dX12_sizeOf_37 : decode cX12_sizeOf 37 = .ok (.bipush 99, 2) := by decide +kernel
theorem dX12_sizeOf_39 : decode cX12_sizeOf 39 = .ok (.invokestatic 363, 3) := by decide +kernel
theorem dX12_sizeOf_42 : decode cX12_sizeOf 42 = .ok (.ireturn, 1) := by decide +kernel
theorem dX12_moreOf_0 : decode cX12_moreOf 0 = .ok (.aload_n 0, 1) := by decide +kernel
theorem dX12_moreOf_1 : decode cX12_moreOf 1 = .ok (.iconst 1, 1) := by decide +kernel
theorem dX12_moreOf_2 : decode cX12_moreOf 2 = .ok (.invokevirtual 353, 3) := by decide +kernel
theorem dX12_moreOf_5 : decode cX12_moreOf 5 = .ok (.istore 4, 2) := by decide +kernel
theorem dX12_moreOf_7 : decode cX12_moreOf 7 = .ok (.aload_n 0, 1) := by decide +kernel
theorem dX12_moreOf_8 : decode cX12_moreOf 8 = .ok (.iload_n 1, 1) := by decide +kernel
theorem dX12_moreOf_9 : decode cX12_moreOf 9 = .ok (.iload_n 2, 1) := by decide +kernel
theorem dX12_moreOf_10 : decode cX12_moreOf 10 = .ok (.invokevirtual 356, 3) := by decide +kernel
theorem dX12_moreOf_13 : decode cX12_moreOf 13 = .ok (.aload_n 0, 1) := by decide +kernel
theorem dX12_moreOf_14 : decode cX12_moreOf 14 = .ok (.getfield 90, 3) := by decide +kernel
theorem dX12_moreOf_17 : decode cX12_moreOf 17 = .ok (.bipush 9, 2) := by decide +kernel
theorem dX12_moreOf_19 : decode cX12_moreOf 19 = .ok (.iload_n 3, 1) := by decide +kernel
theorem dX12_moreOf_20 : decode cX12_moreOf 20 = .ok (.iastore, 1) := by decide +kernel
theorem dX12_moreOf_21 : decode cX12_moreOf 21 = .ok (.iload 4, 2) := by decide +kernel
theorem dX12_moreOf_23 : decode cX12_moreOf 23 = .ok (.iconst (-1), 1) := by decide +kernel
theorem dX12_moreOf_24 : decode cX12_moreOf 24 = .ok (.if_icmp .ne 15, 3) := by decide +kernel
theorem dX12_moreOf_27 : decode cX12_moreOf 27 = .ok (.iload_n 3, 1) := by decide +kernel
theorem dX12_moreOf_28 : decode cX12_moreOf 28 = .ok (.iload_n 3, 1) := by decide +kernel
theorem dX12_moreOf_29 : decode cX12_moreOf 29 = .ok (.bipush 10, 2) := by decide +kernel
theorem dX12_moreOf_31 : decode cX12_moreOf 31 = .ok (.idiv, 1) := by decide +kernel
theorem dX12_moreOf_32 : decode cX12_moreOf 32 = .ok (.iadd, 1) := by decide +kernel
theorem dX12_moreOf_33 : decode cX12_moreOf 33 = .ok (.iconst 1, 1) := by decide +kernel
theorem dX12_moreOf_34 : decode cX12_moreOf 34 = .ok (.iadd, 1) := by decide +kernel
theorem dX12_moreOf_35 : decode cX12_moreOf 35 = .ok (.i2l, 1) := by decide +kernel
theorem dX12_moreOf_36 : decode cX12_moreOf 36 = .ok (.goto 9, 3) := by decide +kernel
theorem dX12_moreOf_39 : decode cX12_moreOf 39 = .ok (.aload_n 0, 1) := by decide +kernel
theorem dX12_moreOf_40 : decode cX12_moreOf 40 = .ok (.iload 4, 2) := by decide +kernel
theorem dX12_moreOf_42 : decode cX12_moreOf 42 = .ok (.invokevirtual 359, 3) := by decide +kernel
theorem dX12_moreOf_45 : decode cX12_moreOf 45 = .ok (.iconst 0, 1) := by decide +kernel
theorem dX12_moreOf_46 : decode cX12_moreOf 46 = .ok (.sipush 9999, 3) := by decide +kernel
theorem dX12_moreOf_49 : decode cX12_moreOf 49 = .ok (.invokestatic 363, 3) := by decide +kernel
theorem dX12_moreOf_52 : decode cX12_moreOf 52 = .ok (.ireturn, 1) := by decide +kernel
theorem dX12_lateOf_0 : decode cX12_lateOf 0 = .ok (.aload_n 0, 1) := by decide +kernel
theorem dX12_lateOf_1 : decode cX12_lateOf 1 = .ok (.iconst 2, 1) := by decide +kernel
theorem dX12_lateOf_2 : decode cX12_lateOf 2 = .ok (.invokevirtual 353, 3) := by decide +kernel
theorem dX12_lateOf_5 : decode cX12_lateOf 5 = .ok (.istore_n 3, 1) := by decide +kernel
theorem dX12_lateOf_6 : decode cX12_lateOf 6 = .ok (.aload_n 0, 1) := by decide +kernel
theorem dX12_lateOf_7 : decode cX12_lateOf 7 = .ok (.iload_n 1, 1) := by decide +kernel
theorem dX12_lateOf_8 : decode cX12_lateOf 8 = .ok (.iload_n 2, 1) := by decide +kernel
theorem dX12_lateOf_9 : decode cX12_lateOf 9 = .ok (.invokevirtual 356, 3) := by decide +kernel
theorem dX12_lateOf_12 : decode cX12_lateOf 12 = .ok (.iload_n 3, 1) := by decide +kernel
theorem dX12_lateOf_13 : decode cX12_lateOf 13 = .ok (.iconst (-1), 1) := by decide +kernel
theorem dX12_lateOf_14 : decode cX12_lateOf 14 = .ok (.if_icmp .ne 19, 3) := by decide +kernel
theorem dX12_lateOf_17 : decode cX12_lateOf 17 = .ok (.iconst 2, 1) := by decide +kernel
theorem dX12_lateOf_18 : decode cX12_lateOf 18 = .ok (.aload_n 0, 1) := by decide +kernel
theorem dX12_lateOf_19 : decode cX12_lateOf 19 = .ok (.getfield 87, 3) := by decide +kernel
theorem dX12_lateOf_22 : decode cX12_lateOf 22 = .ok (.iload_n 1, 1) := by decide +kernel
theorem dX12_lateOf_23 : decode cX12_lateOf 23 = .ok (.iload_n 2, 1) := by decide +kernel
theorem dX12_lateOf_24 : decode cX12_lateOf 24 = .ok (.invokestatic 335, 3) := by decide +kernel
theorem dX12_lateOf_27 : decode cX12_lateOf 27 = .ok (.iaload, 1) := by decide +kernel
theorem dX12_lateOf_28 : decode cX12_lateOf 28 = .ok (.imul, 1) := by decide +kernel
theorem dX12_lateOf_29 : decode cX12_lateOf 29 = .ok (.i2l, 1) := by decide +kernel
theorem dX12_lateOf_30 : decode cX12_lateOf 30 = .ok (.goto 8, 3) := by decide +kernel
theorem dX12_lateOf_33 : decode cX12_lateOf 33 = .ok (.aload_n 0, 1) := by decide +kernel
theorem dX12_lateOf_34 : decode cX12_lateOf 34 = .ok (.iload_n 3, 1) := by decide +kernel
theorem dX12_lateOf_35 : decode cX12_lateOf 35 = .ok (.invokevirtual 359, 3) := by decide +kernel
theorem dX12_lateOf_38 : decode cX12_lateOf 38 = .ok (.iconst 0, 1) := by decide +kernel
theorem dX12_lateOf_39 : decode cX12_lateOf 39 = .ok (.sipush 9999, 3) := by decide +kernel
theorem dX12_lateOf_42 : decode cX12_lateOf 42 = .ok (.invokestatic 363, 3) := by decide +kernel
theorem dX12_lateOf_45 : decode cX12_lateOf 45 = .ok (.ireturn, 1) := by decide +kernel
theorem dX12_ruinOf_0 : decode cX12_ruinOf 0 = .ok (.aload_n 0, 1) := by decide +kernel
theorem dX12_ruinOf_1 : decode cX12_ruinOf 1 = .ok (.iconst 3, 1) := by decide +kernel
theorem dX12_ruinOf_2 : decode cX12_ruinOf 2 = .ok (.invokevirtual 353, 3) := by decide +kernel
theorem dX12_ruinOf_5 : decode cX12_ruinOf 5 = .ok (.istore_n 2, 1) := by decide +kernel
theorem dX12_ruinOf_6 : decode cX12_ruinOf 6 = .ok (.aload_n 0, 1) := by decide +kernel
theorem dX12_ruinOf_7 : decode cX12_ruinOf 7 = .ok (.iload_n 1, 1) := by decide +kernel
theorem dX12_ruinOf_8 : decode cX12_ruinOf 8 = .ok (.invokevirtual 350, 3) := by decide +kernel
theorem dX12_ruinOf_11 : decode cX12_ruinOf 11 = .ok (.iload_n 2, 1) := by decide +kernel
theorem dX12_ruinOf_12 : decode cX12_ruinOf 12 = .ok (.iconst (-1), 1) := by decide +kernel
theorem dX12_ruinOf_13 : decode cX12_ruinOf 13 = .ok (.if_icmp .ne 9, 3) := by decide +kernel
theorem dX12_ruinOf_16 : decode cX12_ruinOf 16 = .ok (.ldc2_w 367, 3) := by decide +kernel
theorem dX12_ruinOf_19 : decode cX12_ruinOf 19 = .ok (.goto 8, 3) := by decide +kernel
theorem dX12_ruinOf_22 : decode cX12_ruinOf 22 = .ok (.aload_n 0, 1) := by decide +kernel
theorem dX12_ruinOf_23 : decode cX12_ruinOf 23 = .ok (.iload_n 2, 1) := by decide +kernel
theorem dX12_ruinOf_24 : decode cX12_ruinOf 24 = .ok (.invokevirtual 359, 3) := by decide +kernel
theorem dX12_ruinOf_27 : decode cX12_ruinOf 27 = .ok (.iconst 0, 1) := by decide +kernel
theorem dX12_ruinOf_28 : decode cX12_ruinOf 28 = .ok (.sipush 9999, 3) := by decide +kernel
theorem dX12_ruinOf_31 : decode cX12_ruinOf 31 = .ok (.invokestatic 363, 3) := by decide +kernel
theorem dX12_ruinOf_34 : decode cX12_ruinOf 34 = .ok (.ireturn, 1) := by decide +kernel
theorem dX12_isOut_0 : decode cX12_isOut 0 = .ok (.aload_n 0, 1) := by decide +kernel
theorem dX12_isOut_1 : decode cX12_isOut 1 = .ok (.getfield 87, 3) := by decide +kernel
theorem dX12_isOut_4 : decode cX12_isOut 4 = .ok (.bipush 14, 2) := by decide +kernel
theorem dX12_isOut_6 : decode cX12_isOut 6 = .ok (.iload_n 1, 1) := by decide +kernel
theorem dX12_isOut_7 : decode cX12_isOut 7 = .ok (.iadd, 1) := by decide +kernel
theorem dX12_isOut_8 : decode cX12_isOut 8 = .ok (.iaload, 1) := by decide +kernel
theorem dX12_isOut_9 : decode cX12_isOut 9 = .ok (.ifCond .ne 7, 3) := by decide +kernel
theorem dX12_isOut_12 : decode cX12_isOut 12 = .ok (.iconst 1, 1) := by decide +kernel
theorem dX12_isOut_13 : decode cX12_isOut 13 = .ok (.goto 4, 3) := by decide +kernel
theorem dX12_isOut_16 : decode cX12_isOut 16 = .ok (.iconst 0, 1) := by decide +kernel
theorem dX12_isOut_17 : decode cX12_isOut 17 = .ok (.ireturn, 1) := by decide +kernel
theorem dX12_doMeet_0 : decode cX12_doMeet 0 = .ok (.aload_n 0, 1) := by decide +kernel
theorem dX12_doMeet_1 : decode cX12_doMeet 1 = .ok (.iload_n 1, 1) := by decide +kernel
theorem dX12_doMeet_2 : decode cX12_doMeet 2 = .ok (.invokevirtual 369, 3) := by decide +kernel
theorem dX12_doMeet_5 : decode cX12_doMeet 5 = .ok (.ifCond .eq 36, 3) := by decide +kernel
theorem dX12_doMeet_8 : decode cX12_doMeet 8 = .ok (.aload_n 0, 1) := by decide +kernel
theorem dX12_doMeet_9 : decode cX12_doMeet 9 = .ok (.iload_n 2, 1) := by decide +kernel
theorem dX12_doMeet_10 : decode cX12_doMeet 10 = .ok (.invokevirtual 369, 3) := by decide +kernel
theorem dX12_doMeet_13 : decode cX12_doMeet 13 = .ok (.ifCond .eq 28, 3) := by decide +kernel
theorem dX12_doMeet_16 : decode cX12_doMeet 16 = .ok (.aload_n 0, 1) := by decide +kernel
theorem dX12_doMeet_17 : decode cX12_doMeet 17 = .ok (.getfield 87, 3) := by decide +kernel
theorem dX12_doMeet_20 : decode cX12_doMeet 20 = .ok (.bipush 7, 2) := by decide +kernel
theorem dX12_doMeet_22 : decode cX12_doMeet 22 = .ok (.iload_n 1, 1) := by decide +kernel
theorem dX12_doMeet_23 : decode cX12_doMeet 23 = .ok (.iadd, 1) := by decide +kernel
theorem dX12_doMeet_24 : decode cX12_doMeet 24 = .ok (.iaload, 1) := by decide +kernel
theorem dX12_doMeet_25 : decode cX12_doMeet 25 = .ok (.aload_n 0, 1) := by decide +kernel
theorem dX12_doMeet_26 : decode cX12_doMeet 26 = .ok (.getfield 87, 3) := by decide +kernel
theorem dX12_doMeet_29 : decode cX12_doMeet 29 = .ok (.bipush 7, 2) := by decide +kernel
theorem dX12_doMeet_31 : decode cX12_doMeet 31 = .ok (.iload_n 2, 1) := by decide +kernel
theorem dX12_doMeet_32 : decode cX12_doMeet 32 = .ok (.iadd, 1) := by decide +kernel
theorem dX12_doMeet_33 : decode cX12_doMeet 33 = .ok (.iaload, 1) := by decide +kernel
theorem dX12_doMeet_34 : decode cX12_doMeet 34 = .ok (.if_icmp .ne 7, 3) := by decide +kernel
theorem dX12_doMeet_37 : decode cX12_doMeet 37 = .ok (.iconst 1, 1) := by decide +kernel
theorem dX12_doMeet_38 : decode cX12_doMeet 38 = .ok (.goto 4, 3) := by decide +kernel
theorem dX12_doMeet_41 : decode cX12_doMeet 41 = .ok (.iconst 0, 1) := by decide +kernel
theorem dX12_doMeet_42 : decode cX12_doMeet 42 = .ok (.ireturn, 1) := by decide +kernel
theorem dX12_canBow_0 : decode cX12_canBow 0 = .ok (.iload_n 1, 1) := by decide +kernel
theorem dX12_canBow_1 : decode cX12_canBow 1 = .ok (.iload_n 2, 1) := by decide +kernel
theorem dX12_canBow_2 : decode cX12_canBow 2 = .ok (.if_icmp .eq 33, 3) := by decide +kernel
theorem dX12_canBow_5 : decode cX12_canBow 5 = .ok (.aload_n 0, 1) := by decide +kernel
theorem dX12_canBow_6 : decode cX12_canBow 6 = .ok (.iload_n 1, 1) := by decide +kernel
theorem dX12_canBow_7 : decode cX12_canBow 7 = .ok (.iload_n 2, 1) := by decide +kernel
theorem dX12_canBow_8 : decode cX12_canBow 8 = .ok (.invokevirtual 372, 3) := by decide +kernel
theorem dX12_canBow_11 : decode cX12_canBow 11 = .ok (.ifCond .eq 24, 3) := by decide +kernel
theorem dX12_canBow_14 : decode cX12_canBow 14 = .ok (.aload_n 0, 1) := by decide +kernel
theorem dX12_canBow_15 : decode cX12_canBow 15 = .ok (.getfield 87, 3) := by decide +kernel
theorem dX12_canBow_18 : decode cX12_canBow 18 = .ok (.iconst 0, 1) := by decide +kernel
theorem dX12_canBow_19 : decode cX12_canBow 19 = .ok (.iload_n 1, 1) := by decide +kernel
theorem dX12_canBow_20 : decode cX12_canBow 20 = .ok (.iadd, 1) := by decide +kernel
theorem dX12_canBow_21 : decode cX12_canBow 21 = .ok (.iaload, 1) := by decide +kernel
theorem dX12_canBow_22 : decode cX12_canBow 22 = .ok (.aload_n 0, 1) := by decide +kernel
theorem dX12_canBow_23 : decode cX12_canBow 23 = .ok (.iload_n 1, 1) := by decide +kernel
theorem dX12_canBow_24 : decode cX12_canBow 24 = .ok (.iload_n 2, 1) := by decide +kernel
theorem dX12_canBow_25 : decode cX12_canBow 25 = .ok (.invokevirtual 375, 3) := by decide +kernel
theorem dX12_canBow_28 : decode cX12_canBow 28 = .ok (.if_icmp .lt 7, 3) := by decide +kernel
theorem dX12_canBow_31 : decode cX12_canBow 31 = .ok (.iconst 1, 1) := by decide +kernel
theorem dX12_canBow_32 : decode cX12_canBow 32 = .ok (.goto 4, 3) := by decide +kernel
theorem dX12_canBow_35 : decode cX12_canBow 35 = .ok (.iconst 0, 1) := by decide +kernel
theorem dX12_canBow_36 : decode cX12_canBow 36 = .ok (.ireturn, 1) := by decide +kernel
theorem dX12_bows_0 : decode cX12_bows 0 = .ok (.aload_n 0, 1) := by decide +kernel
theorem dX12_bows_1 : decode cX12_bows 1 = .ok (.iload_n 1, 1) := by decide +kernel
theorem dX12_bows_2 : decode cX12_bows 2 = .ok (.iload_n 2, 1) := by decide +kernel
theorem dX12_bows_3 : decode cX12_bows 3 = .ok (.invokevirtual 375, 3) := by decide +kernel
theorem dX12_bows_6 : decode cX12_bows 6 = .ok (.istore_n 3, 1) := by decide +kernel
theorem dX12_bows_7 : decode cX12_bows 7 = .ok (.iload_n 3, 1) := by decide +kernel
theorem dX12_bows_8 : decode cX12_bows 8 = .ok (.aload_n 0, 1) := by decide +kernel
theorem dX12_bows_9 : decode cX12_bows 9 = .ok (.getfield 87, 3) := by decide +kernel
theorem dX12_bows_12 : decode cX12_bows 12 = .ok (.iload_n 1, 1) := by decide +kernel
theorem dX12_bows_13 : decode cX12_bows 13 = .ok (.iload_n 2, 1) := by decide +kernel
theorem dX12_bows_14 : decode cX12_bows 14 = .ok (.invokestatic 335, 3) := by decide +kernel
theorem dX12_bows_17 : decode cX12_bows 17 = .ok (.iaload, 1) := by decide +kernel
theorem dX12_bows_18 : decode cX12_bows 18 = .ok (.isub, 1) := by decide +kernel
theorem dX12_bows_19 : decode cX12_bows 19 = .ok (.istore 4, 2) := by decide +kernel
theorem dX12_bows_21 : decode cX12_bows 21 = .ok (.aload_n 0, 1) := by decide +kernel
theorem dX12_bows_22 : decode cX12_bows 22 = .ok (.getfield 87, 3) := by decide +kernel
theorem dX12_bows_25 : decode cX12_bows 25 = .ok (.iconst 0, 1) := by decide +kernel
theorem dX12_bows_26 : decode cX12_bows 26 = .ok (.iload_n 1, 1) := by decide +kernel
theorem dX12_bows_27 : decode cX12_bows 27 = .ok (.iadd, 1) := by decide +kernel
theorem dX12_bows_28 : decode cX12_bows 28 = .ok (.dup2, 1) := by decide +kernel
theorem dX12_bows_29 : decode cX12_bows 29 = .ok (.iaload, 1) := by decide +kernel
theorem dX12_bows_30 : decode cX12_bows 30 = .ok (.iload_n 3, 1) := by decide +kernel
theorem dX12_bows_31 : decode cX12_bows 31 = .ok (.isub, 1) := by decide +kernel
theorem dX12_bows_32 : decode cX12_bows 32 = .ok (.iastore, 1) := by decide +kernel
theorem dX12_bows_33 : decode cX12_bows 33 = .ok (.aload_n 0, 1) := by decide +kernel
theorem dX12_bows_34 : decode cX12_bows 34 = .ok (.getfield 87, 3) := by decide +kernel
theorem dX12_bows_37 : decode cX12_bows 37 = .ok (.iload_n 1, 1) := by decide +kernel
theorem dX12_bows_38 : decode cX12_bows 38 = .ok (.iload_n 2, 1) := by decide +kernel
theorem dX12_bows_39 : decode cX12_bows 39 = .ok (.invokestatic 335, 3) := by decide +kernel
theorem dX12_bows_42 : decode cX12_bows 42 = .ok (.iload 4, 2) := by decide +kernel
theorem dX12_bows_44 : decode cX12_bows 44 = .ok (.ifCond .ge 9, 3) := by decide +kernel
theorem dX12_bows_47 : decode cX12_bows 47 = .ok (.iload 4, 2) := by decide +kernel
theorem dX12_bows_49 : decode cX12_bows 49 = .ok (.ineg, 1) := by decide +kernel
theorem dX12_bows_50 : decode cX12_bows 50 = .ok (.goto 4, 3) := by decide +kernel
theorem dX12_bows_53 : decode cX12_bows 53 = .ok (.iconst 0, 1) := by decide +kernel
theorem dX12_bows_54 : decode cX12_bows 54 = .ok (.iastore, 1) := by decide +kernel
theorem dX12_bows_55 : decode cX12_bows 55 = .ok (.iload 4, 2) := by decide +kernel
theorem dX12_bows_57 : decode cX12_bows 57 = .ok (.ifCond .le 40, 3) := by decide +kernel
theorem dX12_bows_60 : decode cX12_bows 60 = .ok (.aload_n 0, 1) := by decide +kernel
theorem dX12_bows_61 : decode cX12_bows 61 = .ok (.getfield 87, 3) := by decide +kernel
theorem dX12_bows_64 : decode cX12_bows 64 = .ok (.iload_n 2, 1) := by decide +kernel
theorem dX12_bows_65 : decode cX12_bows 65 = .ok (.iload_n 1, 1) := by decide +kernel
theorem dX12_bows_66 : decode cX12_bows 66 = .ok (.invokestatic 335, 3) := by decide +kernel
theorem dX12_bows_69 : decode cX12_bows 69 = .ok (.aload_n 0, 1) := by decide +kernel
theorem dX12_bows_70 : decode cX12_bows 70 = .ok (.getfield 87, 3) := by decide +kernel
theorem dX12_bows_73 : decode cX12_bows 73 = .ok (.iload_n 2, 1) := by decide +kernel
theorem dX12_bows_74 : decode cX12_bows 74 = .ok (.iload_n 1, 1) := by decide +kernel
theorem dX12_bows_75 : decode cX12_bows 75 = .ok (.invokestatic 335, 3) := by decide +kernel
theorem dX12_bows_78 : decode cX12_bows 78 = .ok (.iaload, 1) := by decide +kernel
theorem dX12_bows_79 : decode cX12_bows 79 = .ok (.aload_n 0, 1) := by decide +kernel
theorem dX12_bows_80 : decode cX12_bows 80 = .ok (.iload_n 2, 1) := by decide +kernel
theorem dX12_bows_81 : decode cX12_bows 81 = .ok (.iload_n 1, 1) := by decide +kernel
theorem dX12_bows_82 : decode cX12_bows 82 = .ok (.iload 4, 2) := by decide +kernel
theorem dX12_bows_84 : decode cX12_bows 84 = .ok (.invokevirtual 378, 3) := by decide +kernel
theorem dX12_bows_87 : decode cX12_bows 87 = .ok (.iadd, 1) := by decide +kernel
theorem dX12_bows_88 : decode cX12_bows 88 = .ok (.i2l, 1) := by decide +kernel
theorem dX12_bows_89 : decode cX12_bows 89 = .ok (.iconst 0, 1) := by decide +kernel
theorem dX12_bows_90 : decode cX12_bows 90 = .ok (.sipush 9999, 3) := by decide +kernel
theorem dX12_bows_93 : decode cX12_bows 93 = .ok (.invokestatic 363, 3) := by decide +kernel
theorem dX12_bows_96 : decode cX12_bows 96 = .ok (.iastore, 1) := by decide +kernel
theorem dX12_bows_97 : decode cX12_bows 97 = .ok (.return_, 1) := by decide +kernel
theorem dX12_walks_0 : decode cX12_walks 0 = .ok (.aload_n 0, 1) := by decide +kernel
theorem dX12_walks_1 : decode cX12_walks 1 = .ok (.getfield 87, 3) := by decide +kernel
theorem dX12_walks_4 : decode cX12_walks 4 = .ok (.bipush 7, 2) := by decide +kernel
theorem dX12_walks_6 : decode cX12_walks 6 = .ok (.iload_n 1, 1) := by decide +kernel
theorem dX12_walks_7 : decode cX12_walks 7 = .ok (.iadd, 1) := by decide +kernel
theorem dX12_walks_8 : decode cX12_walks 8 = .ok (.aload_n 0, 1) := by decide +kernel
theorem dX12_walks_9 : decode cX12_walks 9 = .ok (.getfield 87, 3) := by decide +kernel
theorem dX12_walks_12 : decode cX12_walks 12 = .ok (.bipush 7, 2) := by decide +kernel
theorem dX12_walks_14 : decode cX12_walks 14 = .ok (.iload_n 1, 1) := by decide +kernel
theorem dX12_walks_15 : decode cX12_walks 15 = .ok (.iadd, 1) := by decide +kernel
theorem dX12_walks_16 : decode cX12_walks 16 = .ok (.iaload, 1) := by decide +kernel
theorem dX12_walks_17 : decode cX12_walks 17 = .ok (.iload_n 2, 1) := by decide +kernel
theorem dX12_walks_18 : decode cX12_walks 18 = .ok (.iadd, 1) := by decide +kernel
theorem dX12_walks_19 : decode cX12_walks 19 = .ok (.bipush 8, 2) := by decide +kernel
theorem dX12_walks_21 : decode cX12_walks 21 = .ok (.iadd, 1) := by decide +kernel
theorem dX12_walks_22 : decode cX12_walks 22 = .ok (.bipush 8, 2) := by decide +kernel
theorem dX12_walks_24 : decode cX12_walks 24 = .ok (.irem, 1) := by decide +kernel
theorem dX12_walks_25 : decode cX12_walks 25 = .ok (.iastore, 1) := by decide +kernel
theorem dX12_walks_26 : decode cX12_walks 26 = .ok (.return_, 1) := by decide +kernel
theorem dX12_feasts_0 : decode cX12_feasts 0 = .ok (.iconst 0, 1) := by decide +kernel
theorem dX12_feasts_1 : decode cX12_feasts 1 = .ok (.istore_n 1, 1) := by decide +kernel
theorem dX12_feasts_2 : decode cX12_feasts 2 = .ok (.iconst 0, 1) := by decide +kernel
theorem dX12_feasts_3 : decode cX12_feasts 3 = .ok (.istore_n 2, 1) := by decide +kernel
theorem dX12_feasts_4 : decode cX12_feasts 4 = .ok (.iload_n 2, 1) := by decide +kernel
theorem dX12_feasts_5 : decode cX12_feasts 5 = .ok (.aload_n 0, 1) := by decide +kernel
theorem dX12_feasts_6 : decode cX12_feasts 6 = .ok (.getfield 7, 3) := by decide +kernel
theorem dX12_feasts_9 : decode cX12_feasts 9 = .ok (.iconst 0, 1) := by decide +kernel
theorem dX12_feasts_10 : decode cX12_feasts 10 = .ok (.iaload, 1) := by decide +kernel
theorem dX12_feasts_11 : decode cX12_feasts 11 = .ok (.if_icmp .ge 86, 3) := by decide +kernel
theorem dX12_feasts_14 : decode cX12_feasts 14 = .ok (.iconst 0, 1) := by decide +kernel
theorem dX12_feasts_15 : decode cX12_feasts 15 = .ok (.istore_n 3, 1) := by decide +kernel
theorem dX12_feasts_16 : decode cX12_feasts 16 = .ok (.iconst 1, 1) := by decide +kernel
theorem dX12_feasts_17 : decode cX12_feasts 17 = .ok (.istore 4, 2) := by decide +kernel
theorem dX12_feasts_19 : decode cX12_feasts 19 = .ok (.iload 4, 2) := by decide +kernel
theorem dX12_feasts_21 : decode cX12_feasts 21 = .ok (.aload_n 0, 1) := by decide +kernel
theorem dX12_feasts_22 : decode cX12_feasts 22 = .ok (.getfield 7, 3) := by decide +kernel
theorem dX12_feasts_25 : decode cX12_feasts 25 = .ok (.iconst 0, 1) := by decide +kernel
theorem dX12_feasts_26 : decode cX12_feasts 26 = .ok (.iaload, 1) := by decide +kernel
theorem dX12_feasts_27 : decode cX12_feasts 27 = .ok (.if_icmp .ge 40, 3) := by decide +kernel
theorem dX12_feasts_30 : decode cX12_feasts 30 = .ok (.aload_n 0, 1) := by decide +kernel
theorem dX12_feasts_31 : decode cX12_feasts 31 = .ok (.getfield 87, 3) := by decide +kernel
theorem dX12_feasts_34 : decode cX12_feasts 34 = .ok (.iload_n 2, 1) := by decide +kernel
theorem dX12_feasts_35 : decode cX12_feasts 35 = .ok (.iload 4, 2) := by decide +kernel
theorem dX12_feasts_37 : decode cX12_feasts 37 = .ok (.invokestatic 335, 3) := by decide +kernel
theorem dX12_feasts_40 : decode cX12_feasts 40 = .ok (.iaload, 1) := by decide +kernel
theorem dX12_feasts_41 : decode cX12_feasts 41 = .ok (.aload_n 0, 1) := by decide +kernel
theorem dX12_feasts_42 : decode cX12_feasts 42 = .ok (.getfield 87, 3) := by decide +kernel
theorem dX12_feasts_45 : decode cX12_feasts 45 = .ok (.iload_n 2, 1) := by decide +kernel
theorem dX12_feasts_46 : decode cX12_feasts 46 = .ok (.iload_n 3, 1) := by decide +kernel
theorem dX12_feasts_47 : decode cX12_feasts 47 = .ok (.invokestatic 335, 3) := by decide +kernel
theorem dX12_feasts_50 : decode cX12_feasts 50 = .ok (.iaload, 1) := by decide +kernel
theorem dX12_feasts_51 : decode cX12_feasts 51 = .ok (.if_icmp .le 8, 3) := by decide +kernel
theorem dX12_feasts_54 : decode cX12_feasts 54 = .ok (.iload 4, 2) := by decide +kernel
theorem dX12_feasts_56 : decode cX12_feasts 56 = .ok (.goto 4, 3) := by decide +kernel
theorem dX12_feasts_59 : decode cX12_feasts 59 = .ok (.iload_n 3, 1) := by decide +kernel
theorem dX12_feasts_60 : decode cX12_feasts 60 = .ok (.istore_n 3, 1) := by decide +kernel
theorem dX12_feasts_61 : decode cX12_feasts 61 = .ok (.iinc 4 1, 3) := by decide +kernel
theorem dX12_feasts_64 : decode cX12_feasts 64 = .ok (.goto (-45), 3) := by decide +kernel
theorem dX12_feasts_67 : decode cX12_feasts 67 = .ok (.iload_n 1, 1) := by decide +kernel
theorem dX12_feasts_68 : decode cX12_feasts 68 = .ok (.aload_n 0, 1) := by decide +kernel
theorem dX12_feasts_69 : decode cX12_feasts 69 = .ok (.getfield 87, 3) := by decide +kernel
theorem dX12_feasts_72 : decode cX12_feasts 72 = .ok (.iload_n 2, 1) := by decide +kernel
theorem dX12_feasts_73 : decode cX12_feasts 73 = .ok (.iload_n 3, 1) := by decide +kernel
theorem dX12_feasts_74 : decode cX12_feasts 74 = .ok (.invokestatic 335, 3) := by decide +kernel
theorem dX12_feasts_77 : decode cX12_feasts 77 = .ok (.iaload, 1) := by decide +kernel
theorem dX12_feasts_78 : decode cX12_feasts 78 = .ok (.iadd, 1) := by decide +kernel
theorem dX12_feasts_79 : decode cX12_feasts 79 = .ok (.istore_n 1, 1) := by decide +kernel
theorem dX12_feasts_80 : decode cX12_feasts 80 = .ok (.aload_n 0, 1) := by decide +kernel
theorem dX12_feasts_81 : decode cX12_feasts 81 = .ok (.getfield 87, 3) := by decide +kernel
theorem dX12_feasts_84 : decode cX12_feasts 84 = .ok (.iload_n 2, 1) := by decide +kernel
theorem dX12_feasts_85 : decode cX12_feasts 85 = .ok (.iload_n 3, 1) := by decide +kernel
theorem dX12_feasts_86 : decode cX12_feasts 86 = .ok (.invokestatic 335, 3) := by decide +kernel
theorem dX12_feasts_89 : decode cX12_feasts 89 = .ok (.iconst 0, 1) := by decide +kernel
theorem dX12_feasts_90 : decode cX12_feasts 90 = .ok (.iastore, 1) := by decide +kernel
theorem dX12_feasts_91 : decode cX12_feasts 91 = .ok (.iinc 2 1, 3) := by decide +kernel
theorem dX12_feasts_94 : decode cX12_feasts 94 = .ok (.goto (-90), 3) := by decide +kernel
theorem dX12_feasts_97 : decode cX12_feasts 97 = .ok (.iload_n 1, 1) := by decide +kernel
theorem dX12_feasts_98 : decode cX12_feasts 98 = .ok (.ireturn, 1) := by decide +kernel
theorem dX12_allOwedBy_0 : decode cX12_allOwedBy 0 = .ok (.iconst 0, 1) := by decide +kernel
theorem dX12_allOwedBy_1 : decode cX12_allOwedBy 1 = .ok (.istore_n 2, 1) := by decide +kernel
theorem dX12_allOwedBy_2 : decode cX12_allOwedBy 2 = .ok (.iconst 0, 1) := by decide +kernel
theorem dX12_allOwedBy_3 : decode cX12_allOwedBy 3 = .ok (.istore_n 3, 1) := by decide +kernel
theorem dX12_allOwedBy_4 : decode cX12_allOwedBy 4 = .ok (.iload_n 3, 1) := by decide +kernel
theorem dX12_allOwedBy_5 : decode cX12_allOwedBy 5 = .ok (.aload_n 0, 1) := by decide +kernel
theorem dX12_allOwedBy_6 : decode cX12_allOwedBy 6 = .ok (.getfield 7, 3) := by decide +kernel
theorem dX12_allOwedBy_9 : decode cX12_allOwedBy 9 = .ok (.iconst 0, 1) := by decide +kernel
theorem dX12_allOwedBy_10 : decode cX12_allOwedBy 10 = .ok (.iaload, 1) := by decide +kernel
theorem dX12_allOwedBy_11 : decode cX12_allOwedBy 11 = .ok (.if_icmp .ge 22, 3) := by decide +kernel
theorem dX12_allOwedBy_14 : decode cX12_allOwedBy 14 = .ok (.iload_n 2, 1) := by decide +kernel
theorem dX12_allOwedBy_15 : decode cX12_allOwedBy 15 = .ok (.aload_n 0, 1) := by decide +kernel
theorem dX12_allOwedBy_16 : decode cX12_allOwedBy 16 = .ok (.getfield 87, 3) := by decide +kernel
theorem dX12_allOwedBy_19 : decode cX12_allOwedBy 19 = .ok (.iload_n 1, 1) := by decide +kernel
theorem dX12_allOwedBy_20 : decode cX12_allOwedBy 20 = .ok (.iload_n 3, 1) := by decide +kernel
theorem dX12_allOwedBy_21 : decode cX12_allOwedBy 21 = .ok (.invokestatic 335, 3) := by decide +kernel
theorem dX12_allOwedBy_24 : decode cX12_allOwedBy 24 = .ok (.iaload, 1) := by decide +kernel
theorem dX12_allOwedBy_25 : decode cX12_allOwedBy 25 = .ok (.iadd, 1) := by decide +kernel
theorem dX12_allOwedBy_26 : decode cX12_allOwedBy 26 = .ok (.istore_n 2, 1) := by decide +kernel
theorem dX12_allOwedBy_27 : decode cX12_allOwedBy 27 = .ok (.iinc 3 1, 3) := by decide +kernel
theorem dX12_allOwedBy_30 : decode cX12_allOwedBy 30 = .ok (.goto (-26), 3) := by decide +kernel
theorem dX12_allOwedBy_33 : decode cX12_allOwedBy 33 = .ok (.iload_n 2, 1) := by decide +kernel
theorem dX12_allOwedBy_34 : decode cX12_allOwedBy 34 = .ok (.ireturn, 1) := by decide +kernel
theorem dX12_allOwedTo_0 : decode cX12_allOwedTo 0 = .ok (.iconst 0, 1) := by decide +kernel
theorem dX12_allOwedTo_1 : decode cX12_allOwedTo 1 = .ok (.istore_n 2, 1) := by decide +kernel
theorem dX12_allOwedTo_2 : decode cX12_allOwedTo 2 = .ok (.iconst 0, 1) := by decide +kernel
theorem dX12_allOwedTo_3 : decode cX12_allOwedTo 3 = .ok (.istore_n 3, 1) := by decide +kernel
theorem dX12_allOwedTo_4 : decode cX12_allOwedTo 4 = .ok (.iload_n 3, 1) := by decide +kernel
theorem dX12_allOwedTo_5 : decode cX12_allOwedTo 5 = .ok (.aload_n 0, 1) := by decide +kernel
theorem dX12_allOwedTo_6 : decode cX12_allOwedTo 6 = .ok (.getfield 7, 3) := by decide +kernel
theorem dX12_allOwedTo_9 : decode cX12_allOwedTo 9 = .ok (.iconst 0, 1) := by decide +kernel
theorem dX12_allOwedTo_10 : decode cX12_allOwedTo 10 = .ok (.iaload, 1) := by decide +kernel
theorem dX12_allOwedTo_11 : decode cX12_allOwedTo 11 = .ok (.if_icmp .ge 22, 3) := by decide +kernel
theorem dX12_allOwedTo_14 : decode cX12_allOwedTo 14 = .ok (.iload_n 2, 1) := by decide +kernel
theorem dX12_allOwedTo_15 : decode cX12_allOwedTo 15 = .ok (.aload_n 0, 1) := by decide +kernel
theorem dX12_allOwedTo_16 : decode cX12_allOwedTo 16 = .ok (.getfield 87, 3) := by decide +kernel
theorem dX12_allOwedTo_19 : decode cX12_allOwedTo 19 = .ok (.iload_n 3, 1) := by decide +kernel
theorem dX12_allOwedTo_20 : decode cX12_allOwedTo 20 = .ok (.iload_n 1, 1) := by decide +kernel
theorem dX12_allOwedTo_21 : decode cX12_allOwedTo 21 = .ok (.invokestatic 335, 3) := by decide +kernel
theorem dX12_allOwedTo_24 : decode cX12_allOwedTo 24 = .ok (.iaload, 1) := by decide +kernel
theorem dX12_allOwedTo_25 : decode cX12_allOwedTo 25 = .ok (.iadd, 1) := by decide +kernel
theorem dX12_allOwedTo_26 : decode cX12_allOwedTo 26 = .ok (.istore_n 2, 1) := by decide +kernel
theorem dX12_allOwedTo_27 : decode cX12_allOwedTo 27 = .ok (.iinc 3 1, 3) := by decide +kernel
theorem dX12_allOwedTo_30 : decode cX12_allOwedTo 30 = .ok (.goto (-26), 3) := by decide +kernel
theorem dX12_allOwedTo_33 : decode cX12_allOwedTo 33 = .ok (.iload_n 2, 1) := by decide +kernel
theorem dX12_allOwedTo_34 : decode cX12_allOwedTo 34 = .ok (.ireturn, 1) := by decide +kernel
theorem dX12_writes_0 : decode cX12_writes 0 = .ok (.aload_n 0, 1) := by decide +kernel
theorem dX12_writes_1 : decode cX12_writes 1 = .ok (.getfield 87, 3) := by decide +kernel
theorem dX12_writes_4 : decode cX12_writes 4 = .ok (.bipush 73, 2) := by decide +kernel
theorem dX12_writes_6 : decode cX12_writes 6 = .ok (.iaload, 1) := by decide +kernel
theorem dX12_writes_7 : decode cX12_writes 7 = .ok (.bipush 30, 2) := by decide +kernel
theorem dX12_writes_9 : decode cX12_writes 9 = .ok (.if_icmp .ne 42, 3) := by decide +kernel
theorem dX12_writes_12 : decode cX12_writes 12 = .ok (.bipush 74, 2) := by decide +kernel
theorem dX12_writes_14 : decode cX12_writes 14 = .ok (.istore_n 3, 1) := by decide +kernel
theorem dX12_writes_15 : decode cX12_writes 15 = .ok (.iload_n 3, 1) := by decide +kernel
theorem dX12_writes_16 : decode cX12_writes 16 = .ok (.sipush 161, 3) := by decide +kernel
theorem dX12_writes_19 : decode cX12_writes 19 = .ok (.if_icmp .ge 23, 3) := by decide +kernel
theorem dX12_writes_22 : decode cX12_writes 22 = .ok (.aload_n 0, 1) := by decide +kernel
theorem dX12_writes_23 : decode cX12_writes 23 = .ok (.getfield 87, 3) := by decide +kernel
theorem dX12_writes_26 : decode cX12_writes 26 = .ok (.iload_n 3, 1) := by decide +kernel
theorem dX12_writes_27 : decode cX12_writes 27 = .ok (.aload_n 0, 1) := by decide +kernel
theorem dX12_writes_28 : decode cX12_writes 28 = .ok (.getfield 87, 3) := by decide +kernel
theorem dX12_writes_31 : decode cX12_writes 31 = .ok (.iload_n 3, 1) := by decide +kernel
theorem dX12_writes_32 : decode cX12_writes 32 = .ok (.iconst 3, 1) := by decide +kernel
theorem dX12_writes_33 : decode cX12_writes 33 = .ok (.iadd, 1) := by decide +kernel
theorem dX12_writes_34 : decode cX12_writes 34 = .ok (.iaload, 1) := by decide +kernel
theorem dX12_writes_35 : decode cX12_writes 35 = .ok (.iastore, 1) := by decide +kernel
theorem dX12_writes_36 : decode cX12_writes 36 = .ok (.iinc 3 1, 3) := by decide +kernel
theorem dX12_writes_39 : decode cX12_writes 39 = .ok (.goto (-24), 3) := by decide +kernel
theorem dX12_writes_42 : decode cX12_writes 42 = .ok (.aload_n 0, 1) := by decide +kernel
theorem dX12_writes_43 : decode cX12_writes 43 = .ok (.getfield 87, 3) := by decide +kernel
theorem dX12_writes_46 : decode cX12_writes 46 = .ok (.bipush 73, 2) := by decide +kernel
theorem dX12_writes_48 : decode cX12_writes 48 = .ok (.bipush 29, 2) := by decide +kernel
theorem dX12_writes_50 : decode cX12_writes 50 = .ok (.iastore, 1) := by decide +kernel
theorem dX12_writes_51 : decode cX12_writes 51 = .ok (.bipush 74, 2) := by decide +kernel
theorem dX12_writes_53 : decode cX12_writes 53 = .ok (.iconst 3, 1) := by decide +kernel
theorem dX12_writes_54 : decode cX12_writes 54 = .ok (.aload_n 0, 1) := by decide +kernel
theorem dX12_writes_55 : decode cX12_writes 55 = .ok (.getfield 87, 3) := by decide +kernel
theorem dX12_writes_58 : decode cX12_writes 58 = .ok (.bipush 73, 2) := by decide +kernel
theorem dX12_writes_60 : decode cX12_writes 60 = .ok (.iaload, 1) := by decide +kernel
theorem dX12_writes_61 : decode cX12_writes 61 = .ok (.imul, 1) := by decide +kernel
theorem dX12_writes_62 : decode cX12_writes 62 = .ok (.iadd, 1) := by decide +kernel
theorem dX12_writes_63 : decode cX12_writes 63 = .ok (.istore_n 3, 1) := by decide +kernel
theorem dX12_writes_64 : decode cX12_writes 64 = .ok (.aload_n 0, 1) := by decide +kernel
theorem dX12_writes_65 : decode cX12_writes 65 = .ok (.getfield 87, 3) := by decide +kernel
theorem dX12_writes_68 : decode cX12_writes 68 = .ok (.iload_n 3, 1) := by decide +kernel
theorem dX12_writes_69 : decode cX12_writes 69 = .ok (.aload_n 0, 1) := by decide +kernel
theorem dX12_writes_70 : decode cX12_writes 70 = .ok (.getfield 87, 3) := by decide +kernel
theorem dX12_writes_73 : decode cX12_writes 73 = .ok (.bipush 70, 2) := by decide +kernel
theorem dX12_writes_75 : decode cX12_writes 75 = .ok (.iaload, 1) := by decide +kernel
theorem dX12_writes_76 : decode cX12_writes 76 = .ok (.iastore, 1) := by decide +kernel
theorem dX12_writes_77 : decode cX12_writes 77 = .ok (.aload_n 0, 1) := by decide +kernel
theorem dX12_writes_78 : decode cX12_writes 78 = .ok (.getfield 87, 3) := by decide +kernel
theorem dX12_writes_81 : decode cX12_writes 81 = .ok (.iload_n 3, 1) := by decide +kernel
theorem dX12_writes_82 : decode cX12_writes 82 = .ok (.iconst 1, 1) := by decide +kernel
theorem dX12_writes_83 : decode cX12_writes 83 = .ok (.iadd, 1) := by decide +kernel
theorem dX12_writes_84 : decode cX12_writes 84 = .ok (.iload_n 1, 1) := by decide +kernel
theorem dX12_writes_85 : decode cX12_writes 85 = .ok (.iastore, 1) := by decide +kernel
theorem dX12_writes_86 : decode cX12_writes 86 = .ok (.aload_n 0, 1) := by decide +kernel
theorem dX12_writes_87 : decode cX12_writes 87 = .ok (.getfield 87, 3) := by decide +kernel
theorem dX12_writes_90 : decode cX12_writes 90 = .ok (.iload_n 3, 1) := by decide +kernel
theorem dX12_writes_91 : decode cX12_writes 91 = .ok (.iconst 2, 1) := by decide +kernel
theorem dX12_writes_92 : decode cX12_writes 92 = .ok (.iadd, 1) := by decide +kernel
theorem dX12_writes_93 : decode cX12_writes 93 = .ok (.iload_n 2, 1) := by decide +kernel
theorem dX12_writes_94 : decode cX12_writes 94 = .ok (.iastore, 1) := by decide +kernel
theorem dX12_writes_95 : decode cX12_writes 95 = .ok (.aload_n 0, 1) := by decide +kernel
theorem dX12_writes_96 : decode cX12_writes 96 = .ok (.getfield 87, 3) := by decide +kernel
theorem dX12_writes_99 : decode cX12_writes 99 = .ok (.bipush 73, 2) := by decide +kernel
theorem dX12_writes_101 : decode cX12_writes 101 = .ok (.dup2, 1) := by decide +kernel
theorem dX12_writes_102 : decode cX12_writes 102 = .ok (.iaload, 1) := by decide +kernel
theorem dX12_writes_103 : decode cX12_writes 103 = .ok (.iconst 1, 1) := by decide +kernel
theorem dX12_writes_104 : decode cX12_writes 104 = .ok (.iadd, 1) := by decide +kernel
theorem dX12_writes_105 : decode cX12_writes 105 = .ok (.iastore, 1) := by decide +kernel
theorem dX12_writes_106 : decode cX12_writes 106 = .ok (.return_, 1) := by decide +kernel
theorem dX12_canPass_0 : decode cX12_canPass 0 = .ok (.aload_n 0, 1) := by decide +kernel
theorem dX12_canPass_1 : decode cX12_canPass 1 = .ok (.getfield 87, 3) := by decide +kernel
theorem dX12_canPass_4 : decode cX12_canPass 4 = .ok (.bipush 70, 2) := by decide +kernel
theorem dX12_canPass_6 : decode cX12_canPass 6 = .ok (.iaload, 1) := by decide +kernel
theorem dX12_canPass_7 : decode cX12_canPass 7 = .ok (.sipush 9999, 3) := by decide +kernel
theorem dX12_canPass_10 : decode cX12_canPass 10 = .ok (.if_icmp .lt 15, 3) := by decide +kernel
theorem dX12_canPass_13 : decode cX12_canPass 13 = .ok (.aload_n 0, 1) := by decide +kernel
theorem dX12_canPass_14 : decode cX12_canPass 14 = .ok (.getfield 87, 3) := by decide +kernel
theorem dX12_canPass_17 : decode cX12_canPass 17 = .ok (.bipush 71, 2) := by decide +kernel
theorem dX12_canPass_19 : decode cX12_canPass 19 = .ok (.iaload, 1) := by decide +kernel
theorem dX12_canPass_20 : decode cX12_canPass 20 = .ok (.bipush 9, 2) := by decide +kernel
theorem dX12_canPass_22 : decode cX12_canPass 22 = .ok (.if_icmp .ge 7, 3) := by decide +kernel
theorem dX12_canPass_25 : decode cX12_canPass 25 = .ok (.iconst 1, 1) := by decide +kernel
theorem dX12_canPass_26 : decode cX12_canPass 26 = .ok (.goto 4, 3) := by decide +kernel
theorem dX12_canPass_29 : decode cX12_canPass 29 = .ok (.iconst 0, 1) := by decide +kernel
theorem dX12_canPass_30 : decode cX12_canPass 30 = .ok (.ireturn, 1) := by decide +kernel
theorem dX12_dayBegins_0 : decode cX12_dayBegins 0 = .ok (.iconst 0, 1) := by decide +kernel
theorem dX12_dayBegins_1 : decode cX12_dayBegins 1 = .ok (.istore_n 1, 1) := by decide +kernel
theorem dX12_dayBegins_2 : decode cX12_dayBegins 2 = .ok (.iconst 0, 1) := by decide +kernel
theorem dX12_dayBegins_3 : decode cX12_dayBegins 3 = .ok (.istore_n 2, 1) := by decide +kernel
theorem dX12_dayBegins_4 : decode cX12_dayBegins 4 = .ok (.iload_n 2, 1) := by decide +kernel
theorem dX12_dayBegins_5 : decode cX12_dayBegins 5 = .ok (.aload_n 0, 1) := by decide +kernel
theorem dX12_dayBegins_6 : decode cX12_dayBegins 6 = .ok (.getfield 7, 3) := by decide +kernel
theorem dX12_dayBegins_9 : decode cX12_dayBegins 9 = .ok (.iconst 0, 1) := by decide +kernel
theorem dX12_dayBegins_10 : decode cX12_dayBegins 10 = .ok (.iaload, 1) := by decide +kernel
theorem dX12_dayBegins_11 : decode cX12_dayBegins 11 = .ok (.if_icmp .ge 56, 3) := by decide +kernel
theorem dX12_dayBegins_14 : decode cX12_dayBegins 14 = .ok (.iconst 0, 1) := by decide +kernel
theorem dX12_dayBegins_15 : decode cX12_dayBegins 15 = .ok (.istore_n 3, 1) := by decide +kernel
theorem dX12_dayBegins_16 : decode cX12_dayBegins 16 = .ok (.iload_n 3, 1) := by decide +kernel
theorem dX12_dayBegins_17 : decode cX12_dayBegins 17 = .ok (.aload_n 0, 1) := by decide +kernel
theorem dX12_dayBegins_18 : decode cX12_dayBegins 18 = .ok (.getfield 7, 3) := by decide +kernel
theorem dX12_dayBegins_21 : decode cX12_dayBegins 21 = .ok (.iconst 0, 1) := by decide +kernel
theorem dX12_dayBegins_22 : decode cX12_dayBegins 22 = .ok (.iaload, 1) := by decide +kernel
theorem dX12_dayBegins_23 : decode cX12_dayBegins 23 = .ok (.if_icmp .ge 38, 3) := by decide +kernel
theorem dX12_dayBegins_26 : decode cX12_dayBegins 26 = .ok (.aload_n 0, 1) := by decide +kernel
theorem dX12_dayBegins_27 : decode cX12_dayBegins 27 = .ok (.getfield 87, 3) := by decide +kernel
theorem dX12_dayBegins_30 : decode cX12_dayBegins 30 = .ok (.iload_n 2, 1) := by decide +kernel
theorem dX12_dayBegins_31 : decode cX12_dayBegins 31 = .ok (.iload_n 3, 1) := by decide +kernel
theorem dX12_dayBegins_32 : decode cX12_dayBegins 32 = .ok (.invokestatic 335, 3) := by decide +kernel
theorem dX12_dayBegins_35 : decode cX12_dayBegins 35 = .ok (.iaload, 1) := by decide +kernel
theorem dX12_dayBegins_36 : decode cX12_dayBegins 36 = .ok (.ifCond .le 19, 3) := by decide +kernel
theorem dX12_dayBegins_39 : decode cX12_dayBegins 39 = .ok (.aload_n 0, 1) := by decide +kernel
theorem dX12_dayBegins_40 : decode cX12_dayBegins 40 = .ok (.getfield 87, 3) := by decide +kernel
theorem dX12_dayBegins_43 : decode cX12_dayBegins 43 = .ok (.iload_n 2, 1) := by decide +kernel
theorem dX12_dayBegins_44 : decode cX12_dayBegins 44 = .ok (.iload_n 3, 1) := by decide +kernel
theorem dX12_dayBegins_45 : decode cX12_dayBegins 45 = .ok (.invokestatic 335, 3) := by decide +kernel
theorem dX12_dayBegins_48 : decode cX12_dayBegins 48 = .ok (.aload_n 0, 1) := by decide +kernel
theorem dX12_dayBegins_49 : decode cX12_dayBegins 49 = .ok (.iload_n 2, 1) := by decide +kernel
theorem dX12_dayBegins_50 : decode cX12_dayBegins 50 = .ok (.iload_n 3, 1) := by decide +kernel
theorem dX12_dayBegins_51 : decode cX12_dayBegins 51 = .ok (.invokevirtual 381, 3) := by decide +kernel
theorem dX12_dayBegins_54 : decode cX12_dayBegins 54 = .ok (.iastore, 1) := by decide +kernel
theorem dX12_dayBegins_55 : decode cX12_dayBegins 55 = .ok (.iinc 3 1, 3) := by decide +kernel
theorem dX12_dayBegins_58 : decode cX12_dayBegins 58 = .ok (.goto (-42), 3) := by decide +kernel
theorem dX12_dayBegins_61 : decode cX12_dayBegins 61 = .ok (.iinc 2 1, 3) := by decide +kernel
theorem dX12_dayBegins_64 : decode cX12_dayBegins 64 = .ok (.goto (-60), 3) := by decide +kernel
theorem dX12_dayBegins_67 : decode cX12_dayBegins 67 = .ok (.iconst 0, 1) := by decide +kernel
theorem dX12_dayBegins_68 : decode cX12_dayBegins 68 = .ok (.istore_n 2, 1) := by decide +kernel
theorem dX12_dayBegins_69 : decode cX12_dayBegins 69 = .ok (.iload_n 2, 1) := by decide +kernel
theorem dX12_dayBegins_70 : decode cX12_dayBegins 70 = .ok (.aload_n 0, 1) := by decide +kernel
theorem dX12_dayBegins_71 : decode cX12_dayBegins 71 = .ok (.getfield 7, 3) := by decide +kernel
theorem dX12_dayBegins_74 : decode cX12_dayBegins 74 = .ok (.iconst 0, 1) := by decide +kernel
theorem dX12_dayBegins_75 : decode cX12_dayBegins 75 = .ok (.iaload, 1) := by decide +kernel
theorem dX12_dayBegins_76 : decode cX12_dayBegins 76 = .ok (.if_icmp .ge 148, 3) := by decide +kernel
theorem dX12_dayBegins_79 : decode cX12_dayBegins 79 = .ok (.aload_n 0, 1) := by decide +kernel
theorem dX12_dayBegins_80 : decode cX12_dayBegins 80 = .ok (.getfield 87, 3) := by decide +kernel
theorem dX12_dayBegins_83 : decode cX12_dayBegins 83 = .ok (.iconst 0, 1) := by decide +kernel
theorem dX12_dayBegins_84 : decode cX12_dayBegins 84 = .ok (.iload_n 2, 1) := by decide +kernel
theorem dX12_dayBegins_85 : decode cX12_dayBegins 85 = .ok (.iadd, 1) := by decide +kernel
theorem dX12_dayBegins_86 : decode cX12_dayBegins 86 = .ok (.aload_n 0, 1) := by decide +kernel
theorem dX12_dayBegins_87 : decode cX12_dayBegins 87 = .ok (.getfield 7, 3) := by decide +kernel
theorem dX12_dayBegins_90 : decode cX12_dayBegins 90 = .ok (.bipush 17, 2) := by decide +kernel
theorem dX12_dayBegins_92 : decode cX12_dayBegins 92 = .ok (.iload_n 2, 1) := by decide +kernel
theorem dX12_dayBegins_93 : decode cX12_dayBegins 93 = .ok (.iadd, 1) := by decide +kernel
theorem dX12_dayBegins_94 : decode cX12_dayBegins 94 = .ok (.iaload, 1) := by decide +kernel
theorem dX12_dayBegins_95 : decode cX12_dayBegins 95 = .ok (.iastore, 1) := by decide +kernel
theorem dX12_dayBegins_96 : decode cX12_dayBegins 96 = .ok (.aload_n 0, 1) := by decide +kernel
theorem dX12_dayBegins_97 : decode cX12_dayBegins 97 = .ok (.getfield 87, 3) := by decide +kernel
theorem dX12_dayBegins_100 : decode cX12_dayBegins 100 = .ok (.bipush 14, 2) := by decide +kernel
theorem dX12_dayBegins_102 : decode cX12_dayBegins 102 = .ok (.iload_n 2, 1) := by decide +kernel
theorem dX12_dayBegins_103 : decode cX12_dayBegins 103 = .ok (.iadd, 1) := by decide +kernel
theorem dX12_dayBegins_104 : decode cX12_dayBegins 104 = .ok (.aload_n 0, 1) := by decide +kernel
theorem dX12_dayBegins_105 : decode cX12_dayBegins 105 = .ok (.getfield 87, 3) := by decide +kernel
theorem dX12_dayBegins_108 : decode cX12_dayBegins 108 = .ok (.bipush 14, 2) := by decide +kernel
theorem dX12_dayBegins_110 : decode cX12_dayBegins 110 = .ok (.iload_n 2, 1) := by decide +kernel
theorem dX12_dayBegins_111 : decode cX12_dayBegins 111 = .ok (.iadd, 1) := by decide +kernel
theorem dX12_dayBegins_112 : decode cX12_dayBegins 112 = .ok (.iaload, 1) := by decide +kernel
theorem dX12_dayBegins_113 : decode cX12_dayBegins 113 = .ok (.ifCond .le 17, 3) := by decide +kernel
theorem dX12_dayBegins_116 : decode cX12_dayBegins 116 = .ok (.aload_n 0, 1) := by decide +kernel
theorem dX12_dayBegins_117 : decode cX12_dayBegins 117 = .ok (.getfield 87, 3) := by decide +kernel
theorem dX12_dayBegins_120 : decode cX12_dayBegins 120 = .ok (.bipush 14, 2) := by decide +kernel
theorem dX12_dayBegins_122 : decode cX12_dayBegins 122 = .ok (.iload_n 2, 1) := by decide +kernel
theorem dX12_dayBegins_123 : decode cX12_dayBegins 123 = .ok (.iadd, 1) := by decide +kernel
theorem dX12_dayBegins_124 : decode cX12_dayBegins 124 = .ok (.iaload, 1) := by decide +kernel
theorem dX12_dayBegins_125 : decode cX12_dayBegins 125 = .ok (.iconst 1, 1) := by decide +kernel
theorem dX12_dayBegins_126 : decode cX12_dayBegins 126 = .ok (.isub, 1) := by decide +kernel
theorem dX12_dayBegins_127 : decode cX12_dayBegins 127 = .ok (.goto 4, 3) := by decide +kernel
theorem dX12_dayBegins_130 : decode cX12_dayBegins 130 = .ok (.iconst 0, 1) := by decide +kernel
theorem dX12_dayBegins_131 : decode cX12_dayBegins 131 = .ok (.iastore, 1) := by decide +kernel
theorem dX12_dayBegins_132 : decode cX12_dayBegins 132 = .ok (.aload_n 0, 1) := by decide +kernel
theorem dX12_dayBegins_133 : decode cX12_dayBegins 133 = .ok (.iload_n 2, 1) := by decide +kernel
theorem dX12_dayBegins_134 : decode cX12_dayBegins 134 = .ok (.invokevirtual 384, 3) := by decide +kernel
theorem dX12_dayBegins_137 : decode cX12_dayBegins 137 = .ok (.istore_n 3, 1) := by decide +kernel
theorem dX12_dayBegins_138 : decode cX12_dayBegins 138 = .ok (.iload_n 3, 1) := by decide +kernel
theorem dX12_dayBegins_139 : decode cX12_dayBegins 139 = .ok (.aload_n 0, 1) := by decide +kernel
theorem dX12_dayBegins_140 : decode cX12_dayBegins 140 = .ok (.iload_n 2, 1) := by decide +kernel
theorem dX12_dayBegins_141 : decode cX12_dayBegins 141 = .ok (.invokevirtual 387, 3) := by decide +kernel
theorem dX12_dayBegins_144 : decode cX12_dayBegins 144 = .ok (.if_icmp .le 74, 3) := by decide +kernel
theorem dX12_dayBegins_147 : decode cX12_dayBegins 147 = .ok (.iconst 0, 1) := by decide +kernel
theorem dX12_dayBegins_148 : decode cX12_dayBegins 148 = .ok (.istore 4, 2) := by decide +kernel
theorem dX12_dayBegins_150 : decode cX12_dayBegins 150 = .ok (.iload 4, 2) := by decide +kernel
theorem dX12_dayBegins_152 : decode cX12_dayBegins 152 = .ok (.aload_n 0, 1) := by decide +kernel
theorem dX12_dayBegins_153 : decode cX12_dayBegins 153 = .ok (.getfield 7, 3) := by decide +kernel
theorem dX12_dayBegins_156 : decode cX12_dayBegins 156 = .ok (.iconst 0, 1) := by decide +kernel
theorem dX12_dayBegins_157 : decode cX12_dayBegins 157 = .ok (.iaload, 1) := by decide +kernel
theorem dX12_dayBegins_158 : decode cX12_dayBegins 158 = .ok (.if_icmp .ge 21, 3) := by decide +kernel
theorem dX12_dayBegins_161 : decode cX12_dayBegins 161 = .ok (.aload_n 0, 1) := by decide +kernel
theorem dX12_dayBegins_162 : decode cX12_dayBegins 162 = .ok (.getfield 87, 3) := by decide +kernel
theorem dX12_dayBegins_165 : decode cX12_dayBegins 165 = .ok (.iload_n 2, 1) := by decide +kernel
theorem dX12_dayBegins_166 : decode cX12_dayBegins 166 = .ok (.iload 4, 2) := by decide +kernel
theorem dX12_dayBegins_168 : decode cX12_dayBegins 168 = .ok (.invokestatic 335, 3) := by decide +kernel
theorem dX12_dayBegins_171 : decode cX12_dayBegins 171 = .ok (.iconst 0, 1) := by decide +kernel
theorem dX12_dayBegins_172 : decode cX12_dayBegins 172 = .ok (.iastore, 1) := by decide +kernel
theorem dX12_dayBegins_173 : decode cX12_dayBegins 173 = .ok (.iinc 4 1, 3) := by decide +kernel
theorem dX12_dayBegins_176 : decode cX12_dayBegins 176 = .ok (.goto (-26), 3) := by decide +kernel
theorem dX12_dayBegins_179 : decode cX12_dayBegins 179 = .ok (.aload_n 0, 1) := by decide +kernel
theorem dX12_dayBegins_180 : decode cX12_dayBegins 180 = .ok (.getfield 87, 3) := by decide +kernel
theorem dX12_dayBegins_183 : decode cX12_dayBegins 183 = .ok (.bipush 14, 2) := by decide +kernel
theorem dX12_dayBegins_185 : decode cX12_dayBegins 185 = .ok (.iload_n 2, 1) := by decide +kernel
theorem dX12_dayBegins_186 : decode cX12_dayBegins 186 = .ok (.iadd, 1) := by decide +kernel
theorem dX12_dayBegins_187 : decode cX12_dayBegins 187 = .ok (.iconst 3, 1) := by decide +kernel
theorem dX12_dayBegins_188 : decode cX12_dayBegins 188 = .ok (.iastore, 1) := by decide +kernel
theorem dX12_dayBegins_189 : decode cX12_dayBegins 189 = .ok (.aload_n 0, 1) := by decide +kernel
theorem dX12_dayBegins_190 : decode cX12_dayBegins 190 = .ok (.iload_n 2, 1) := by decide +kernel
theorem dX12_dayBegins_191 : decode cX12_dayBegins 191 = .ok (.iload_n 3, 1) := by decide +kernel
theorem dX12_dayBegins_192 : decode cX12_dayBegins 192 = .ok (.invokevirtual 390, 3) := by decide +kernel
theorem dX12_dayBegins_195 : decode cX12_dayBegins 195 = .ok (.aload_n 0, 1) := by decide +kernel
theorem dX12_dayBegins_196 : decode cX12_dayBegins 196 = .ok (.aload_n 0, 1) := by decide +kernel
theorem dX12_dayBegins_197 : decode cX12_dayBegins 197 = .ok (.getfield 393, 3) := by decide +kernel
theorem dX12_dayBegins_200 : decode cX12_dayBegins 200 = .ok (.iconst (-1), 1) := by decide +kernel
theorem dX12_dayBegins_201 : decode cX12_dayBegins 201 = .ok (.if_icmp .ne 7, 3) := by decide +kernel
theorem dX12_dayBegins_204 : decode cX12_dayBegins 204 = .ok (.iload_n 2, 1) := by decide +kernel
theorem dX12_dayBegins_205 : decode cX12_dayBegins 205 = .ok (.goto 7, 3) := by decide +kernel
theorem dX12_dayBegins_208 : decode cX12_dayBegins 208 = .ok (.aload_n 0, 1) := by decide +kernel
theorem dX12_dayBegins_209 : decode cX12_dayBegins 209 = .ok (.getfield 393, 3) := by decide +kernel
theorem dX12_dayBegins_212 : decode cX12_dayBegins 212 = .ok (.putfield 393, 3) := by decide +kernel
theorem dX12_dayBegins_215 : decode cX12_dayBegins 215 = .ok (.iinc 1 1, 3) := by decide +kernel
theorem dX12_dayBegins_218 : decode cX12_dayBegins 218 = .ok (.iinc 2 1, 3) := by decide +kernel
theorem dX12_dayBegins_221 : decode cX12_dayBegins 221 = .ok (.goto (-152), 3) := by decide +kernel
theorem dX12_dayBegins_224 : decode cX12_dayBegins 224 = .ok (.iload_n 1, 1) := by decide +kernel
theorem dX12_dayBegins_225 : decode cX12_dayBegins 225 = .ok (.ireturn, 1) := by decide +kernel
theorem dX12_hourPasses_0 : decode cX12_hourPasses 0 = .ok (.aload_n 0, 1) := by decide +kernel
theorem dX12_hourPasses_1 : decode cX12_hourPasses 1 = .ok (.getfield 87, 3) := by decide +kernel
theorem dX12_hourPasses_4 : decode cX12_hourPasses 4 = .ok (.bipush 71, 2) := by decide +kernel
theorem dX12_hourPasses_6 : decode cX12_hourPasses 6 = .ok (.dup2, 1) := by decide +kernel
theorem dX12_hourPasses_7 : decode cX12_hourPasses 7 = .ok (.iaload, 1) := by decide +kernel
theorem dX12_hourPasses_8 : decode cX12_hourPasses 8 = .ok (.iconst 1, 1) := by decide +kernel
theorem dX12_hourPasses_9 : decode cX12_hourPasses 9 = .ok (.iadd, 1) := by decide +kernel
theorem dX12_hourPasses_10 : decode cX12_hourPasses 10 = .ok (.iastore, 1) := by decide +kernel
theorem dX12_hourPasses_11 : decode cX12_hourPasses 11 = .ok (.aload_n 0, 1) := by decide +kernel
theorem dX12_hourPasses_12 : decode cX12_hourPasses 12 = .ok (.getfield 87, 3) := by decide +kernel
theorem dX12_hourPasses_15 : decode cX12_hourPasses 15 = .ok (.bipush 71, 2) := by decide +kernel
theorem dX12_hourPasses_17 : decode cX12_hourPasses 17 = .ok (.iaload, 1) := by decide +kernel
theorem dX12_hourPasses_18 : decode cX12_hourPasses 18 = .ok (.bipush 10, 2) := by decide +kernel
theorem dX12_hourPasses_20 : decode cX12_hourPasses 20 = .ok (.if_icmp .ge 5, 3) := by decide +kernel
theorem dX12_hourPasses_23 : decode cX12_hourPasses 23 = .ok (.iconst 0, 1) := by decide +kernel
theorem dX12_hourPasses_24 : decode cX12_hourPasses 24 = .ok (.ireturn, 1) := by decide +kernel
theorem dX12_hourPasses_25 : decode cX12_hourPasses 25 = .ok (.aload_n 0, 1) := by decide +kernel
theorem dX12_hourPasses_26 : decode cX12_hourPasses 26 = .ok (.getfield 87, 3) := by decide +kernel
theorem dX12_hourPasses_29 : decode cX12_hourPasses 29 = .ok (.bipush 71, 2) := by decide +kernel
theorem dX12_hourPasses_31 : decode cX12_hourPasses 31 = .ok (.iconst 0, 1) := by decide +kernel
theorem dX12_hourPasses_32 : decode cX12_hourPasses 32 = .ok (.iastore, 1) := by decide +kernel
theorem dX12_hourPasses_33 : decode cX12_hourPasses 33 = .ok (.aload_n 0, 1) := by decide +kernel
theorem dX12_hourPasses_34 : decode cX12_hourPasses 34 = .ok (.getfield 87, 3) := by decide +kernel
theorem dX12_hourPasses_37 : decode cX12_hourPasses 37 = .ok (.bipush 70, 2) := by decide +kernel
theorem dX12_hourPasses_39 : decode cX12_hourPasses 39 = .ok (.dup2, 1) := by decide +kernel
theorem dX12_hourPasses_40 : decode cX12_hourPasses 40 = .ok (.iaload, 1) := by decide +kernel
theorem dX12_hourPasses_41 : decode cX12_hourPasses 41 = .ok (.iconst 1, 1) := by decide +kernel
theorem dX12_hourPasses_42 : decode cX12_hourPasses 42 = .ok (.iadd, 1) := by decide +kernel
theorem dX12_hourPasses_43 : decode cX12_hourPasses 43 = .ok (.iastore, 1) := by decide +kernel
theorem dX12_hourPasses_44 : decode cX12_hourPasses 44 = .ok (.aload_n 0, 1) := by decide +kernel
theorem dX12_hourPasses_45 : decode cX12_hourPasses 45 = .ok (.invokevirtual 396, 3) := by decide +kernel
