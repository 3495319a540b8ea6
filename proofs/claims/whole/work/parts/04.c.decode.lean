theorem dX11_take_115 : decode cX11_take 115 = .ok (.aload_n 0, 1) := by decide +kernel
theorem dX11_take_116 : decode cX11_take 116 = .ok (.aload_n 0, 1) := by decide +kernel
theorem dX11_take_117 : decode cX11_take 117 = .ok (.getfield 127, 3) := by decide +kernel
theorem dX11_take_120 : decode cX11_take 120 = .ok (.aload_n 0, 1) := by decide +kernel
theorem dX11_take_121 : decode cX11_take 121 = .ok (.getfield 124, 3) := by decide +kernel
theorem dX11_take_124 : decode cX11_take 124 = .ok (.invokevirtual 137, 3) := by decide +kernel
theorem dX11_take_127 : decode cX11_take 127 = .ok (.putfield 141, 3) := by decide +kernel
theorem dX11_take_130 : decode cX11_take 130 = .ok (.aload_n 0, 1) := by decide +kernel
theorem dX11_take_131 : decode cX11_take 131 = .ok (.aload_n 0, 1) := by decide +kernel
theorem dX11_take_132 : decode cX11_take 132 = .ok (.getfield 141, 3) := by decide +kernel
theorem dX11_take_135 : decode cX11_take 135 = .ok (.ifCond .ge 7, 3) := by decide +kernel
theorem dX11_take_138 : decode cX11_take 138 = .ok (.iconst 4, 1) := by decide +kernel
theorem dX11_take_139 : decode cX11_take 139 = .ok (.goto 4, 3) := by decide +kernel
theorem dX11_take_142 : decode cX11_take 142 = .ok (.iconst 1, 1) := by decide +kernel
theorem dX11_take_143 : decode cX11_take 143 = .ok (.putfield 130, 3) := by decide +kernel
theorem dX11_take_146 : decode cX11_take 146 = .ok (.goto 148, 3) := by decide +kernel
theorem dX11_take_149 : decode cX11_take 149 = .ok (.aload_n 0, 1) := by decide +kernel
theorem dX11_take_150 : decode cX11_take 150 = .ok (.aload_n 0, 1) := by decide +kernel
theorem dX11_take_151 : decode cX11_take 151 = .ok (.getfield 124, 3) := by decide +kernel
theorem dX11_take_154 : decode cX11_take 154 = .ok (.invokevirtual 144, 3) := by decide +kernel
theorem dX11_take_157 : decode cX11_take 157 = .ok (.ifCond .eq 78, 3) := by decide +kernel
theorem dX11_take_160 : decode cX11_take 160 = .ok (.aload_n 0, 1) := by decide +kernel
theorem dX11_take_161 : decode cX11_take 161 = .ok (.iconst 2, 1) := by decide +kernel
theorem dX11_take_162 : decode cX11_take 162 = .ok (.putfield 130, 3) := by decide +kernel
theorem dX11_take_165 : decode cX11_take 165 = .ok (.aload_n 0, 1) := by decide +kernel
theorem dX11_take_166 : decode cX11_take 166 = .ok (.iconst 0, 1) := by decide +kernel
theorem dX11_take_167 : decode cX11_take 167 = .ok (.putfield 141, 3) := by decide +kernel
theorem dX11_take_170 : decode cX11_take 170 = .ok (.aload_n 0, 1) := by decide +kernel
theorem dX11_take_171 : decode cX11_take 171 = .ok (.aload_n 0, 1) := by decide +kernel
theorem dX11_take_172 : decode cX11_take 172 = .ok (.getfield 124, 3) := by decide +kernel
theorem dX11_take_175 : decode cX11_take 175 = .ok (.invokevirtual 144, 3) := by decide +kernel
theorem dX11_take_178 : decode cX11_take 178 = .ok (.ifCond .eq 116, 3) := by decide +kernel
theorem dX11_take_181 : decode cX11_take 181 = .ok (.aload_n 0, 1) := by decide +kernel
theorem dX11_take_182 : decode cX11_take 182 = .ok (.aload_n 0, 1) := by decide +kernel
theorem dX11_take_183 : decode cX11_take 183 = .ok (.getfield 141, 3) := by decide +kernel
theorem dX11_take_186 : decode cX11_take 186 = .ok (.sipush 1000, 3) := by decide +kernel
theorem dX11_take_189 : decode cX11_take 189 = .ok (.if_icmp .le 10, 3) := by decide +kernel
theorem dX11_take_192 : decode cX11_take 192 = .ok (.aload_n 0, 1) := by decide +kernel
theorem dX11_take_193 : decode cX11_take 193 = .ok (.getfield 141, 3) := by decide +kernel
theorem dX11_take_196 : decode cX11_take 196 = .ok (.goto 23, 3) := by decide +kernel
theorem dX11_take_199 : decode cX11_take 199 = .ok (.bipush 10, 2) := by decide +kernel
theorem dX11_take_201 : decode cX11_take 201 = .ok (.aload_n 0, 1) := by decide +kernel
theorem dX11_take_202 : decode cX11_take 202 = .ok (.getfield 141, 3) := by decide +kernel
theorem dX11_take_205 : decode cX11_take 205 = .ok (.imul, 1) := by decide +kernel
theorem dX11_take_206 : decode cX11_take 206 = .ok (.aload_n 0, 1) := by decide +kernel
theorem dX11_take_207 : decode cX11_take 207 = .ok (.getfield 7, 3) := by decide +kernel
theorem dX11_take_210 : decode cX11_take 210 = .ok (.aload_n 0, 1) := by decide +kernel
theorem dX11_take_211 : decode cX11_take 211 = .ok (.getfield 124, 3) := by decide +kernel
theorem dX11_take_214 : decode cX11_take 214 = .ok (.iaload, 1) := by decide +kernel
theorem dX11_take_215 : decode cX11_take 215 = .ok (.iadd, 1) := by decide +kernel
theorem dX11_take_216 : decode cX11_take 216 = .ok (.bipush 48, 2) := by decide +kernel
theorem dX11_take_218 : decode cX11_take 218 = .ok (.isub, 1) := by decide +kernel
theorem dX11_take_219 : decode cX11_take 219 = .ok (.putfield 141, 3) := by decide +kernel
theorem dX11_take_222 : decode cX11_take 222 = .ok (.aload_n 0, 1) := by decide +kernel
theorem dX11_take_223 : decode cX11_take 223 = .ok (.dup, 1) := by decide +kernel
theorem dX11_take_224 : decode cX11_take 224 = .ok (.getfield 124, 3) := by decide +kernel
theorem dX11_take_227 : decode cX11_take 227 = .ok (.iconst 1, 1) := by decide +kernel
theorem dX11_take_228 : decode cX11_take 228 = .ok (.iadd, 1) := by decide +kernel
theorem dX11_take_229 : decode cX11_take 229 = .ok (.putfield 124, 3) := by decide +kernel
theorem dX11_take_232 : decode cX11_take 232 = .ok (.goto (-62), 3) := by decide +kernel
theorem dX11_take_235 : decode cX11_take 235 = .ok (.aload_n 0, 1) := by decide +kernel
theorem dX11_take_236 : decode cX11_take 236 = .ok (.aload_n 0, 1) := by decide +kernel
theorem dX11_take_237 : decode cX11_take 237 = .ok (.getfield 7, 3) := by decide +kernel
theorem dX11_take_240 : decode cX11_take 240 = .ok (.aload_n 0, 1) := by decide +kernel
theorem dX11_take_241 : decode cX11_take 241 = .ok (.getfield 124, 3) := by decide +kernel
theorem dX11_take_244 : decode cX11_take 244 = .ok (.iaload, 1) := by decide +kernel
theorem dX11_take_245 : decode cX11_take 245 = .ok (.putfield 141, 3) := by decide +kernel
theorem dX11_take_248 : decode cX11_take 248 = .ok (.aload_n 0, 1) := by decide +kernel
theorem dX11_take_249 : decode cX11_take 249 = .ok (.dup, 1) := by decide +kernel
theorem dX11_take_250 : decode cX11_take 250 = .ok (.getfield 124, 3) := by decide +kernel
theorem dX11_take_253 : decode cX11_take 253 = .ok (.iconst 1, 1) := by decide +kernel
theorem dX11_take_254 : decode cX11_take 254 = .ok (.iadd, 1) := by decide +kernel
theorem dX11_take_255 : decode cX11_take 255 = .ok (.putfield 124, 3) := by decide +kernel
theorem dX11_take_258 : decode cX11_take 258 = .ok (.aload_n 0, 1) := by decide +kernel
theorem dX11_take_259 : decode cX11_take 259 = .ok (.aload_n 0, 1) := by decide +kernel
theorem dX11_take_260 : decode cX11_take 260 = .ok (.getfield 141, 3) := by decide +kernel
theorem dX11_take_263 : decode cX11_take 263 = .ok (.bipush 59, 2) := by decide +kernel
theorem dX11_take_265 : decode cX11_take 265 = .ok (.if_icmp .eq 21, 3) := by decide +kernel
theorem dX11_take_268 : decode cX11_take 268 = .ok (.aload_n 0, 1) := by decide +kernel
theorem dX11_take_269 : decode cX11_take 269 = .ok (.getfield 141, 3) := by decide +kernel
theorem dX11_take_272 : decode cX11_take 272 = .ok (.bipush 58, 2) := by decide +kernel
theorem dX11_take_274 : decode cX11_take 274 = .ok (.if_icmp .eq 12, 3) := by decide +kernel
theorem dX11_take_277 : decode cX11_take 277 = .ok (.aload_n 0, 1) := by decide +kernel
theorem dX11_take_278 : decode cX11_take 278 = .ok (.getfield 141, 3) := by decide +kernel
theorem dX11_take_281 : decode cX11_take 281 = .ok (.bipush 44, 2) := by decide +kernel
theorem dX11_take_283 : decode cX11_take 283 = .ok (.if_icmp .ne 7, 3) := by decide +kernel
theorem dX11_take_286 : decode cX11_take 286 = .ok (.iconst 3, 1) := by decide +kernel
theorem dX11_take_287 : decode cX11_take 287 = .ok (.goto 4, 3) := by decide +kernel
theorem dX11_take_290 : decode cX11_take 290 = .ok (.iconst 4, 1) := by decide +kernel
theorem dX11_take_291 : decode cX11_take 291 = .ok (.putfield 130, 3) := by decide +kernel
theorem dX11_take_294 : decode cX11_take 294 = .ok (.return_, 1) := by decide +kernel
theorem dX11_is_0 : decode cX11_is 0 = .ok (.aload_n 0, 1) := by decide +kernel
theorem dX11_is_1 : decode cX11_is 1 = .ok (.getfield 130, 3) := by decide +kernel
theorem dX11_is_4 : decode cX11_is 4 = .ok (.iload_n 1, 1) := by decide +kernel
theorem dX11_is_5 : decode cX11_is 5 = .ok (.if_icmp .ne 15, 3) := by decide +kernel
theorem dX11_is_8 : decode cX11_is 8 = .ok (.aload_n 0, 1) := by decide +kernel
theorem dX11_is_9 : decode cX11_is 9 = .ok (.getfield 141, 3) := by decide +kernel
theorem dX11_is_12 : decode cX11_is 12 = .ok (.iload_n 2, 1) := by decide +kernel
theorem dX11_is_13 : decode cX11_is 13 = .ok (.if_icmp .ne 7, 3) := by decide +kernel
theorem dX11_is_16 : decode cX11_is 16 = .ok (.iconst 1, 1) := by decide +kernel
theorem dX11_is_17 : decode cX11_is 17 = .ok (.goto 4, 3) := by decide +kernel
theorem dX11_is_20 : decode cX11_is 20 = .ok (.iconst 0, 1) := by decide +kernel
theorem dX11_is_21 : decode cX11_is 21 = .ok (.ireturn, 1) := by decide +kernel
theorem dX11_number_0 : decode cX11_number 0 = .ok (.aload_n 0, 1) := by decide +kernel
theorem dX11_number_1 : decode cX11_number 1 = .ok (.getfield 130, 3) := by decide +kernel
theorem dX11_number_4 : decode cX11_number 4 = .ok (.iconst 2, 1) := by decide +kernel
theorem dX11_number_5 : decode cX11_number 5 = .ok (.if_icmp .eq 13, 3) := by decide +kernel
theorem dX11_number_8 : decode cX11_number 8 = .ok (.aload_n 0, 1) := by decide +kernel
theorem dX11_number_9 : decode cX11_number 9 = .ok (.iconst 1, 1) := by decide +kernel
theorem dX11_number_10 : decode cX11_number 10 = .ok (.aload_n 0, 1) := by decide +kernel
theorem dX11_number_11 : decode cX11_number 11 = .ok (.getfield 127, 3) := by decide +kernel
theorem dX11_number_14 : decode cX11_number 14 = .ok (.invokevirtual 147, 3) := by decide +kernel
theorem dX11_number_17 : decode cX11_number 17 = .ok (.ireturn, 1) := by decide +kernel
theorem dX11_number_18 : decode cX11_number 18 = .ok (.aload_n 0, 1) := by decide +kernel
theorem dX11_number_19 : decode cX11_number 19 = .ok (.getfield 141, 3) := by decide +kernel
theorem dX11_number_22 : decode cX11_number 22 = .ok (.iload_n 1, 1) := by decide +kernel
theorem dX11_number_23 : decode cX11_number 23 = .ok (.if_icmp .le 13, 3) := by decide +kernel
theorem dX11_number_26 : decode cX11_number 26 = .ok (.aload_n 0, 1) := by decide +kernel
theorem dX11_number_27 : decode cX11_number 27 = .ok (.iconst 2, 1) := by decide +kernel
theorem dX11_number_28 : decode cX11_number 28 = .ok (.aload_n 0, 1) := by decide +kernel
theorem dX11_number_29 : decode cX11_number 29 = .ok (.getfield 127, 3) := by decide +kernel
theorem dX11_number_32 : decode cX11_number 32 = .ok (.invokevirtual 147, 3) := by decide +kernel
theorem dX11_number_35 : decode cX11_number 35 = .ok (.ireturn, 1) := by decide +kernel
theorem dX11_number_36 : decode cX11_number 36 = .ok (.aload_n 0, 1) := by decide +kernel
theorem dX11_number_37 : decode cX11_number 37 = .ok (.aload_n 0, 1) := by decide +kernel
theorem dX11_number_38 : decode cX11_number 38 = .ok (.getfield 141, 3) := by decide +kernel
theorem dX11_number_41 : decode cX11_number 41 = .ok (.putfield 151, 3) := by decide +kernel
theorem dX11_number_44 : decode cX11_number 44 = .ok (.aload_n 0, 1) := by decide +kernel
theorem dX11_number_45 : decode cX11_number 45 = .ok (.invokevirtual 154, 3) := by decide +kernel
theorem dX11_number_48 : decode cX11_number 48 = .ok (.iconst 1, 1) := by decide +kernel
theorem dX11_number_49 : decode cX11_number 49 = .ok (.ireturn, 1) := by decide +kernel
theorem dX11_classWord_0 : decode cX11_classWord 0 = .ok (.aload_n 0, 1) := by decide +kernel
theorem dX11_classWord_1 : decode cX11_classWord 1 = .ok (.getfield 130, 3) := by decide +kernel
theorem dX11_classWord_4 : decode cX11_classWord 4 = .ok (.iconst 1, 1) := by decide +kernel
theorem dX11_classWord_5 : decode cX11_classWord 5 = .ok (.if_icmp .ne 11, 3) := by decide +kernel
theorem dX11_classWord_8 : decode cX11_classWord 8 = .ok (.aload_n 0, 1) := by decide +kernel
theorem dX11_classWord_9 : decode cX11_classWord 9 = .ok (.getfield 141, 3) := by decide +kernel
theorem dX11_classWord_12 : decode cX11_classWord 12 = .ok (.iconst 3, 1) := by decide +kernel
theorem dX11_classWord_13 : decode cX11_classWord 13 = .ok (.if_icmp .le 13, 3) := by decide +kernel
theorem dX11_classWord_16 : decode cX11_classWord 16 = .ok (.aload_n 0, 1) := by decide +kernel
theorem dX11_classWord_17 : decode cX11_classWord 17 = .ok (.iconst 1, 1) := by decide +kernel
theorem dX11_classWord_18 : decode cX11_classWord 18 = .ok (.aload_n 0, 1) := by decide +kernel
theorem dX11_classWord_19 : decode cX11_classWord 19 = .ok (.getfield 127, 3) := by decide +kernel
theorem dX11_classWord_22 : decode cX11_classWord 22 = .ok (.invokevirtual 147, 3) := by decide +kernel
theorem dX11_classWord_25 : decode cX11_classWord 25 = .ok (.ireturn, 1) := by decide +kernel
theorem dX11_classWord_26 : decode cX11_classWord 26 = .ok (.aload_n 0, 1) := by decide +kernel
theorem dX11_classWord_27 : decode cX11_classWord 27 = .ok (.aload_n 0, 1) := by decide +kernel
theorem dX11_classWord_28 : decode cX11_classWord 28 = .ok (.getfield 141, 3) := by decide +kernel
theorem dX11_classWord_31 : decode cX11_classWord 31 = .ok (.putfield 151, 3) := by decide +kernel
theorem dX11_classWord_34 : decode cX11_classWord 34 = .ok (.aload_n 0, 1) := by decide +kernel
theorem dX11_classWord_35 : decode cX11_classWord 35 = .ok (.invokevirtual 154, 3) := by decide +kernel
theorem dX11_classWord_38 : decode cX11_classWord 38 = .ok (.iconst 1, 1) := by decide +kernel
theorem dX11_classWord_39 : decode cX11_classWord 39 = .ok (.ireturn, 1) := by decide +kernel
theorem dX11_seasons_0 : decode cX11_seasons 0 = .ok (.iconst 0, 1) := by decide +kernel
theorem dX11_seasons_1 : decode cX11_seasons 1 = .ok (.istore_n 2, 1) := by decide +kernel
theorem dX11_seasons_2 : decode cX11_seasons 2 = .ok (.iload_n 2, 1) := by decide +kernel
theorem dX11_seasons_3 : decode cX11_seasons 3 = .ok (.bipush 12, 2) := by decide +kernel
theorem dX11_seasons_5 : decode cX11_seasons 5 = .ok (.if_icmp .ge 95, 3) := by decide +kernel
theorem dX11_seasons_8 : decode cX11_seasons 8 = .ok (.iload_n 2, 1) := by decide +kernel
theorem dX11_seasons_9 : decode cX11_seasons 9 = .ok (.ifCond .le 30, 3) := by decide +kernel
theorem dX11_seasons_12 : decode cX11_seasons 12 = .ok (.aload_n 0, 1) := by decide +kernel
theorem dX11_seasons_13 : decode cX11_seasons 13 = .ok (.iconst 3, 1) := by decide +kernel
theorem dX11_seasons_14 : decode cX11_seasons 14 = .ok (.bipush 44, 2) := by decide +kernel
theorem dX11_seasons_16 : decode cX11_seasons 16 = .ok (.invokevirtual 157, 3) := by decide +kernel
theorem dX11_seasons_19 : decode cX11_seasons 19 = .ok (.ifCond .ne 13, 3) := by decide +kernel
theorem dX11_seasons_22 : decode cX11_seasons 22 = .ok (.aload_n 0, 1) := by decide +kernel
theorem dX11_seasons_23 : decode cX11_seasons 23 = .ok (.iconst 1, 1) := by decide +kernel
theorem dX11_seasons_24 : decode cX11_seasons 24 = .ok (.aload_n 0, 1) := by decide +kernel
theorem dX11_seasons_25 : decode cX11_seasons 25 = .ok (.getfield 127, 3) := by decide +kernel
theorem dX11_seasons_28 : decode cX11_seasons 28 = .ok (.invokevirtual 147, 3) := by decide +kernel
theorem dX11_seasons_31 : decode cX11_seasons 31 = .ok (.ireturn, 1) := by decide +kernel
theorem dX11_seasons_32 : decode cX11_seasons 32 = .ok (.aload_n 0, 1) := by decide +kernel
theorem dX11_seasons_33 : decode cX11_seasons 33 = .ok (.invokevirtual 154, 3) := by decide +kernel
theorem dX11_seasons_36 : decode cX11_seasons 36 = .ok (.goto 27, 3) := by decide +kernel
theorem dX11_seasons_39 : decode cX11_seasons 39 = .ok (.aload_n 0, 1) := by decide +kernel
theorem dX11_seasons_40 : decode cX11_seasons 40 = .ok (.iconst 3, 1) := by decide +kernel
theorem dX11_seasons_41 : decode cX11_seasons 41 = .ok (.bipush 58, 2) := by decide +kernel
theorem dX11_seasons_43 : decode cX11_seasons 43 = .ok (.invokevirtual 157, 3) := by decide +kernel
theorem dX11_seasons_46 : decode cX11_seasons 46 = .ok (.ifCond .ne 13, 3) := by decide +kernel
theorem dX11_seasons_49 : decode cX11_seasons 49 = .ok (.aload_n 0, 1) := by decide +kernel
theorem dX11_seasons_50 : decode cX11_seasons 50 = .ok (.iconst 1, 1) := by decide +kernel
theorem dX11_seasons_51 : decode cX11_seasons 51 = .ok (.aload_n 0, 1) := by decide +kernel
theorem dX11_seasons_52 : decode cX11_seasons 52 = .ok (.getfield 127, 3) := by decide +kernel
theorem dX11_seasons_55 : decode cX11_seasons 55 = .ok (.invokevirtual 147, 3) := by decide +kernel
theorem dX11_seasons_58 : decode cX11_seasons 58 = .ok (.ireturn, 1) := by decide +kernel
theorem dX11_seasons_59 : decode cX11_seasons 59 = .ok (.aload_n 0, 1) := by decide +kernel
theorem dX11_seasons_60 : decode cX11_seasons 60 = .ok (.invokevirtual 154, 3) := by decide +kernel
theorem dX11_seasons_63 : decode cX11_seasons 63 = .ok (.aload_n 0, 1) := by decide +kernel
theorem dX11_seasons_64 : decode cX11_seasons 64 = .ok (.sipush 1000, 3) := by decide +kernel
theorem dX11_seasons_67 : decode cX11_seasons 67 = .ok (.invokevirtual 160, 3) := by decide +kernel
theorem dX11_seasons_70 : decode cX11_seasons 70 = .ok (.ifCond .ne 5, 3) := by decide +kernel
theorem dX11_seasons_73 : decode cX11_seasons 73 = .ok (.iconst 0, 1) := by decide +kernel
theorem dX11_seasons_74 : decode cX11_seasons 74 = .ok (.ireturn, 1) := by decide +kernel
theorem dX11_seasons_75 : decode cX11_seasons 75 = .ok (.aload_n 0, 1) := by decide +kernel
theorem dX11_seasons_76 : decode cX11_seasons 76 = .ok (.getfield 32, 3) := by decide +kernel
theorem dX11_seasons_79 : decode cX11_seasons 79 = .ok (.sipush 480, 3) := by decide +kernel
theorem dX11_seasons_82 : decode cX11_seasons 82 = .ok (.bipush 12, 2) := by decide +kernel
theorem dX11_seasons_84 : decode cX11_seasons 84 = .ok (.iload_n 1, 1) := by decide +kernel
theorem dX11_seasons_85 : decode cX11_seasons 85 = .ok (.imul, 1) := by decide +kernel
theorem dX11_seasons_86 : decode cX11_seasons 86 = .ok (.iadd, 1) := by decide +kernel
theorem dX11_seasons_87 : decode cX11_seasons 87 = .ok (.iload_n 2, 1) := by decide +kernel
theorem dX11_seasons_88 : decode cX11_seasons 88 = .ok (.iadd, 1) := by decide +kernel
theorem dX11_seasons_89 : decode cX11_seasons 89 = .ok (.aload_n 0, 1) := by decide +kernel
theorem dX11_seasons_90 : decode cX11_seasons 90 = .ok (.getfield 151, 3) := by decide +kernel
theorem dX11_seasons_93 : decode cX11_seasons 93 = .ok (.iastore, 1) := by decide +kernel
theorem dX11_seasons_94 : decode cX11_seasons 94 = .ok (.iinc 2 1, 3) := by decide +kernel
theorem dX11_seasons_97 : decode cX11_seasons 97 = .ok (.goto (-95), 3) := by decide +kernel
theorem dX11_seasons_100 : decode cX11_seasons 100 = .ok (.aload_n 0, 1) := by decide +kernel
theorem dX11_seasons_101 : decode cX11_seasons 101 = .ok (.iconst 3, 1) := by decide +kernel
theorem dX11_seasons_102 : decode cX11_seasons 102 = .ok (.bipush 44, 2) := by decide +kernel
theorem dX11_seasons_104 : decode cX11_seasons 104 = .ok (.invokevirtual 157, 3) := by decide +kernel
theorem dX11_seasons_107 : decode cX11_seasons 107 = .ok (.ifCond .ne 5, 3) := by decide +kernel
theorem dX11_seasons_110 : decode cX11_seasons 110 = .ok (.iconst 1, 1) := by decide +kernel
theorem dX11_seasons_111 : decode cX11_seasons 111 = .ok (.ireturn, 1) := by decide +kernel
theorem dX11_seasons_112 : decode cX11_seasons 112 = .ok (.aload_n 0, 1) := by decide +kernel
theorem dX11_seasons_113 : decode cX11_seasons 113 = .ok (.invokevirtual 154, 3) := by decide +kernel
theorem dX11_seasons_116 : decode cX11_seasons 116 = .ok (.aload_n 0, 1) := by decide +kernel
theorem dX11_seasons_117 : decode cX11_seasons 117 = .ok (.getfield 130, 3) := by decide +kernel
theorem dX11_seasons_120 : decode cX11_seasons 120 = .ok (.iconst 2, 1) := by decide +kernel
theorem dX11_seasons_121 : decode cX11_seasons 121 = .ok (.if_icmp .ne 15, 3) := by decide +kernel
theorem dX11_seasons_124 : decode cX11_seasons 124 = .ok (.aload_n 0, 1) := by decide +kernel
theorem dX11_seasons_125 : decode cX11_seasons 125 = .ok (.iconst 2, 1) := by decide +kernel
theorem dX11_seasons_126 : decode cX11_seasons 126 = .ok (.aload_n 0, 1) := by decide +kernel
theorem dX11_seasons_127 : decode cX11_seasons 127 = .ok (.getfield 127, 3) := by decide +kernel
theorem dX11_seasons_130 : decode cX11_seasons 130 = .ok (.invokevirtual 147, 3) := by decide +kernel
theorem dX11_seasons_133 : decode cX11_seasons 133 = .ok (.goto 12, 3) := by decide +kernel
theorem dX11_seasons_136 : decode cX11_seasons 136 = .ok (.aload_n 0, 1) := by decide +kernel
theorem dX11_seasons_137 : decode cX11_seasons 137 = .ok (.iconst 1, 1) := by decide +kernel
theorem dX11_seasons_138 : decode cX11_seasons 138 = .ok (.aload_n 0, 1) := by decide +kernel
theorem dX11_seasons_139 : decode cX11_seasons 139 = .ok (.getfield 127, 3) := by decide +kernel
theorem dX11_seasons_142 : decode cX11_seasons 142 = .ok (.invokevirtual 147, 3) := by decide +kernel
theorem dX11_seasons_145 : decode cX11_seasons 145 = .ok (.ireturn, 1) := by decide +kernel
theorem dX11_line_0 : decode cX11_line 0 = .ok (.iconst 0, 1) := by decide +kernel
theorem dX11_line_1 : decode cX11_line 1 = .ok (.istore_n 2, 1) := by decide +kernel
theorem dX11_line_2 : decode cX11_line 2 = .ok (.iconst (-1), 1) := by decide +kernel
theorem dX11_line_3 : decode cX11_line 3 = .ok (.istore_n 3, 1) := by decide +kernel
theorem dX11_line_4 : decode cX11_line 4 = .ok (.iload_n 1, 1) := by decide +kernel
theorem dX11_line_5 : decode cX11_line 5 = .ok (.tableswitch 216 4 10 #[43, 69, 103, 216, 161, 181, 198], 43) := by decide +kernel
theorem dX11_line_48 : decode cX11_line 48 = .ok (.aload_n 0, 1) := by decide +kernel
theorem dX11_line_49 : decode cX11_line 49 = .ok (.invokevirtual 162, 3) := by decide +kernel
theorem dX11_line_52 : decode cX11_line 52 = .ok (.ifCond .ne 5, 3) := by decide +kernel
theorem dX11_line_55 : decode cX11_line 55 = .ok (.iconst 0, 1) := by decide +kernel
theorem dX11_line_56 : decode cX11_line 56 = .ok (.ireturn, 1) := by decide +kernel
theorem dX11_line_57 : decode cX11_line 57 = .ok (.aload_n 0, 1) := by decide +kernel
theorem dX11_line_58 : decode cX11_line 58 = .ok (.getfield 151, 3) := by decide +kernel
theorem dX11_line_61 : decode cX11_line 61 = .ok (.istore_n 3, 1) := by decide +kernel
theorem dX11_line_62 : decode cX11_line 62 = .ok (.aload_n 0, 1) := by decide +kernel
theorem dX11_line_63 : decode cX11_line 63 = .ok (.sipush 1000, 3) := by decide +kernel
theorem dX11_line_66 : decode cX11_line 66 = .ok (.invokevirtual 160, 3) := by decide +kernel
theorem dX11_line_69 : decode cX11_line 69 = .ok (.ifCond .ne 182, 3) := by decide +kernel
theorem dX11_line_72 : decode cX11_line 72 = .ok (.iconst 0, 1) := by decide +kernel
theorem dX11_line_73 : decode cX11_line 73 = .ok (.ireturn, 1) := by decide +kernel
theorem dX11_line_74 : decode cX11_line 74 = .ok (.aload_n 0, 1) := by decide +kernel
theorem dX11_line_75 : decode cX11_line 75 = .ok (.invokevirtual 162, 3) := by decide +kernel
theorem dX11_line_78 : decode cX11_line 78 = .ok (.ifCond .ne 5, 3) := by decide +kernel
theorem dX11_line_81 : decode cX11_line 81 = .ok (.iconst 0, 1) := by decide +kernel
theorem dX11_line_82 : decode cX11_line 82 = .ok (.ireturn, 1) := by decide +kernel
theorem dX11_line_83 : decode cX11_line 83 = .ok (.aload_n 0, 1) := by decide +kernel
theorem dX11_line_84 : decode cX11_line 84 = .ok (.getfield 151, 3) := by decide +kernel
theorem dX11_line_87 : decode cX11_line 87 = .ok (.istore 4, 2) := by decide +kernel
theorem dX11_line_89 : decode cX11_line 89 = .ok (.aload_n 0, 1) := by decide +kernel
theorem dX11_line_90 : decode cX11_line 90 = .ok (.iload 4, 2) := by decide +kernel
theorem dX11_line_92 : decode cX11_line 92 = .ok (.invokevirtual 166, 3) := by decide +kernel
theorem dX11_line_95 : decode cX11_line 95 = .ok (.ifCond .ne 5, 3) := by decide +kernel
theorem dX11_line_98 : decode cX11_line 98 = .ok (.iconst 0, 1) := by decide +kernel
theorem dX11_line_99 : decode cX11_line 99 = .ok (.ireturn, 1) := by decide +kernel
theorem dX11_line_100 : decode cX11_line 100 = .ok (.iconst 4, 1) := by decide +kernel
theorem dX11_line_101 : decode cX11_line 101 = .ok (.iload 4, 2) := by decide +kernel
theorem dX11_line_103 : decode cX11_line 103 = .ok (.iadd, 1) := by decide +kernel
theorem dX11_line_104 : decode cX11_line 104 = .ok (.istore_n 3, 1) := by decide +kernel
theorem dX11_line_105 : decode cX11_line 105 = .ok (.goto 146, 3) := by decide +kernel
theorem dX11_line_108 : decode cX11_line 108 = .ok (.aload_n 0, 1) := by decide +kernel
theorem dX11_line_109 : decode cX11_line 109 = .ok (.sipush 1000, 3) := by decide +kernel
theorem dX11_line_112 : decode cX11_line 112 = .ok (.invokevirtual 160, 3) := by decide +kernel
theorem dX11_line_115 : decode cX11_line 115 = .ok (.ifCond .ne 5, 3) := by decide +kernel
theorem dX11_line_118 : decode cX11_line 118 = .ok (.iconst 0, 1) := by decide +kernel
theorem dX11_line_119 : decode cX11_line 119 = .ok (.ireturn, 1) := by decide +kernel
theorem dX11_line_120 : decode cX11_line 120 = .ok (.aload_n 0, 1) := by decide +kernel
theorem dX11_line_121 : decode cX11_line 121 = .ok (.getfield 151, 3) := by decide +kernel
theorem dX11_line_124 : decode cX11_line 124 = .ok (.istore_n 2, 1) := by decide +kernel
theorem dX11_line_125 : decode cX11_line 125 = .ok (.aload_n 0, 1) := by decide +kernel
theorem dX11_line_126 : decode cX11_line 126 = .ok (.iconst 1, 1) := by decide +kernel
theorem dX11_line_127 : decode cX11_line 127 = .ok (.bipush 7, 2) := by decide +kernel
theorem dX11_line_129 : decode cX11_line 129 = .ok (.invokevirtual 157, 3) := by decide +kernel
theorem dX11_line_132 : decode cX11_line 132 = .ok (.ifCond .ne 13, 3) := by decide +kernel
theorem dX11_line_135 : decode cX11_line 135 = .ok (.aload_n 0, 1) := by decide +kernel
theorem dX11_line_136 : decode cX11_line 136 = .ok (.iconst 1, 1) := by decide +kernel
theorem dX11_line_137 : decode cX11_line 137 = .ok (.aload_n 0, 1) := by decide +kernel
theorem dX11_line_138 : decode cX11_line 138 = .ok (.getfield 127, 3) := by decide +kernel
theorem dX11_line_141 : decode cX11_line 141 = .ok (.invokevirtual 147, 3) := by decide +kernel
theorem dX11_line_144 : decode cX11_line 144 = .ok (.ireturn, 1) := by decide +kernel
theorem dX11_line_145 : decode cX11_line 145 = .ok (.aload_n 0, 1) := by decide +kernel
theorem dX11_line_146 : decode cX11_line 146 = .ok (.invokevirtual 154, 3) := by decide +kernel
theorem dX11_line_149 : decode cX11_line 149 = .ok (.aload_n 0, 1) := by decide +kernel
theorem dX11_line_150 : decode cX11_line 150 = .ok (.bipush 100, 2) := by decide +kernel
theorem dX11_line_152 : decode cX11_line 152 = .ok (.invokevirtual 160, 3) := by decide +kernel
theorem dX11_line_155 : decode cX11_line 155 = .ok (.ifCond .ne 5, 3) := by decide +kernel
theorem dX11_line_158 : decode cX11_line 158 = .ok (.iconst 0, 1) := by decide +kernel
theorem dX11_line_159 : decode cX11_line 159 = .ok (.ireturn, 1) := by decide +kernel
theorem dX11_line_160 : decode cX11_line 160 = .ok (.bipush 12, 2) := by decide +kernel
theorem dX11_line_162 : decode cX11_line 162 = .ok (.istore_n 3, 1) := by decide +kernel
theorem dX11_line_163 : decode cX11_line 163 = .ok (.goto 88, 3) := by decide +kernel
theorem dX11_line_166 : decode cX11_line 166 = .ok (.aload_n 0, 1) := by decide +kernel
theorem dX11_line_167 : decode cX11_line 167 = .ok (.invokevirtual 162, 3) := by decide +kernel
theorem dX11_line_170 : decode cX11_line 170 = .ok (.ifCond .ne 5, 3) := by decide +kernel
theorem dX11_line_173 : decode cX11_line 173 = .ok (.iconst 0, 1) := by decide +kernel
theorem dX11_line_174 : decode cX11_line 174 = .ok (.ireturn, 1) := by decide +kernel
theorem dX11_line_175 : decode cX11_line 175 = .ok (.bipush 8, 2) := by decide +kernel
theorem dX11_line_177 : decode cX11_line 177 = .ok (.aload_n 0, 1) := by decide +kernel
theorem dX11_line_178 : decode cX11_line 178 = .ok (.getfield 151, 3) := by decide +kernel
theorem dX11_line_181 : decode cX11_line 181 = .ok (.iadd, 1) := by decide +kernel
theorem dX11_line_182 : decode cX11_line 182 = .ok (.istore_n 3, 1) := by decide +kernel
theorem dX11_line_183 : decode cX11_line 183 = .ok (.goto 68, 3) := by decide +kernel
theorem dX11_line_186 : decode cX11_line 186 = .ok (.aload_n 0, 1) := by decide +kernel
theorem dX11_line_187 : decode cX11_line 187 = .ok (.bipush 100, 2) := by decide +kernel
theorem dX11_line_189 : decode cX11_line 189 = .ok (.invokevirtual 160, 3) := by decide +kernel
theorem dX11_line_192 : decode cX11_line 192 = .ok (.ifCond .ne 5, 3) := by decide +kernel
theorem dX11_line_195 : decode cX11_line 195 = .ok (.iconst 0, 1) := by decide +kernel
theorem dX11_line_196 : decode cX11_line 196 = .ok (.ireturn, 1) := by decide +kernel
theorem dX11_line_197 : decode cX11_line 197 = .ok (.bipush 13, 2) := by decide +kernel
theorem dX11_line_199 : decode cX11_line 199 = .ok (.istore_n 3, 1) := by decide +kernel
theorem dX11_line_200 : decode cX11_line 200 = .ok (.goto 51, 3) := by decide +kernel
theorem dX11_line_203 : decode cX11_line 203 = .ok (.aload_n 0, 1) := by decide +kernel
theorem dX11_line_204 : decode cX11_line 204 = .ok (.sipush 1000, 3) := by decide +kernel
theorem dX11_line_207 : decode cX11_line 207 = .ok (.invokevirtual 160, 3) := by decide +kernel
theorem dX11_line_210 : decode cX11_line 210 = .ok (.ifCond .ne 5, 3) := by decide +kernel
theorem dX11_line_213 : decode cX11_line 213 = .ok (.iconst 0, 1) := by decide +kernel
theorem dX11_line_214 : decode cX11_line 214 = .ok (.ireturn, 1) := by decide +kernel
theorem dX11_line_215 : decode cX11_line 215 = .ok (.bipush 14, 2) := by decide +kernel
theorem dX11_line_217 : decode cX11_line 217 = .ok (.istore_n 3, 1) := by decide +kernel
theorem dX11_line_218 : decode cX11_line 218 = .ok (.goto 33, 3) := by decide +kernel
theorem dX11_line_221 : decode cX11_line 221 = .ok (.aload_n 0, 1) := by decide +kernel
theorem dX11_line_222 : decode cX11_line 222 = .ok (.iconst 2, 1) := by decide +kernel
theorem dX11_line_223 : decode cX11_line 223 = .ok (.invokevirtual 160, 3) := by decide +kernel
theorem dX11_line_226 : decode cX11_line 226 = .ok (.ifCond .ne 5, 3) := by decide +kernel
theorem dX11_line_229 : decode cX11_line 229 = .ok (.iconst 0, 1) := by decide +kernel
theorem dX11_line_230 : decode cX11_line 230 = .ok (.ireturn, 1) := by decide +kernel
theorem dX11_line_231 : decode cX11_line 231 = .ok (.bipush 15, 2) := by decide +kernel
theorem dX11_line_233 : decode cX11_line 233 = .ok (.aload_n 0, 1) := by decide +kernel
theorem dX11_line_234 : decode cX11_line 234 = .ok (.getfield 151, 3) := by decide +kernel
theorem dX11_line_237 : decode cX11_line 237 = .ok (.iadd, 1) := by decide +kernel
theorem dX11_line_238 : decode cX11_line 238 = .ok (.istore_n 3, 1) := by decide +kernel
theorem dX11_line_239 : decode cX11_line 239 = .ok (.aload_n 0, 1) := by decide +kernel
theorem dX11_line_240 : decode cX11_line 240 = .ok (.sipush 1000, 3) := by decide +kernel
theorem dX11_line_243 : decode cX11_line 243 = .ok (.invokevirtual 160, 3) := by decide +kernel
theorem dX11_line_246 : decode cX11_line 246 = .ok (.ifCond .ne 5, 3) := by decide +kernel
theorem dX11_line_249 : decode cX11_line 249 = .ok (.iconst 0, 1) := by decide +kernel
theorem dX11_line_250 : decode cX11_line 250 = .ok (.ireturn, 1) := by decide +kernel
theorem dX11_line_251 : decode cX11_line 251 = .ok (.aload_n 0, 1) := by decide +kernel
theorem dX11_line_252 : decode cX11_line 252 = .ok (.iload_n 3, 1) := by decide +kernel
theorem dX11_line_253 : decode cX11_line 253 = .ok (.putfield 169, 3) := by decide +kernel
theorem dX11_line_256 : decode cX11_line 256 = .ok (.aload_n 0, 1) := by decide +kernel
theorem dX11_line_257 : decode cX11_line 257 = .ok (.iload_n 3, 1) := by decide +kernel
theorem dX11_line_258 : decode cX11_line 258 = .ok (.bipush 12, 2) := by decide +kernel
theorem dX11_line_260 : decode cX11_line 260 = .ok (.if_icmp .ne 7, 3) := by decide +kernel
theorem dX11_line_263 : decode cX11_line 263 = .ok (.iload_n 2, 1) := by decide +kernel
theorem dX11_line_264 : decode cX11_line 264 = .ok (.goto 7, 3) := by decide +kernel
theorem dX11_line_267 : decode cX11_line 267 = .ok (.aload_n 0, 1) := by decide +kernel
theorem dX11_line_268 : decode cX11_line 268 = .ok (.getfield 151, 3) := by decide +kernel
theorem dX11_line_271 : decode cX11_line 271 = .ok (.putfield 172, 3) := by decide +kernel
theorem dX11_line_274 : decode cX11_line 274 = .ok (.aload_n 0, 1) := by decide +kernel
theorem dX11_line_275 : decode cX11_line 275 = .ok (.aload_n 0, 1) := by decide +kernel
theorem dX11_line_276 : decode cX11_line 276 = .ok (.getfield 151, 3) := by decide +kernel
theorem dX11_line_279 : decode cX11_line 279 = .ok (.putfield 175, 3) := by decide +kernel
theorem dX11_line_282 : decode cX11_line 282 = .ok (.iconst 1, 1) := by decide +kernel
theorem dX11_line_283 : decode cX11_line 283 = .ok (.ireturn, 1) := by decide +kernel
theorem dX11_text_0 : decode cX11_text 0 = .ok (.iconst 0, 1) := by decide +kernel
theorem dX11_text_1 : decode cX11_text 1 = .ok (.istore_n 1, 1) := by decide +kernel
theorem dX11_text_2 : decode cX11_text 2 = .ok (.iload_n 1, 1) := by decide +kernel
theorem dX11_text_3 : decode cX11_text 3 = .ok (.bipush 18, 2) := by decide +kernel
theorem dX11_text_5 : decode cX11_text 5 = .ok (.if_icmp .ge 20, 3) := by decide +kernel
theorem dX11_text_8 : decode cX11_text 8 = .ok (.aload_n 0, 1) := by decide +kernel
theorem dX11_text_9 : decode cX11_text 9 = .ok (.getfield 22, 3) := by decide +kernel
theorem dX11_text_12 : decode cX11_text 12 = .ok (.sipush 180, 3) := by decide +kernel
theorem dX11_text_15 : decode cX11_text 15 = .ok (.iload_n 1, 1) := by decide +kernel
theorem dX11_text_16 : decode cX11_text 16 = .ok (.iadd, 1) := by decide +kernel
theorem dX11_text_17 : decode cX11_text 17 = .ok (.iconst 0, 1) := by decide +kernel
theorem dX11_text_18 : decode cX11_text 18 = .ok (.bastore, 1) := by decide +kernel
theorem dX11_text_19 : decode cX11_text 19 = .ok (.iinc 1 1, 3) := by decide +kernel
theorem dX11_text_22 : decode cX11_text 22 = .ok (.goto (-20), 3) := by decide +kernel
theorem dX11_text_25 : decode cX11_text 25 = .ok (.aload_n 0, 1) := by decide +kernel
theorem dX11_text_26 : decode cX11_text 26 = .ok (.getfield 35, 3) := by decide +kernel
theorem dX11_text_29 : decode cX11_text 29 = .ok (.bipush 10, 2) := by decide +kernel
theorem dX11_text_31 : decode cX11_text 31 = .ok (.iconst 0, 1) := by decide +kernel
theorem dX11_text_32 : decode cX11_text 32 = .ok (.iastore, 1) := by decide +kernel
theorem dX11_text_33 : decode cX11_text 33 = .ok (.aload_n 0, 1) := by decide +kernel
theorem dX11_text_34 : decode cX11_text 34 = .ok (.iconst 0, 1) := by decide +kernel
theorem dX11_text_35 : decode cX11_text 35 = .ok (.putfield 124, 3) := by decide +kernel
theorem dX11_text_38 : decode cX11_text 38 = .ok (.aload_n 0, 1) := by decide +kernel
theorem dX11_text_39 : decode cX11_text 39 = .ok (.invokevirtual 154, 3) := by decide +kernel
theorem dX11_text_42 : decode cX11_text 42 = .ok (.aload_n 0, 1) := by decide +kernel
theorem dX11_text_43 : decode cX11_text 43 = .ok (.getfield 130, 3) := by decide +kernel
theorem dX11_text_46 : decode cX11_text 46 = .ok (.ifCond .eq 184, 3) := by decide +kernel
theorem dX11_text_49 : decode cX11_text 49 = .ok (.aload_n 0, 1) := by decide +kernel
theorem dX11_text_50 : decode cX11_text 50 = .ok (.getfield 130, 3) := by decide +kernel
theorem dX11_text_53 : decode cX11_text 53 = .ok (.iconst 1, 1) := by decide +kernel
theorem dX11_text_54 : decode cX11_text 54 = .ok (.if_icmp .ne 24, 3) := by decide +kernel
theorem dX11_text_57 : decode cX11_text 57 = .ok (.aload_n 0, 1) := by decide +kernel
theorem dX11_text_58 : decode cX11_text 58 = .ok (.getfield 141, 3) := by decide +kernel
theorem dX11_text_61 : decode cX11_text 61 = .ok (.iconst 4, 1) := by decide +kernel
theorem dX11_text_62 : decode cX11_text 62 = .ok (.if_icmp .lt 16, 3) := by decide +kernel
theorem dX11_text_65 : decode cX11_text 65 = .ok (.aload_n 0, 1) := by decide +kernel
theorem dX11_text_66 : decode cX11_text 66 = .ok (.getfield 141, 3) := by decide +kernel
theorem dX11_text_69 : decode cX11_text 69 = .ok (.bipush 7, 2) := by decide +kernel
theorem dX11_text_71 : decode cX11_text 71 = .ok (.if_icmp .eq 7, 3) := by decide +kernel
theorem dX11_text_74 : decode cX11_text 74 = .ok (.iconst 1, 1) := by decide +kernel
theorem dX11_text_75 : decode cX11_text 75 = .ok (.goto 4, 3) := by decide +kernel
theorem dX11_text_78 : decode cX11_text 78 = .ok (.iconst 0, 1) := by decide +kernel
theorem dX11_text_79 : decode cX11_text 79 = .ok (.istore_n 1, 1) := by decide +kernel
theorem dX11_text_80 : decode cX11_text 80 = .ok (.iload_n 1, 1) := by decide +kernel
theorem dX11_text_81 : decode cX11_text 81 = .ok (.ifCond .ne 13, 3) := by decide +kernel
theorem dX11_text_84 : decode cX11_text 84 = .ok (.aload_n 0, 1) := by decide +kernel
theorem dX11_text_85 : decode cX11_text 85 = .ok (.iconst 1, 1) := by decide +kernel
theorem dX11_text_86 : decode cX11_text 86 = .ok (.aload_n 0, 1) := by decide +kernel
theorem dX11_text_87 : decode cX11_text 87 = .ok (.getfield 127, 3) := by decide +kernel
theorem dX11_text_90 : decode cX11_text 90 = .ok (.invokevirtual 147, 3) := by decide +kernel
theorem dX11_text_93 : decode cX11_text 93 = .ok (.ireturn, 1) := by decide +kernel
theorem dX11_text_94 : decode cX11_text 94 = .ok (.aload_n 0, 1) := by decide +kernel
theorem dX11_text_95 : decode cX11_text 95 = .ok (.getfield 127, 3) := by decide +kernel
theorem dX11_text_98 : decode cX11_text 98 = .ok (.istore_n 2, 1) := by decide +kernel
theorem dX11_text_99 : decode cX11_text 99 = .ok (.aload_n 0, 1) := by decide +kernel
theorem dX11_text_100 : decode cX11_text 100 = .ok (.getfield 141, 3) := by decide +kernel
theorem dX11_text_103 : decode cX11_text 103 = .ok (.istore_n 3, 1) := by decide +kernel
theorem dX11_text_104 : decode cX11_text 104 = .ok (.aload_n 0, 1) := by decide +kernel
theorem dX11_text_105 : decode cX11_text 105 = .ok (.invokevirtual 154, 3) := by decide +kernel
theorem dX11_text_108 : decode cX11_text 108 = .ok (.aload_n 0, 1) := by decide +kernel
theorem dX11_text_109 : decode cX11_text 109 = .ok (.iload_n 3, 1) := by decide +kernel
theorem dX11_text_110 : decode cX11_text 110 = .ok (.invokevirtual 178, 3) := by decide +kernel
theorem dX11_text_113 : decode cX11_text 113 = .ok (.ifCond .ne 5, 3) := by decide +kernel
theorem dX11_text_116 : decode cX11_text 116 = .ok (.iconst 0, 1) := by decide +kernel
theorem dX11_text_117 : decode cX11_text 117 = .ok (.ireturn, 1) := by decide +kernel
theorem dX11_text_118 : decode cX11_text 118 = .ok (.aload_n 0, 1) := by decide +kernel
theorem dX11_text_119 : decode cX11_text 119 = .ok (.getfield 22, 3) := by decide +kernel
theorem dX11_text_122 : decode cX11_text 122 = .ok (.sipush 180, 3) := by decide +kernel
theorem dX11_text_125 : decode cX11_text 125 = .ok (.aload_n 0, 1) := by decide +kernel
theorem dX11_text_126 : decode cX11_text 126 = .ok (.getfield 169, 3) := by decide +kernel
theorem dX11_text_129 : decode cX11_text 129 = .ok (.iadd, 1) := by decide +kernel
theorem dX11_text_130 : decode cX11_text 130 = .ok (.baload, 1) := by decide +kernel
theorem dX11_text_131 : decode cX11_text 131 = .ok (.ifCond .eq 10, 3) := by decide +kernel
theorem dX11_text_134 : decode cX11_text 134 = .ok (.aload_n 0, 1) := by decide +kernel
theorem dX11_text_135 : decode cX11_text 135 = .ok (.iconst 3, 1) := by decide +kernel
theorem dX11_text_136 : decode cX11_text 136 = .ok (.iload_n 2, 1) := by decide +kernel
theorem dX11_text_137 : decode cX11_text 137 = .ok (.invokevirtual 147, 3) := by decide +kernel
theorem dX11_text_140 : decode cX11_text 140 = .ok (.ireturn, 1) := by decide +kernel
theorem dX11_text_141 : decode cX11_text 141 = .ok (.aload_n 0, 1) := by decide +kernel
theorem dX11_text_142 : decode cX11_text 142 = .ok (.getfield 22, 3) := by decide +kernel
theorem dX11_text_145 : decode cX11_text 145 = .ok (.sipush 180, 3) := by decide +kernel
theorem dX11_text_148 : decode cX11_text 148 = .ok (.aload_n 0, 1) := by decide +kernel
theorem dX11_text_149 : decode cX11_text 149 = .ok (.getfield 169, 3) := by decide +kernel
theorem dX11_text_152 : decode cX11_text 152 = .ok (.iadd, 1) := by decide +kernel
theorem dX11_text_153 : decode cX11_text 153 = .ok (.iconst 1, 1) := by decide +kernel
theorem dX11_text_154 : decode cX11_text 154 = .ok (.bastore, 1) := by decide +kernel
theorem dX11_text_155 : decode cX11_text 155 = .ok (.aload_n 0, 1) := by decide +kernel
theorem dX11_text_156 : decode cX11_text 156 = .ok (.getfield 26, 3) := by decide +kernel
theorem dX11_text_159 : decode cX11_text 159 = .ok (.sipush 180, 3) := by decide +kernel
theorem dX11_text_162 : decode cX11_text 162 = .ok (.aload_n 0, 1) := by decide +kernel
theorem dX11_text_163 : decode cX11_text 163 = .ok (.getfield 169, 3) := by decide +kernel
theorem dX11_text_166 : decode cX11_text 166 = .ok (.iadd, 1) := by decide +kernel
theorem dX11_text_167 : decode cX11_text 167 = .ok (.aload_n 0, 1) := by decide +kernel
theorem dX11_text_168 : decode cX11_text 168 = .ok (.getfield 172, 3) := by decide +kernel
theorem dX11_text_171 : decode cX11_text 171 = .ok (.iastore, 1) := by decide +kernel
theorem dX11_text_172 : decode cX11_text 172 = .ok (.aload_n 0, 1) := by decide +kernel
theorem dX11_text_173 : decode cX11_text 173 = .ok (.getfield 169, 3) := by decide +kernel
theorem dX11_text_176 : decode cX11_text 176 = .ok (.bipush 12, 2) := by decide +kernel
theorem dX11_text_178 : decode cX11_text 178 = .ok (.if_icmp .ne 14, 3) := by decide +kernel
theorem dX11_text_181 : decode cX11_text 181 = .ok (.aload_n 0, 1) := by decide +kernel
theorem dX11_text_182 : decode cX11_text 182 = .ok (.getfield 29, 3) := by decide +kernel
theorem dX11_text_185 : decode cX11_text 185 = .ok (.bipush 10, 2) := by decide +kernel
theorem dX11_text_187 : decode cX11_text 187 = .ok (.aload_n 0, 1) := by decide +kernel
theorem dX11_text_188 : decode cX11_text 188 = .ok (.getfield 175, 3) := by decide +kernel
theorem dX11_text_191 : decode cX11_text 191 = .ok (.iastore, 1) := by decide +kernel
theorem dX11_text_192 : decode cX11_text 192 = .ok (.aload_n 0, 1) := by decide +kernel
theorem dX11_text_193 : decode cX11_text 193 = .ok (.getfield 35, 3) := by decide +kernel
theorem dX11_text_196 : decode cX11_text 196 = .ok (.bipush 10, 2) := by decide +kernel
theorem dX11_text_198 : decode cX11_text 198 = .ok (.dup2, 1) := by decide +kernel
theorem dX11_text_199 : decode cX11_text 199 = .ok (.iaload, 1) := by decide +kernel
theorem dX11_text_200 : decode cX11_text 200 = .ok (.iconst 1, 1) := by decide +kernel
theorem dX11_text_201 : decode cX11_text 201 = .ok (.iadd, 1) := by decide +kernel
theorem dX11_text_202 : decode cX11_text 202 = .ok (.iastore, 1) := by decide +kernel
theorem dX11_text_203 : decode cX11_text 203 = .ok (.aload_n 0, 1) := by decide +kernel
theorem dX11_text_204 : decode cX11_text 204 = .ok (.iconst 3, 1) := by decide +kernel
theorem dX11_text_205 : decode cX11_text 205 = .ok (.bipush 59, 2) := by decide +kernel
theorem dX11_text_207 : decode cX11_text 207 = .ok (.invokevirtual 157, 3) := by decide +kernel
theorem dX11_text_210 : decode cX11_text 210 = .ok (.ifCond .ne 13, 3) := by decide +kernel
theorem dX11_text_213 : decode cX11_text 213 = .ok (.aload_n 0, 1) := by decide +kernel
theorem dX11_text_214 : decode cX11_text 214 = .ok (.iconst 1, 1) := by decide +kernel
theorem dX11_text_215 : decode cX11_text 215 = .ok (.aload_n 0, 1) := by decide +kernel
theorem dX11_text_216 : decode cX11_text 216 = .ok (.getfield 127, 3) := by decide +kernel
theorem dX11_text_219 : decode cX11_text 219 = .ok (.invokevirtual 147, 3) := by decide +kernel
theorem dX11_text_222 : decode cX11_text 222 = .ok (.ireturn, 1) := by decide +kernel
theorem dX11_text_223 : decode cX11_text 223 = .ok (.aload_n 0, 1) := by decide +kernel
theorem dX11_text_224 : decode cX11_text 224 = .ok (.invokevirtual 154, 3) := by decide +kernel
theorem dX11_text_227 : decode cX11_text 227 = .ok (.goto (-185), 3) := by decide +kernel
theorem dX11_text_230 : decode cX11_text 230 = .ok (.iconst 1, 1) := by decide +kernel
theorem dX11_text_231 : decode cX11_text 231 = .ok (.ireturn, 1) := by decide +kernel
theorem dX11_isDay_0 : decode cX11_isDay 0 = .ok (.iload_n 0, 1) := by decide +kernel
theorem dX11_isDay_1 : decode cX11_isDay 1 = .ok (.ifCond .lt 14, 3) := by decide +kernel
theorem dX11_isDay_4 : decode cX11_isDay 4 = .ok (.iload_n 0, 1) := by decide +kernel
theorem dX11_isDay_5 : decode cX11_isDay 5 = .ok (.sipush 720, 3) := by decide +kernel
theorem dX11_isDay_8 : decode cX11_isDay 8 = .ok (.if_icmp .ge 7, 3) := by decide +kernel
theorem dX11_isDay_11 : decode cX11_isDay 11 = .ok (.iconst 1, 1) := by decide +kernel
theorem dX11_isDay_12 : decode cX11_isDay 12 = .ok (.goto 4, 3) := by decide +kernel
theorem dX11_isDay_15 : decode cX11_isDay 15 = .ok (.iconst 0, 1) := by decide +kernel
theorem dX11_isDay_16 : decode cX11_isDay 16 = .ok (.ireturn, 1) := by decide +kernel
theorem dX11_vote_0 : decode cX11_vote 0 = .ok (.aload_n 0, 1) := by decide +kernel
theorem dX11_vote_1 : decode cX11_vote 1 = .ok (.iconst 0, 1) := by decide +kernel
theorem dX11_vote_2 : decode cX11_vote 2 = .ok (.putfield 112, 3) := by decide +kernel
theorem dX11_vote_5 : decode cX11_vote 5 = .ok (.iload_n 1, 1) := by decide +kernel
theorem dX11_vote_6 : decode cX11_vote 6 = .ok (.ifCond .lt 27, 3) := by decide +kernel
theorem dX11_vote_9 : decode cX11_vote 9 = .ok (.iload_n 1, 1) := by decide +kernel
theorem dX11_vote_10 : decode cX11_vote 10 = .ok (.aload_n 0, 1) := by decide +kernel
theorem dX11_vote_11 : decode cX11_vote 11 = .ok (.getfield 115, 3) := by decide +kernel
theorem dX11_vote_14 : decode cX11_vote 14 = .ok (.if_icmp .gt 19, 3) := by decide +kernel
theorem dX11_vote_17 : decode cX11_vote 17 = .ok (.iload_n 2, 1) := by decide +kernel
theorem dX11_vote_18 : decode cX11_vote 18 = .ok (.invokestatic 181, 3) := by decide +kernel
theorem dX11_vote_21 : decode cX11_vote 21 = .ok (.ifCond .eq 12, 3) := by decide +kernel
theorem dX11_vote_24 : decode cX11_vote 24 = .ok (.aload_n 0, 1) := by decide +kernel
theorem dX11_vote_25 : decode cX11_vote 25 = .ok (.getfield 184, 3) := by decide +kernel
theorem dX11_vote_28 : decode cX11_vote 28 = .ok (.bipush 10, 2) := by decide +kernel
theorem dX11_vote_30 : decode cX11_vote 30 = .ok (.if_icmp .ne 6, 3) := by decide +kernel
theorem dX11_vote_33 : decode cX11_vote 33 = .ok (.bipush (-2), 2) := by decide +kernel
theorem dX11_vote_35 : decode cX11_vote 35 = .ok (.ireturn, 1) := by decide +kernel
theorem dX11_vote_36 : decode cX11_vote 36 = .ok (.aload_n 0, 1) := by decide +kernel
theorem dX11_vote_37 : decode cX11_vote 37 = .ok (.iload_n 1, 1) := by decide +kernel
theorem dX11_vote_38 : decode cX11_vote 38 = .ok (.putfield 121, 3) := by decide +kernel
theorem dX11_vote_41 : decode cX11_vote 41 = .ok (.aload_n 0, 1) := by decide +kernel
theorem dX11_vote_42 : decode cX11_vote 42 = .ok (.iconst 0, 1) := by decide +kernel
theorem dX11_vote_43 : decode cX11_vote 43 = .ok (.putfield 115, 3) := by decide +kernel
theorem dX11_vote_46 : decode cX11_vote 46 = .ok (.aload_n 0, 1) := by decide +kernel
theorem dX11_vote_47 : decode cX11_vote 47 = .ok (.iconst 0, 1) := by decide +kernel
theorem dX11_vote_48 : decode cX11_vote 48 = .ok (.putfield 118, 3) := by decide +kernel
theorem dX11_vote_51 : decode cX11_vote 51 = .ok (.aload_n 0, 1) := by decide +kernel
theorem dX11_vote_52 : decode cX11_vote 52 = .ok (.iconst (-1), 1) := by decide +kernel
theorem dX11_vote_53 : decode cX11_vote 53 = .ok (.putfield 38, 3) := by decide +kernel
theorem dX11_vote_56 : decode cX11_vote 56 = .ok (.aload_n 0, 1) := by decide +kernel
theorem dX11_vote_57 : decode cX11_vote 57 = .ok (.invokevirtual 187, 3) := by decide +kernel
theorem dX11_vote_60 : decode cX11_vote 60 = .ok (.ifCond .ne 5, 3) := by decide +kernel
theorem dX11_vote_63 : decode cX11_vote 63 = .ok (.iconst (-1), 1) := by decide +kernel
theorem dX11_vote_64 : decode cX11_vote 64 = .ok (.ireturn, 1) := by decide +kernel
theorem dX11_vote_65 : decode cX11_vote 65 = .ok (.iconst 0, 1) := by decide +kernel
theorem dX11_vote_66 : decode cX11_vote 66 = .ok (.istore_n 3, 1) := by decide +kernel
theorem dX11_vote_67 : decode cX11_vote 67 = .ok (.iload_n 3, 1) := by decide +kernel
theorem dX11_vote_68 : decode cX11_vote 68 = .ok (.bipush 18, 2) := by decide +kernel
theorem dX11_vote_70 : decode cX11_vote 70 = .ok (.if_icmp .ge 57, 3) := by decide +kernel
theorem dX11_vote_73 : decode cX11_vote 73 = .ok (.aload_n 0, 1) := by decide +kernel
theorem dX11_vote_74 : decode cX11_vote 74 = .ok (.getfield 22, 3) := by decide +kernel
theorem dX11_vote_77 : decode cX11_vote 77 = .ok (.bipush 18, 2) := by decide +kernel
theorem dX11_vote_79 : decode cX11_vote 79 = .ok (.aload_n 0, 1) := by decide +kernel
theorem dX11_vote_80 : decode cX11_vote 80 = .ok (.getfield 184, 3) := by decide +kernel
theorem dX11_vote_83 : decode cX11_vote 83 = .ok (.imul, 1) := by decide +kernel
theorem dX11_vote_84 : decode cX11_vote 84 = .ok (.iload_n 3, 1) := by decide +kernel
theorem dX11_vote_85 : decode cX11_vote 85 = .ok (.iadd, 1) := by decide +kernel
theorem dX11_vote_86 : decode cX11_vote 86 = .ok (.aload_n 0, 1) := by decide +kernel
theorem dX11_vote_87 : decode cX11_vote 87 = .ok (.getfield 22, 3) := by decide +kernel
theorem dX11_vote_90 : decode cX11_vote 90 = .ok (.sipush 180, 3) := by decide +kernel
theorem dX11_vote_93 : decode cX11_vote 93 = .ok (.iload_n 3, 1) := by decide +kernel
theorem dX11_vote_94 : decode cX11_vote 94 = .ok (.iadd, 1) := by decide +kernel
theorem dX11_vote_95 : decode cX11_vote 95 = .ok (.baload, 1) := by decide +kernel
theorem dX11_vote_96 : decode cX11_vote 96 = .ok (.bastore, 1) := by decide +kernel
theorem dX11_vote_97 : decode cX11_vote 97 = .ok (.aload_n 0, 1) := by decide +kernel
theorem dX11_vote_98 : decode cX11_vote 98 = .ok (.getfield 26, 3) := by decide +kernel
theorem dX11_vote_101 : decode cX11_vote 101 = .ok (.bipush 18, 2) := by decide +kernel
theorem dX11_vote_103 : decode cX11_vote 103 = .ok (.aload_n 0, 1) := by decide +kernel
theorem dX11_vote_104 : decode cX11_vote 104 = .ok (.getfield 184, 3) := by decide +kernel
theorem dX11_vote_107 : decode cX11_vote 107 = .ok (.imul, 1) := by decide +kernel
theorem dX11_vote_108 : decode cX11_vote 108 = .ok (.iload_n 3, 1) := by decide +kernel
theorem dX11_vote_109 : decode cX11_vote 109 = .ok (.iadd, 1) := by decide +kernel
theorem dX11_vote_110 : decode cX11_vote 110 = .ok (.aload_n 0, 1) := by decide +kernel
theorem dX11_vote_111 : decode cX11_vote 111 = .ok (.getfield 26, 3) := by decide +kernel
theorem dX11_vote_114 : decode cX11_vote 114 = .ok (.sipush 180, 3) := by decide +kernel
theorem dX11_vote_117 : decode cX11_vote 117 = .ok (.iload_n 3, 1) := by decide +kernel
theorem dX11_vote_118 : decode cX11_vote 118 = .ok (.iadd, 1) := by decide +kernel
theorem dX11_vote_119 : decode cX11_vote 119 = .ok (.iaload, 1) := by decide +kernel
theorem dX11_vote_120 : decode cX11_vote 120 = .ok (.iastore, 1) := by decide +kernel
theorem dX11_vote_121 : decode cX11_vote 121 = .ok (.iinc 3 1, 3) := by decide +kernel
theorem dX11_vote_124 : decode cX11_vote 124 = .ok (.goto (-57), 3) := by decide +kernel
theorem dX11_vote_127 : decode cX11_vote 127 = .ok (.iconst 0, 1) := by decide +kernel
theorem dX11_vote_128 : decode cX11_vote 128 = .ok (.istore_n 3, 1) := by decide +kernel
theorem dX11_vote_129 : decode cX11_vote 129 = .ok (.iload_n 3, 1) := by decide +kernel
theorem dX11_vote_130 : decode cX11_vote 130 = .ok (.bipush 48, 2) := by decide +kernel
theorem dX11_vote_132 : decode cX11_vote 132 = .ok (.if_icmp .ge 33, 3) := by decide +kernel
theorem dX11_vote_135 : decode cX11_vote 135 = .ok (.aload_n 0, 1) := by decide +kernel
theorem dX11_vote_136 : decode cX11_vote 136 = .ok (.getfield 32, 3) := by decide +kernel
theorem dX11_vote_139 : decode cX11_vote 139 = .ok (.bipush 48, 2) := by decide +kernel
theorem dX11_vote_141 : decode cX11_vote 141 = .ok (.aload_n 0, 1) := by decide +kernel
theorem dX11_vote_142 : decode cX11_vote 142 = .ok (.getfield 184, 3) := by decide +kernel
theorem dX11_vote_145 : decode cX11_vote 145 = .ok (.imul, 1) := by decide +kernel
theorem dX11_vote_146 : decode cX11_vote 146 = .ok (.iload_n 3, 1) := by decide +kernel
theorem dX11_vote_147 : decode cX11_vote 147 = .ok (.iadd, 1) := by decide +kernel
theorem dX11_vote_148 : decode cX11_vote 148 = .ok (.aload_n 0, 1) := by decide +kernel
theorem dX11_vote_149 : decode cX11_vote 149 = .ok (.getfield 32, 3) := by decide +kernel
theorem dX11_vote_152 : decode cX11_vote 152 = .ok (.sipush 480, 3) := by decide +kernel
theorem dX11_vote_155 : decode cX11_vote 155 = .ok (.iload_n 3, 1) := by decide +kernel
theorem dX11_vote_156 : decode cX11_vote 156 = .ok (.iadd, 1) := by decide +kernel
theorem dX11_vote_157 : decode cX11_vote 157 = .ok (.iaload, 1) := by decide +kernel
theorem dX11_vote_158 : decode cX11_vote 158 = .ok (.iastore, 1) := by decide +kernel
theorem dX11_vote_159 : decode cX11_vote 159 = .ok (.iinc 3 1, 3) := by decide +kernel
theorem dX11_vote_162 : decode cX11_vote 162 = .ok (.goto (-33), 3) := by decide +kernel
theorem dX11_vote_165 : decode cX11_vote 165 = .ok (.aload_n 0, 1) := by decide +kernel
theorem dX11_vote_166 : decode cX11_vote 166 = .ok (.getfield 29, 3) := by decide +kernel
theorem dX11_vote_169 : decode cX11_vote 169 = .ok (.aload_n 0, 1) := by decide +kernel
theorem dX11_vote_170 : decode cX11_vote 170 = .ok (.getfield 184, 3) := by decide +kernel
theorem dX11_vote_173 : decode cX11_vote 173 = .ok (.aload_n 0, 1) := by decide +kernel
theorem dX11_vote_174 : decode cX11_vote 174 = .ok (.getfield 29, 3) := by decide +kernel
theorem dX11_vote_177 : decode cX11_vote 177 = .ok (.bipush 10, 2) := by decide +kernel
theorem dX11_vote_179 : decode cX11_vote 179 = .ok (.iaload, 1) := by decide +kernel
theorem dX11_vote_180 : decode cX11_vote 180 = .ok (.iastore, 1) := by decide +kernel
theorem dX11_vote_181 : decode cX11_vote 181 = .ok (.aload_n 0, 1) := by decide +kernel
theorem dX11_vote_182 : decode cX11_vote 182 = .ok (.getfield 35, 3) := by decide +kernel
theorem dX11_vote_185 : decode cX11_vote 185 = .ok (.aload_n 0, 1) := by decide +kernel
theorem dX11_vote_186 : decode cX11_vote 186 = .ok (.getfield 184, 3) := by decide +kernel
theorem dX11_vote_189 : decode cX11_vote 189 = .ok (.aload_n 0, 1) := by decide +kernel
theorem dX11_vote_190 : decode cX11_vote 190 = .ok (.getfield 35, 3) := by decide +kernel
theorem dX11_vote_193 : decode cX11_vote 193 = .ok (.bipush 10, 2) := by decide +kernel
theorem dX11_vote_195 : decode cX11_vote 195 = .ok (.iaload, 1) := by decide +kernel
theorem dX11_vote_196 : decode cX11_vote 196 = .ok (.iastore, 1) := by decide +kernel
theorem dX11_vote_197 : decode cX11_vote 197 = .ok (.aload_n 0, 1) := by decide +kernel
theorem dX11_vote_198 : decode cX11_vote 198 = .ok (.getfield 13, 3) := by decide +kernel
theorem dX11_vote_201 : decode cX11_vote 201 = .ok (.aload_n 0, 1) := by decide +kernel
theorem dX11_vote_202 : decode cX11_vote 202 = .ok (.getfield 184, 3) := by decide +kernel
theorem dX11_vote_205 : decode cX11_vote 205 = .ok (.iload_n 2, 1) := by decide +kernel
theorem dX11_vote_206 : decode cX11_vote 206 = .ok (.iastore, 1) := by decide +kernel
theorem dX11_vote_207 : decode cX11_vote 207 = .ok (.aload_n 0, 1) := by decide +kernel
theorem dX11_vote_208 : decode cX11_vote 208 = .ok (.getfield 16, 3) := by decide +kernel
theorem dX11_vote_211 : decode cX11_vote 211 = .ok (.aload_n 0, 1) := by decide +kernel
theorem dX11_vote_212 : decode cX11_vote 212 = .ok (.getfield 184, 3) := by decide +kernel
theorem dX11_vote_215 : decode cX11_vote 215 = .ok (.aload_n 0, 1) := by decide +kernel
theorem dX11_vote_216 : decode cX11_vote 216 = .ok (.getfield 190, 3) := by decide +kernel
theorem dX11_vote_219 : decode cX11_vote 219 = .ok (.iastore, 1) := by decide +kernel
theorem dX11_vote_220 : decode cX11_vote 220 = .ok (.aload_n 0, 1) := by decide +kernel
theorem dX11_vote_221 : decode cX11_vote 221 = .ok (.getfield 19, 3) := by decide +kernel
theorem dX11_vote_224 : decode cX11_vote 224 = .ok (.aload_n 0, 1) := by decide +kernel
theorem dX11_vote_225 : decode cX11_vote 225 = .ok (.getfield 184, 3) := by decide +kernel
theorem dX11_vote_228 : decode cX11_vote 228 = .ok (.iconst (-1), 1) := by decide +kernel
theorem dX11_vote_229 : decode cX11_vote 229 = .ok (.iastore, 1) := by decide +kernel
theorem dX11_vote_230 : decode cX11_vote 230 = .ok (.aload_n 0, 1) := by decide +kernel
theorem dX11_vote_231 : decode cX11_vote 231 = .ok (.dup, 1) := by decide +kernel
theorem dX11_vote_232 : decode cX11_vote 232 = .ok (.getfield 184, 3) := by decide +kernel
theorem dX11_vote_235 : decode cX11_vote 235 = .ok (.iconst 1, 1) := by decide +kernel
theorem dX11_vote_236 : decode cX11_vote 236 = .ok (.iadd, 1) := by decide +kernel
theorem dX11_vote_237 : decode cX11_vote 237 = .ok (.putfield 184, 3) := by decide +kernel
theorem dX11_vote_240 : decode cX11_vote 240 = .ok (.aload_n 0, 1) := by decide +kernel
theorem dX11_vote_241 : decode cX11_vote 241 = .ok (.getfield 184, 3) := by decide +kernel
theorem dX11_vote_244 : decode cX11_vote 244 = .ok (.iconst 1, 1) := by decide +kernel
theorem dX11_vote_245 : decode cX11_vote 245 = .ok (.isub, 1) := by decide +kernel
theorem dX11_vote_246 : decode cX11_vote 246 = .ok (.ireturn, 1) := by decide +kernel
theorem dX11_fault_0 : decode cX11_fault 0 = .ok (.aload_n 0, 1) := by decide +kernel
theorem dX11_fault_1 : decode cX11_fault 1 = .ok (.iconst 0, 1) := by decide +kernel
theorem dX11_fault_2 : decode cX11_fault 2 = .ok (.putfield 112, 3) := by decide +kernel
theorem dX11_fault_5 : decode cX11_fault 5 = .ok (.iload_n 1, 1) := by decide +kernel
theorem dX11_fault_6 : decode cX11_fault 6 = .ok (.ifCond .ne 10, 3) := by decide +kernel
theorem dX11_fault_9 : decode cX11_fault 9 = .ok (.aload_n 0, 1) := by decide +kernel
theorem dX11_fault_10 : decode cX11_fault 10 = .ok (.getfield 118, 3) := by decide +kernel
theorem dX11_fault_13 : decode cX11_fault 13 = .ok (.goto 16, 3) := by decide +kernel
theorem dX11_fault_16 : decode cX11_fault 16 = .ok (.iload_n 1, 1) := by decide +kernel
theorem dX11_fault_17 : decode cX11_fault 17 = .ok (.iconst 1, 1) := by decide +kernel
theorem dX11_fault_18 : decode cX11_fault 18 = .ok (.if_icmp .ne 10, 3) := by decide +kernel
theorem dX11_fault_21 : decode cX11_fault 21 = .ok (.aload_n 0, 1) := by decide +kernel
theorem dX11_fault_22 : decode cX11_fault 22 = .ok (.getfield 38, 3) := by decide +kernel
theorem dX11_fault_25 : decode cX11_fault 25 = .ok (.goto 4, 3) := by decide +kernel
theorem dX11_fault_28 : decode cX11_fault 28 = .ok (.iconst (-1), 1) := by decide +kernel
theorem dX11_fault_29 : decode cX11_fault 29 = .ok (.ireturn, 1) := by decide +kernel
theorem dX11_undo_0 : decode cX11_undo 0 = .ok (.aload_n 0, 1) := by decide +kernel
theorem dX11_undo_1 : decode cX11_undo 1 = .ok (.iconst 0, 1) := by decide +kernel
theorem dX11_undo_2 : decode cX11_undo 2 = .ok (.putfield 112, 3) := by decide +kernel
theorem dX11_undo_5 : decode cX11_undo 5 = .ok (.iload_n 1, 1) := by decide +kernel
theorem dX11_undo_6 : decode cX11_undo 6 = .ok (.ifCond .lt 20, 3) := by decide +kernel
theorem dX11_undo_9 : decode cX11_undo 9 = .ok (.iload_n 1, 1) := by decide +kernel
theorem dX11_undo_10 : decode cX11_undo 10 = .ok (.aload_n 0, 1) := by decide +kernel
theorem dX11_undo_11 : decode cX11_undo 11 = .ok (.getfield 184, 3) := by decide +kernel
theorem dX11_undo_14 : decode cX11_undo 14 = .ok (.if_icmp .ge 12, 3) := by decide +kernel
theorem dX11_undo_17 : decode cX11_undo 17 = .ok (.aload_n 0, 1) := by decide +kernel
theorem dX11_undo_18 : decode cX11_undo 18 = .ok (.getfield 19, 3) := by decide +kernel
theorem dX11_undo_21 : decode cX11_undo 21 = .ok (.iload_n 1, 1) := by decide +kernel
theorem dX11_undo_22 : decode cX11_undo 22 = .ok (.iaload, 1) := by decide +kernel
theorem dX11_undo_23 : decode cX11_undo 23 = .ok (.ifCond .lt 5, 3) := by decide +kernel
theorem dX11_undo_26 : decode cX11_undo 26 = .ok (.iconst 0, 1) := by decide +kernel
theorem dX11_undo_27 : decode cX11_undo 27 = .ok (.ireturn, 1) := by decide +kernel
theorem dX11_undo_28 : decode cX11_undo 28 = .ok (.aload_n 0, 1) := by decide +kernel
theorem dX11_undo_29 : decode cX11_undo 29 = .ok (.getfield 19, 3) := by decide +kernel
theorem dX11_undo_32 : decode cX11_undo 32 = .ok (.iload_n 1, 1) := by decide +kernel
theorem dX11_undo_33 : decode cX11_undo 33 = .ok (.aload_n 0, 1) := by decide +kernel
theorem dX11_undo_34 : decode cX11_undo 34 = .ok (.getfield 190, 3) := by decide +kernel
theorem dX11_undo_37 : decode cX11_undo 37 = .ok (.iastore, 1) := by decide +kernel
theorem dX11_undo_38 : decode cX11_undo 38 = .ok (.iconst 1, 1) := by decide +kernel
theorem dX11_undo_39 : decode cX11_undo 39 = .ok (.ireturn, 1) := by decide +kernel
theorem dX11_pass_0 : decode cX11_pass 0 = .ok (.aload_n 0, 1) := by decide +kernel
theorem dX11_pass_1 : decode cX11_pass 1 = .ok (.iconst 0, 1) := by decide +kernel
theorem dX11_pass_2 : decode cX11_pass 2 = .ok (.putfield 112, 3) := by decide +kernel
theorem dX11_pass_5 : decode cX11_pass 5 = .ok (.iload_n 1, 1) := by decide +kernel
theorem dX11_pass_6 : decode cX11_pass 6 = .ok (.ifCond .lt 22, 3) := by decide +kernel
theorem dX11_pass_9 : decode cX11_pass 9 = .ok (.iload_n 1, 1) := by decide +kernel
theorem dX11_pass_10 : decode cX11_pass 10 = .ok (.sipush 720, 3) := by decide +kernel
theorem dX11_pass_13 : decode cX11_pass 13 = .ok (.if_icmp .gt 15, 3) := by decide +kernel
theorem dX11_pass_16 : decode cX11_pass 16 = .ok (.aload_n 0, 1) := by decide +kernel
theorem dX11_pass_17 : decode cX11_pass 17 = .ok (.getfield 190, 3) := by decide +kernel
theorem dX11_pass_20 : decode cX11_pass 20 = .ok (.iload_n 1, 1) := by decide +kernel
theorem dX11_pass_21 : decode cX11_pass 21 = .ok (.iadd, 1) := by decide +kernel
theorem dX11_pass_22 : decode cX11_pass 22 = .ok (.sipush 719, 3) := by decide +kernel
theorem dX11_pass_25 : decode cX11_pass 25 = .ok (.if_icmp .le 5, 3) := by decide +kernel
theorem dX11_pass_28 : decode cX11_pass 28 = .ok (.iconst (-1), 1) := by decide +kernel
theorem dX11_pass_29 : decode cX11_pass 29 = .ok (.ireturn, 1) := by decide +kernel
theorem dX11_pass_30 : decode cX11_pass 30 = .ok (.aload_n 0, 1) := by decide +kernel
theorem dX11_pass_31 : decode cX11_pass 31 = .ok (.dup, 1) := by decide +kernel
theorem dX11_pass_32 : decode cX11_pass 32 = .ok (.getfield 190, 3) := by decide +kernel
theorem dX11_pass_35 : decode cX11_pass 35 = .ok (.iload_n 1, 1) := by decide +kernel
theorem dX11_pass_36 : decode cX11_pass 36 = .ok (.iadd, 1) := by decide +kernel
theorem dX11_pass_37 : decode cX11_pass 37 = .ok (.putfield 190, 3) := by decide +kernel
theorem dX11_pass_40 : decode cX11_pass 40 = .ok (.aload_n 0, 1) := by decide +kernel
theorem dX11_pass_41 : decode cX11_pass 41 = .ok (.getfield 190, 3) := by decide +kernel
theorem dX11_pass_44 : decode cX11_pass 44 = .ok (.ireturn, 1) := by decide +kernel
theorem dX11_farm_0 : decode cX11_farm 0 = .ok (.aload_n 0, 1) := by decide +kernel
theorem dX11_farm_1 : decode cX11_farm 1 = .ok (.iconst 0, 1) := by decide +kernel
theorem dX11_farm_2 : decode cX11_farm 2 = .ok (.putfield 112, 3) := by decide +kernel
theorem dX11_farm_5 : decode cX11_farm 5 = .ok (.iload_n 1, 1) := by decide +kernel
theorem dX11_farm_6 : decode cX11_farm 6 = .ok (.ifCond .lt 18, 3) := by decide +kernel
theorem dX11_farm_9 : decode cX11_farm 9 = .ok (.iload_n 1, 1) := by decide +kernel
theorem dX11_farm_10 : decode cX11_farm 10 = .ok (.bipush 9, 2) := by decide +kernel
theorem dX11_farm_12 : decode cX11_farm 12 = .ok (.if_icmp .gt 12, 3) := by decide +kernel
theorem dX11_farm_15 : decode cX11_farm 15 = .ok (.aload_n 0, 1) := by decide +kernel
theorem dX11_farm_16 : decode cX11_farm 16 = .ok (.getfield 193, 3) := by decide +kernel
theorem dX11_farm_19 : decode cX11_farm 19 = .ok (.bipush 12, 2) := by decide +kernel
theorem dX11_farm_21 : decode cX11_farm 21 = .ok (.if_icmp .ne 5, 3) := by decide +kernel
theorem dX11_farm_24 : decode cX11_farm 24 = .ok (.iconst (-1), 1) := by decide +kernel
theorem dX11_farm_25 : decode cX11_farm 25 = .ok (.ireturn, 1) := by decide +kernel
theorem dX11_farm_26 : decode cX11_farm 26 = .ok (.aload_n 0, 1) := by decide +kernel
theorem dX11_farm_27 : decode cX11_farm 27 = .ok (.getfield 42, 3) := by decide +kernel
theorem dX11_farm_30 : decode cX11_farm 30 = .ok (.aload_n 0, 1) := by decide +kernel
theorem dX11_farm_31 : decode cX11_farm 31 = .ok (.getfield 193, 3) := by decide +kernel
theorem dX11_farm_34 : decode cX11_farm 34 = .ok (.iload_n 1, 1) := by decide +kernel
theorem dX11_farm_35 : decode cX11_farm 35 = .ok (.iastore, 1) := by decide +kernel
theorem dX11_farm_36 : decode cX11_farm 36 = .ok (.aload_n 0, 1) := by decide +kernel
theorem dX11_farm_37 : decode cX11_farm 37 = .ok (.getfield 45, 3) := by decide +kernel
theorem dX11_farm_40 : decode cX11_farm 40 = .ok (.aload_n 0, 1) := by decide +kernel
theorem dX11_farm_41 : decode cX11_farm 41 = .ok (.getfield 193, 3) := by decide +kernel
theorem dX11_farm_44 : decode cX11_farm 44 = .ok (.aload_n 0, 1) := by decide +kernel
theorem dX11_farm_45 : decode cX11_farm 45 = .ok (.getfield 190, 3) := by decide +kernel
theorem dX11_farm_48 : decode cX11_farm 48 = .ok (.iastore, 1) := by decide +kernel
theorem dX11_farm_49 : decode cX11_farm 49 = .ok (.aload_n 0, 1) := by decide +kernel
theorem dX11_farm_50 : decode cX11_farm 50 = .ok (.dup, 1) := by decide +kernel
theorem dX11_farm_51 : decode cX11_farm 51 = .ok (.getfield 193, 3) := by decide +kernel
theorem dX11_farm_54 : decode cX11_farm 54 = .ok (.iconst 1, 1) := by decide +kernel
theorem dX11_farm_55 : decode cX11_farm 55 = .ok (.iadd, 1) := by decide +kernel
theorem dX11_farm_56 : decode cX11_farm 56 = .ok (.putfield 193, 3) := by decide +kernel
theorem dX11_farm_59 : decode cX11_farm 59 = .ok (.aload_n 0, 1) := by decide +kernel
theorem dX11_farm_60 : decode cX11_farm 60 = .ok (.getfield 193, 3) := by decide +kernel
theorem dX11_farm_63 : decode cX11_farm 63 = .ok (.iconst 1, 1) := by decide +kernel
theorem dX11_farm_64 : decode cX11_farm 64 = .ok (.isub, 1) := by decide +kernel
theorem dX11_farm_65 : decode cX11_farm 65 = .ok (.ireturn, 1) := by decide +kernel
theorem dX11_isFarm_0 : decode cX11_isFarm 0 = .ok (.iload_n 1, 1) := by decide +kernel
theorem dX11_isFarm_1 : decode cX11_isFarm 1 = .ok (.ifCond .lt 15, 3) := by decide +kernel
theorem dX11_isFarm_4 : decode cX11_isFarm 4 = .ok (.iload_n 1, 1) := by decide +kernel
theorem dX11_isFarm_5 : decode cX11_isFarm 5 = .ok (.aload_n 0, 1) := by decide +kernel
theorem dX11_isFarm_6 : decode cX11_isFarm 6 = .ok (.getfield 193, 3) := by decide +kernel
theorem dX11_isFarm_9 : decode cX11_isFarm 9 = .ok (.if_icmp .ge 7, 3) := by decide +kernel
theorem dX11_isFarm_12 : decode cX11_isFarm 12 = .ok (.iconst 1, 1) := by decide +kernel
theorem dX11_isFarm_13 : decode cX11_isFarm 13 = .ok (.goto 4, 3) := by decide +kernel
theorem dX11_isFarm_16 : decode cX11_isFarm 16 = .ok (.iconst 0, 1) := by decide +kernel
theorem dX11_isFarm_17 : decode cX11_isFarm 17 = .ok (.ireturn, 1) := by decide +kernel
theorem dX11_note_0 : decode cX11_note 0 = .ok (.aload_n 0, 1) := by decide +kernel
theorem dX11_note_1 : decode cX11_note 1 = .ok (.iconst 0, 1) := by decide +kernel
theorem dX11_note_2 : decode cX11_note 2 = .ok (.putfield 112, 3) := by decide +kernel
theorem dX11_note_5 : decode cX11_note 5 = .ok (.aload_n 0, 1) := by decide +kernel
theorem dX11_note_6 : decode cX11_note 6 = .ok (.iload_n 1, 1) := by decide +kernel
theorem dX11_note_7 : decode cX11_note 7 = .ok (.invokevirtual 196, 3) := by decide +kernel
theorem dX11_note_10 : decode cX11_note 10 = .ok (.ifCond .eq 54, 3) := by decide +kernel
theorem dX11_note_13 : decode cX11_note 13 = .ok (.iload_n 2, 1) := by decide +kernel
theorem dX11_note_14 : decode cX11_note 14 = .ok (.ifCond .lt 50, 3) := by decide +kernel
theorem dX11_note_17 : decode cX11_note 17 = .ok (.iload_n 2, 1) := by decide +kernel
theorem dX11_note_18 : decode cX11_note 18 = .ok (.bipush 8, 2) := by decide +kernel
theorem dX11_note_20 : decode cX11_note 20 = .ok (.if_icmp .gt 44, 3) := by decide +kernel
theorem dX11_note_23 : decode cX11_note 23 = .ok (.iload_n 3, 1) := by decide +kernel
theorem dX11_note_24 : decode cX11_note 24 = .ok (.invokestatic 181, 3) := by decide +kernel
theorem dX11_note_27 : decode cX11_note 27 = .ok (.ifCond .eq 37, 3) := by decide +kernel
theorem dX11_note_30 : decode cX11_note 30 = .ok (.iload 4, 2) := by decide +kernel
theorem dX11_note_32 : decode cX11_note 32 = .ok (.ifCond .lt 32, 3) := by decide +kernel
theorem dX11_note_35 : decode cX11_note 35 = .ok (.iload 4, 2) := by decide +kernel
theorem dX11_note_37 : decode cX11_note 37 = .ok (.iload_n 2, 1) := by decide +kernel
theorem dX11_note_38 : decode cX11_note 38 = .ok (.bipush 8, 2) := by decide +kernel
theorem dX11_note_40 : decode cX11_note 40 = .ok (.if_icmp .ne 8, 3) := by decide +kernel
theorem dX11_note_43 : decode cX11_note 43 = .ok (.bipush 99, 2) := by decide +kernel
theorem dX11_note_45 : decode cX11_note 45 = .ok (.goto 6, 3) := by decide +kernel
theorem dX11_note_48 : decode cX11_note 48 = .ok (.sipush 10000, 3) := by decide +kernel
theorem dX11_note_51 : decode cX11_note 51 = .ok (.if_icmp .gt 13, 3) := by decide +kernel
theorem dX11_note_54 : decode cX11_note 54 = .ok (.aload_n 0, 1) := by decide +kernel
theorem dX11_note_55 : decode cX11_note 55 = .ok (.getfield 199, 3) := by decide +kernel
theorem dX11_note_58 : decode cX11_note 58 = .ok (.sipush 200, 3) := by decide +kernel
theorem dX11_note_61 : decode cX11_note 61 = .ok (.if_icmp .ne 5, 3) := by decide +kernel
theorem dX11_note_64 : decode cX11_note 64 = .ok (.iconst (-1), 1) := by decide +kernel
theorem dX11_note_65 : decode cX11_note 65 = .ok (.ireturn, 1) := by decide +kernel
theorem dX11_note_66 : decode cX11_note 66 = .ok (.aload_n 0, 1) := by decide +kernel
theorem dX11_note_67 : decode cX11_note 67 = .ok (.getfield 48, 3) := by decide +kernel
theorem dX11_note_70 : decode cX11_note 70 = .ok (.aload_n 0, 1) := by decide +kernel
theorem dX11_note_71 : decode cX11_note 71 = .ok (.getfield 199, 3) := by decide +kernel
theorem dX11_note_74 : decode cX11_note 74 = .ok (.iload_n 1, 1) := by decide +kernel
theorem dX11_note_75 : decode cX11_note 75 = .ok (.iastore, 1) := by decide +kernel
theorem dX11_note_76 : decode cX11_note 76 = .ok (.aload_n 0, 1) := by decide +kernel
theorem dX11_note_77 : decode cX11_note 77 = .ok (.getfield 51, 3) := by decide +kernel
theorem dX11_note_80 : decode cX11_note 80 = .ok (.aload_n 0, 1) := by decide +kernel
theorem dX11_note_81 : decode cX11_note 81 = .ok (.getfield 199, 3) := by decide +kernel
theorem dX11_note_84 : decode cX11_note 84 = .ok (.iload_n 2, 1) := by decide +kernel
theorem dX11_note_85 : decode cX11_note 85 = .ok (.iastore, 1) := by decide +kernel
theorem dX11_note_86 : decode cX11_note 86 = .ok (.aload_n 0, 1) := by decide +kernel
theorem dX11_note_87 : decode cX11_note 87 = .ok (.getfield 54, 3) := by decide +kernel
theorem dX11_note_90 : decode cX11_note 90 = .ok (.aload_n 0, 1) := by decide +kernel
theorem dX11_note_91 : decode cX11_note 91 = .ok (.getfield 199, 3) := by decide +kernel
theorem dX11_note_94 : decode cX11_note 94 = .ok (.iload_n 3, 1) := by decide +kernel
theorem dX11_note_95 : decode cX11_note 95 = .ok (.iastore, 1) := by decide +kernel
theorem dX11_note_96 : decode cX11_note 96 = .ok (.aload_n 0, 1) := by decide +kernel
theorem dX11_note_97 : decode cX11_note 97 = .ok (.getfield 57, 3) := by decide +kernel
theorem dX11_note_100 : decode cX11_note 100 = .ok (.aload_n 0, 1) := by decide +kernel
theorem dX11_note_101 : decode cX11_note 101 = .ok (.getfield 199, 3) := by decide +kernel
theorem dX11_note_104 : decode cX11_note 104 = .ok (.aload_n 0, 1) := by decide +kernel
theorem dX11_note_105 : decode cX11_note 105 = .ok (.getfield 190, 3) := by decide +kernel
theorem dX11_note_108 : decode cX11_note 108 = .ok (.iastore, 1) := by decide +kernel
theorem dX11_note_109 : decode cX11_note 109 = .ok (.aload_n 0, 1) := by decide +kernel
theorem dX11_note_110 : decode cX11_note 110 = .ok (.getfield 60, 3) := by decide +kernel
theorem dX11_note_113 : decode cX11_note 113 = .ok (.aload_n 0, 1) := by decide +kernel
theorem dX11_note_114 : decode cX11_note 114 = .ok (.getfield 199, 3) := by decide +kernel
theorem dX11_note_117 : decode cX11_note 117 = .ok (.iload 4, 2) := by decide +kernel
theorem dX11_note_119 : decode cX11_note 119 = .ok (.iastore, 1) := by decide +kernel
theorem dX11_note_120 : decode cX11_note 120 = .ok (.aload_n 0, 1) := by decide +kernel
theorem dX11_note_121 : decode cX11_note 121 = .ok (.dup, 1) := by decide +kernel
theorem dX11_note_122 : decode cX11_note 122 = .ok (.getfield 199, 3) := by decide +kernel
theorem dX11_note_125 : decode cX11_note 125 = .ok (.iconst 1, 1) := by decide +kernel
theorem dX11_note_126 : decode cX11_note 126 = .ok (.iadd, 1) := by decide +kernel
theorem dX11_note_127 : decode cX11_note 127 = .ok (.putfield 199, 3) := by decide +kernel
theorem dX11_note_130 : decode cX11_note 130 = .ok (.aload_n 0, 1) := by decide +kernel
theorem dX11_note_131 : decode cX11_note 131 = .ok (.getfield 199, 3) := by decide +kernel
theorem dX11_note_134 : decode cX11_note 134 = .ok (.ireturn, 1) := by decide +kernel
theorem dX11_counts_0 : decode cX11_counts 0 = .ok (.iconst (-1), 1) := by decide +kernel
theorem dX11_counts_1 : decode cX11_counts 1 = .ok (.istore 5, 2) := by decide +kernel
theorem dX11_counts_3 : decode cX11_counts 3 = .ok (.iconst 0, 1) := by decide +kernel
theorem dX11_counts_4 : decode cX11_counts 4 = .ok (.istore 6, 2) := by decide +kernel
theorem dX11_counts_6 : decode cX11_counts 6 = .ok (.iload 6, 2) := by decide +kernel
theorem dX11_counts_8 : decode cX11_counts 8 = .ok (.aload_n 0, 1) := by decide +kernel
theorem dX11_counts_9 : decode cX11_counts 9 = .ok (.getfield 199, 3) := by decide +kernel
theorem dX11_counts_12 : decode cX11_counts 12 = .ok (.if_icmp .ge 83, 3) := by decide +kernel
theorem dX11_counts_15 : decode cX11_counts 15 = .ok (.aload_n 0, 1) := by decide +kernel
theorem dX11_counts_16 : decode cX11_counts 16 = .ok (.getfield 48, 3) := by decide +kernel
theorem dX11_counts_19 : decode cX11_counts 19 = .ok (.iload 6, 2) := by decide +kernel
theorem dX11_counts_21 : decode cX11_counts 21 = .ok (.iaload, 1) := by decide +kernel
theorem dX11_counts_22 : decode cX11_counts 22 = .ok (.iload_n 1, 1) := by decide +kernel
theorem dX11_counts_23 : decode cX11_counts 23 = .ok (.if_icmp .ne 66, 3) := by decide +kernel
theorem dX11_counts_26 : decode cX11_counts 26 = .ok (.aload_n 0, 1) := by decide +kernel
theorem dX11_counts_27 : decode cX11_counts 27 = .ok (.getfield 51, 3) := by decide +kernel
theorem dX11_counts_30 : decode cX11_counts 30 = .ok (.iload 6, 2) := by decide +kernel
theorem dX11_counts_32 : decode cX11_counts 32 = .ok (.iaload, 1) := by decide +kernel
theorem dX11_counts_33 : decode cX11_counts 33 = .ok (.iload_n 2, 1) := by decide +kernel
theorem dX11_counts_34 : decode cX11_counts 34 = .ok (.if_icmp .ne 55, 3) := by decide +kernel
theorem dX11_counts_37 : decode cX11_counts 37 = .ok (.aload_n 0, 1) := by decide +kernel
theorem dX11_counts_38 : decode cX11_counts 38 = .ok (.getfield 54, 3) := by decide +kernel
theorem dX11_counts_41 : decode cX11_counts 41 = .ok (.iload 6, 2) := by decide +kernel
theorem dX11_counts_43 : decode cX11_counts 43 = .ok (.iaload, 1) := by decide +kernel
theorem dX11_counts_44 : decode cX11_counts 44 = .ok (.iload_n 3, 1) := by decide +kernel
theorem dX11_counts_45 : decode cX11_counts 45 = .ok (.if_icmp .gt 44, 3) := by decide +kernel
theorem dX11_counts_48 : decode cX11_counts 48 = .ok (.aload_n 0, 1) := by decide +kernel
theorem dX11_counts_49 : decode cX11_counts 49 = .ok (.getfield 57, 3) := by decide +kernel
theorem dX11_counts_52 : decode cX11_counts 52 = .ok (.iload 6, 2) := by decide +kernel
theorem dX11_counts_54 : decode cX11_counts 54 = .ok (.iaload, 1) := by decide +kernel
theorem dX11_counts_55 : decode cX11_counts 55 = .ok (.iload 4, 2) := by decide +kernel
theorem dX11_counts_57 : decode cX11_counts 57 = .ok (.if_icmp .le 6, 3) := by decide +kernel
theorem dX11_counts_60 : decode cX11_counts 60 = .ok (.goto 29, 3) := by decide +kernel
theorem dX11_counts_63 : decode cX11_counts 63 = .ok (.iload 5, 2) := by decide +kernel
theorem dX11_counts_65 : decode cX11_counts 65 = .ok (.ifCond .lt 20, 3) := by decide +kernel
theorem dX11_counts_68 : decode cX11_counts 68 = .ok (.aload_n 0, 1) := by decide +kernel
theorem dX11_counts_69 : decode cX11_counts 69 = .ok (.getfield 54, 3) := by decide +kernel
theorem dX11_counts_72 : decode cX11_counts 72 = .ok (.iload 6, 2) := by decide +kernel
theorem dX11_counts_74 : decode cX11_counts 74 = .ok (.iaload, 1) := by decide +kernel
theorem dX11_counts_75 : decode cX11_counts 75 = .ok (.aload_n 0, 1) := by decide +kernel
theorem dX11_counts_76 : decode cX11_counts 76 = .ok (.getfield 54, 3) := by decide +kernel
theorem dX11_counts_79 : decode cX11_counts 79 = .ok (.iload 5, 2) := by decide +kernel
theorem dX11_counts_81 : decode cX11_counts 81 = .ok (.iaload, 1) := by decide +kernel
theorem dX11_counts_82 : decode cX11_counts 82 = .ok (.if_icmp .lt 7, 3) := by decide +kernel
theorem dX11_counts_85 : decode cX11_counts 85 = .ok (.iload 6, 2) := by decide +kernel
theorem dX11_counts_87 : decode cX11_counts 87 = .ok (.istore 5, 2) := by decide +kernel
theorem dX11_counts_89 : decode cX11_counts 89 = .ok (.iinc 6 1, 3) := by decide +kernel
theorem dX11_counts_92 : decode cX11_counts 92 = .ok (.goto (-86), 3) := by decide +kernel
theorem dX11_counts_95 : decode cX11_counts 95 = .ok (.iload 5, 2) := by decide +kernel
theorem dX11_counts_97 : decode cX11_counts 97 = .ok (.ifCond .ge 7, 3) := by decide +kernel
theorem dX11_counts_100 : decode cX11_counts 100 = .ok (.iconst 0, 1) := by decide +kernel
theorem dX11_counts_101 : decode cX11_counts 101 = .ok (.goto 10, 3) := by decide +kernel
theorem dX11_counts_104 : decode cX11_counts 104 = .ok (.aload_n 0, 1) := by decide +kernel
theorem dX11_counts_105 : decode cX11_counts 105 = .ok (.getfield 60, 3) := by decide +kernel
theorem dX11_counts_108 : decode cX11_counts 108 = .ok (.iload 5, 2) := by decide +kernel
theorem dX11_counts_110 : decode cX11_counts 110 = .ok (.iaload, 1) := by decide +kernel
theorem dX11_counts_111 : decode cX11_counts 111 = .ok (.ireturn, 1) := by decide +kernel
theorem dX11_areDays_0 : decode cX11_areDays 0 = .ok (.iload_n 1, 1) := by decide +kernel
theorem dX11_areDays_1 : decode cX11_areDays 1 = .ok (.invokestatic 181, 3) := by decide +kernel
theorem dX11_areDays_4 : decode cX11_areDays 4 = .ok (.ifCond .eq 19, 3) := by decide +kernel
theorem dX11_areDays_7 : decode cX11_areDays 7 = .ok (.iload_n 2, 1) := by decide +kernel
theorem dX11_areDays_8 : decode cX11_areDays 8 = .ok (.ifCond .lt 15, 3) := by decide +kernel
theorem dX11_areDays_11 : decode cX11_areDays 11 = .ok (.iload_n 2, 1) := by decide +kernel
theorem dX11_areDays_12 : decode cX11_areDays 12 = .ok (.aload_n 0, 1) := by decide +kernel
theorem dX11_areDays_13 : decode cX11_areDays 13 = .ok (.getfield 190, 3) := by decide +kernel
theorem dX11_areDays_16 : decode cX11_areDays 16 = .ok (.if_icmp .gt 7, 3) := by decide +kernel
theorem dX11_areDays_19 : decode cX11_areDays 19 = .ok (.iconst 1, 1) := by decide +kernel
theorem dX11_areDays_20 : decode cX11_areDays 20 = .ok (.goto 4, 3) := by decide +kernel
theorem dX11_areDays_23 : decode cX11_areDays 23 = .ok (.iconst 0, 1) := by decide +kernel
theorem dX11_areDays_24 : decode cX11_areDays 24 = .ok (.ireturn, 1) := by decide +kernel
theorem dX11_worth_0 : decode cX11_worth 0 = .ok (.aload_n 0, 1) := by decide +kernel
theorem dX11_worth_1 : decode cX11_worth 1 = .ok (.iconst 0, 1) := by decide +kernel
theorem dX11_worth_2 : decode cX11_worth 2 = .ok (.putfield 112, 3) := by decide +kernel
theorem dX11_worth_5 : decode cX11_worth 5 = .ok (.aload_n 0, 1) := by decide +kernel
theorem dX11_worth_6 : decode cX11_worth 6 = .ok (.iload_n 1, 1) := by decide +kernel
theorem dX11_worth_7 : decode cX11_worth 7 = .ok (.invokevirtual 196, 3) := by decide +kernel
theorem dX11_worth_10 : decode cX11_worth 10 = .ok (.ifCond .eq 23, 3) := by decide +kernel
theorem dX11_worth_13 : decode cX11_worth 13 = .ok (.iload_n 2, 1) := by decide +kernel
theorem dX11_worth_14 : decode cX11_worth 14 = .ok (.ifCond .lt 19, 3) := by decide +kernel
theorem dX11_worth_17 : decode cX11_worth 17 = .ok (.iload_n 2, 1) := by decide +kernel
theorem dX11_worth_18 : decode cX11_worth 18 = .ok (.bipush 8, 2) := by decide +kernel
theorem dX11_worth_20 : decode cX11_worth 20 = .ok (.if_icmp .gt 13, 3) := by decide +kernel
theorem dX11_worth_23 : decode cX11_worth 23 = .ok (.aload_n 0, 1) := by decide +kernel
theorem dX11_worth_24 : decode cX11_worth 24 = .ok (.iload_n 3, 1) := by decide +kernel
theorem dX11_worth_25 : decode cX11_worth 25 = .ok (.iload 4, 2) := by decide +kernel
theorem dX11_worth_27 : decode cX11_worth 27 = .ok (.invokevirtual 202, 3) := by decide +kernel
theorem dX11_worth_30 : decode cX11_worth 30 = .ok (.ifCond .ne 7, 3) := by decide +kernel
theorem dX11_worth_33 : decode cX11_worth 33 = .ok (.iconst (-1), 1) := by decide +kernel
theorem dX11_worth_34 : decode cX11_worth 34 = .ok (.goto 12, 3) := by decide +kernel
theorem dX11_worth_37 : decode cX11_worth 37 = .ok (.aload_n 0, 1) := by decide +kernel
theorem dX11_worth_38 : decode cX11_worth 38 = .ok (.iload_n 1, 1) := by decide +kernel
theorem dX11_worth_39 : decode cX11_worth 39 = .ok (.iload_n 2, 1) := by decide +kernel
theorem dX11_worth_40 : decode cX11_worth 40 = .ok (.iload_n 3, 1) := by decide +kernel
theorem dX11_worth_41 : decode cX11_worth 41 = .ok (.iload 4, 2) := by decide +kernel
theorem dX11_worth_43 : decode cX11_worth 43 = .ok (.invokevirtual 205, 3) := by decide +kernel
theorem dX11_worth_46 : decode cX11_worth 46 = .ok (.ireturn, 1) := by decide +kernel
theorem dX11_winner_0 : decode cX11_winner 0 = .ok (.iconst (-1), 1) := by decide +kernel
theorem dX11_winner_1 : decode cX11_winner 1 = .ok (.istore 4, 2) := by decide +kernel
theorem dX11_winner_3 : decode cX11_winner 3 = .ok (.iconst 0, 1) := by decide +kernel
theorem dX11_winner_4 : decode cX11_winner 4 = .ok (.istore 5, 2) := by decide +kernel
theorem dX11_winner_6 : decode cX11_winner 6 = .ok (.iload 5, 2) := by decide +kernel
theorem dX11_winner_8 : decode cX11_winner 8 = .ok (.aload_n 0, 1) := by decide +kernel
theorem dX11_winner_9 : decode cX11_winner 9 = .ok (.getfield 184, 3) := by decide +kernel
theorem dX11_winner_12 : decode cX11_winner 12 = .ok (.if_icmp .ge 96, 3) := by decide +kernel
theorem dX11_winner_15 : decode cX11_winner 15 = .ok (.aload_n 0, 1) := by decide +kernel
theorem dX11_winner_16 : decode cX11_winner 16 = .ok (.getfield 22, 3) := by decide +kernel
theorem dX11_winner_19 : decode cX11_winner 19 = .ok (.bipush 18, 2) := by decide +kernel
theorem dX11_winner_21 : decode cX11_winner 21 = .ok (.iload 5, 2) := by decide +kernel
theorem dX11_winner_23 : decode cX11_winner 23 = .ok (.imul, 1) := by decide +kernel
theorem dX11_winner_24 : decode cX11_winner 24 = .ok (.iload_n 1, 1) := by decide +kernel
theorem dX11_winner_25 : decode cX11_winner 25 = .ok (.iadd, 1) := by decide +kernel
theorem dX11_winner_26 : decode cX11_winner 26 = .ok (.baload, 1) := by decide +kernel
theorem dX11_winner_27 : decode cX11_winner 27 = .ok (.ifCond .eq 75, 3) := by decide +kernel
theorem dX11_winner_30 : decode cX11_winner 30 = .ok (.aload_n 0, 1) := by decide +kernel
theorem dX11_winner_31 : decode cX11_winner 31 = .ok (.getfield 13, 3) := by decide +kernel
theorem dX11_winner_34 : decode cX11_winner 34 = .ok (.iload 5, 2) := by decide +kernel
theorem dX11_winner_36 : decode cX11_winner 36 = .ok (.iaload, 1) := by decide +kernel
theorem dX11_winner_37 : decode cX11_winner 37 = .ok (.iload_n 2, 1) := by decide +kernel
theorem dX11_winner_38 : decode cX11_winner 38 = .ok (.if_icmp .gt 64, 3) := by decide +kernel
theorem dX11_winner_41 : decode cX11_winner 41 = .ok (.aload_n 0, 1) := by decide +kernel
theorem dX11_winner_42 : decode cX11_winner 42 = .ok (.getfield 16, 3) := by decide +kernel
theorem dX11_winner_45 : decode cX11_winner 45 = .ok (.iload 5, 2) := by decide +kernel
theorem dX11_winner_47 : decode cX11_winner 47 = .ok (.iaload, 1) := by decide +kernel
theorem dX11_winner_48 : decode cX11_winner 48 = .ok (.iload_n 3, 1) := by decide +kernel
theorem dX11_winner_49 : decode cX11_winner 49 = .ok (.if_icmp .gt 53, 3) := by decide +kernel
theorem dX11_winner_52 : decode cX11_winner 52 = .ok (.aload_n 0, 1) := by decide +kernel
theorem dX11_winner_53 : decode cX11_winner 53 = .ok (.getfield 19, 3) := by decide +kernel
theorem dX11_winner_56 : decode cX11_winner 56 = .ok (.iload 5, 2) := by decide +kernel
theorem dX11_winner_58 : decode cX11_winner 58 = .ok (.iaload, 1) := by decide +kernel
theorem dX11_winner_59 : decode cX11_winner 59 = .ok (.ifCond .lt 17, 3) := by decide +kernel
theorem dX11_winner_62 : decode cX11_winner 62 = .ok (.aload_n 0, 1) := by decide +kernel
theorem dX11_winner_63 : decode cX11_winner 63 = .ok (.getfield 19, 3) := by decide +kernel
theorem dX11_winner_66 : decode cX11_winner 66 = .ok (.iload 5, 2) := by decide +kernel
theorem dX11_winner_68 : decode cX11_winner 68 = .ok (.iaload, 1) := by decide +kernel
theorem dX11_winner_69 : decode cX11_winner 69 = .ok (.iload_n 3, 1) := by decide +kernel
theorem dX11_winner_70 : decode cX11_winner 70 = .ok (.if_icmp .gt 6, 3) := by decide +kernel
theorem dX11_winner_73 : decode cX11_winner 73 = .ok (.goto 29, 3) := by decide +kernel
theorem dX11_winner_76 : decode cX11_winner 76 = .ok (.iload 4, 2) := by decide +kernel
theorem dX11_winner_78 : decode cX11_winner 78 = .ok (.ifCond .lt 20, 3) := by decide +kernel
theorem dX11_winner_81 : decode cX11_winner 81 = .ok (.aload_n 0, 1) := by decide +kernel
theorem dX11_winner_82 : decode cX11_winner 82 = .ok (.getfield 13, 3) := by decide +kernel
theorem dX11_winner_85 : decode cX11_winner 85 = .ok (.iload 5, 2) := by decide +kernel
theorem dX11_winner_87 : decode cX11_winner 87 = .ok (.iaload, 1) := by decide +kernel
theorem dX11_winner_88 : decode cX11_winner 88 = .ok (.aload_n 0, 1) := by decide +kernel
theorem dX11_winner_89 : decode cX11_winner 89 = .ok (.getfield 13, 3) := by decide +kernel
theorem dX11_winner_92 : decode cX11_winner 92 = .ok (.iload 4, 2) := by decide +kernel
theorem dX11_winner_94 : decode cX11_winner 94 = .ok (.iaload, 1) := by decide +kernel
theorem dX11_winner_95 : decode cX11_winner 95 = .ok (.if_icmp .lt 7, 3) := by decide +kernel
theorem dX11_winner_98 : decode cX11_winner 98 = .ok (.iload 5, 2) := by decide +kernel
theorem dX11_winner_100 : decode cX11_winner 100 = .ok (.istore 4, 2) := by decide +kernel
theorem dX11_winner_102 : decode cX11_winner 102 = .ok (.iinc 5 1, 3) := by decide +kernel
theorem dX11_winner_105 : decode cX11_winner 105 = .ok (.goto (-99), 3) := by decide +kernel
theorem dX11_winner_108 : decode cX11_winner 108 = .ok (.iload 4, 2) := by decide +kernel
theorem dX11_winner_110 : decode cX11_winner 110 = .ok (.ireturn, 1) := by decide +kernel
theorem dX11_says_0 : decode cX11_says 0 = .ok (.iload_n 1, 1) := by decide +kernel
theorem dX11_says_1 : decode cX11_says 1 = .ok (.bipush 12, 2) := by decide +kernel
theorem dX11_says_3 : decode cX11_says 3 = .ok (.if_icmp .ge 7, 3) := by decide +kernel
theorem dX11_says_6 : decode cX11_says 6 = .ok (.iload_n 1, 1) := by decide +kernel
theorem dX11_says_7 : decode cX11_says 7 = .ok (.goto 17, 3) := by decide +kernel
theorem dX11_says_10 : decode cX11_says 10 = .ok (.iload_n 1, 1) := by decide +kernel
theorem dX11_says_11 : decode cX11_says 11 = .ok (.bipush 14, 2) := by decide +kernel
theorem dX11_says_13 : decode cX11_says 13 = .ok (.if_icmp .ge 8, 3) := by decide +kernel
theorem dX11_says_16 : decode cX11_says 16 = .ok (.bipush 12, 2) := by decide +kernel
theorem dX11_says_18 : decode cX11_says 18 = .ok (.goto 6, 3) := by decide +kernel
theorem dX11_says_21 : decode cX11_says 21 = .ok (.iload_n 1, 1) := by decide +kernel
theorem dX11_says_22 : decode cX11_says 22 = .ok (.iconst 1, 1) := by decide +kernel
theorem dX11_says_23 : decode cX11_says 23 = .ok (.isub, 1) := by decide +kernel
theorem dX11_says_24 : decode cX11_says 24 = .ok (.istore 4, 2) := by decide +kernel
theorem dX11_says_26 : decode cX11_says 26 = .ok (.aload_n 0, 1) := by decide +kernel
theorem dX11_says_27 : decode cX11_says 27 = .ok (.iload 4, 2) := by decide +kernel
theorem dX11_says_29 : decode cX11_says 29 = .ok (.iload_n 2, 1) := by decide +kernel
theorem dX11_says_30 : decode cX11_says 30 = .ok (.iload_n 3, 1) := by decide +kernel
theorem dX11_says_31 : decode cX11_says 31 = .ok (.invokevirtual 209, 3) := by decide +kernel
theorem dX11_says_34 : decode cX11_says 34 = .ok (.istore 5, 2) := by decide +kernel
theorem dX11_says_36 : decode cX11_says 36 = .ok (.iload_n 1, 1) := by decide +kernel
theorem dX11_says_37 : decode cX11_says 37 = .ok (.bipush 7, 2) := by decide +kernel
theorem dX11_says_39 : decode cX11_says 39 = .ok (.if_icmp .le 20, 3) := by decide +kernel
theorem dX11_says_42 : decode cX11_says 42 = .ok (.iload_n 1, 1) := by decide +kernel
theorem dX11_says_43 : decode cX11_says 43 = .ok (.bipush 12, 2) := by decide +kernel
theorem dX11_says_45 : decode cX11_says 45 = .ok (.if_icmp .ge 14, 3) := by decide +kernel
theorem dX11_says_48 : decode cX11_says 48 = .ok (.iload 5, 2) := by decide +kernel
theorem dX11_says_50 : decode cX11_says 50 = .ok (.ifCond .ge 7, 3) := by decide +kernel
theorem dX11_says_53 : decode cX11_says 53 = .ok (.iconst 1, 1) := by decide +kernel
theorem dX11_says_54 : decode cX11_says 54 = .ok (.goto 4, 3) := by decide +kernel
theorem dX11_says_57 : decode cX11_says 57 = .ok (.iconst 0, 1) := by decide +kernel
theorem dX11_says_58 : decode cX11_says 58 = .ok (.ireturn, 1) := by decide +kernel
theorem dX11_says_59 : decode cX11_says 59 = .ok (.iload 5, 2) := by decide +kernel
theorem dX11_says_61 : decode cX11_says 61 = .ok (.ifCond .ge 25, 3) := by decide +kernel
theorem dX11_says_64 : decode cX11_says 64 = .ok (.iload_n 1, 1) := by decide +kernel
theorem dX11_says_65 : decode cX11_says 65 = .ok (.iconst 4, 1) := by decide +kernel
theorem dX11_says_66 : decode cX11_says 66 = .ok (.if_icmp .ge 7, 3) := by decide +kernel
theorem dX11_says_69 : decode cX11_says 69 = .ok (.iconst 1, 1) := by decide +kernel
theorem dX11_says_70 : decode cX11_says 70 = .ok (.goto 15, 3) := by decide +kernel
theorem dX11_says_73 : decode cX11_says 73 = .ok (.iload_n 1, 1) := by decide +kernel
theorem dX11_says_74 : decode cX11_says 74 = .ok (.bipush 8, 2) := by decide +kernel
theorem dX11_says_76 : decode cX11_says 76 = .ok (.if_icmp .ge 8, 3) := by decide +kernel
theorem dX11_says_79 : decode cX11_says 79 = .ok (.bipush 100, 2) := by decide +kernel
theorem dX11_says_81 : decode cX11_says 81 = .ok (.goto 4, 3) := by decide +kernel
theorem dX11_says_84 : decode cX11_says 84 = .ok (.iconst 0, 1) := by decide +kernel
theorem dX11_says_85 : decode cX11_says 85 = .ok (.ireturn, 1) := by decide +kernel
theorem dX11_says_86 : decode cX11_says 86 = .ok (.iload_n 1, 1) := by decide +kernel
theorem dX11_says_87 : decode cX11_says 87 = .ok (.iconst 3, 1) := by decide +kernel
theorem dX11_says_88 : decode cX11_says 88 = .ok (.if_icmp .le 35, 3) := by decide +kernel
theorem dX11_says_91 : decode cX11_says 91 = .ok (.iload_n 1, 1) := by decide +kernel
theorem dX11_says_92 : decode cX11_says 92 = .ok (.bipush 8, 2) := by decide +kernel
theorem dX11_says_94 : decode cX11_says 94 = .ok (.if_icmp .ge 29, 3) := by decide +kernel
theorem dX11_says_97 : decode cX11_says 97 = .ok (.aload_n 0, 1) := by decide +kernel
theorem dX11_says_98 : decode cX11_says 98 = .ok (.getfield 32, 3) := by decide +kernel
theorem dX11_says_101 : decode cX11_says 101 = .ok (.bipush 48, 2) := by decide +kernel
theorem dX11_says_103 : decode cX11_says 103 = .ok (.iload 5, 2) := by decide +kernel
theorem dX11_says_105 : decode cX11_says 105 = .ok (.imul, 1) := by decide +kernel
theorem dX11_says_106 : decode cX11_says 106 = .ok (.bipush 12, 2) := by decide +kernel
theorem dX11_says_108 : decode cX11_says 108 = .ok (.iload_n 1, 1) := by decide +kernel
theorem dX11_says_109 : decode cX11_says 109 = .ok (.iconst 4, 1) := by decide +kernel
theorem dX11_says_110 : decode cX11_says 110 = .ok (.isub, 1) := by decide +kernel
theorem dX11_says_111 : decode cX11_says 111 = .ok (.imul, 1) := by decide +kernel
theorem dX11_says_112 : decode cX11_says 112 = .ok (.iadd, 1) := by decide +kernel
theorem dX11_says_113 : decode cX11_says 113 = .ok (.iload_n 2, 1) := by decide +kernel
theorem dX11_says_114 : decode cX11_says 114 = .ok (.bipush 30, 2) := by decide +kernel
theorem dX11_says_116 : decode cX11_says 116 = .ok (.idiv, 1) := by decide +kernel
theorem dX11_says_117 : decode cX11_says 117 = .ok (.bipush 12, 2) := by decide +kernel
theorem dX11_says_119 : decode cX11_says 119 = .ok (.irem, 1) := by decide +kernel
theorem dX11_says_120 : decode cX11_says 120 = .ok (.iadd, 1) := by decide +kernel
theorem dX11_says_121 : decode cX11_says 121 = .ok (.iaload, 1) := by decide +kernel
theorem dX11_says_122 : decode cX11_says 122 = .ok (.ireturn, 1) := by decide +kernel
theorem dX11_says_123 : decode cX11_says 123 = .ok (.iload_n 1, 1) := by decide +kernel
theorem dX11_says_124 : decode cX11_says 124 = .ok (.bipush 13, 2) := by decide +kernel
theorem dX11_says_126 : decode cX11_says 126 = .ok (.if_icmp .ne 13, 3) := by decide +kernel
theorem dX11_says_129 : decode cX11_says 129 = .ok (.aload_n 0, 1) := by decide +kernel
theorem dX11_says_130 : decode cX11_says 130 = .ok (.getfield 29, 3) := by decide +kernel
theorem dX11_says_133 : decode cX11_says 133 = .ok (.iload 5, 2) := by decide +kernel
theorem dX11_says_135 : decode cX11_says 135 = .ok (.iaload, 1) := by decide +kernel
theorem dX11_says_136 : decode cX11_says 136 = .ok (.goto 16, 3) := by decide +kernel
theorem dX11_says_139 : decode cX11_says 139 = .ok (.aload_n 0, 1) := by decide +kernel
theorem dX11_says_140 : decode cX11_says 140 = .ok (.getfield 26, 3) := by decide +kernel
theorem dX11_says_143 : decode cX11_says 143 = .ok (.bipush 18, 2) := by decide +kernel
theorem dX11_says_145 : decode cX11_says 145 = .ok (.iload 5, 2) := by decide +kernel
theorem dX11_says_147 : decode cX11_says 147 = .ok (.imul, 1) := by decide +kernel
theorem dX11_says_148 : decode cX11_says 148 = .ok (.iload 4, 2) := by decide +kernel
theorem dX11_says_150 : decode cX11_says 150 = .ok (.iadd, 1) := by decide +kernel
theorem dX11_says_151 : decode cX11_says 151 = .ok (.iaload, 1) := by decide +kernel
theorem dX11_says_152 : decode cX11_says 152 = .ok (.ireturn, 1) := by decide +kernel
theorem dX11_law_0 : decode cX11_law 0 = .ok (.aload_n 0, 1) := by decide +kernel
theorem dX11_law_1 : decode cX11_law 1 = .ok (.iconst 0, 1) := by decide +kernel
theorem dX11_law_2 : decode cX11_law 2 = .ok (.putfield 112, 3) := by decide +kernel
theorem dX11_law_5 : decode cX11_law 5 = .ok (.iload_n 1, 1) := by decide +kernel
theorem dX11_law_6 : decode cX11_law 6 = .ok (.ifCond .lt 18, 3) := by decide +kernel
theorem dX11_law_9 : decode cX11_law 9 = .ok (.iload_n 1, 1) := by decide +kernel
theorem dX11_law_10 : decode cX11_law 10 = .ok (.bipush 18, 2) := by decide +kernel
theorem dX11_law_12 : decode cX11_law 12 = .ok (.if_icmp .gt 12, 3) := by decide +kernel
theorem dX11_law_15 : decode cX11_law 15 = .ok (.aload_n 0, 1) := by decide +kernel
theorem dX11_law_16 : decode cX11_law 16 = .ok (.iload_n 2, 1) := by decide +kernel
theorem dX11_law_17 : decode cX11_law 17 = .ok (.iload_n 3, 1) := by decide +kernel
theorem dX11_law_18 : decode cX11_law 18 = .ok (.invokevirtual 202, 3) := by decide +kernel
theorem dX11_law_21 : decode cX11_law 21 = .ok (.ifCond .ne 7, 3) := by decide +kernel
theorem dX11_law_24 : decode cX11_law 24 = .ok (.iconst (-1), 1) := by decide +kernel
theorem dX11_law_25 : decode cX11_law 25 = .ok (.goto 10, 3) := by decide +kernel
theorem dX11_law_28 : decode cX11_law 28 = .ok (.aload_n 0, 1) := by decide +kernel
theorem dX11_law_29 : decode cX11_law 29 = .ok (.iload_n 1, 1) := by decide +kernel
theorem dX11_law_30 : decode cX11_law 30 = .ok (.iload_n 2, 1) := by decide +kernel
theorem dX11_law_31 : decode cX11_law 31 = .ok (.iload_n 3, 1) := by decide +kernel
theorem dX11_law_32 : decode cX11_law 32 = .ok (.invokevirtual 213, 3) := by decide +kernel
theorem dX11_law_35 : decode cX11_law 35 = .ok (.ireturn, 1) := by decide +kernel
theorem dX11_fire_0 : decode cX11_fire 0 = .ok (.aload_n 0, 1) := by decide +kernel
theorem dX11_fire_1 : decode cX11_fire 1 = .ok (.iconst 0, 1) := by decide +kernel
theorem dX11_fire_2 : decode cX11_fire 2 = .ok (.putfield 112, 3) := by decide +kernel
theorem dX11_fire_5 : decode cX11_fire 5 = .ok (.aload_n 0, 1) := by decide +kernel
theorem dX11_fire_6 : decode cX11_fire 6 = .ok (.iload_n 1, 1) := by decide +kernel
theorem dX11_fire_7 : decode cX11_fire 7 = .ok (.invokevirtual 196, 3) := by decide +kernel
theorem dX11_fire_10 : decode cX11_fire 10 = .ok (.ifCond .eq 12, 3) := by decide +kernel
theorem dX11_fire_13 : decode cX11_fire 13 = .ok (.aload_n 0, 1) := by decide +kernel
theorem dX11_fire_14 : decode cX11_fire 14 = .ok (.getfield 216, 3) := by decide +kernel
theorem dX11_fire_17 : decode cX11_fire 17 = .ok (.bipush 12, 2) := by decide +kernel
theorem dX11_fire_19 : decode cX11_fire 19 = .ok (.if_icmp .ne 5, 3) := by decide +kernel
theorem dX11_fire_22 : decode cX11_fire 22 = .ok (.iconst (-1), 1) := by decide +kernel
theorem dX11_fire_23 : decode cX11_fire 23 = .ok (.ireturn, 1) := by decide +kernel
theorem dX11_fire_24 : decode cX11_fire 24 = .ok (.aload_n 0, 1) := by decide +kernel
theorem dX11_fire_25 : decode cX11_fire 25 = .ok (.getfield 63, 3) := by decide +kernel
theorem dX11_fire_28 : decode cX11_fire 28 = .ok (.aload_n 0, 1) := by decide +kernel
theorem dX11_fire_29 : decode cX11_fire 29 = .ok (.getfield 216, 3) := by decide +kernel
theorem dX11_fire_32 : decode cX11_fire 32 = .ok (.iload_n 1, 1) := by decide +kernel
theorem dX11_fire_33 : decode cX11_fire 33 = .ok (.iastore, 1) := by decide +kernel
theorem dX11_fire_34 : decode cX11_fire 34 = .ok (.aload_n 0, 1) := by decide +kernel
theorem dX11_fire_35 : decode cX11_fire 35 = .ok (.getfield 66, 3) := by decide +kernel
theorem dX11_fire_38 : decode cX11_fire 38 = .ok (.aload_n 0, 1) := by decide +kernel
theorem dX11_fire_39 : decode cX11_fire 39 = .ok (.getfield 216, 3) := by decide +kernel
theorem dX11_fire_42 : decode cX11_fire 42 = .ok (.aload_n 0, 1) := by decide +kernel
theorem dX11_fire_43 : decode cX11_fire 43 = .ok (.getfield 190, 3) := by decide +kernel
theorem dX11_fire_46 : decode cX11_fire 46 = .ok (.iastore, 1) := by decide +kernel
theorem dX11_fire_47 : decode cX11_fire 47 = .ok (.aload_n 0, 1) := by decide +kernel
theorem dX11_fire_48 : decode cX11_fire 48 = .ok (.getfield 72, 3) := by decide +kernel
theorem dX11_fire_51 : decode cX11_fire 51 = .ok (.aload_n 0, 1) := by decide +kernel
theorem dX11_fire_52 : decode cX11_fire 52 = .ok (.getfield 216, 3) := by decide +kernel
theorem dX11_fire_55 : decode cX11_fire 55 = .ok (.iconst 0, 1) := by decide +kernel
theorem dX11_fire_56 : decode cX11_fire 56 = .ok (.bastore, 1) := by decide +kernel
theorem dX11_fire_57 : decode cX11_fire 57 = .ok (.iload_n 2, 1) := by decide +kernel
theorem dX11_fire_58 : decode cX11_fire 58 = .ok (.istore_n 3, 1) := by decide +kernel
theorem dX11_fire_59 : decode cX11_fire 59 = .ok (.iconst 0, 1) := by decide +kernel
theorem dX11_fire_60 : decode cX11_fire 60 = .ok (.istore 4, 2) := by decide +kernel
theorem dX11_fire_62 : decode cX11_fire 62 = .ok (.iconst 1, 1) := by decide +kernel
theorem dX11_fire_63 : decode cX11_fire 63 = .ok (.istore 5, 2) := by decide +kernel
theorem dX11_fire_65 : decode cX11_fire 65 = .ok (.iload 5, 2) := by decide +kernel
theorem dX11_fire_67 : decode cX11_fire 67 = .ok (.ifCond .eq 161, 3) := by decide +kernel
theorem dX11_fire_70 : decode cX11_fire 70 = .ok (.iload 4, 2) := by decide +kernel
theorem dX11_fire_72 : decode cX11_fire 72 = .ok (.iconst 3, 1) := by decide +kernel
theorem dX11_fire_73 : decode cX11_fire 73 = .ok (.if_icmp .ge 155, 3) := by decide +kernel
theorem dX11_fire_76 : decode cX11_fire 76 = .ok (.iconst 0, 1) := by decide +kernel
theorem dX11_fire_77 : decode cX11_fire 77 = .ok (.istore 6, 2) := by decide +kernel
theorem dX11_fire_79 : decode cX11_fire 79 = .ok (.iconst 0, 1) := by decide +kernel
theorem dX11_fire_80 : decode cX11_fire 80 = .ok (.istore 7, 2) := by decide +kernel
theorem dX11_fire_82 : decode cX11_fire 82 = .ok (.iload 7, 2) := by decide +kernel
theorem dX11_fire_84 : decode cX11_fire 84 = .ok (.aload_n 0, 1) := by decide +kernel
theorem dX11_fire_85 : decode cX11_fire 85 = .ok (.getfield 193, 3) := by decide +kernel
theorem dX11_fire_88 : decode cX11_fire 88 = .ok (.if_icmp .ge 30, 3) := by decide +kernel
theorem dX11_fire_91 : decode cX11_fire 91 = .ok (.iload 6, 2) := by decide +kernel
theorem dX11_fire_93 : decode cX11_fire 93 = .ok (.aload_n 0, 1) := by decide +kernel
theorem dX11_fire_94 : decode cX11_fire 94 = .ok (.iload 7, 2) := by decide +kernel
theorem dX11_fire_96 : decode cX11_fire 96 = .ok (.iload 4, 2) := by decide +kernel
theorem dX11_fire_98 : decode cX11_fire 98 = .ok (.invokevirtual 219, 3) := by decide +kernel
theorem dX11_fire_101 : decode cX11_fire 101 = .ok (.ifCond .eq 7, 3) := by decide +kernel
theorem dX11_fire_104 : decode cX11_fire 104 = .ok (.iconst 1, 1) := by decide +kernel
theorem dX11_fire_105 : decode cX11_fire 105 = .ok (.goto 4, 3) := by decide +kernel
theorem dX11_fire_108 : decode cX11_fire 108 = .ok (.iconst 0, 1) := by decide +kernel
theorem dX11_fire_109 : decode cX11_fire 109 = .ok (.iadd, 1) := by decide +kernel
theorem dX11_fire_110 : decode cX11_fire 110 = .ok (.istore 6, 2) := by decide +kernel
theorem dX11_fire_112 : decode cX11_fire 112 = .ok (.iinc 7 1, 3) := by decide +kernel
theorem dX11_fire_115 : decode cX11_fire 115 = .ok (.goto (-33), 3) := by decide +kernel
theorem dX11_fire_118 : decode cX11_fire 118 = .ok (.iload 6, 2) := by decide +kernel
theorem dX11_fire_120 : decode cX11_fire 120 = .ok (.ifCond .le 7, 3) := by decide +kernel
theorem dX11_fire_123 : decode cX11_fire 123 = .ok (.iconst 1, 1) := by decide +kernel
theorem dX11_fire_124 : decode cX11_fire 124 = .ok (.goto 4, 3) := by decide +kernel
theorem dX11_fire_127 : decode cX11_fire 127 = .ok (.iconst 0, 1) := by decide +kernel
theorem dX11_fire_128 : decode cX11_fire 128 = .ok (.istore 5, 2) := by decide +kernel
theorem dX11_fire_130 : decode cX11_fire 130 = .ok (.iload 5, 2) := by decide +kernel
theorem dX11_fire_132 : decode cX11_fire 132 = .ok (.ifCond .ne 6, 3) := by decide +kernel
theorem dX11_fire_135 : decode cX11_fire 135 = .ok (.goto (-70), 3) := by decide +kernel
theorem dX11_fire_138 : decode cX11_fire 138 = .ok (.ldc 222, 2) := by decide +kernel
theorem dX11_fire_140 : decode cX11_fire 140 = .ok (.iload_n 3, 1) := by decide +kernel
theorem dX11_fire_141 : decode cX11_fire 141 = .ok (.imul, 1) := by decide +kernel
theorem dX11_fire_142 : decode cX11_fire 142 = .ok (.sipush 12345, 3) := by decide +kernel
theorem dX11_fire_145 : decode cX11_fire 145 = .ok (.iadd, 1) := by decide +kernel
theorem dX11_fire_146 : decode cX11_fire 146 = .ok (.istore_n 3, 1) := by decide +kernel
theorem dX11_fire_147 : decode cX11_fire 147 = .ok (.iload_n 3, 1) := by decide +kernel
theorem dX11_fire_148 : decode cX11_fire 148 = .ok (.bipush 16, 2) := by decide +kernel
theorem dX11_fire_150 : decode cX11_fire 150 = .ok (.ishr, 1) := by decide +kernel
theorem dX11_fire_151 : decode cX11_fire 151 = .ok (.sipush 32767, 3) := by decide +kernel
theorem dX11_fire_154 : decode cX11_fire 154 = .ok (.iand, 1) := by decide +kernel
theorem dX11_fire_155 : decode cX11_fire 155 = .ok (.iload 6, 2) := by decide +kernel
theorem dX11_fire_157 : decode cX11_fire 157 = .ok (.irem, 1) := by decide +kernel
theorem dX11_fire_158 : decode cX11_fire 158 = .ok (.istore 7, 2) := by decide +kernel
theorem dX11_fire_160 : decode cX11_fire 160 = .ok (.iconst 0, 1) := by decide +kernel
theorem dX11_fire_161 : decode cX11_fire 161 = .ok (.istore 8, 2) := by decide +kernel
theorem dX11_fire_163 : decode cX11_fire 163 = .ok (.iload 7, 2) := by decide +kernel
theorem dX11_fire_165 : decode cX11_fire 165 = .ok (.ifCond .gt 14, 3) := by decide +kernel
theorem dX11_fire_168 : decode cX11_fire 168 = .ok (.aload_n 0, 1) := by decide +kernel
theorem dX11_fire_169 : decode cX11_fire 169 = .ok (.iload 8, 2) := by decide +kernel
theorem dX11_fire_171 : decode cX11_fire 171 = .ok (.iload 4, 2) := by decide +kernel
theorem dX11_fire_173 : decode cX11_fire 173 = .ok (.invokevirtual 219, 3) := by decide +kernel
theorem dX11_fire_176 : decode cX11_fire 176 = .ok (.ifCond .ne 30, 3) := by decide +kernel
theorem dX11_fire_179 : decode cX11_fire 179 = .ok (.iload 7, 2) := by decide +kernel
theorem dX11_fire_181 : decode cX11_fire 181 = .ok (.aload_n 0, 1) := by decide +kernel
theorem dX11_fire_182 : decode cX11_fire 182 = .ok (.iload 8, 2) := by decide +kernel
theorem dX11_fire_184 : decode cX11_fire 184 = .ok (.iload 4, 2) := by decide +kernel
theorem dX11_fire_186 : decode cX11_fire 186 = .ok (.invokevirtual 219, 3) := by decide +kernel
theorem dX11_fire_189 : decode cX11_fire 189 = .ok (.ifCond .eq 7, 3) := by decide +kernel
theorem dX11_fire_192 : decode cX11_fire 192 = .ok (.iconst 1, 1) := by decide +kernel
theorem dX11_fire_193 : decode cX11_fire 193 = .ok (.goto 4, 3) := by decide +kernel
theorem dX11_fire_196 : decode cX11_fire 196 = .ok (.iconst 0, 1) := by decide +kernel
theorem dX11_fire_197 : decode cX11_fire 197 = .ok (.isub, 1) := by decide +kernel
theorem dX11_fire_198 : decode cX11_fire 198 = .ok (.istore 7, 2) := by decide +kernel
theorem dX11_fire_200 : decode cX11_fire 200 = .ok (.iinc 8 1, 3) := by decide +kernel
theorem dX11_fire_203 : decode cX11_fire 203 = .ok (.goto (-40), 3) := by decide +kernel
theorem dX11_fire_206 : decode cX11_fire 206 = .ok (.aload_n 0, 1) := by decide +kernel
theorem dX11_fire_207 : decode cX11_fire 207 = .ok (.getfield 75, 3) := by decide +kernel
theorem dX11_fire_210 : decode cX11_fire 210 = .ok (.iconst 3, 1) := by decide +kernel
theorem dX11_fire_211 : decode cX11_fire 211 = .ok (.aload_n 0, 1) := by decide +kernel
theorem dX11_fire_212 : decode cX11_fire 212 = .ok (.getfield 216, 3) := by decide +kernel
theorem dX11_fire_215 : decode cX11_fire 215 = .ok (.imul, 1) := by decide +kernel
theorem dX11_fire_216 : decode cX11_fire 216 = .ok (.iload 4, 2) := by decide +kernel
theorem dX11_fire_218 : decode cX11_fire 218 = .ok (.iadd, 1) := by decide +kernel
theorem dX11_fire_219 : decode cX11_fire 219 = .ok (.iload 8, 2) := by decide +kernel
theorem dX11_fire_221 : decode cX11_fire 221 = .ok (.iastore, 1) := by decide +kernel
theorem dX11_fire_222 : decode cX11_fire 222 = .ok (.iinc 4 1, 3) := by decide +kernel
theorem dX11_fire_225 : decode cX11_fire 225 = .ok (.goto (-160), 3) := by decide +kernel
theorem dX11_fire_228 : decode cX11_fire 228 = .ok (.aload_n 0, 1) := by decide +kernel
theorem dX11_fire_229 : decode cX11_fire 229 = .ok (.getfield 69, 3) := by decide +kernel
theorem dX11_fire_232 : decode cX11_fire 232 = .ok (.aload_n 0, 1) := by decide +kernel
theorem dX11_fire_233 : decode cX11_fire 233 = .ok (.getfield 216, 3) := by decide +kernel
theorem dX11_fire_236 : decode cX11_fire 236 = .ok (.iload 4, 2) := by decide +kernel
theorem dX11_fire_238 : decode cX11_fire 238 = .ok (.iastore, 1) := by decide +kernel
theorem dX11_fire_239 : decode cX11_fire 239 = .ok (.iconst 0, 1) := by decide +kernel
theorem dX11_fire_240 : decode cX11_fire 240 = .ok (.istore 6, 2) := by decide +kernel
theorem dX11_fire_242 : decode cX11_fire 242 = .ok (.iload 6, 2) := by decide +kernel
theorem dX11_fire_244 : decode cX11_fire 244 = .ok (.bipush 12, 2) := by decide +kernel
theorem dX11_fire_246 : decode cX11_fire 246 = .ok (.if_icmp .ge 25, 3) := by decide +kernel
theorem dX11_fire_249 : decode cX11_fire 249 = .ok (.aload_n 0, 1) := by decide +kernel
theorem dX11_fire_250 : decode cX11_fire 250 = .ok (.getfield 78, 3) := by decide +kernel
theorem dX11_fire_253 : decode cX11_fire 253 = .ok (.bipush 12, 2) := by decide +kernel
theorem dX11_fire_255 : decode cX11_fire 255 = .ok (.aload_n 0, 1) := by decide +kernel
theorem dX11_fire_256 : decode cX11_fire 256 = .ok (.getfield 216, 3) := by decide +kernel
theorem dX11_fire_259 : decode cX11_fire 259 = .ok (.imul, 1) := by decide +kernel
theorem dX11_fire_260 : decode cX11_fire 260 = .ok (.iload 6, 2) := by decide +kernel
theorem dX11_fire_262 : decode cX11_fire 262 = .ok (.iadd, 1) := by decide +kernel
theorem dX11_fire_263 : decode cX11_fire 263 = .ok (.iconst 0, 1) := by decide +kernel
theorem dX11_fire_264 : decode cX11_fire 264 = .ok (.iastore, 1) := by decide +kernel
theorem dX11_fire_265 : decode cX11_fire 265 = .ok (.iinc 6 1, 3) := by decide +kernel
theorem dX11_fire_268 : decode cX11_fire 268 = .ok (.goto (-26), 3) := by decide +kernel
theorem dX11_fire_271 : decode cX11_fire 271 = .ok (.aload_n 0, 1) := by decide +kernel
theorem dX11_fire_272 : decode cX11_fire 272 = .ok (.dup, 1) := by decide +kernel
theorem dX11_fire_273 : decode cX11_fire 273 = .ok (.getfield 216, 3) := by decide +kernel
theorem dX11_fire_276 : decode cX11_fire 276 = .ok (.iconst 1, 1) := by decide +kernel
theorem dX11_fire_277 : decode cX11_fire 277 = .ok (.iadd, 1) := by decide +kernel
theorem dX11_fire_278 : decode cX11_fire 278 = .ok (.putfield 216, 3) := by decide +kernel
theorem dX11_fire_281 : decode cX11_fire 281 = .ok (.aload_n 0, 1) := by decide +kernel
theorem dX11_fire_282 : decode cX11_fire 282 = .ok (.getfield 216, 3) := by decide +kernel
theorem dX11_fire_285 : decode cX11_fire 285 = .ok (.iconst 1, 1) := by decide +kernel
theorem dX11_fire_286 : decode cX11_fire 286 = .ok (.isub, 1) := by decide +kernel
theorem dX11_fire_287 : decode cX11_fire 287 = .ok (.ireturn, 1) := by decide +kernel
theorem dX11_can_0 : decode cX11_can 0 = .ok (.aload_n 0, 1) := by decide +kernel
theorem dX11_can_1 : decode cX11_can 1 = .ok (.getfield 42, 3) := by decide +kernel
theorem dX11_can_4 : decode cX11_can 4 = .ok (.iload_n 1, 1) := by decide +kernel
theorem dX11_can_5 : decode cX11_can 5 = .ok (.iaload, 1) := by decide +kernel
theorem dX11_can_6 : decode cX11_can 6 = .ok (.aload_n 0, 1) := by decide +kernel
theorem dX11_can_7 : decode cX11_can 7 = .ok (.getfield 42, 3) := by decide +kernel
theorem dX11_can_10 : decode cX11_can 10 = .ok (.aload_n 0, 1) := by decide +kernel
theorem dX11_can_11 : decode cX11_can 11 = .ok (.getfield 63, 3) := by decide +kernel
theorem dX11_can_14 : decode cX11_can 14 = .ok (.aload_n 0, 1) := by decide +kernel
theorem dX11_can_15 : decode cX11_can 15 = .ok (.getfield 216, 3) := by decide +kernel
theorem dX11_can_18 : decode cX11_can 18 = .ok (.iaload, 1) := by decide +kernel
theorem dX11_can_19 : decode cX11_can 19 = .ok (.iaload, 1) := by decide +kernel
theorem dX11_can_20 : decode cX11_can 20 = .ok (.if_icmp .eq 7, 3) := by decide +kernel
theorem dX11_can_23 : decode cX11_can 23 = .ok (.iconst 1, 1) := by decide +kernel
theorem dX11_can_24 : decode cX11_can 24 = .ok (.goto 4, 3) := by decide +kernel
theorem dX11_can_27 : decode cX11_can 27 = .ok (.iconst 0, 1) := by decide +kernel
theorem dX11_can_28 : decode cX11_can 28 = .ok (.istore_n 3, 1) := by decide +kernel
theorem dX11_can_29 : decode cX11_can 29 = .ok (.iconst 0, 1) := by decide +kernel
theorem dX11_can_30 : decode cX11_can 30 = .ok (.istore 4, 2) := by decide +kernel
theorem dX11_can_32 : decode cX11_can 32 = .ok (.iload 4, 2) := by decide +kernel
theorem dX11_can_34 : decode cX11_can 34 = .ok (.iload_n 2, 1) := by decide +kernel
theorem dX11_can_35 : decode cX11_can 35 = .ok (.if_icmp .ge 37, 3) := by decide +kernel
theorem dX11_can_38 : decode cX11_can 38 = .ok (.iload_n 3, 1) := by decide +kernel
theorem dX11_can_39 : decode cX11_can 39 = .ok (.ifCond .eq 25, 3) := by decide +kernel
theorem dX11_can_42 : decode cX11_can 42 = .ok (.aload_n 0, 1) := by decide +kernel
theorem dX11_can_43 : decode cX11_can 43 = .ok (.getfield 75, 3) := by decide +kernel
theorem dX11_can_46 : decode cX11_can 46 = .ok (.iconst 3, 1) := by decide +kernel
theorem dX11_can_47 : decode cX11_can 47 = .ok (.aload_n 0, 1) := by decide +kernel
theorem dX11_can_48 : decode cX11_can 48 = .ok (.getfield 216, 3) := by decide +kernel
theorem dX11_can_51 : decode cX11_can 51 = .ok (.imul, 1) := by decide +kernel
theorem dX11_can_52 : decode cX11_can 52 = .ok (.iload 4, 2) := by decide +kernel
theorem dX11_can_54 : decode cX11_can 54 = .ok (.iadd, 1) := by decide +kernel
theorem dX11_can_55 : decode cX11_can 55 = .ok (.iaload, 1) := by decide +kernel
theorem dX11_can_56 : decode cX11_can 56 = .ok (.iload_n 1, 1) := by decide +kernel
theorem dX11_can_57 : decode cX11_can 57 = .ok (.if_icmp .eq 7, 3) := by decide +kernel
theorem dX11_can_60 : decode cX11_can 60 = .ok (.iconst 1, 1) := by decide +kernel
theorem dX11_can_61 : decode cX11_can 61 = .ok (.goto 4, 3) := by decide +kernel
theorem dX11_can_64 : decode cX11_can 64 = .ok (.iconst 0, 1) := by decide +kernel
theorem dX11_can_65 : decode cX11_can 65 = .ok (.istore_n 3, 1) := by decide +kernel
theorem dX11_can_66 : decode cX11_can 66 = .ok (.iinc 4 1, 3) := by decide +kernel
theorem dX11_can_69 : decode cX11_can 69 = .ok (.goto (-37), 3) := by decide +kernel
theorem dX11_can_72 : decode cX11_can 72 = .ok (.iload_n 3, 1) := by decide +kernel
theorem dX11_can_73 : decode cX11_can 73 = .ok (.ireturn, 1) := by decide +kernel
theorem dX11_isFire_0 : decode cX11_isFire 0 = .ok (.iload_n 1, 1) := by decide +kernel
theorem dX11_isFire_1 : decode cX11_isFire 1 = .ok (.ifCond .lt 15, 3) := by decide +kernel
theorem dX11_isFire_4 : decode cX11_isFire 4 = .ok (.iload_n 1, 1) := by decide +kernel
theorem dX11_isFire_5 : decode cX11_isFire 5 = .ok (.aload_n 0, 1) := by decide +kernel
theorem dX11_isFire_6 : decode cX11_isFire 6 = .ok (.getfield 216, 3) := by decide +kernel
theorem dX11_isFire_9 : decode cX11_isFire 9 = .ok (.if_icmp .ge 7, 3) := by decide +kernel
theorem dX11_isFire_12 : decode cX11_isFire 12 = .ok (.iconst 1, 1) := by decide +kernel
theorem dX11_isFire_13 : decode cX11_isFire 13 = .ok (.goto 4, 3) := by decide +kernel
theorem dX11_isFire_16 : decode cX11_isFire 16 = .ok (.iconst 0, 1) := by decide +kernel
theorem dX11_isFire_17 : decode cX11_isFire 17 = .ok (.ireturn, 1) := by decide +kernel
theorem dX11_fails_0 : decode cX11_fails 0 = .ok (.aload_n 0, 1) := by decide +kernel
theorem dX11_fails_1 : decode cX11_fails 1 = .ok (.iload_n 1, 1) := by decide +kernel
theorem dX11_fails_2 : decode cX11_fails 2 = .ok (.putfield 112, 3) := by decide +kernel
theorem dX11_fails_5 : decode cX11_fails 5 = .ok (.iconst 0, 1) := by decide +kernel
theorem dX11_fails_6 : decode cX11_fails 6 = .ok (.ireturn, 1) := by decide +kernel
theorem dX11_judge_0 : decode cX11_judge 0 = .ok (.aload_n 0, 1) := by decide +kernel
theorem dX11_judge_1 : decode cX11_judge 1 = .ok (.iconst 0, 1) := by decide +kernel
theorem dX11_judge_2 : decode cX11_judge 2 = .ok (.putfield 112, 3) := by decide +kernel
theorem dX11_judge_5 : decode cX11_judge 5 = .ok (.aload_n 0, 1) := by decide +kernel
theorem dX11_judge_6 : decode cX11_judge 6 = .ok (.iload_n 1, 1) := by decide +kernel
theorem dX11_judge_7 : decode cX11_judge 7 = .ok (.invokevirtual 223, 3) := by decide +kernel
theorem dX11_judge_10 : decode cX11_judge 10 = .ok (.ifCond .ne 9, 3) := by decide +kernel
theorem dX11_judge_13 : decode cX11_judge 13 = .ok (.aload_n 0, 1) := by decide +kernel
theorem dX11_judge_14 : decode cX11_judge 14 = .ok (.iconst 1, 1) := by decide +kernel
theorem dX11_judge_15 : decode cX11_judge 15 = .ok (.invokevirtual 226, 3) := by decide +kernel
theorem dX11_judge_18 : decode cX11_judge 18 = .ok (.ireturn, 1) := by decide +kernel
theorem dX11_judge_19 : decode cX11_judge 19 = .ok (.iload_n 2, 1) := by decide +kernel
theorem dX11_judge_20 : decode cX11_judge 20 = .ok (.ifCond .lt 13, 3) := by decide +kernel
theorem dX11_judge_23 : decode cX11_judge 23 = .ok (.iload_n 2, 1) := by decide +kernel
theorem dX11_judge_24 : decode cX11_judge 24 = .ok (.aload_n 0, 1) := by decide +kernel
theorem dX11_judge_25 : decode cX11_judge 25 = .ok (.getfield 69, 3) := by decide +kernel
theorem dX11_judge_28 : decode cX11_judge 28 = .ok (.iload_n 1, 1) := by decide +kernel
theorem dX11_judge_29 : decode cX11_judge 29 = .ok (.iaload, 1) := by decide +kernel
theorem dX11_judge_30 : decode cX11_judge 30 = .ok (.if_icmp .lt 11, 3) := by decide +kernel
theorem dX11_judge_33 : decode cX11_judge 33 = .ok (.aload_n 0, 1) := by decide +kernel
theorem dX11_judge_34 : decode cX11_judge 34 = .ok (.iconst 2, 1) := by decide +kernel
theorem dX11_judge_35 : decode cX11_judge 35 = .ok (.invokevirtual 226, 3) := by decide +kernel
theorem dX11_judge_38 : decode cX11_judge 38 = .ok (.goto 13, 3) := by decide +kernel
theorem dX11_judge_41 : decode cX11_judge 41 = .ok (.aload_n 0, 1) := by decide +kernel
theorem dX11_judge_42 : decode cX11_judge 42 = .ok (.getfield 75, 3) := by decide +kernel
theorem dX11_judge_45 : decode cX11_judge 45 = .ok (.iconst 3, 1) := by decide +kernel
theorem dX11_judge_46 : decode cX11_judge 46 = .ok (.iload_n 1, 1) := by decide +kernel
theorem dX11_judge_47 : decode cX11_judge 47 = .ok (.imul, 1) := by decide +kernel
theorem dX11_judge_48 : decode cX11_judge 48 = .ok (.iload_n 2, 1) := by decide +kernel
theorem dX11_judge_49 : decode cX11_judge 49 = .ok (.iadd, 1) := by decide +kernel
theorem dX11_judge_50 : decode cX11_judge 50 = .ok (.iaload, 1) := by decide +kernel
theorem dX11_judge_51 : decode cX11_judge 51 = .ok (.ireturn, 1) := by decide +kernel
theorem dX11_say_0 : decode cX11_say 0 = .ok (.aload_n 0, 1) := by decide +kernel
theorem dX11_say_1 : decode cX11_say 1 = .ok (.iconst 0, 1) := by decide +kernel
theorem dX11_say_2 : decode cX11_say 2 = .ok (.putfield 112, 3) := by decide +kernel
theorem dX11_say_5 : decode cX11_say 5 = .ok (.aload_n 0, 1) := by decide +kernel
theorem dX11_say_6 : decode cX11_say 6 = .ok (.iload_n 1, 1) := by decide +kernel
theorem dX11_say_7 : decode cX11_say 7 = .ok (.invokevirtual 223, 3) := by decide +kernel
theorem dX11_say_10 : decode cX11_say 10 = .ok (.ifCond .eq 47, 3) := by decide +kernel
theorem dX11_say_13 : decode cX11_say 13 = .ok (.iload_n 2, 1) := by decide +kernel
theorem dX11_say_14 : decode cX11_say 14 = .ok (.ifCond .lt 43, 3) := by decide +kernel
theorem dX11_say_17 : decode cX11_say 17 = .ok (.iload_n 2, 1) := by decide +kernel
theorem dX11_say_18 : decode cX11_say 18 = .ok (.aload_n 0, 1) := by decide +kernel
theorem dX11_say_19 : decode cX11_say 19 = .ok (.getfield 69, 3) := by decide +kernel
theorem dX11_say_22 : decode cX11_say 22 = .ok (.iload_n 1, 1) := by decide +kernel
theorem dX11_say_23 : decode cX11_say 23 = .ok (.iaload, 1) := by decide +kernel
theorem dX11_say_24 : decode cX11_say 24 = .ok (.if_icmp .ge 33, 3) := by decide +kernel
theorem dX11_say_27 : decode cX11_say 27 = .ok (.iload_n 3, 1) := by decide +kernel
theorem dX11_say_28 : decode cX11_say 28 = .ok (.ifCond .lt 29, 3) := by decide +kernel
theorem dX11_say_31 : decode cX11_say 31 = .ok (.iload_n 3, 1) := by decide +kernel
theorem dX11_say_32 : decode cX11_say 32 = .ok (.iconst 3, 1) := by decide +kernel
theorem dX11_say_33 : decode cX11_say 33 = .ok (.if_icmp .gt 24, 3) := by decide +kernel
theorem dX11_say_36 : decode cX11_say 36 = .ok (.iload 4, 2) := by decide +kernel
theorem dX11_say_38 : decode cX11_say 38 = .ok (.ifCond .lt 19, 3) := by decide +kernel
theorem dX11_say_41 : decode cX11_say 41 = .ok (.iload 4, 2) := by decide +kernel
theorem dX11_say_43 : decode cX11_say 43 = .ok (.bipush 100, 2) := by decide +kernel
theorem dX11_say_45 : decode cX11_say 45 = .ok (.if_icmp .gt 12, 3) := by decide +kernel
theorem dX11_say_48 : decode cX11_say 48 = .ok (.aload_n 0, 1) := by decide +kernel
theorem dX11_say_49 : decode cX11_say 49 = .ok (.getfield 72, 3) := by decide +kernel
theorem dX11_say_52 : decode cX11_say 52 = .ok (.iload_n 1, 1) := by decide +kernel
theorem dX11_say_53 : decode cX11_say 53 = .ok (.baload, 1) := by decide +kernel
theorem dX11_say_54 : decode cX11_say 54 = .ok (.ifCond .eq 5, 3) := by decide +kernel
theorem dX11_say_57 : decode cX11_say 57 = .ok (.iconst 0, 1) := by decide +kernel
theorem dX11_say_58 : decode cX11_say 58 = .ok (.ireturn, 1) := by decide +kernel
theorem dX11_say_59 : decode cX11_say 59 = .ok (.aload_n 0, 1) := by decide +kernel
theorem dX11_say_60 : decode cX11_say 60 = .ok (.getfield 78, 3) := by decide +kernel
theorem dX11_say_63 : decode cX11_say 63 = .ok (.bipush 12, 2) := by decide +kernel
theorem dX11_say_65 : decode cX11_say 65 = .ok (.iload_n 1, 1) := by decide +kernel
theorem dX11_say_66 : decode cX11_say 66 = .ok (.imul, 1) := by decide +kernel
theorem dX11_say_67 : decode cX11_say 67 = .ok (.iconst 4, 1) := by decide +kernel
theorem dX11_say_68 : decode cX11_say 68 = .ok (.iload_n 2, 1) := by decide +kernel
theorem dX11_say_69 : decode cX11_say 69 = .ok (.imul, 1) := by decide +kernel
theorem dX11_say_70 : decode cX11_say 70 = .ok (.iadd, 1) := by decide +kernel
theorem dX11_say_71 : decode cX11_say 71 = .ok (.iload_n 3, 1) := by decide +kernel
theorem dX11_say_72 : decode cX11_say 72 = .ok (.iadd, 1) := by decide +kernel
theorem dX11_say_73 : decode cX11_say 73 = .ok (.iload 4, 2) := by decide +kernel
theorem dX11_say_75 : decode cX11_say 75 = .ok (.iastore, 1) := by decide +kernel
theorem dX11_say_76 : decode cX11_say 76 = .ok (.iconst 1, 1) := by decide +kernel
theorem dX11_say_77 : decode cX11_say 77 = .ok (.ireturn, 1) := by decide +kernel
theorem dX11_close_0 : decode cX11_close 0 = .ok (.aload_n 0, 1) := by decide +kernel
theorem dX11_close_1 : decode cX11_close 1 = .ok (.iconst 0, 1) := by decide +kernel
theorem dX11_close_2 : decode cX11_close 2 = .ok (.putfield 112, 3) := by decide +kernel
theorem dX11_close_5 : decode cX11_close 5 = .ok (.aload_n 0, 1) := by decide +kernel
theorem dX11_close_6 : decode cX11_close 6 = .ok (.iload_n 1, 1) := by decide +kernel
theorem dX11_close_7 : decode cX11_close 7 = .ok (.invokevirtual 223, 3) := by decide +kernel
theorem dX11_close_10 : decode cX11_close 10 = .ok (.ifCond .eq 12, 3) := by decide +kernel
theorem dX11_close_13 : decode cX11_close 13 = .ok (.aload_n 0, 1) := by decide +kernel
theorem dX11_close_14 : decode cX11_close 14 = .ok (.getfield 72, 3) := by decide +kernel
theorem dX11_close_17 : decode cX11_close 17 = .ok (.iload_n 1, 1) := by decide +kernel
theorem dX11_close_18 : decode cX11_close 18 = .ok (.baload, 1) := by decide +kernel
theorem dX11_close_19 : decode cX11_close 19 = .ok (.ifCond .eq 5, 3) := by decide +kernel
theorem dX11_close_22 : decode cX11_close 22 = .ok (.iconst 0, 1) := by decide +kernel
theorem dX11_close_23 : decode cX11_close 23 = .ok (.ireturn, 1) := by decide +kernel
theorem dX11_close_24 : decode cX11_close 24 = .ok (.aload_n 0, 1) := by decide +kernel
theorem dX11_close_25 : decode cX11_close 25 = .ok (.getfield 72, 3) := by decide +kernel
theorem dX11_close_28 : decode cX11_close 28 = .ok (.iload_n 1, 1) := by decide +kernel
theorem dX11_close_29 : decode cX11_close 29 = .ok (.iconst 1, 1) := by decide +kernel
theorem dX11_close_30 : decode cX11_close 30 = .ok (.bastore, 1) := by decide +kernel
theorem dX11_close_31 : decode cX11_close 31 = .ok (.iconst 1, 1) := by decide +kernel
theorem dX11_close_32 : decode cX11_close 32 = .ok (.ireturn, 1) := by decide +kernel
theorem dX11_lost_0 : decode cX11_lost 0 = .ok (.aload_n 0, 1) := by decide +kernel
theorem dX11_lost_1 : decode cX11_lost 1 = .ok (.getfield 78, 3) := by decide +kernel
theorem dX11_lost_4 : decode cX11_lost 4 = .ok (.bipush 12, 2) := by decide +kernel
theorem dX11_lost_6 : decode cX11_lost 6 = .ok (.iload_n 1, 1) := by decide +kernel
theorem dX11_lost_7 : decode cX11_lost 7 = .ok (.imul, 1) := by decide +kernel
theorem dX11_lost_8 : decode cX11_lost 8 = .ok (.iload_n 2, 1) := by decide +kernel
theorem dX11_lost_9 : decode cX11_lost 9 = .ok (.iadd, 1) := by decide +kernel
theorem dX11_lost_10 : decode cX11_lost 10 = .ok (.iaload, 1) := by decide +kernel
theorem dX11_lost_11 : decode cX11_lost 11 = .ok (.istore_n 3, 1) := by decide +kernel
theorem dX11_lost_12 : decode cX11_lost 12 = .ok (.aload_n 0, 1) := by decide +kernel
theorem dX11_lost_13 : decode cX11_lost 13 = .ok (.getfield 78, 3) := by decide +kernel
theorem dX11_lost_16 : decode cX11_lost 16 = .ok (.bipush 12, 2) := by decide +kernel
theorem dX11_lost_18 : decode cX11_lost 18 = .ok (.iload_n 1, 1) := by decide +kernel
theorem dX11_lost_19 : decode cX11_lost 19 = .ok (.imul, 1) := by decide +kernel
theorem dX11_lost_20 : decode cX11_lost 20 = .ok (.iconst 4, 1) := by decide +kernel
theorem dX11_lost_21 : decode cX11_lost 21 = .ok (.iadd, 1) := by decide +kernel
theorem dX11_lost_22 : decode cX11_lost 22 = .ok (.iload_n 2, 1) := by decide +kernel
theorem dX11_lost_23 : decode cX11_lost 23 = .ok (.iadd, 1) := by decide +kernel
theorem dX11_lost_24 : decode cX11_lost 24 = .ok (.iaload, 1) := by decide +kernel
theorem dX11_lost_25 : decode cX11_lost 25 = .ok (.istore 4, 2) := by decide +kernel
theorem dX11_lost_27 : decode cX11_lost 27 = .ok (.aload_n 0, 1) := by decide +kernel
theorem dX11_lost_28 : decode cX11_lost 28 = .ok (.getfield 78, 3) := by decide +kernel
theorem dX11_lost_31 : decode cX11_lost 31 = .ok (.bipush 12, 2) := by decide +kernel
theorem dX11_lost_33 : decode cX11_lost 33 = .ok (.iload_n 1, 1) := by decide +kernel
theorem dX11_lost_34 : decode cX11_lost 34 = .ok (.imul, 1) := by decide +kernel
theorem dX11_lost_35 : decode cX11_lost 35 = .ok (.bipush 8, 2) := by decide +kernel
theorem dX11_lost_37 : decode cX11_lost 37 = .ok (.iadd, 1) := by decide +kernel
theorem dX11_lost_38 : decode cX11_lost 38 = .ok (.iload_n 2, 1) := by decide +kernel
theorem dX11_lost_39 : decode cX11_lost 39 = .ok (.iadd, 1) := by decide +kernel
theorem dX11_lost_40 : decode cX11_lost 40 = .ok (.iaload, 1) := by decide +kernel
theorem dX11_lost_41 : decode cX11_lost 41 = .ok (.istore 5, 2) := by decide +kernel
theorem dX11_lost_43 : decode cX11_lost 43 = .ok (.iload_n 3, 1) := by decide +kernel
theorem dX11_lost_44 : decode cX11_lost 44 = .ok (.iload 4, 2) := by decide +kernel
theorem dX11_lost_46 : decode cX11_lost 46 = .ok (.if_icmp .ge 7, 3) := by decide +kernel
theorem dX11_lost_49 : decode cX11_lost 49 = .ok (.iload_n 3, 1) := by decide +kernel
theorem dX11_lost_50 : decode cX11_lost 50 = .ok (.goto 5, 3) := by decide +kernel
theorem dX11_lost_53 : decode cX11_lost 53 = .ok (.iload 4, 2) := by decide +kernel
theorem dX11_lost_55 : decode cX11_lost 55 = .ok (.istore 6, 2) := by decide +kernel
theorem dX11_lost_57 : decode cX11_lost 57 = .ok (.iload_n 3, 1) := by decide +kernel
theorem dX11_lost_58 : decode cX11_lost 58 = .ok (.iload 4, 2) := by decide +kernel
theorem dX11_lost_60 : decode cX11_lost 60 = .ok (.if_icmp .ge 8, 3) := by decide +kernel
theorem dX11_lost_63 : decode cX11_lost 63 = .ok (.iload 4, 2) := by decide +kernel
theorem dX11_lost_65 : decode cX11_lost 65 = .ok (.goto 4, 3) := by decide +kernel
theorem dX11_lost_68 : decode cX11_lost 68 = .ok (.iload_n 3, 1) := by decide +kernel
theorem dX11_lost_69 : decode cX11_lost 69 = .ok (.istore 7, 2) := by decide +kernel
theorem dX11_lost_71 : decode cX11_lost 71 = .ok (.aload_n 0, 1) := by decide +kernel
theorem dX11_lost_72 : decode cX11_lost 72 = .ok (.getfield 69, 3) := by decide +kernel
theorem dX11_lost_75 : decode cX11_lost 75 = .ok (.iload_n 1, 1) := by decide +kernel
theorem dX11_lost_76 : decode cX11_lost 76 = .ok (.iaload, 1) := by decide +kernel
theorem dX11_lost_77 : decode cX11_lost 77 = .ok (.ifCond .ne 5, 3) := by decide +kernel
theorem dX11_lost_80 : decode cX11_lost 80 = .ok (.iconst 0, 1) := by decide +kernel
theorem dX11_lost_81 : decode cX11_lost 81 = .ok (.ireturn, 1) := by decide +kernel
theorem dX11_lost_82 : decode cX11_lost 82 = .ok (.aload_n 0, 1) := by decide +kernel
theorem dX11_lost_83 : decode cX11_lost 83 = .ok (.getfield 69, 3) := by decide +kernel
theorem dX11_lost_86 : decode cX11_lost 86 = .ok (.iload_n 1, 1) := by decide +kernel
theorem dX11_lost_87 : decode cX11_lost 87 = .ok (.iaload, 1) := by decide +kernel
theorem dX11_lost_88 : decode cX11_lost 88 = .ok (.iconst 1, 1) := by decide +kernel
theorem dX11_lost_89 : decode cX11_lost 89 = .ok (.if_icmp .ne 5, 3) := by decide +kernel
theorem dX11_lost_92 : decode cX11_lost 92 = .ok (.iload_n 3, 1) := by decide +kernel
theorem dX11_lost_93 : decode cX11_lost 93 = .ok (.ireturn, 1) := by decide +kernel
theorem dX11_lost_94 : decode cX11_lost 94 = .ok (.aload_n 0, 1) := by decide +kernel
theorem dX11_lost_95 : decode cX11_lost 95 = .ok (.getfield 69, 3) := by decide +kernel
theorem dX11_lost_98 : decode cX11_lost 98 = .ok (.iload_n 1, 1) := by decide +kernel
theorem dX11_lost_99 : decode cX11_lost 99 = .ok (.iaload, 1) := by decide +kernel
theorem dX11_lost_100 : decode cX11_lost 100 = .ok (.iconst 2, 1) := by decide +kernel
theorem dX11_lost_101 : decode cX11_lost 101 = .ok (.if_icmp .ne 6, 3) := by decide +kernel
theorem dX11_lost_104 : decode cX11_lost 104 = .ok (.iload 6, 2) := by decide +kernel
theorem dX11_lost_106 : decode cX11_lost 106 = .ok (.ireturn, 1) := by decide +kernel
theorem dX11_lost_107 : decode cX11_lost 107 = .ok (.iload 5, 2) := by decide +kernel
theorem dX11_lost_109 : decode cX11_lost 109 = .ok (.iload 6, 2) := by decide +kernel
theorem dX11_lost_111 : decode cX11_lost 111 = .ok (.if_icmp .ge 8, 3) := by decide +kernel
theorem dX11_lost_114 : decode cX11_lost 114 = .ok (.iload 6, 2) := by decide +kernel
theorem dX11_lost_116 : decode cX11_lost 116 = .ok (.goto 17, 3) := by decide +kernel
theorem dX11_lost_119 : decode cX11_lost 119 = .ok (.iload 5, 2) := by decide +kernel
theorem dX11_lost_121 : decode cX11_lost 121 = .ok (.iload 7, 2) := by decide +kernel
theorem dX11_lost_123 : decode cX11_lost 123 = .ok (.if_icmp .le 8, 3) := by decide +kernel
theorem dX11_lost_126 : decode cX11_lost 126 = .ok (.iload 7, 2) := by decide +kernel
theorem dX11_lost_128 : decode cX11_lost 128 = .ok (.goto 5, 3) := by decide +kernel
theorem dX11_lost_131 : decode cX11_lost 131 = .ok (.iload 5, 2) := by decide +kernel
theorem dX11_lost_133 : decode cX11_lost 133 = .ok (.ireturn, 1) := by decide +kernel
theorem dX11_look_0 : decode cX11_look 0 = .ok (.aload_n 0, 1) := by decide +kernel
theorem dX11_look_1 : decode cX11_look 1 = .ok (.iconst 0, 1) := by decide +kernel
theorem dX11_look_2 : decode cX11_look 2 = .ok (.putfield 112, 3) := by decide +kernel
theorem dX11_look_5 : decode cX11_look 5 = .ok (.aload_n 0, 1) := by decide +kernel
theorem dX11_look_6 : decode cX11_look 6 = .ok (.iload_n 1, 1) := by decide +kernel
theorem dX11_look_7 : decode cX11_look 7 = .ok (.invokevirtual 223, 3) := by decide +kernel
theorem dX11_look_10 : decode cX11_look 10 = .ok (.ifCond .ne 9, 3) := by decide +kernel
theorem dX11_look_13 : decode cX11_look 13 = .ok (.aload_n 0, 1) := by decide +kernel
theorem dX11_look_14 : decode cX11_look 14 = .ok (.iconst 1, 1) := by decide +kernel
theorem dX11_look_15 : decode cX11_look 15 = .ok (.invokevirtual 226, 3) := by decide +kernel
theorem dX11_look_18 : decode cX11_look 18 = .ok (.ireturn, 1) := by decide +kernel
theorem dX11_look_19 : decode cX11_look 19 = .ok (.iload_n 2, 1) := by decide +kernel
theorem dX11_look_20 : decode cX11_look 20 = .ok (.tableswitch 93 0 7 #[48, 55, 62, 69, 84, 84, 84, 84], 48) := by decide +kernel
theorem dX11_look_68 : decode cX11_look 68 = .ok (.aload_n 0, 1) := by decide +kernel
theorem dX11_look_69 : decode cX11_look 69 = .ok (.getfield 63, 3) := by decide +kernel
theorem dX11_look_72 : decode cX11_look 72 = .ok (.iload_n 1, 1) := by decide +kernel
theorem dX11_look_73 : decode cX11_look 73 = .ok (.iaload, 1) := by decide +kernel
theorem dX11_look_74 : decode cX11_look 74 = .ok (.ireturn, 1) := by decide +kernel
theorem dX11_look_75 : decode cX11_look 75 = .ok (.aload_n 0, 1) := by decide +kernel
theorem dX11_look_76 : decode cX11_look 76 = .ok (.getfield 66, 3) := by decide +kernel
theorem dX11_look_79 : decode cX11_look 79 = .ok (.iload_n 1, 1) := by decide +kernel
theorem dX11_look_80 : decode cX11_look 80 = .ok (.iaload, 1) := by decide +kernel
theorem dX11_look_81 : decode cX11_look 81 = .ok (.ireturn, 1) := by decide +kernel
theorem dX11_look_82 : decode cX11_look 82 = .ok (.aload_n 0, 1) := by decide +kernel
theorem dX11_look_83 : decode cX11_look 83 = .ok (.getfield 69, 3) := by decide +kernel
theorem dX11_look_86 : decode cX11_look 86 = .ok (.iload_n 1, 1) := by decide +kernel
theorem dX11_look_87 : decode cX11_look 87 = .ok (.iaload, 1) := by decide +kernel
theorem dX11_look_88 : decode cX11_look 88 = .ok (.ireturn, 1) := by decide +kernel
theorem dX11_look_89 : decode cX11_look 89 = .ok (.aload_n 0, 1) := by decide +kernel
theorem dX11_look_90 : decode cX11_look 90 = .ok (.getfield 72, 3) := by decide +kernel
theorem dX11_look_93 : decode cX11_look 93 = .ok (.iload_n 1, 1) := by decide +kernel
theorem dX11_look_94 : decode cX11_look 94 = .ok (.baload, 1) := by decide +kernel
theorem dX11_look_95 : decode cX11_look 95 = .ok (.ifCond .eq 7, 3) := by decide +kernel
theorem dX11_look_98 : decode cX11_look 98 = .ok (.iconst 1, 1) := by decide +kernel
theorem dX11_look_99 : decode cX11_look 99 = .ok (.goto 4, 3) := by decide +kernel
theorem dX11_look_102 : decode cX11_look 102 = .ok (.iconst 0, 1) := by decide +kernel
theorem dX11_look_103 : decode cX11_look 103 = .ok (.ireturn, 1) := by decide +kernel
theorem dX11_look_104 : decode cX11_look 104 = .ok (.aload_n 0, 1) := by decide +kernel
theorem dX11_look_105 : decode cX11_look 105 = .ok (.iload_n 1, 1) := by decide +kernel
theorem dX11_look_106 : decode cX11_look 106 = .ok (.iload_n 2, 1) := by decide +kernel
theorem dX11_look_107 : decode cX11_look 107 = .ok (.iconst 4, 1) := by decide +kernel
theorem dX11_look_108 : decode cX11_look 108 = .ok (.isub, 1) := by decide +kernel
theorem dX11_look_109 : decode cX11_look 109 = .ok (.invokevirtual 230, 3) := by decide +kernel
theorem dX11_look_112 : decode cX11_look 112 = .ok (.ireturn, 1) := by decide +kernel
theorem dX11_look_113 : decode cX11_look 113 = .ok (.aload_n 0, 1) := by decide +kernel
theorem dX11_look_114 : decode cX11_look 114 = .ok (.iconst 2, 1) := by decide +kernel
theorem dX11_look_115 : decode cX11_look 115 = .ok (.invokevirtual 226, 3) := by decide +kernel
theorem dX11_look_118 : decode cX11_look 118 = .ok (.ireturn, 1) := by decide +kernel
theorem dX11_awarded_0 : decode cX11_awarded 0 = .ok (.aload_n 0, 1) := by decide +kernel
theorem dX11_awarded_1 : decode cX11_awarded 1 = .ok (.getfield 66, 3) := by decide +kernel
theorem dX11_awarded_4 : decode cX11_awarded 4 = .ok (.iload_n 1, 1) := by decide +kernel
theorem dX11_awarded_5 : decode cX11_awarded 5 = .ok (.iaload, 1) := by decide +kernel
theorem dX11_awarded_6 : decode cX11_awarded 6 = .ok (.istore_n 3, 1) := by decide +kernel
theorem dX11_awarded_7 : decode cX11_awarded 7 = .ok (.aload_n 0, 1) := by decide +kernel
theorem dX11_awarded_8 : decode cX11_awarded 8 = .ok (.getfield 63, 3) := by decide +kernel
theorem dX11_awarded_11 : decode cX11_awarded 11 = .ok (.iload_n 1, 1) := by decide +kernel
theorem dX11_awarded_12 : decode cX11_awarded 12 = .ok (.iaload, 1) := by decide +kernel
theorem dX11_awarded_13 : decode cX11_awarded 13 = .ok (.istore 4, 2) := by decide +kernel
theorem dX11_awarded_15 : decode cX11_awarded 15 = .ok (.lconst 0, 1) := by decide +kernel
theorem dX11_awarded_16 : decode cX11_awarded 16 = .ok (.lstore 5, 2) := by decide +kernel
theorem dX11_awarded_18 : decode cX11_awarded 18 = .ok (.iconst 0, 1) := by decide +kernel
theorem dX11_awarded_19 : decode cX11_awarded 19 = .ok (.istore 7, 2) := by decide +kernel
theorem dX11_awarded_21 : decode cX11_awarded 21 = .ok (.iload 7, 2) := by decide +kernel
theorem dX11_awarded_23 : decode cX11_awarded 23 = .ok (.iconst 4, 1) := by decide +kernel
theorem dX11_awarded_24 : decode cX11_awarded 24 = .ok (.if_icmp .ge 113, 3) := by decide +kernel
theorem dX11_awarded_27 : decode cX11_awarded 27 = .ok (.aload_n 0, 1) := by decide +kernel
theorem dX11_awarded_28 : decode cX11_awarded 28 = .ok (.bipush 8, 2) := by decide +kernel
theorem dX11_awarded_30 : decode cX11_awarded 30 = .ok (.iload 7, 2) := by decide +kernel
theorem dX11_awarded_32 : decode cX11_awarded 32 = .ok (.iadd, 1) := by decide +kernel
theorem dX11_awarded_33 : decode cX11_awarded 33 = .ok (.iload_n 3, 1) := by decide +kernel
theorem dX11_awarded_34 : decode cX11_awarded 34 = .ok (.iload_n 2, 1) := by decide +kernel
theorem dX11_awarded_35 : decode cX11_awarded 35 = .ok (.invokevirtual 213, 3) := by decide +kernel
theorem dX11_awarded_38 : decode cX11_awarded 38 = .ok (.ifCond .ne 6, 3) := by decide +kernel
theorem dX11_awarded_41 : decode cX11_awarded 41 = .ok (.goto 90, 3) := by decide +kernel
theorem dX11_awarded_44 : decode cX11_awarded 44 = .ok (.aload_n 0, 1) := by decide +kernel
theorem dX11_awarded_45 : decode cX11_awarded 45 = .ok (.iload 4, 2) := by decide +kernel
theorem dX11_awarded_47 : decode cX11_awarded 47 = .ok (.iload 7, 2) := by decide +kernel
theorem dX11_awarded_49 : decode cX11_awarded 49 = .ok (.iload_n 3, 1) := by decide +kernel
theorem dX11_awarded_50 : decode cX11_awarded 50 = .ok (.iload_n 2, 1) := by decide +kernel
theorem dX11_awarded_51 : decode cX11_awarded 51 = .ok (.invokevirtual 205, 3) := by decide +kernel
theorem dX11_awarded_54 : decode cX11_awarded 54 = .ok (.i2l, 1) := by decide +kernel
theorem dX11_awarded_55 : decode cX11_awarded 55 = .ok (.lstore 8, 2) := by decide +kernel
theorem dX11_awarded_57 : decode cX11_awarded 57 = .ok (.aload_n 0, 1) := by decide +kernel
theorem dX11_awarded_58 : decode cX11_awarded 58 = .ok (.iload 4, 2) := by decide +kernel
theorem dX11_awarded_60 : decode cX11_awarded 60 = .ok (.iconst 4, 1) := by decide +kernel
theorem dX11_awarded_61 : decode cX11_awarded 61 = .ok (.iload 7, 2) := by decide +kernel
theorem dX11_awarded_63 : decode cX11_awarded 63 = .ok (.iadd, 1) := by decide +kernel
theorem dX11_awarded_64 : decode cX11_awarded 64 = .ok (.iload_n 3, 1) := by decide +kernel
theorem dX11_awarded_65 : decode cX11_awarded 65 = .ok (.iload_n 2, 1) := by decide +kernel
theorem dX11_awarded_66 : decode cX11_awarded 66 = .ok (.invokevirtual 205, 3) := by decide +kernel
theorem dX11_awarded_69 : decode cX11_awarded 69 = .ok (.i2l, 1) := by decide +kernel
theorem dX11_awarded_70 : decode cX11_awarded 70 = .ok (.lstore 10, 2) := by decide +kernel
theorem dX11_awarded_72 : decode cX11_awarded 72 = .ok (.lload 8, 2) := by decide +kernel
theorem dX11_awarded_74 : decode cX11_awarded 74 = .ok (.aload_n 0, 1) := by decide +kernel
theorem dX11_awarded_75 : decode cX11_awarded 75 = .ok (.iconst 4, 1) := by decide +kernel
theorem dX11_awarded_76 : decode cX11_awarded 76 = .ok (.iload 7, 2) := by decide +kernel
theorem dX11_awarded_78 : decode cX11_awarded 78 = .ok (.iadd, 1) := by decide +kernel
theorem dX11_awarded_79 : decode cX11_awarded 79 = .ok (.iload_n 3, 1) := by decide +kernel
theorem dX11_awarded_80 : decode cX11_awarded 80 = .ok (.iload_n 2, 1) := by decide +kernel
theorem dX11_awarded_81 : decode cX11_awarded 81 = .ok (.invokevirtual 213, 3) := by decide +kernel
theorem dX11_awarded_84 : decode cX11_awarded 84 = .ok (.i2l, 1) := by decide +kernel
theorem dX11_awarded_85 : decode cX11_awarded 85 = .ok (.lmul, 1) := by decide +kernel
theorem dX11_awarded_86 : decode cX11_awarded 86 = .ok (.aload_n 0, 1) := by decide +kernel
theorem dX11_awarded_87 : decode cX11_awarded 87 = .ok (.iload_n 1, 1) := by decide +kernel
theorem dX11_awarded_88 : decode cX11_awarded 88 = .ok (.iload 7, 2) := by decide +kernel
theorem dX11_awarded_90 : decode cX11_awarded 90 = .ok (.invokevirtual 230, 3) := by decide +kernel
theorem dX11_awarded_93 : decode cX11_awarded 93 = .ok (.i2l, 1) := by decide +kernel
theorem dX11_awarded_94 : decode cX11_awarded 94 = .ok (.lmul, 1) := by decide +kernel
theorem dX11_awarded_95 : decode cX11_awarded 95 = .ok (.ldc2_w 233, 3) := by decide +kernel
theorem dX11_awarded_98 : decode cX11_awarded 98 = .ok (.ldiv, 1) := by decide +kernel
theorem dX11_awarded_99 : decode cX11_awarded 99 = .ok (.lstore 12, 2) := by decide +kernel
theorem dX11_awarded_101 : decode cX11_awarded 101 = .ok (.lload 5, 2) := by decide +kernel
theorem dX11_awarded_103 : decode cX11_awarded 103 = .ok (.lload 8, 2) := by decide +kernel
theorem dX11_awarded_105 : decode cX11_awarded 105 = .ok (.lload 10, 2) := by decide +kernel
theorem dX11_awarded_107 : decode cX11_awarded 107 = .ok (.ladd, 1) := by decide +kernel
theorem dX11_awarded_108 : decode cX11_awarded 108 = .ok (.lconst 0, 1) := by decide +kernel
theorem dX11_awarded_109 : decode cX11_awarded 109 = .ok (.lcmp, 1) := by decide +kernel
theorem dX11_awarded_110 : decode cX11_awarded 110 = .ok (.ifCond .ne 7, 3) := by decide +kernel
theorem dX11_awarded_113 : decode cX11_awarded 113 = .ok (.lconst 0, 1) := by decide +kernel
theorem dX11_awarded_114 : decode cX11_awarded 114 = .ok (.goto 14, 3) := by decide +kernel
theorem dX11_awarded_117 : decode cX11_awarded 117 = .ok (.lload 12, 2) := by decide +kernel
theorem dX11_awarded_119 : decode cX11_awarded 119 = .ok (.lload 8, 2) := by decide +kernel
theorem dX11_awarded_121 : decode cX11_awarded 121 = .ok (.lmul, 1) := by decide +kernel
theorem dX11_awarded_122 : decode cX11_awarded 122 = .ok (.lload 8, 2) := by decide +kernel
theorem dX11_awarded_124 : decode cX11_awarded 124 = .ok (.lload 10, 2) := by decide +kernel
theorem dX11_awarded_126 : decode cX11_awarded 126 = .ok (.ladd, 1) := by decide +kernel
theorem dX11_awarded_127 : decode cX11_awarded 127 = .ok (.ldiv, 1) := by decide +kernel
theorem dX11_awarded_128 : decode cX11_awarded 128 = .ok (.ladd, 1) := by decide +kernel
theorem dX11_awarded_129 : decode cX11_awarded 129 = .ok (.lstore 5, 2) := by decide +kernel
theorem dX11_awarded_131 : decode cX11_awarded 131 = .ok (.iinc 7 1, 3) := by decide +kernel
theorem dX11_awarded_134 : decode cX11_awarded 134 = .ok (.goto (-113), 3) := by decide +kernel
theorem dX11_awarded_137 : decode cX11_awarded 137 = .ok (.aload_n 0, 1) := by decide +kernel
theorem dX11_awarded_138 : decode cX11_awarded 138 = .ok (.iload 4, 2) := by decide +kernel
theorem dX11_awarded_140 : decode cX11_awarded 140 = .ok (.bipush 8, 2) := by decide +kernel
theorem dX11_awarded_142 : decode cX11_awarded 142 = .ok (.iload_n 3, 1) := by decide +kernel
theorem dX11_awarded_143 : decode cX11_awarded 143 = .ok (.iload_n 2, 1) := by decide +kernel
theorem dX11_awarded_144 : decode cX11_awarded 144 = .ok (.invokevirtual 205, 3) := by decide +kernel
theorem dX11_awarded_147 : decode cX11_awarded 147 = .ok (.aload_n 0, 1) := by decide +kernel
theorem dX11_awarded_148 : decode cX11_awarded 148 = .ok (.bipush 12, 2) := by decide +kernel
theorem dX11_awarded_150 : decode cX11_awarded 150 = .ok (.iload_n 3, 1) := by decide +kernel
theorem dX11_awarded_151 : decode cX11_awarded 151 = .ok (.iload_n 2, 1) := by decide +kernel
theorem dX11_awarded_152 : decode cX11_awarded 152 = .ok (.invokevirtual 213, 3) := by decide +kernel
theorem dX11_awarded_155 : decode cX11_awarded 155 = .ok (.if_icmp .ge 28, 3) := by decide +kernel
theorem dX11_awarded_158 : decode cX11_awarded 158 = .ok (.lload 5, 2) := by decide +kernel
theorem dX11_awarded_160 : decode cX11_awarded 160 = .ok (.lload 5, 2) := by decide +kernel
theorem dX11_awarded_162 : decode cX11_awarded 162 = .ok (.aload_n 0, 1) := by decide +kernel
theorem dX11_awarded_163 : decode cX11_awarded 163 = .ok (.bipush 13, 2) := by decide +kernel
theorem dX11_awarded_165 : decode cX11_awarded 165 = .ok (.iload_n 3, 1) := by decide +kernel
theorem dX11_awarded_166 : decode cX11_awarded 166 = .ok (.iload_n 2, 1) := by decide +kernel
theorem dX11_awarded_167 : decode cX11_awarded 167 = .ok (.invokevirtual 213, 3) := by decide +kernel
theorem dX11_awarded_170 : decode cX11_awarded 170 = .ok (.i2l, 1) := by decide +kernel
theorem dX11_awarded_171 : decode cX11_awarded 171 = .ok (.lmul, 1) := by decide +kernel
theorem dX11_awarded_172 : decode cX11_awarded 172 = .ok (.ldc2_w 235, 3) := by decide +kernel
theorem dX11_awarded_175 : decode cX11_awarded 175 = .ok (.ladd, 1) := by decide +kernel
theorem dX11_awarded_176 : decode cX11_awarded 176 = .ok (.ldc2_w 237, 3) := by decide +kernel
theorem dX11_awarded_179 : decode cX11_awarded 179 = .ok (.ldiv, 1) := by decide +kernel
theorem dX11_awarded_180 : decode cX11_awarded 180 = .ok (.lsub, 1) := by decide +kernel
theorem dX11_awarded_181 : decode cX11_awarded 181 = .ok (.lstore 5, 2) := by decide +kernel
theorem dX11_awarded_183 : decode cX11_awarded 183 = .ok (.lload 5, 2) := by decide +kernel
theorem dX11_awarded_185 : decode cX11_awarded 185 = .ok (.lload 5, 2) := by decide +kernel
theorem dX11_awarded_187 : decode cX11_awarded 187 = .ok (.aload_n 0, 1) := by decide +kernel
theorem dX11_awarded_188 : decode cX11_awarded 188 = .ok (.bipush 14, 2) := by decide +kernel
theorem dX11_awarded_190 : decode cX11_awarded 190 = .ok (.iload_n 3, 1) := by decide +kernel
theorem dX11_awarded_191 : decode cX11_awarded 191 = .ok (.iload_n 2, 1) := by decide +kernel
theorem dX11_awarded_192 : decode cX11_awarded 192 = .ok (.invokevirtual 213, 3) := by decide +kernel
theorem dX11_awarded_195 : decode cX11_awarded 195 = .ok (.i2l, 1) := by decide +kernel
theorem dX11_awarded_196 : decode cX11_awarded 196 = .ok (.lmul, 1) := by decide +kernel
theorem dX11_awarded_197 : decode cX11_awarded 197 = .ok (.ldc2_w 235, 3) := by decide +kernel
theorem dX11_awarded_200 : decode cX11_awarded 200 = .ok (.ladd, 1) := by decide +kernel
theorem dX11_awarded_201 : decode cX11_awarded 201 = .ok (.ldc2_w 237, 3) := by decide +kernel
theorem dX11_awarded_204 : decode cX11_awarded 204 = .ok (.ldiv, 1) := by decide +kernel
theorem dX11_awarded_205 : decode cX11_awarded 205 = .ok (.lsub, 1) := by decide +kernel
theorem dX11_awarded_206 : decode cX11_awarded 206 = .ok (.lstore 5, 2) := by decide +kernel
theorem dX11_awarded_208 : decode cX11_awarded 208 = .ok (.lload 5, 2) := by decide +kernel
theorem dX11_awarded_210 : decode cX11_awarded 210 = .ok (.lreturn, 1) := by decide +kernel
theorem dX11_share_0 : decode cX11_share 0 = .ok (.aload_n 0, 1) := by decide +kernel
theorem dX11_share_1 : decode cX11_share 1 = .ok (.getfield 100, 3) := by decide +kernel
theorem dX11_share_4 : decode cX11_share 4 = .ok (.iconst 0, 1) := by decide +kernel
theorem dX11_share_5 : decode cX11_share 5 = .ok (.aload_n 0, 1) := by decide +kernel
theorem dX11_share_6 : decode cX11_share 6 = .ok (.iload_n 1, 1) := by decide +kernel
theorem dX11_share_7 : decode cX11_share 7 = .ok (.iload_n 2, 1) := by decide +kernel
theorem dX11_share_8 : decode cX11_share 8 = .ok (.invokevirtual 239, 3) := by decide +kernel
theorem dX11_share_11 : decode cX11_share 11 = .ok (.lastore, 1) := by decide +kernel
theorem dX11_share_12 : decode cX11_share 12 = .ok (.aload_n 0, 1) := by decide +kernel
theorem dX11_share_13 : decode cX11_share 13 = .ok (.getfield 100, 3) := by decide +kernel
theorem dX11_share_16 : decode cX11_share 16 = .ok (.iconst 0, 1) := by decide +kernel
theorem dX11_share_17 : decode cX11_share 17 = .ok (.laload, 1) := by decide +kernel
theorem dX11_share_18 : decode cX11_share 18 = .ok (.lstore_n 3, 1) := by decide +kernel
theorem dX11_share_19 : decode cX11_share 19 = .ok (.aload_n 0, 1) := by decide +kernel
theorem dX11_share_20 : decode cX11_share 20 = .ok (.bipush 15, 2) := by decide +kernel
theorem dX11_share_22 : decode cX11_share 22 = .ok (.aload_n 0, 1) := by decide +kernel
theorem dX11_share_23 : decode cX11_share 23 = .ok (.getfield 66, 3) := by decide +kernel
theorem dX11_share_26 : decode cX11_share 26 = .ok (.iload_n 1, 1) := by decide +kernel
theorem dX11_share_27 : decode cX11_share 27 = .ok (.iaload, 1) := by decide +kernel
theorem dX11_share_28 : decode cX11_share 28 = .ok (.iload_n 2, 1) := by decide +kernel
theorem dX11_share_29 : decode cX11_share 29 = .ok (.invokevirtual 213, 3) := by decide +kernel
theorem dX11_share_32 : decode cX11_share 32 = .ok (.i2l, 1) := by decide +kernel
theorem dX11_share_33 : decode cX11_share 33 = .ok (.lstore 5, 2) := by decide +kernel
theorem dX11_share_35 : decode cX11_share 35 = .ok (.aload_n 0, 1) := by decide +kernel
theorem dX11_share_36 : decode cX11_share 36 = .ok (.getfield 100, 3) := by decide +kernel
theorem dX11_share_39 : decode cX11_share 39 = .ok (.iconst 1, 1) := by decide +kernel
theorem dX11_share_40 : decode cX11_share 40 = .ok (.lload_n 3, 1) := by decide +kernel
theorem dX11_share_41 : decode cX11_share 41 = .ok (.lload 5, 2) := by decide +kernel
theorem dX11_share_43 : decode cX11_share 43 = .ok (.lcmp, 1) := by decide +kernel
theorem dX11_share_44 : decode cX11_share 44 = .ok (.ifCond .ge 7, 3) := by decide +kernel
theorem dX11_share_47 : decode cX11_share 47 = .ok (.lload_n 3, 1) := by decide +kernel
theorem dX11_share_48 : decode cX11_share 48 = .ok (.goto 5, 3) := by decide +kernel
theorem dX11_share_51 : decode cX11_share 51 = .ok (.lload 5, 2) := by decide +kernel
theorem dX11_share_53 : decode cX11_share 53 = .ok (.lastore, 1) := by decide +kernel
theorem dX11_share_54 : decode cX11_share 54 = .ok (.lload_n 3, 1) := by decide +kernel
theorem dX11_share_55 : decode cX11_share 55 = .ok (.aload_n 0, 1) := by decide +kernel
theorem dX11_share_56 : decode cX11_share 56 = .ok (.getfield 100, 3) := by decide +kernel
theorem dX11_share_59 : decode cX11_share 59 = .ok (.iconst 1, 1) := by decide +kernel
theorem dX11_share_60 : decode cX11_share 60 = .ok (.laload, 1) := by decide +kernel
