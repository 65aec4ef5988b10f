theorem dX6_reckon_170 : decode cX6_reckon 170 = .ok (.iload 6, 2) := by decide +kernel
theorem dX6_reckon_172 : decode cX6_reckon 172 = .ok (.iconst 1, 1) := by decide +kernel
theorem dX6_reckon_173 : decode cX6_reckon 173 = .ok (.isub, 1) := by decide +kernel
theorem dX6_reckon_174 : decode cX6_reckon 174 = .ok (.iaload, 1) := by decide +kernel
theorem dX6_reckon_175 : decode cX6_reckon 175 = .ok (.ifCond .eq 7, 3) := by decide +kernel
theorem dX6_reckon_178 : decode cX6_reckon 178 = .ok (.iconst 1, 1) := by decide +kernel
theorem dX6_reckon_179 : decode cX6_reckon 179 = .ok (.goto 4, 3) := by decide +kernel
theorem dX6_reckon_182 : decode cX6_reckon 182 = .ok (.iconst 0, 1) := by decide +kernel
theorem dX6_reckon_183 : decode cX6_reckon 183 = .ok (.iload 8, 2) := by decide +kernel
theorem dX6_reckon_185 : decode cX6_reckon 185 = .ok (.bipush 11, 2) := by decide +kernel
theorem dX6_reckon_187 : decode cX6_reckon 187 = .ok (.if_icmp .ne 7, 3) := by decide +kernel
theorem dX6_reckon_190 : decode cX6_reckon 190 = .ok (.iconst 1, 1) := by decide +kernel
theorem dX6_reckon_191 : decode cX6_reckon 191 = .ok (.goto 4, 3) := by decide +kernel
theorem dX6_reckon_194 : decode cX6_reckon 194 = .ok (.iconst 0, 1) := by decide +kernel
theorem dX6_reckon_195 : decode cX6_reckon 195 = .ok (.if_icmp .ne 7, 3) := by decide +kernel
theorem dX6_reckon_198 : decode cX6_reckon 198 = .ok (.iconst 1, 1) := by decide +kernel
theorem dX6_reckon_199 : decode cX6_reckon 199 = .ok (.goto 4, 3) := by decide +kernel
theorem dX6_reckon_202 : decode cX6_reckon 202 = .ok (.iconst 0, 1) := by decide +kernel
theorem dX6_reckon_203 : decode cX6_reckon 203 = .ok (.istore 10, 2) := by decide +kernel
theorem dX6_reckon_205 : decode cX6_reckon 205 = .ok (.iload 10, 2) := by decide +kernel
theorem dX6_reckon_207 : decode cX6_reckon 207 = .ok (.ifCond .ne 9, 3) := by decide +kernel
theorem dX6_reckon_210 : decode cX6_reckon 210 = .ok (.iinc 6 (-1), 3) := by decide +kernel
theorem dX6_reckon_213 : decode cX6_reckon 213 = .ok (.goto 16, 3) := by decide +kernel
theorem dX6_reckon_216 : decode cX6_reckon 216 = .ok (.iload 9, 2) := by decide +kernel
theorem dX6_reckon_218 : decode cX6_reckon 218 = .ok (.iload 7, 2) := by decide +kernel
theorem dX6_reckon_220 : decode cX6_reckon 220 = .ok (.if_icmp .le 9, 3) := by decide +kernel
theorem dX6_reckon_223 : decode cX6_reckon 223 = .ok (.iload 9, 2) := by decide +kernel
theorem dX6_reckon_225 : decode cX6_reckon 225 = .ok (.iconst 1, 1) := by decide +kernel
theorem dX6_reckon_226 : decode cX6_reckon 226 = .ok (.isub, 1) := by decide +kernel
theorem dX6_reckon_227 : decode cX6_reckon 227 = .ok (.istore 7, 2) := by decide +kernel
theorem dX6_reckon_229 : decode cX6_reckon 229 = .ok (.goto 73, 3) := by decide +kernel
theorem dX6_reckon_232 : decode cX6_reckon 232 = .ok (.iload 6, 2) := by decide +kernel
theorem dX6_reckon_234 : decode cX6_reckon 234 = .ok (.iconst 2, 1) := by decide +kernel
theorem dX6_reckon_235 : decode cX6_reckon 235 = .ok (.if_icmp .ge 6, 3) := by decide +kernel
theorem dX6_reckon_238 : decode cX6_reckon 238 = .ok (.ldc 20, 2) := by decide +kernel
theorem dX6_reckon_240 : decode cX6_reckon 240 = .ok (.ireturn, 1) := by decide +kernel
theorem dX6_reckon_241 : decode cX6_reckon 241 = .ok (.iinc 6 (-1), 3) := by decide +kernel
theorem dX6_reckon_244 : decode cX6_reckon 244 = .ok (.iload 8, 2) := by decide +kernel
theorem dX6_reckon_246 : decode cX6_reckon 246 = .ok (.aload_n 0, 1) := by decide +kernel
theorem dX6_reckon_247 : decode cX6_reckon 247 = .ok (.getfield 9, 3) := by decide +kernel
theorem dX6_reckon_250 : decode cX6_reckon 250 = .ok (.iload 6, 2) := by decide +kernel
theorem dX6_reckon_252 : decode cX6_reckon 252 = .ok (.iconst 1, 1) := by decide +kernel
theorem dX6_reckon_253 : decode cX6_reckon 253 = .ok (.isub, 1) := by decide +kernel
theorem dX6_reckon_254 : decode cX6_reckon 254 = .ok (.iaload, 1) := by decide +kernel
theorem dX6_reckon_255 : decode cX6_reckon 255 = .ok (.i2l, 1) := by decide +kernel
theorem dX6_reckon_256 : decode cX6_reckon 256 = .ok (.aload_n 0, 1) := by decide +kernel
theorem dX6_reckon_257 : decode cX6_reckon 257 = .ok (.getfield 9, 3) := by decide +kernel
theorem dX6_reckon_260 : decode cX6_reckon 260 = .ok (.iload 6, 2) := by decide +kernel
theorem dX6_reckon_262 : decode cX6_reckon 262 = .ok (.iaload, 1) := by decide +kernel
theorem dX6_reckon_263 : decode cX6_reckon 263 = .ok (.i2l, 1) := by decide +kernel
theorem dX6_reckon_264 : decode cX6_reckon 264 = .ok (.invokestatic 21, 3) := by decide +kernel
theorem dX6_reckon_267 : decode cX6_reckon 267 = .ok (.lstore 10, 2) := by decide +kernel
theorem dX6_reckon_269 : decode cX6_reckon 269 = .ok (.lload 10, 2) := by decide +kernel
theorem dX6_reckon_271 : decode cX6_reckon 271 = .ok (.ldc2_w 25, 3) := by decide +kernel
theorem dX6_reckon_274 : decode cX6_reckon 274 = .ok (.lcmp, 1) := by decide +kernel
theorem dX6_reckon_275 : decode cX6_reckon 275 = .ok (.ifCond .gt 12, 3) := by decide +kernel
theorem dX6_reckon_278 : decode cX6_reckon 278 = .ok (.lload 10, 2) := by decide +kernel
theorem dX6_reckon_280 : decode cX6_reckon 280 = .ok (.ldc2_w 27, 3) := by decide +kernel
theorem dX6_reckon_283 : decode cX6_reckon 283 = .ok (.lcmp, 1) := by decide +kernel
theorem dX6_reckon_284 : decode cX6_reckon 284 = .ok (.ifCond .ge 6, 3) := by decide +kernel
theorem dX6_reckon_287 : decode cX6_reckon 287 = .ok (.ldc 20, 2) := by decide +kernel
theorem dX6_reckon_289 : decode cX6_reckon 289 = .ok (.ireturn, 1) := by decide +kernel
theorem dX6_reckon_290 : decode cX6_reckon 290 = .ok (.aload_n 0, 1) := by decide +kernel
theorem dX6_reckon_291 : decode cX6_reckon 291 = .ok (.getfield 9, 3) := by decide +kernel
theorem dX6_reckon_294 : decode cX6_reckon 294 = .ok (.iload 6, 2) := by decide +kernel
theorem dX6_reckon_296 : decode cX6_reckon 296 = .ok (.iconst 1, 1) := by decide +kernel
theorem dX6_reckon_297 : decode cX6_reckon 297 = .ok (.isub, 1) := by decide +kernel
theorem dX6_reckon_298 : decode cX6_reckon 298 = .ok (.lload 10, 2) := by decide +kernel
theorem dX6_reckon_300 : decode cX6_reckon 300 = .ok (.l2i, 1) := by decide +kernel
theorem dX6_reckon_301 : decode cX6_reckon 301 = .ok (.iastore, 1) := by decide +kernel
theorem dX6_reckon_302 : decode cX6_reckon 302 = .ok (.iinc 7 1, 3) := by decide +kernel
theorem dX6_reckon_305 : decode cX6_reckon 305 = .ok (.goto (-286), 3) := by decide +kernel
theorem dX6_reckon_308 : decode cX6_reckon 308 = .ok (.iload 6, 2) := by decide +kernel
theorem dX6_reckon_310 : decode cX6_reckon 310 = .ok (.iconst 1, 1) := by decide +kernel
theorem dX6_reckon_311 : decode cX6_reckon 311 = .ok (.if_icmp .ne 12, 3) := by decide +kernel
theorem dX6_reckon_314 : decode cX6_reckon 314 = .ok (.aload_n 0, 1) := by decide +kernel
theorem dX6_reckon_315 : decode cX6_reckon 315 = .ok (.getfield 9, 3) := by decide +kernel
theorem dX6_reckon_318 : decode cX6_reckon 318 = .ok (.iconst 0, 1) := by decide +kernel
theorem dX6_reckon_319 : decode cX6_reckon 319 = .ok (.iaload, 1) := by decide +kernel
theorem dX6_reckon_320 : decode cX6_reckon 320 = .ok (.goto 5, 3) := by decide +kernel
theorem dX6_reckon_323 : decode cX6_reckon 323 = .ok (.ldc 20, 2) := by decide +kernel
theorem dX6_reckon_325 : decode cX6_reckon 325 = .ok (.ireturn, 1) := by decide +kernel
theorem dX6_join_0 : decode cX6_join 0 = .ok (.iload_n 0, 1) := by decide +kernel
theorem dX6_join_1 : decode cX6_join 1 = .ok (.tableswitch 111 2 8 #[43, 47, 51, 55, 71, 87, 99], 43) := by decide +kernel
theorem dX6_join_44 : decode cX6_join 44 = .ok (.lload_n 1, 1) := by decide +kernel
theorem dX6_join_45 : decode cX6_join 45 = .ok (.lload_n 3, 1) := by decide +kernel
theorem dX6_join_46 : decode cX6_join 46 = .ok (.ladd, 1) := by decide +kernel
theorem dX6_join_47 : decode cX6_join 47 = .ok (.lreturn, 1) := by decide +kernel
theorem dX6_join_48 : decode cX6_join 48 = .ok (.lload_n 1, 1) := by decide +kernel
theorem dX6_join_49 : decode cX6_join 49 = .ok (.lload_n 3, 1) := by decide +kernel
theorem dX6_join_50 : decode cX6_join 50 = .ok (.lsub, 1) := by decide +kernel
theorem dX6_join_51 : decode cX6_join 51 = .ok (.lreturn, 1) := by decide +kernel
theorem dX6_join_52 : decode cX6_join 52 = .ok (.lload_n 1, 1) := by decide +kernel
theorem dX6_join_53 : decode cX6_join 53 = .ok (.lload_n 3, 1) := by decide +kernel
theorem dX6_join_54 : decode cX6_join 54 = .ok (.lmul, 1) := by decide +kernel
theorem dX6_join_55 : decode cX6_join 55 = .ok (.lreturn, 1) := by decide +kernel
theorem dX6_join_56 : decode cX6_join 56 = .ok (.lload_n 3, 1) := by decide +kernel
theorem dX6_join_57 : decode cX6_join 57 = .ok (.lconst 0, 1) := by decide +kernel
theorem dX6_join_58 : decode cX6_join 58 = .ok (.lcmp, 1) := by decide +kernel
theorem dX6_join_59 : decode cX6_join 59 = .ok (.ifCond .ne 9, 3) := by decide +kernel
theorem dX6_join_62 : decode cX6_join 62 = .ok (.ldc2_w 29, 3) := by decide +kernel
theorem dX6_join_65 : decode cX6_join 65 = .ok (.goto 6, 3) := by decide +kernel
theorem dX6_join_68 : decode cX6_join 68 = .ok (.lload_n 1, 1) := by decide +kernel
theorem dX6_join_69 : decode cX6_join 69 = .ok (.lload_n 3, 1) := by decide +kernel
theorem dX6_join_70 : decode cX6_join 70 = .ok (.ldiv, 1) := by decide +kernel
theorem dX6_join_71 : decode cX6_join 71 = .ok (.lreturn, 1) := by decide +kernel
theorem dX6_join_72 : decode cX6_join 72 = .ok (.lload_n 3, 1) := by decide +kernel
theorem dX6_join_73 : decode cX6_join 73 = .ok (.lconst 0, 1) := by decide +kernel
theorem dX6_join_74 : decode cX6_join 74 = .ok (.lcmp, 1) := by decide +kernel
theorem dX6_join_75 : decode cX6_join 75 = .ok (.ifCond .ne 9, 3) := by decide +kernel
theorem dX6_join_78 : decode cX6_join 78 = .ok (.ldc2_w 29, 3) := by decide +kernel
theorem dX6_join_81 : decode cX6_join 81 = .ok (.goto 6, 3) := by decide +kernel
theorem dX6_join_84 : decode cX6_join 84 = .ok (.lload_n 1, 1) := by decide +kernel
theorem dX6_join_85 : decode cX6_join 85 = .ok (.lload_n 3, 1) := by decide +kernel
theorem dX6_join_86 : decode cX6_join 86 = .ok (.lrem, 1) := by decide +kernel
theorem dX6_join_87 : decode cX6_join 87 = .ok (.lreturn, 1) := by decide +kernel
theorem dX6_join_88 : decode cX6_join 88 = .ok (.lload_n 1, 1) := by decide +kernel
theorem dX6_join_89 : decode cX6_join 89 = .ok (.lload_n 3, 1) := by decide +kernel
theorem dX6_join_90 : decode cX6_join 90 = .ok (.lcmp, 1) := by decide +kernel
theorem dX6_join_91 : decode cX6_join 91 = .ok (.ifCond .ge 7, 3) := by decide +kernel
theorem dX6_join_94 : decode cX6_join 94 = .ok (.lconst 1, 1) := by decide +kernel
theorem dX6_join_95 : decode cX6_join 95 = .ok (.goto 4, 3) := by decide +kernel
theorem dX6_join_98 : decode cX6_join 98 = .ok (.lconst 0, 1) := by decide +kernel
theorem dX6_join_99 : decode cX6_join 99 = .ok (.lreturn, 1) := by decide +kernel
theorem dX6_join_100 : decode cX6_join 100 = .ok (.lload_n 1, 1) := by decide +kernel
theorem dX6_join_101 : decode cX6_join 101 = .ok (.lload_n 3, 1) := by decide +kernel
theorem dX6_join_102 : decode cX6_join 102 = .ok (.lcmp, 1) := by decide +kernel
theorem dX6_join_103 : decode cX6_join 103 = .ok (.ifCond .le 7, 3) := by decide +kernel
theorem dX6_join_106 : decode cX6_join 106 = .ok (.lconst 1, 1) := by decide +kernel
theorem dX6_join_107 : decode cX6_join 107 = .ok (.goto 4, 3) := by decide +kernel
theorem dX6_join_110 : decode cX6_join 110 = .ok (.lconst 0, 1) := by decide +kernel
theorem dX6_join_111 : decode cX6_join 111 = .ok (.lreturn, 1) := by decide +kernel
theorem dX6_join_112 : decode cX6_join 112 = .ok (.lload_n 1, 1) := by decide +kernel
theorem dX6_join_113 : decode cX6_join 113 = .ok (.lload_n 3, 1) := by decide +kernel
theorem dX6_join_114 : decode cX6_join 114 = .ok (.lcmp, 1) := by decide +kernel
theorem dX6_join_115 : decode cX6_join 115 = .ok (.ifCond .ne 7, 3) := by decide +kernel
theorem dX6_join_118 : decode cX6_join 118 = .ok (.lconst 1, 1) := by decide +kernel
theorem dX6_join_119 : decode cX6_join 119 = .ok (.goto 4, 3) := by decide +kernel
theorem dX6_join_122 : decode cX6_join 122 = .ok (.lconst 0, 1) := by decide +kernel
theorem dX6_join_123 : decode cX6_join 123 = .ok (.lreturn, 1) := by decide +kernel
theorem dX7_init_0 : decode cX7_init 0 = .ok (.aload_n 0, 1) := by decide +kernel
theorem dX7_init_1 : decode cX7_init 1 = .ok (.invokespecial 3, 3) := by decide +kernel
theorem dX7_init_4 : decode cX7_init 4 = .ok (.aload_n 0, 1) := by decide +kernel
theorem dX7_init_5 : decode cX7_init 5 = .ok (.new 9, 3) := by decide +kernel
theorem dX7_init_8 : decode cX7_init 8 = .ok (.dup, 1) := by decide +kernel
theorem dX7_init_9 : decode cX7_init 9 = .ok (.invokespecial 11, 3) := by decide +kernel
theorem dX7_init_12 : decode cX7_init 12 = .ok (.putfield 12, 3) := by decide +kernel
theorem dX7_init_15 : decode cX7_init 15 = .ok (.aload_n 0, 1) := by decide +kernel
theorem dX7_init_16 : decode cX7_init 16 = .ok (.sipush 136, 3) := by decide +kernel
theorem dX7_init_19 : decode cX7_init 19 = .ok (.newarray .int, 2) := by decide +kernel
theorem dX7_init_21 : decode cX7_init 21 = .ok (.putfield 18, 3) := by decide +kernel
theorem dX7_init_24 : decode cX7_init 24 = .ok (.aload_n 0, 1) := by decide +kernel
theorem dX7_init_25 : decode cX7_init 25 = .ok (.sipush 128, 3) := by decide +kernel
theorem dX7_init_28 : decode cX7_init 28 = .ok (.newarray .int, 2) := by decide +kernel
theorem dX7_init_30 : decode cX7_init 30 = .ok (.putfield 22, 3) := by decide +kernel
theorem dX7_init_33 : decode cX7_init 33 = .ok (.aload_n 0, 1) := by decide +kernel
theorem dX7_init_34 : decode cX7_init 34 = .ok (.sipush 2176, 3) := by decide +kernel
theorem dX7_init_37 : decode cX7_init 37 = .ok (.newarray .int, 2) := by decide +kernel
theorem dX7_init_39 : decode cX7_init 39 = .ok (.putfield 25, 3) := by decide +kernel
theorem dX7_init_42 : decode cX7_init 42 = .ok (.aload_n 0, 1) := by decide +kernel
theorem dX7_init_43 : decode cX7_init 43 = .ok (.iconst 0, 1) := by decide +kernel
theorem dX7_init_44 : decode cX7_init 44 = .ok (.putfield 28, 3) := by decide +kernel
theorem dX7_init_47 : decode cX7_init 47 = .ok (.aload_n 0, 1) := by decide +kernel
theorem dX7_init_48 : decode cX7_init 48 = .ok (.aload_n 1, 1) := by decide +kernel
theorem dX7_init_49 : decode cX7_init 49 = .ok (.putfield 32, 3) := by decide +kernel
theorem dX7_init_52 : decode cX7_init 52 = .ok (.aload_n 0, 1) := by decide +kernel
theorem dX7_init_53 : decode cX7_init 53 = .ok (.aload_n 2, 1) := by decide +kernel
theorem dX7_init_54 : decode cX7_init 54 = .ok (.putfield 35, 3) := by decide +kernel
theorem dX7_init_57 : decode cX7_init 57 = .ok (.return_, 1) := by decide +kernel
theorem dX7_forget_0 : decode cX7_forget 0 = .ok (.aload_n 0, 1) := by decide +kernel
theorem dX7_forget_1 : decode cX7_forget 1 = .ok (.iconst 0, 1) := by decide +kernel
theorem dX7_forget_2 : decode cX7_forget 2 = .ok (.putfield 28, 3) := by decide +kernel
theorem dX7_forget_5 : decode cX7_forget 5 = .ok (.return_, 1) := by decide +kernel
theorem dX7_inRow_0 : decode cX7_inRow 0 = .ok (.iload_n 0, 1) := by decide +kernel
theorem dX7_inRow_1 : decode cX7_inRow 1 = .ok (.iconst 4, 1) := by decide +kernel
theorem dX7_inRow_2 : decode cX7_inRow 2 = .ok (.iload_n 1, 1) := by decide +kernel
theorem dX7_inRow_3 : decode cX7_inRow 3 = .ok (.iconst 1, 1) := by decide +kernel
theorem dX7_inRow_4 : decode cX7_inRow 4 = .ok (.isub, 1) := by decide +kernel
theorem dX7_inRow_5 : decode cX7_inRow 5 = .ok (.iload_n 2, 1) := by decide +kernel
theorem dX7_inRow_6 : decode cX7_inRow 6 = .ok (.isub, 1) := by decide +kernel
theorem dX7_inRow_7 : decode cX7_inRow 7 = .ok (.imul, 1) := by decide +kernel
theorem dX7_inRow_8 : decode cX7_inRow 8 = .ok (.ishr, 1) := by decide +kernel
theorem dX7_inRow_9 : decode cX7_inRow 9 = .ok (.bipush 15, 2) := by decide +kernel
theorem dX7_inRow_11 : decode cX7_inRow 11 = .ok (.iand, 1) := by decide +kernel
theorem dX7_inRow_12 : decode cX7_inRow 12 = .ok (.ireturn, 1) := by decide +kernel
theorem dX7_lookForRows_0 : decode cX7_lookForRows 0 = .ok (.aload_n 0, 1) := by decide +kernel
theorem dX7_lookForRows_1 : decode cX7_lookForRows 1 = .ok (.getfield 28, 3) := by decide +kernel
theorem dX7_lookForRows_4 : decode cX7_lookForRows 4 = .ok (.ifCond .ne 34, 3) := by decide +kernel
theorem dX7_lookForRows_7 : decode cX7_lookForRows 7 = .ok (.aload_n 0, 1) := by decide +kernel
theorem dX7_lookForRows_8 : decode cX7_lookForRows 8 = .ok (.getfield 12, 3) := by decide +kernel
theorem dX7_lookForRows_11 : decode cX7_lookForRows 11 = .ok (.aload_n 0, 1) := by decide +kernel
theorem dX7_lookForRows_12 : decode cX7_lookForRows 12 = .ok (.getfield 32, 3) := by decide +kernel
theorem dX7_lookForRows_15 : decode cX7_lookForRows 15 = .ok (.invokevirtual 39, 3) := by decide +kernel
theorem dX7_lookForRows_18 : decode cX7_lookForRows 18 = .ok (.aload_n 0, 1) := by decide +kernel
theorem dX7_lookForRows_19 : decode cX7_lookForRows 19 = .ok (.iconst 0, 1) := by decide +kernel
theorem dX7_lookForRows_20 : decode cX7_lookForRows 20 = .ok (.putfield 43, 3) := by decide +kernel
theorem dX7_lookForRows_23 : decode cX7_lookForRows 23 = .ok (.aload_n 0, 1) := by decide +kernel
theorem dX7_lookForRows_24 : decode cX7_lookForRows 24 = .ok (.invokevirtual 46, 3) := by decide +kernel
theorem dX7_lookForRows_27 : decode cX7_lookForRows 27 = .ok (.aload_n 0, 1) := by decide +kernel
theorem dX7_lookForRows_28 : decode cX7_lookForRows 28 = .ok (.iconst 0, 1) := by decide +kernel
theorem dX7_lookForRows_29 : decode cX7_lookForRows 29 = .ok (.iconst 0, 1) := by decide +kernel
theorem dX7_lookForRows_30 : decode cX7_lookForRows 30 = .ok (.invokevirtual 49, 3) := by decide +kernel
theorem dX7_lookForRows_33 : decode cX7_lookForRows 33 = .ok (.aload_n 0, 1) := by decide +kernel
theorem dX7_lookForRows_34 : decode cX7_lookForRows 34 = .ok (.iconst 1, 1) := by decide +kernel
theorem dX7_lookForRows_35 : decode cX7_lookForRows 35 = .ok (.putfield 28, 3) := by decide +kernel
theorem dX7_lookForRows_38 : decode cX7_lookForRows 38 = .ok (.return_, 1) := by decide +kernel
theorem dX7_fewestSpades_0 : decode cX7_fewestSpades 0 = .ok (.aload_n 0, 1) := by decide +kernel
theorem dX7_fewestSpades_1 : decode cX7_fewestSpades 1 = .ok (.iconst 0, 1) := by decide +kernel
theorem dX7_fewestSpades_2 : decode cX7_fewestSpades 2 = .ok (.putfield 28, 3) := by decide +kernel
theorem dX7_fewestSpades_5 : decode cX7_fewestSpades 5 = .ok (.aload_n 0, 1) := by decide +kernel
theorem dX7_fewestSpades_6 : decode cX7_fewestSpades 6 = .ok (.getfield 12, 3) := by decide +kernel
theorem dX7_fewestSpades_9 : decode cX7_fewestSpades 9 = .ok (.aload_n 0, 1) := by decide +kernel
theorem dX7_fewestSpades_10 : decode cX7_fewestSpades 10 = .ok (.getfield 32, 3) := by decide +kernel
theorem dX7_fewestSpades_13 : decode cX7_fewestSpades 13 = .ok (.invokevirtual 39, 3) := by decide +kernel
theorem dX7_fewestSpades_16 : decode cX7_fewestSpades 16 = .ok (.aload_n 0, 1) := by decide +kernel
theorem dX7_fewestSpades_17 : decode cX7_fewestSpades 17 = .ok (.iconst 1, 1) := by decide +kernel
theorem dX7_fewestSpades_18 : decode cX7_fewestSpades 18 = .ok (.putfield 43, 3) := by decide +kernel
theorem dX7_fewestSpades_21 : decode cX7_fewestSpades 21 = .ok (.aload_n 0, 1) := by decide +kernel
theorem dX7_fewestSpades_22 : decode cX7_fewestSpades 22 = .ok (.iconst 0, 1) := by decide +kernel
theorem dX7_fewestSpades_23 : decode cX7_fewestSpades 23 = .ok (.invokevirtual 53, 3) := by decide +kernel
theorem dX7_fewestSpades_26 : decode cX7_fewestSpades 26 = .ok (.iconst 1, 1) := by decide +kernel
theorem dX7_fewestSpades_27 : decode cX7_fewestSpades 27 = .ok (.istore_n 1, 1) := by decide +kernel
theorem dX7_fewestSpades_28 : decode cX7_fewestSpades 28 = .ok (.iload_n 1, 1) := by decide +kernel
theorem dX7_fewestSpades_29 : decode cX7_fewestSpades 29 = .ok (.bipush 9, 2) := by decide +kernel
theorem dX7_fewestSpades_31 : decode cX7_fewestSpades 31 = .ok (.if_icmp .gt 44, 3) := by decide +kernel
theorem dX7_fewestSpades_34 : decode cX7_fewestSpades 34 = .ok (.aload_n 0, 1) := by decide +kernel
theorem dX7_fewestSpades_35 : decode cX7_fewestSpades 35 = .ok (.iconst 0, 1) := by decide +kernel
theorem dX7_fewestSpades_36 : decode cX7_fewestSpades 36 = .ok (.invokevirtual 57, 3) := by decide +kernel
theorem dX7_fewestSpades_39 : decode cX7_fewestSpades 39 = .ok (.aload_n 0, 1) := by decide +kernel
theorem dX7_fewestSpades_40 : decode cX7_fewestSpades 40 = .ok (.getfield 12, 3) := by decide +kernel
theorem dX7_fewestSpades_43 : decode cX7_fewestSpades 43 = .ok (.getfield 60, 3) := by decide +kernel
theorem dX7_fewestSpades_46 : decode cX7_fewestSpades 46 = .ok (.bipush 19, 2) := by decide +kernel
theorem dX7_fewestSpades_48 : decode cX7_fewestSpades 48 = .ok (.iload_n 1, 1) := by decide +kernel
theorem dX7_fewestSpades_49 : decode cX7_fewestSpades 49 = .ok (.iastore, 1) := by decide +kernel
theorem dX7_fewestSpades_50 : decode cX7_fewestSpades 50 = .ok (.aload_n 0, 1) := by decide +kernel
theorem dX7_fewestSpades_51 : decode cX7_fewestSpades 51 = .ok (.invokevirtual 46, 3) := by decide +kernel
theorem dX7_fewestSpades_54 : decode cX7_fewestSpades 54 = .ok (.aload_n 0, 1) := by decide +kernel
theorem dX7_fewestSpades_55 : decode cX7_fewestSpades 55 = .ok (.iconst 0, 1) := by decide +kernel
theorem dX7_fewestSpades_56 : decode cX7_fewestSpades 56 = .ok (.iconst 0, 1) := by decide +kernel
theorem dX7_fewestSpades_57 : decode cX7_fewestSpades 57 = .ok (.invokevirtual 49, 3) := by decide +kernel
theorem dX7_fewestSpades_60 : decode cX7_fewestSpades 60 = .ok (.aload_n 0, 1) := by decide +kernel
theorem dX7_fewestSpades_61 : decode cX7_fewestSpades 61 = .ok (.getfield 63, 3) := by decide +kernel
theorem dX7_fewestSpades_64 : decode cX7_fewestSpades 64 = .ok (.ifCond .le 5, 3) := by decide +kernel
theorem dX7_fewestSpades_67 : decode cX7_fewestSpades 67 = .ok (.iload_n 1, 1) := by decide +kernel
theorem dX7_fewestSpades_68 : decode cX7_fewestSpades 68 = .ok (.ireturn, 1) := by decide +kernel
theorem dX7_fewestSpades_69 : decode cX7_fewestSpades 69 = .ok (.iinc 1 1, 3) := by decide +kernel
theorem dX7_fewestSpades_72 : decode cX7_fewestSpades 72 = .ok (.goto (-44), 3) := by decide +kernel
theorem dX7_fewestSpades_75 : decode cX7_fewestSpades 75 = .ok (.iconst (-1), 1) := by decide +kernel
theorem dX7_fewestSpades_76 : decode cX7_fewestSpades 76 = .ok (.ireturn, 1) := by decide +kernel
theorem dX7_lookForMarks_0 : decode cX7_lookForMarks 0 = .ok (.aload_n 0, 1) := by decide +kernel
theorem dX7_lookForMarks_1 : decode cX7_lookForMarks 1 = .ok (.iconst 0, 1) := by decide +kernel
theorem dX7_lookForMarks_2 : decode cX7_lookForMarks 2 = .ok (.putfield 28, 3) := by decide +kernel
theorem dX7_lookForMarks_5 : decode cX7_lookForMarks 5 = .ok (.aload_n 0, 1) := by decide +kernel
theorem dX7_lookForMarks_6 : decode cX7_lookForMarks 6 = .ok (.getfield 12, 3) := by decide +kernel
theorem dX7_lookForMarks_9 : decode cX7_lookForMarks 9 = .ok (.aload_n 0, 1) := by decide +kernel
theorem dX7_lookForMarks_10 : decode cX7_lookForMarks 10 = .ok (.getfield 32, 3) := by decide +kernel
theorem dX7_lookForMarks_13 : decode cX7_lookForMarks 13 = .ok (.invokevirtual 39, 3) := by decide +kernel
theorem dX7_lookForMarks_16 : decode cX7_lookForMarks 16 = .ok (.aload_n 0, 1) := by decide +kernel
theorem dX7_lookForMarks_17 : decode cX7_lookForMarks 17 = .ok (.getfield 12, 3) := by decide +kernel
theorem dX7_lookForMarks_20 : decode cX7_lookForMarks 20 = .ok (.getfield 60, 3) := by decide +kernel
theorem dX7_lookForMarks_23 : decode cX7_lookForMarks 23 = .ok (.bipush 18, 2) := by decide +kernel
theorem dX7_lookForMarks_25 : decode cX7_lookForMarks 25 = .ok (.iconst 1, 1) := by decide +kernel
theorem dX7_lookForMarks_26 : decode cX7_lookForMarks 26 = .ok (.iastore, 1) := by decide +kernel
theorem dX7_lookForMarks_27 : decode cX7_lookForMarks 27 = .ok (.aload_n 0, 1) := by decide +kernel
theorem dX7_lookForMarks_28 : decode cX7_lookForMarks 28 = .ok (.getfield 12, 3) := by decide +kernel
theorem dX7_lookForMarks_31 : decode cX7_lookForMarks 31 = .ok (.getfield 60, 3) := by decide +kernel
theorem dX7_lookForMarks_34 : decode cX7_lookForMarks 34 = .ok (.iconst 3, 1) := by decide +kernel
theorem dX7_lookForMarks_35 : decode cX7_lookForMarks 35 = .ok (.iconst 0, 1) := by decide +kernel
theorem dX7_lookForMarks_36 : decode cX7_lookForMarks 36 = .ok (.iastore, 1) := by decide +kernel
theorem dX7_lookForMarks_37 : decode cX7_lookForMarks 37 = .ok (.aload_n 0, 1) := by decide +kernel
theorem dX7_lookForMarks_38 : decode cX7_lookForMarks 38 = .ok (.iload_n 2, 1) := by decide +kernel
theorem dX7_lookForMarks_39 : decode cX7_lookForMarks 39 = .ok (.putfield 67, 3) := by decide +kernel
theorem dX7_lookForMarks_42 : decode cX7_lookForMarks 42 = .ok (.aload_n 0, 1) := by decide +kernel
theorem dX7_lookForMarks_43 : decode cX7_lookForMarks 43 = .ok (.iload_n 3, 1) := by decide +kernel
theorem dX7_lookForMarks_44 : decode cX7_lookForMarks 44 = .ok (.putfield 70, 3) := by decide +kernel
theorem dX7_lookForMarks_47 : decode cX7_lookForMarks 47 = .ok (.aload_n 0, 1) := by decide +kernel
theorem dX7_lookForMarks_48 : decode cX7_lookForMarks 48 = .ok (.iconst 0, 1) := by decide +kernel
theorem dX7_lookForMarks_49 : decode cX7_lookForMarks 49 = .ok (.putfield 63, 3) := by decide +kernel
theorem dX7_lookForMarks_52 : decode cX7_lookForMarks 52 = .ok (.aload_n 0, 1) := by decide +kernel
theorem dX7_lookForMarks_53 : decode cX7_lookForMarks 53 = .ok (.iconst (-1), 1) := by decide +kernel
theorem dX7_lookForMarks_54 : decode cX7_lookForMarks 54 = .ok (.putfield 73, 3) := by decide +kernel
theorem dX7_lookForMarks_57 : decode cX7_lookForMarks 57 = .ok (.aload_n 0, 1) := by decide +kernel
theorem dX7_lookForMarks_58 : decode cX7_lookForMarks 58 = .ok (.iconst 0, 1) := by decide +kernel
theorem dX7_lookForMarks_59 : decode cX7_lookForMarks 59 = .ok (.iload_n 1, 1) := by decide +kernel
theorem dX7_lookForMarks_60 : decode cX7_lookForMarks 60 = .ok (.iconst 0, 1) := by decide +kernel
theorem dX7_lookForMarks_61 : decode cX7_lookForMarks 61 = .ok (.invokevirtual 76, 3) := by decide +kernel
theorem dX7_lookForMarks_64 : decode cX7_lookForMarks 64 = .ok (.return_, 1) := by decide +kernel
theorem dX7_forgetBehind_0 : decode cX7_forgetBehind 0 = .ok (.iconst 0, 1) := by decide +kernel
theorem dX7_forgetBehind_1 : decode cX7_forgetBehind 1 = .ok (.istore_n 1, 1) := by decide +kernel
theorem dX7_forgetBehind_2 : decode cX7_forgetBehind 2 = .ok (.iload_n 1, 1) := by decide +kernel
theorem dX7_forgetBehind_3 : decode cX7_forgetBehind 3 = .ok (.aload_n 0, 1) := by decide +kernel
theorem dX7_forgetBehind_4 : decode cX7_forgetBehind 4 = .ok (.getfield 22, 3) := by decide +kernel
theorem dX7_forgetBehind_7 : decode cX7_forgetBehind 7 = .ok (.arraylength, 1) := by decide +kernel
theorem dX7_forgetBehind_8 : decode cX7_forgetBehind 8 = .ok (.if_icmp .ge 16, 3) := by decide +kernel
theorem dX7_forgetBehind_11 : decode cX7_forgetBehind 11 = .ok (.aload_n 0, 1) := by decide +kernel
theorem dX7_forgetBehind_12 : decode cX7_forgetBehind 12 = .ok (.getfield 22, 3) := by decide +kernel
theorem dX7_forgetBehind_15 : decode cX7_forgetBehind 15 = .ok (.iload_n 1, 1) := by decide +kernel
theorem dX7_forgetBehind_16 : decode cX7_forgetBehind 16 = .ok (.iconst (-1), 1) := by decide +kernel
theorem dX7_forgetBehind_17 : decode cX7_forgetBehind 17 = .ok (.iastore, 1) := by decide +kernel
theorem dX7_forgetBehind_18 : decode cX7_forgetBehind 18 = .ok (.iinc 1 1, 3) := by decide +kernel
theorem dX7_forgetBehind_21 : decode cX7_forgetBehind 21 = .ok (.goto (-19), 3) := by decide +kernel
theorem dX7_forgetBehind_24 : decode cX7_forgetBehind 24 = .ok (.return_, 1) := by decide +kernel
theorem dX7_keepSheet_0 : decode cX7_keepSheet 0 = .ok (.aload_n 0, 1) := by decide +kernel
theorem dX7_keepSheet_1 : decode cX7_keepSheet 1 = .ok (.getfield 12, 3) := by decide +kernel
theorem dX7_keepSheet_4 : decode cX7_keepSheet 4 = .ok (.getfield 60, 3) := by decide +kernel
theorem dX7_keepSheet_7 : decode cX7_keepSheet 7 = .ok (.iconst 0, 1) := by decide +kernel
theorem dX7_keepSheet_8 : decode cX7_keepSheet 8 = .ok (.aload_n 0, 1) := by decide +kernel
theorem dX7_keepSheet_9 : decode cX7_keepSheet 9 = .ok (.getfield 18, 3) := by decide +kernel
theorem dX7_keepSheet_12 : decode cX7_keepSheet 12 = .ok (.iload_n 1, 1) := by decide +kernel
theorem dX7_keepSheet_13 : decode cX7_keepSheet 13 = .ok (.bipush 17, 2) := by decide +kernel
theorem dX7_keepSheet_15 : decode cX7_keepSheet 15 = .ok (.imul, 1) := by decide +kernel
theorem dX7_keepSheet_16 : decode cX7_keepSheet 16 = .ok (.bipush 17, 2) := by decide +kernel
theorem dX7_keepSheet_18 : decode cX7_keepSheet 18 = .ok (.invokestatic 80, 3) := by decide +kernel
theorem dX7_keepSheet_21 : decode cX7_keepSheet 21 = .ok (.return_, 1) := by decide +kernel
theorem dX7_resetSheet_0 : decode cX7_resetSheet 0 = .ok (.aload_n 0, 1) := by decide +kernel
theorem dX7_resetSheet_1 : decode cX7_resetSheet 1 = .ok (.getfield 18, 3) := by decide +kernel
theorem dX7_resetSheet_4 : decode cX7_resetSheet 4 = .ok (.iload_n 1, 1) := by decide +kernel
theorem dX7_resetSheet_5 : decode cX7_resetSheet 5 = .ok (.bipush 17, 2) := by decide +kernel
theorem dX7_resetSheet_7 : decode cX7_resetSheet 7 = .ok (.imul, 1) := by decide +kernel
theorem dX7_resetSheet_8 : decode cX7_resetSheet 8 = .ok (.aload_n 0, 1) := by decide +kernel
theorem dX7_resetSheet_9 : decode cX7_resetSheet 9 = .ok (.getfield 12, 3) := by decide +kernel
theorem dX7_resetSheet_12 : decode cX7_resetSheet 12 = .ok (.getfield 60, 3) := by decide +kernel
theorem dX7_resetSheet_15 : decode cX7_resetSheet 15 = .ok (.iconst 0, 1) := by decide +kernel
theorem dX7_resetSheet_16 : decode cX7_resetSheet 16 = .ok (.bipush 17, 2) := by decide +kernel
theorem dX7_resetSheet_18 : decode cX7_resetSheet 18 = .ok (.invokestatic 80, 3) := by decide +kernel
theorem dX7_resetSheet_21 : decode cX7_resetSheet 21 = .ok (.return_, 1) := by decide +kernel
theorem dX7_tryQuarrels_0 : decode cX7_tryQuarrels 0 = .ok (.aload_n 0, 1) := by decide +kernel
theorem dX7_tryQuarrels_1 : decode cX7_tryQuarrels 1 = .ok (.getfield 12, 3) := by decide +kernel
theorem dX7_tryQuarrels_4 : decode cX7_tryQuarrels 4 = .ok (.getfield 60, 3) := by decide +kernel
theorem dX7_tryQuarrels_7 : decode cX7_tryQuarrels 7 = .ok (.bipush 25, 2) := by decide +kernel
theorem dX7_tryQuarrels_9 : decode cX7_tryQuarrels 9 = .ok (.iaload, 1) := by decide +kernel
theorem dX7_tryQuarrels_10 : decode cX7_tryQuarrels 10 = .ok (.iconst 1, 1) := by decide +kernel
theorem dX7_tryQuarrels_11 : decode cX7_tryQuarrels 11 = .ok (.isub, 1) := by decide +kernel
theorem dX7_tryQuarrels_12 : decode cX7_tryQuarrels 12 = .ok (.iload_n 1, 1) := by decide +kernel
theorem dX7_tryQuarrels_13 : decode cX7_tryQuarrels 13 = .ok (.isub, 1) := by decide +kernel
theorem dX7_tryQuarrels_14 : decode cX7_tryQuarrels 14 = .ok (.istore_n 3, 1) := by decide +kernel
theorem dX7_tryQuarrels_15 : decode cX7_tryQuarrels 15 = .ok (.iload_n 3, 1) := by decide +kernel
theorem dX7_tryQuarrels_16 : decode cX7_tryQuarrels 16 = .ok (.ifCond .ge 20, 3) := by decide +kernel
theorem dX7_tryQuarrels_19 : decode cX7_tryQuarrels 19 = .ok (.aload_n 0, 1) := by decide +kernel
theorem dX7_tryQuarrels_20 : decode cX7_tryQuarrels 20 = .ok (.iconst 1, 1) := by decide +kernel
theorem dX7_tryQuarrels_21 : decode cX7_tryQuarrels 21 = .ok (.iconst 0, 1) := by decide +kernel
theorem dX7_tryQuarrels_22 : decode cX7_tryQuarrels 22 = .ok (.iconst 0, 1) := by decide +kernel
theorem dX7_tryQuarrels_23 : decode cX7_tryQuarrels 23 = .ok (.aload_n 0, 1) := by decide +kernel
theorem dX7_tryQuarrels_24 : decode cX7_tryQuarrels 24 = .ok (.getfield 12, 3) := by decide +kernel
theorem dX7_tryQuarrels_27 : decode cX7_tryQuarrels 27 = .ok (.getfield 60, 3) := by decide +kernel
theorem dX7_tryQuarrels_30 : decode cX7_tryQuarrels 30 = .ok (.iconst 0, 1) := by decide +kernel
theorem dX7_tryQuarrels_31 : decode cX7_tryQuarrels 31 = .ok (.iaload, 1) := by decide +kernel
theorem dX7_tryQuarrels_32 : decode cX7_tryQuarrels 32 = .ok (.invokevirtual 86, 3) := by decide +kernel
theorem dX7_tryQuarrels_35 : decode cX7_tryQuarrels 35 = .ok (.return_, 1) := by decide +kernel
theorem dX7_tryQuarrels_36 : decode cX7_tryQuarrels 36 = .ok (.aload_n 0, 1) := by decide +kernel
theorem dX7_tryQuarrels_37 : decode cX7_tryQuarrels 37 = .ok (.iload_n 2, 1) := by decide +kernel
theorem dX7_tryQuarrels_38 : decode cX7_tryQuarrels 38 = .ok (.invokevirtual 90, 3) := by decide +kernel
theorem dX7_tryQuarrels_41 : decode cX7_tryQuarrels 41 = .ok (.ifCond .eq 17, 3) := by decide +kernel
theorem dX7_tryQuarrels_44 : decode cX7_tryQuarrels 44 = .ok (.aload_n 0, 1) := by decide +kernel
theorem dX7_tryQuarrels_45 : decode cX7_tryQuarrels 45 = .ok (.aload_n 0, 1) := by decide +kernel
theorem dX7_tryQuarrels_46 : decode cX7_tryQuarrels 46 = .ok (.getfield 22, 3) := by decide +kernel
theorem dX7_tryQuarrels_49 : decode cX7_tryQuarrels 49 = .ok (.iload_n 2, 1) := by decide +kernel
theorem dX7_tryQuarrels_50 : decode cX7_tryQuarrels 50 = .ok (.iaload, 1) := by decide +kernel
theorem dX7_tryQuarrels_51 : decode cX7_tryQuarrels 51 = .ok (.iconst (-1), 1) := by decide +kernel
theorem dX7_tryQuarrels_52 : decode cX7_tryQuarrels 52 = .ok (.iconst (-1), 1) := by decide +kernel
theorem dX7_tryQuarrels_53 : decode cX7_tryQuarrels 53 = .ok (.iconst (-1), 1) := by decide +kernel
theorem dX7_tryQuarrels_54 : decode cX7_tryQuarrels 54 = .ok (.invokevirtual 86, 3) := by decide +kernel
theorem dX7_tryQuarrels_57 : decode cX7_tryQuarrels 57 = .ok (.return_, 1) := by decide +kernel
theorem dX7_tryQuarrels_58 : decode cX7_tryQuarrels 58 = .ok (.aload_n 0, 1) := by decide +kernel
theorem dX7_tryQuarrels_59 : decode cX7_tryQuarrels 59 = .ok (.iload_n 1, 1) := by decide +kernel
theorem dX7_tryQuarrels_60 : decode cX7_tryQuarrels 60 = .ok (.invokevirtual 53, 3) := by decide +kernel
theorem dX7_tryQuarrels_63 : decode cX7_tryQuarrels 63 = .ok (.iconst 0, 1) := by decide +kernel
theorem dX7_tryQuarrels_64 : decode cX7_tryQuarrels 64 = .ok (.istore 4, 2) := by decide +kernel
theorem dX7_tryQuarrels_66 : decode cX7_tryQuarrels 66 = .ok (.iconst (-1), 1) := by decide +kernel
theorem dX7_tryQuarrels_67 : decode cX7_tryQuarrels 67 = .ok (.istore 5, 2) := by decide +kernel
theorem dX7_tryQuarrels_69 : decode cX7_tryQuarrels 69 = .ok (.iconst (-1), 1) := by decide +kernel
theorem dX7_tryQuarrels_70 : decode cX7_tryQuarrels 70 = .ok (.istore 6, 2) := by decide +kernel
theorem dX7_tryQuarrels_72 : decode cX7_tryQuarrels 72 = .ok (.iconst (-1), 1) := by decide +kernel
theorem dX7_tryQuarrels_73 : decode cX7_tryQuarrels 73 = .ok (.istore 7, 2) := by decide +kernel
theorem dX7_tryQuarrels_75 : decode cX7_tryQuarrels 75 = .ok (.iconst 0, 1) := by decide +kernel
theorem dX7_tryQuarrels_76 : decode cX7_tryQuarrels 76 = .ok (.istore 8, 2) := by decide +kernel
theorem dX7_tryQuarrels_78 : decode cX7_tryQuarrels 78 = .ok (.iload 8, 2) := by decide +kernel
theorem dX7_tryQuarrels_80 : decode cX7_tryQuarrels 80 = .ok (.iload_n 1, 1) := by decide +kernel
theorem dX7_tryQuarrels_81 : decode cX7_tryQuarrels 81 = .ok (.iload_n 3, 1) := by decide +kernel
theorem dX7_tryQuarrels_82 : decode cX7_tryQuarrels 82 = .ok (.iadd, 1) := by decide +kernel
theorem dX7_tryQuarrels_83 : decode cX7_tryQuarrels 83 = .ok (.if_icmp .gt 142, 3) := by decide +kernel
theorem dX7_tryQuarrels_86 : decode cX7_tryQuarrels 86 = .ok (.aload_n 0, 1) := by decide +kernel
theorem dX7_tryQuarrels_87 : decode cX7_tryQuarrels 87 = .ok (.getfield 43, 3) := by decide +kernel
theorem dX7_tryQuarrels_90 : decode cX7_tryQuarrels 90 = .ok (.ifCond .eq 8, 3) := by decide +kernel
theorem dX7_tryQuarrels_93 : decode cX7_tryQuarrels 93 = .ok (.iload 4, 2) := by decide +kernel
theorem dX7_tryQuarrels_95 : decode cX7_tryQuarrels 95 = .ok (.ifCond .gt 130, 3) := by decide +kernel
theorem dX7_tryQuarrels_98 : decode cX7_tryQuarrels 98 = .ok (.iload_n 2, 1) := by decide +kernel
theorem dX7_tryQuarrels_99 : decode cX7_tryQuarrels 99 = .ok (.iload 8, 2) := by decide +kernel
theorem dX7_tryQuarrels_101 : decode cX7_tryQuarrels 101 = .ok (.ishr, 1) := by decide +kernel
theorem dX7_tryQuarrels_102 : decode cX7_tryQuarrels 102 = .ok (.iconst 1, 1) := by decide +kernel
theorem dX7_tryQuarrels_103 : decode cX7_tryQuarrels 103 = .ok (.iand, 1) := by decide +kernel
theorem dX7_tryQuarrels_104 : decode cX7_tryQuarrels 104 = .ok (.ifCond .ne 115, 3) := by decide +kernel
theorem dX7_tryQuarrels_107 : decode cX7_tryQuarrels 107 = .ok (.aload_n 0, 1) := by decide +kernel
theorem dX7_tryQuarrels_108 : decode cX7_tryQuarrels 108 = .ok (.iload_n 1, 1) := by decide +kernel
theorem dX7_tryQuarrels_109 : decode cX7_tryQuarrels 109 = .ok (.invokevirtual 57, 3) := by decide +kernel
theorem dX7_tryQuarrels_112 : decode cX7_tryQuarrels 112 = .ok (.aload_n 0, 1) := by decide +kernel
theorem dX7_tryQuarrels_113 : decode cX7_tryQuarrels 113 = .ok (.iconst 0, 1) := by decide +kernel
theorem dX7_tryQuarrels_114 : decode cX7_tryQuarrels 114 = .ok (.iconst (-1), 1) := by decide +kernel
theorem dX7_tryQuarrels_115 : decode cX7_tryQuarrels 115 = .ok (.iconst (-1), 1) := by decide +kernel
theorem dX7_tryQuarrels_116 : decode cX7_tryQuarrels 116 = .ok (.iconst (-1), 1) := by decide +kernel
theorem dX7_tryQuarrels_117 : decode cX7_tryQuarrels 117 = .ok (.invokevirtual 86, 3) := by decide +kernel
theorem dX7_tryQuarrels_120 : decode cX7_tryQuarrels 120 = .ok (.aload_n 0, 1) := by decide +kernel
theorem dX7_tryQuarrels_121 : decode cX7_tryQuarrels 121 = .ok (.iload 8, 2) := by decide +kernel
theorem dX7_tryQuarrels_123 : decode cX7_tryQuarrels 123 = .ok (.invokevirtual 94, 3) := by decide +kernel
theorem dX7_tryQuarrels_126 : decode cX7_tryQuarrels 126 = .ok (.ifCond .eq 16, 3) := by decide +kernel
theorem dX7_tryQuarrels_129 : decode cX7_tryQuarrels 129 = .ok (.aload_n 0, 1) := by decide +kernel
theorem dX7_tryQuarrels_130 : decode cX7_tryQuarrels 130 = .ok (.iload_n 1, 1) := by decide +kernel
theorem dX7_tryQuarrels_131 : decode cX7_tryQuarrels 131 = .ok (.iconst 1, 1) := by decide +kernel
theorem dX7_tryQuarrels_132 : decode cX7_tryQuarrels 132 = .ok (.iadd, 1) := by decide +kernel
theorem dX7_tryQuarrels_133 : decode cX7_tryQuarrels 133 = .ok (.iload_n 2, 1) := by decide +kernel
theorem dX7_tryQuarrels_134 : decode cX7_tryQuarrels 134 = .ok (.iconst 1, 1) := by decide +kernel
theorem dX7_tryQuarrels_135 : decode cX7_tryQuarrels 135 = .ok (.iload 8, 2) := by decide +kernel
theorem dX7_tryQuarrels_137 : decode cX7_tryQuarrels 137 = .ok (.ishl, 1) := by decide +kernel
theorem dX7_tryQuarrels_138 : decode cX7_tryQuarrels 138 = .ok (.ior, 1) := by decide +kernel
theorem dX7_tryQuarrels_139 : decode cX7_tryQuarrels 139 = .ok (.invokevirtual 49, 3) := by decide +kernel
theorem dX7_tryQuarrels_142 : decode cX7_tryQuarrels 142 = .ok (.iload 8, 2) := by decide +kernel
theorem dX7_tryQuarrels_144 : decode cX7_tryQuarrels 144 = .ok (.iconst 4, 1) := by decide +kernel
theorem dX7_tryQuarrels_145 : decode cX7_tryQuarrels 145 = .ok (.iload_n 3, 1) := by decide +kernel
theorem dX7_tryQuarrels_146 : decode cX7_tryQuarrels 146 = .ok (.imul, 1) := by decide +kernel
theorem dX7_tryQuarrels_147 : decode cX7_tryQuarrels 147 = .ok (.ishl, 1) := by decide +kernel
theorem dX7_tryQuarrels_148 : decode cX7_tryQuarrels 148 = .ok (.istore 9, 2) := by decide +kernel
theorem dX7_tryQuarrels_150 : decode cX7_tryQuarrels 150 = .ok (.iload 4, 2) := by decide +kernel
theorem dX7_tryQuarrels_152 : decode cX7_tryQuarrels 152 = .ok (.ifCond .ne 20, 3) := by decide +kernel
theorem dX7_tryQuarrels_155 : decode cX7_tryQuarrels 155 = .ok (.aload_n 0, 1) := by decide +kernel
theorem dX7_tryQuarrels_156 : decode cX7_tryQuarrels 156 = .ok (.getfield 63, 3) := by decide +kernel
theorem dX7_tryQuarrels_159 : decode cX7_tryQuarrels 159 = .ok (.ifCond .le 13, 3) := by decide +kernel
theorem dX7_tryQuarrels_162 : decode cX7_tryQuarrels 162 = .ok (.iload 9, 2) := by decide +kernel
theorem dX7_tryQuarrels_164 : decode cX7_tryQuarrels 164 = .ok (.aload_n 0, 1) := by decide +kernel
theorem dX7_tryQuarrels_165 : decode cX7_tryQuarrels 165 = .ok (.getfield 73, 3) := by decide +kernel
theorem dX7_tryQuarrels_168 : decode cX7_tryQuarrels 168 = .ok (.ior, 1) := by decide +kernel
theorem dX7_tryQuarrels_169 : decode cX7_tryQuarrels 169 = .ok (.goto 5, 3) := by decide +kernel
theorem dX7_tryQuarrels_172 : decode cX7_tryQuarrels 172 = .ok (.iload 5, 2) := by decide +kernel
theorem dX7_tryQuarrels_174 : decode cX7_tryQuarrels 174 = .ok (.istore 5, 2) := by decide +kernel
theorem dX7_tryQuarrels_176 : decode cX7_tryQuarrels 176 = .ok (.aload_n 0, 1) := by decide +kernel
theorem dX7_tryQuarrels_177 : decode cX7_tryQuarrels 177 = .ok (.getfield 97, 3) := by decide +kernel
theorem dX7_tryQuarrels_180 : decode cX7_tryQuarrels 180 = .ok (.iload 7, 2) := by decide +kernel
theorem dX7_tryQuarrels_182 : decode cX7_tryQuarrels 182 = .ok (.if_icmp .le 13, 3) := by decide +kernel
theorem dX7_tryQuarrels_185 : decode cX7_tryQuarrels 185 = .ok (.iload 9, 2) := by decide +kernel
theorem dX7_tryQuarrels_187 : decode cX7_tryQuarrels 187 = .ok (.aload_n 0, 1) := by decide +kernel
theorem dX7_tryQuarrels_188 : decode cX7_tryQuarrels 188 = .ok (.getfield 100, 3) := by decide +kernel
theorem dX7_tryQuarrels_191 : decode cX7_tryQuarrels 191 = .ok (.ior, 1) := by decide +kernel
theorem dX7_tryQuarrels_192 : decode cX7_tryQuarrels 192 = .ok (.goto 5, 3) := by decide +kernel
theorem dX7_tryQuarrels_195 : decode cX7_tryQuarrels 195 = .ok (.iload 6, 2) := by decide +kernel
theorem dX7_tryQuarrels_197 : decode cX7_tryQuarrels 197 = .ok (.istore 6, 2) := by decide +kernel
theorem dX7_tryQuarrels_199 : decode cX7_tryQuarrels 199 = .ok (.iload 7, 2) := by decide +kernel
theorem dX7_tryQuarrels_201 : decode cX7_tryQuarrels 201 = .ok (.aload_n 0, 1) := by decide +kernel
theorem dX7_tryQuarrels_202 : decode cX7_tryQuarrels 202 = .ok (.getfield 97, 3) := by decide +kernel
theorem dX7_tryQuarrels_205 : decode cX7_tryQuarrels 205 = .ok (.invokestatic 103, 3) := by decide +kernel
theorem dX7_tryQuarrels_208 : decode cX7_tryQuarrels 208 = .ok (.istore 7, 2) := by decide +kernel
theorem dX7_tryQuarrels_210 : decode cX7_tryQuarrels 210 = .ok (.iload 4, 2) := by decide +kernel
theorem dX7_tryQuarrels_212 : decode cX7_tryQuarrels 212 = .ok (.aload_n 0, 1) := by decide +kernel
theorem dX7_tryQuarrels_213 : decode cX7_tryQuarrels 213 = .ok (.getfield 63, 3) := by decide +kernel
theorem dX7_tryQuarrels_216 : decode cX7_tryQuarrels 216 = .ok (.iadd, 1) := by decide +kernel
theorem dX7_tryQuarrels_217 : decode cX7_tryQuarrels 217 = .ok (.istore 4, 2) := by decide +kernel
theorem dX7_tryQuarrels_219 : decode cX7_tryQuarrels 219 = .ok (.iinc 8 1, 3) := by decide +kernel
theorem dX7_tryQuarrels_222 : decode cX7_tryQuarrels 222 = .ok (.goto (-144), 3) := by decide +kernel
theorem dX7_tryQuarrels_225 : decode cX7_tryQuarrels 225 = .ok (.aload_n 0, 1) := by decide +kernel
theorem dX7_tryQuarrels_226 : decode cX7_tryQuarrels 226 = .ok (.iload 4, 2) := by decide +kernel
theorem dX7_tryQuarrels_228 : decode cX7_tryQuarrels 228 = .ok (.iload 5, 2) := by decide +kernel
theorem dX7_tryQuarrels_230 : decode cX7_tryQuarrels 230 = .ok (.iload 6, 2) := by decide +kernel
theorem dX7_tryQuarrels_232 : decode cX7_tryQuarrels 232 = .ok (.iload 7, 2) := by decide +kernel
theorem dX7_tryQuarrels_234 : decode cX7_tryQuarrels 234 = .ok (.invokevirtual 86, 3) := by decide +kernel
theorem dX7_tryQuarrels_237 : decode cX7_tryQuarrels 237 = .ok (.aload_n 0, 1) := by decide +kernel
theorem dX7_tryQuarrels_238 : decode cX7_tryQuarrels 238 = .ok (.getfield 22, 3) := by decide +kernel
theorem dX7_tryQuarrels_241 : decode cX7_tryQuarrels 241 = .ok (.iload_n 2, 1) := by decide +kernel
theorem dX7_tryQuarrels_242 : decode cX7_tryQuarrels 242 = .ok (.iload 4, 2) := by decide +kernel
theorem dX7_tryQuarrels_244 : decode cX7_tryQuarrels 244 = .ok (.iastore, 1) := by decide +kernel
theorem dX7_tryQuarrels_245 : decode cX7_tryQuarrels 245 = .ok (.aload_n 0, 1) := by decide +kernel
theorem dX7_tryQuarrels_246 : decode cX7_tryQuarrels 246 = .ok (.getfield 18, 3) := by decide +kernel
theorem dX7_tryQuarrels_249 : decode cX7_tryQuarrels 249 = .ok (.iload_n 1, 1) := by decide +kernel
theorem dX7_tryQuarrels_250 : decode cX7_tryQuarrels 250 = .ok (.bipush 17, 2) := by decide +kernel
theorem dX7_tryQuarrels_252 : decode cX7_tryQuarrels 252 = .ok (.imul, 1) := by decide +kernel
theorem dX7_tryQuarrels_253 : decode cX7_tryQuarrels 253 = .ok (.aload_n 0, 1) := by decide +kernel
theorem dX7_tryQuarrels_254 : decode cX7_tryQuarrels 254 = .ok (.getfield 25, 3) := by decide +kernel
theorem dX7_tryQuarrels_257 : decode cX7_tryQuarrels 257 = .ok (.iload_n 2, 1) := by decide +kernel
theorem dX7_tryQuarrels_258 : decode cX7_tryQuarrels 258 = .ok (.bipush 17, 2) := by decide +kernel
theorem dX7_tryQuarrels_260 : decode cX7_tryQuarrels 260 = .ok (.imul, 1) := by decide +kernel
theorem dX7_tryQuarrels_261 : decode cX7_tryQuarrels 261 = .ok (.bipush 17, 2) := by decide +kernel
theorem dX7_tryQuarrels_263 : decode cX7_tryQuarrels 263 = .ok (.invokestatic 80, 3) := by decide +kernel
theorem dX7_tryQuarrels_266 : decode cX7_tryQuarrels 266 = .ok (.return_, 1) := by decide +kernel
theorem dX7_setFound_0 : decode cX7_setFound 0 = .ok (.aload_n 0, 1) := by decide +kernel
theorem dX7_setFound_1 : decode cX7_setFound 1 = .ok (.iload_n 1, 1) := by decide +kernel
theorem dX7_setFound_2 : decode cX7_setFound 2 = .ok (.putfield 63, 3) := by decide +kernel
theorem dX7_setFound_5 : decode cX7_setFound 5 = .ok (.aload_n 0, 1) := by decide +kernel
theorem dX7_setFound_6 : decode cX7_setFound 6 = .ok (.iload_n 2, 1) := by decide +kernel
theorem dX7_setFound_7 : decode cX7_setFound 7 = .ok (.putfield 73, 3) := by decide +kernel
theorem dX7_setFound_10 : decode cX7_setFound 10 = .ok (.aload_n 0, 1) := by decide +kernel
theorem dX7_setFound_11 : decode cX7_setFound 11 = .ok (.iload_n 3, 1) := by decide +kernel
theorem dX7_setFound_12 : decode cX7_setFound 12 = .ok (.putfield 100, 3) := by decide +kernel
theorem dX7_setFound_15 : decode cX7_setFound 15 = .ok (.aload_n 0, 1) := by decide +kernel
theorem dX7_setFound_16 : decode cX7_setFound 16 = .ok (.iload 4, 2) := by decide +kernel
theorem dX7_setFound_18 : decode cX7_setFound 18 = .ok (.putfield 97, 3) := by decide +kernel
theorem dX7_setFound_21 : decode cX7_setFound 21 = .ok (.return_, 1) := by decide +kernel
theorem dX7_isKnownBehind_0 : decode cX7_isKnownBehind 0 = .ok (.aload_n 0, 1) := by decide +kernel
theorem dX7_isKnownBehind_1 : decode cX7_isKnownBehind 1 = .ok (.getfield 22, 3) := by decide +kernel
theorem dX7_isKnownBehind_4 : decode cX7_isKnownBehind 4 = .ok (.iload_n 1, 1) := by decide +kernel
theorem dX7_isKnownBehind_5 : decode cX7_isKnownBehind 5 = .ok (.iaload, 1) := by decide +kernel
theorem dX7_isKnownBehind_6 : decode cX7_isKnownBehind 6 = .ok (.iconst (-1), 1) := by decide +kernel
theorem dX7_isKnownBehind_7 : decode cX7_isKnownBehind 7 = .ok (.if_icmp .ne 5, 3) := by decide +kernel
theorem dX7_isKnownBehind_10 : decode cX7_isKnownBehind 10 = .ok (.iconst 0, 1) := by decide +kernel
theorem dX7_isKnownBehind_11 : decode cX7_isKnownBehind 11 = .ok (.ireturn, 1) := by decide +kernel
theorem dX7_isKnownBehind_12 : decode cX7_isKnownBehind 12 = .ok (.iconst 0, 1) := by decide +kernel
theorem dX7_isKnownBehind_13 : decode cX7_isKnownBehind 13 = .ok (.istore_n 2, 1) := by decide +kernel
theorem dX7_isKnownBehind_14 : decode cX7_isKnownBehind 14 = .ok (.iload_n 2, 1) := by decide +kernel
theorem dX7_isKnownBehind_15 : decode cX7_isKnownBehind 15 = .ok (.bipush 17, 2) := by decide +kernel
theorem dX7_isKnownBehind_17 : decode cX7_isKnownBehind 17 = .ok (.if_icmp .ge 34, 3) := by decide +kernel
theorem dX7_isKnownBehind_20 : decode cX7_isKnownBehind 20 = .ok (.aload_n 0, 1) := by decide +kernel
theorem dX7_isKnownBehind_21 : decode cX7_isKnownBehind 21 = .ok (.getfield 25, 3) := by decide +kernel
theorem dX7_isKnownBehind_24 : decode cX7_isKnownBehind 24 = .ok (.iload_n 1, 1) := by decide +kernel
theorem dX7_isKnownBehind_25 : decode cX7_isKnownBehind 25 = .ok (.bipush 17, 2) := by decide +kernel
theorem dX7_isKnownBehind_27 : decode cX7_isKnownBehind 27 = .ok (.imul, 1) := by decide +kernel
theorem dX7_isKnownBehind_28 : decode cX7_isKnownBehind 28 = .ok (.iload_n 2, 1) := by decide +kernel
theorem dX7_isKnownBehind_29 : decode cX7_isKnownBehind 29 = .ok (.iadd, 1) := by decide +kernel
theorem dX7_isKnownBehind_30 : decode cX7_isKnownBehind 30 = .ok (.iaload, 1) := by decide +kernel
theorem dX7_isKnownBehind_31 : decode cX7_isKnownBehind 31 = .ok (.aload_n 0, 1) := by decide +kernel
theorem dX7_isKnownBehind_32 : decode cX7_isKnownBehind 32 = .ok (.getfield 12, 3) := by decide +kernel
theorem dX7_isKnownBehind_35 : decode cX7_isKnownBehind 35 = .ok (.getfield 60, 3) := by decide +kernel
theorem dX7_isKnownBehind_38 : decode cX7_isKnownBehind 38 = .ok (.iload_n 2, 1) := by decide +kernel
theorem dX7_isKnownBehind_39 : decode cX7_isKnownBehind 39 = .ok (.iaload, 1) := by decide +kernel
theorem dX7_isKnownBehind_40 : decode cX7_isKnownBehind 40 = .ok (.if_icmp .eq 5, 3) := by decide +kernel
theorem dX7_isKnownBehind_43 : decode cX7_isKnownBehind 43 = .ok (.iconst 0, 1) := by decide +kernel
theorem dX7_isKnownBehind_44 : decode cX7_isKnownBehind 44 = .ok (.ireturn, 1) := by decide +kernel
theorem dX7_isKnownBehind_45 : decode cX7_isKnownBehind 45 = .ok (.iinc 2 1, 3) := by decide +kernel
theorem dX7_isKnownBehind_48 : decode cX7_isKnownBehind 48 = .ok (.goto (-34), 3) := by decide +kernel
theorem dX7_isKnownBehind_51 : decode cX7_isKnownBehind 51 = .ok (.iconst 1, 1) := by decide +kernel
theorem dX7_isKnownBehind_52 : decode cX7_isKnownBehind 52 = .ok (.ireturn, 1) := by decide +kernel
theorem dX7_canBeMissed_0 : decode cX7_canBeMissed 0 = .ok (.aload_n 0, 1) := by decide +kernel
theorem dX7_canBeMissed_1 : decode cX7_canBeMissed 1 = .ok (.getfield 12, 3) := by decide +kernel
theorem dX7_canBeMissed_4 : decode cX7_canBeMissed 4 = .ok (.getfield 60, 3) := by decide +kernel
theorem dX7_canBeMissed_7 : decode cX7_canBeMissed 7 = .ok (.bipush 107, 2) := by decide +kernel
theorem dX7_canBeMissed_9 : decode cX7_canBeMissed 9 = .ok (.iload_n 1, 1) := by decide +kernel
theorem dX7_canBeMissed_10 : decode cX7_canBeMissed 10 = .ok (.iadd, 1) := by decide +kernel
theorem dX7_canBeMissed_11 : decode cX7_canBeMissed 11 = .ok (.iaload, 1) := by decide +kernel
theorem dX7_canBeMissed_12 : decode cX7_canBeMissed 12 = .ok (.istore_n 2, 1) := by decide +kernel
theorem dX7_canBeMissed_13 : decode cX7_canBeMissed 13 = .ok (.iconst 0, 1) := by decide +kernel
theorem dX7_canBeMissed_14 : decode cX7_canBeMissed 14 = .ok (.istore_n 3, 1) := by decide +kernel
theorem dX7_canBeMissed_15 : decode cX7_canBeMissed 15 = .ok (.iload_n 3, 1) := by decide +kernel
theorem dX7_canBeMissed_16 : decode cX7_canBeMissed 16 = .ok (.iconst 2, 1) := by decide +kernel
theorem dX7_canBeMissed_17 : decode cX7_canBeMissed 17 = .ok (.aload_n 0, 1) := by decide +kernel
theorem dX7_canBeMissed_18 : decode cX7_canBeMissed 18 = .ok (.getfield 12, 3) := by decide +kernel
theorem dX7_canBeMissed_21 : decode cX7_canBeMissed 21 = .ok (.getfield 60, 3) := by decide +kernel
theorem dX7_canBeMissed_24 : decode cX7_canBeMissed 24 = .ok (.bipush 17, 2) := by decide +kernel
theorem dX7_canBeMissed_26 : decode cX7_canBeMissed 26 = .ok (.iaload, 1) := by decide +kernel
theorem dX7_canBeMissed_27 : decode cX7_canBeMissed 27 = .ok (.imul, 1) := by decide +kernel
theorem dX7_canBeMissed_28 : decode cX7_canBeMissed 28 = .ok (.if_icmp .ge 34, 3) := by decide +kernel
theorem dX7_canBeMissed_31 : decode cX7_canBeMissed 31 = .ok (.aload_n 0, 1) := by decide +kernel
theorem dX7_canBeMissed_32 : decode cX7_canBeMissed 32 = .ok (.getfield 12, 3) := by decide +kernel
theorem dX7_canBeMissed_35 : decode cX7_canBeMissed 35 = .ok (.invokevirtual 109, 3) := by decide +kernel
theorem dX7_canBeMissed_38 : decode cX7_canBeMissed 38 = .ok (.ifCond .ne 5, 3) := by decide +kernel
theorem dX7_canBeMissed_41 : decode cX7_canBeMissed 41 = .ok (.iconst 0, 1) := by decide +kernel
theorem dX7_canBeMissed_42 : decode cX7_canBeMissed 42 = .ok (.ireturn, 1) := by decide +kernel
theorem dX7_canBeMissed_43 : decode cX7_canBeMissed 43 = .ok (.aload_n 0, 1) := by decide +kernel
theorem dX7_canBeMissed_44 : decode cX7_canBeMissed 44 = .ok (.getfield 35, 3) := by decide +kernel
theorem dX7_canBeMissed_47 : decode cX7_canBeMissed 47 = .ok (.aload_n 0, 1) := by decide +kernel
theorem dX7_canBeMissed_48 : decode cX7_canBeMissed 48 = .ok (.getfield 12, 3) := by decide +kernel
theorem dX7_canBeMissed_51 : decode cX7_canBeMissed 51 = .ok (.iconst (-1), 1) := by decide +kernel
theorem dX7_canBeMissed_52 : decode cX7_canBeMissed 52 = .ok (.iload_n 2, 1) := by decide +kernel
theorem dX7_canBeMissed_53 : decode cX7_canBeMissed 53 = .ok (.invokevirtual 113, 3) := by decide +kernel
theorem dX7_canBeMissed_56 : decode cX7_canBeMissed 56 = .ok (.iinc 3 1, 3) := by decide +kernel
theorem dX7_canBeMissed_59 : decode cX7_canBeMissed 59 = .ok (.goto (-44), 3) := by decide +kernel
theorem dX7_canBeMissed_62 : decode cX7_canBeMissed 62 = .ok (.aload_n 0, 1) := by decide +kernel
theorem dX7_canBeMissed_63 : decode cX7_canBeMissed 63 = .ok (.getfield 12, 3) := by decide +kernel
theorem dX7_canBeMissed_66 : decode cX7_canBeMissed 66 = .ok (.getfield 60, 3) := by decide +kernel
theorem dX7_canBeMissed_69 : decode cX7_canBeMissed 69 = .ok (.bipush 16, 2) := by decide +kernel
theorem dX7_canBeMissed_71 : decode cX7_canBeMissed 71 = .ok (.iaload, 1) := by decide +kernel
theorem dX7_canBeMissed_72 : decode cX7_canBeMissed 72 = .ok (.aload_n 0, 1) := by decide +kernel
theorem dX7_canBeMissed_73 : decode cX7_canBeMissed 73 = .ok (.getfield 12, 3) := by decide +kernel
theorem dX7_canBeMissed_76 : decode cX7_canBeMissed 76 = .ok (.getfield 60, 3) := by decide +kernel
theorem dX7_canBeMissed_79 : decode cX7_canBeMissed 79 = .ok (.bipush 114, 2) := by decide +kernel
theorem dX7_canBeMissed_81 : decode cX7_canBeMissed 81 = .ok (.iload_n 1, 1) := by decide +kernel
theorem dX7_canBeMissed_82 : decode cX7_canBeMissed 82 = .ok (.iadd, 1) := by decide +kernel
theorem dX7_canBeMissed_83 : decode cX7_canBeMissed 83 = .ok (.iaload, 1) := by decide +kernel
theorem dX7_canBeMissed_84 : decode cX7_canBeMissed 84 = .ok (.if_icmp .gt 7, 3) := by decide +kernel
theorem dX7_canBeMissed_87 : decode cX7_canBeMissed 87 = .ok (.iconst 1, 1) := by decide +kernel
theorem dX7_canBeMissed_88 : decode cX7_canBeMissed 88 = .ok (.goto 4, 3) := by decide +kernel
theorem dX7_canBeMissed_91 : decode cX7_canBeMissed 91 = .ok (.iconst 0, 1) := by decide +kernel
theorem dX7_canBeMissed_92 : decode cX7_canBeMissed 92 = .ok (.ireturn, 1) := by decide +kernel
theorem dX7_tryShots_0 : decode cX7_tryShots 0 = .ok (.iload_n 1, 1) := by decide +kernel
theorem dX7_tryShots_1 : decode cX7_tryShots 1 = .ok (.iload_n 2, 1) := by decide +kernel
theorem dX7_tryShots_2 : decode cX7_tryShots 2 = .ok (.if_icmp .lt 65, 3) := by decide +kernel
theorem dX7_tryShots_5 : decode cX7_tryShots 5 = .ok (.aload_n 0, 1) := by decide +kernel
theorem dX7_tryShots_6 : decode cX7_tryShots 6 = .ok (.getfield 12, 3) := by decide +kernel
theorem dX7_tryShots_9 : decode cX7_tryShots 9 = .ok (.getfield 60, 3) := by decide +kernel
theorem dX7_tryShots_12 : decode cX7_tryShots 12 = .ok (.iconst 0, 1) := by decide +kernel
theorem dX7_tryShots_13 : decode cX7_tryShots 13 = .ok (.iaload, 1) := by decide +kernel
theorem dX7_tryShots_14 : decode cX7_tryShots 14 = .ok (.aload_n 0, 1) := by decide +kernel
theorem dX7_tryShots_15 : decode cX7_tryShots 15 = .ok (.getfield 67, 3) := by decide +kernel
theorem dX7_tryShots_18 : decode cX7_tryShots 18 = .ok (.if_icmp .ne 48, 3) := by decide +kernel
theorem dX7_tryShots_21 : decode cX7_tryShots 21 = .ok (.aload_n 0, 1) := by decide +kernel
theorem dX7_tryShots_22 : decode cX7_tryShots 22 = .ok (.getfield 12, 3) := by decide +kernel
theorem dX7_tryShots_25 : decode cX7_tryShots 25 = .ok (.getfield 60, 3) := by decide +kernel
theorem dX7_tryShots_28 : decode cX7_tryShots 28 = .ok (.iconst 1, 1) := by decide +kernel
theorem dX7_tryShots_29 : decode cX7_tryShots 29 = .ok (.iaload, 1) := by decide +kernel
theorem dX7_tryShots_30 : decode cX7_tryShots 30 = .ok (.aload_n 0, 1) := by decide +kernel
theorem dX7_tryShots_31 : decode cX7_tryShots 31 = .ok (.getfield 70, 3) := by decide +kernel
theorem dX7_tryShots_34 : decode cX7_tryShots 34 = .ok (.if_icmp .ne 32, 3) := by decide +kernel
theorem dX7_tryShots_37 : decode cX7_tryShots 37 = .ok (.aload_n 0, 1) := by decide +kernel
theorem dX7_tryShots_38 : decode cX7_tryShots 38 = .ok (.aload_n 0, 1) := by decide +kernel
theorem dX7_tryShots_39 : decode cX7_tryShots 39 = .ok (.getfield 63, 3) := by decide +kernel
theorem dX7_tryShots_42 : decode cX7_tryShots 42 = .ok (.ifCond .ne 7, 3) := by decide +kernel
theorem dX7_tryShots_45 : decode cX7_tryShots 45 = .ok (.iload_n 3, 1) := by decide +kernel
theorem dX7_tryShots_46 : decode cX7_tryShots 46 = .ok (.goto 7, 3) := by decide +kernel
theorem dX7_tryShots_49 : decode cX7_tryShots 49 = .ok (.aload_n 0, 1) := by decide +kernel
theorem dX7_tryShots_50 : decode cX7_tryShots 50 = .ok (.getfield 73, 3) := by decide +kernel
theorem dX7_tryShots_53 : decode cX7_tryShots 53 = .ok (.putfield 73, 3) := by decide +kernel
theorem dX7_tryShots_56 : decode cX7_tryShots 56 = .ok (.aload_n 0, 1) := by decide +kernel
theorem dX7_tryShots_57 : decode cX7_tryShots 57 = .ok (.dup, 1) := by decide +kernel
theorem dX7_tryShots_58 : decode cX7_tryShots 58 = .ok (.getfield 63, 3) := by decide +kernel
theorem dX7_tryShots_61 : decode cX7_tryShots 61 = .ok (.iconst 1, 1) := by decide +kernel
theorem dX7_tryShots_62 : decode cX7_tryShots 62 = .ok (.iadd, 1) := by decide +kernel
theorem dX7_tryShots_63 : decode cX7_tryShots 63 = .ok (.putfield 63, 3) := by decide +kernel
theorem dX7_tryShots_66 : decode cX7_tryShots 66 = .ok (.return_, 1) := by decide +kernel
theorem dX7_tryShots_67 : decode cX7_tryShots 67 = .ok (.aload_n 0, 1) := by decide +kernel
theorem dX7_tryShots_68 : decode cX7_tryShots 68 = .ok (.iload_n 1, 1) := by decide +kernel
theorem dX7_tryShots_69 : decode cX7_tryShots 69 = .ok (.invokevirtual 53, 3) := by decide +kernel
theorem dX7_tryShots_72 : decode cX7_tryShots 72 = .ok (.iconst 0, 1) := by decide +kernel
theorem dX7_tryShots_73 : decode cX7_tryShots 73 = .ok (.istore 4, 2) := by decide +kernel
theorem dX7_tryShots_75 : decode cX7_tryShots 75 = .ok (.iload 4, 2) := by decide +kernel
theorem dX7_tryShots_77 : decode cX7_tryShots 77 = .ok (.aload_n 0, 1) := by decide +kernel
theorem dX7_tryShots_78 : decode cX7_tryShots 78 = .ok (.getfield 12, 3) := by decide +kernel
theorem dX7_tryShots_81 : decode cX7_tryShots 81 = .ok (.getfield 60, 3) := by decide +kernel
theorem dX7_tryShots_84 : decode cX7_tryShots 84 = .ok (.bipush 23, 2) := by decide +kernel
theorem dX7_tryShots_86 : decode cX7_tryShots 86 = .ok (.iaload, 1) := by decide +kernel
theorem dX7_tryShots_87 : decode cX7_tryShots 87 = .ok (.if_icmp .ge 69, 3) := by decide +kernel
theorem dX7_tryShots_90 : decode cX7_tryShots 90 = .ok (.aload_n 0, 1) := by decide +kernel
theorem dX7_tryShots_91 : decode cX7_tryShots 91 = .ok (.iload_n 1, 1) := by decide +kernel
theorem dX7_tryShots_92 : decode cX7_tryShots 92 = .ok (.invokevirtual 57, 3) := by decide +kernel
theorem dX7_tryShots_95 : decode cX7_tryShots 95 = .ok (.aload_n 0, 1) := by decide +kernel
theorem dX7_tryShots_96 : decode cX7_tryShots 96 = .ok (.getfield 12, 3) := by decide +kernel
theorem dX7_tryShots_99 : decode cX7_tryShots 99 = .ok (.invokevirtual 109, 3) := by decide +kernel
theorem dX7_tryShots_102 : decode cX7_tryShots 102 = .ok (.ifCond .eq 48, 3) := by decide +kernel
theorem dX7_tryShots_105 : decode cX7_tryShots 105 = .ok (.aload_n 0, 1) := by decide +kernel
theorem dX7_tryShots_106 : decode cX7_tryShots 106 = .ok (.getfield 12, 3) := by decide +kernel
theorem dX7_tryShots_109 : decode cX7_tryShots 109 = .ok (.getfield 60, 3) := by decide +kernel
theorem dX7_tryShots_112 : decode cX7_tryShots 112 = .ok (.bipush 27, 2) := by decide +kernel
theorem dX7_tryShots_114 : decode cX7_tryShots 114 = .ok (.iload 4, 2) := by decide +kernel
theorem dX7_tryShots_116 : decode cX7_tryShots 116 = .ok (.iadd, 1) := by decide +kernel
theorem dX7_tryShots_117 : decode cX7_tryShots 117 = .ok (.iaload, 1) := by decide +kernel
theorem dX7_tryShots_118 : decode cX7_tryShots 118 = .ok (.iconst 2, 1) := by decide +kernel
theorem dX7_tryShots_119 : decode cX7_tryShots 119 = .ok (.if_icmp .eq 31, 3) := by decide +kernel
theorem dX7_tryShots_122 : decode cX7_tryShots 122 = .ok (.aload_n 0, 1) := by decide +kernel
theorem dX7_tryShots_123 : decode cX7_tryShots 123 = .ok (.getfield 35, 3) := by decide +kernel
theorem dX7_tryShots_126 : decode cX7_tryShots 126 = .ok (.aload_n 0, 1) := by decide +kernel
theorem dX7_tryShots_127 : decode cX7_tryShots 127 = .ok (.getfield 12, 3) := by decide +kernel
theorem dX7_tryShots_130 : decode cX7_tryShots 130 = .ok (.iconst (-1), 1) := by decide +kernel
theorem dX7_tryShots_131 : decode cX7_tryShots 131 = .ok (.iload 4, 2) := by decide +kernel
theorem dX7_tryShots_133 : decode cX7_tryShots 133 = .ok (.invokevirtual 113, 3) := by decide +kernel
theorem dX7_tryShots_136 : decode cX7_tryShots 136 = .ok (.aload_n 0, 1) := by decide +kernel
theorem dX7_tryShots_137 : decode cX7_tryShots 137 = .ok (.iload_n 1, 1) := by decide +kernel
theorem dX7_tryShots_138 : decode cX7_tryShots 138 = .ok (.iconst 1, 1) := by decide +kernel
theorem dX7_tryShots_139 : decode cX7_tryShots 139 = .ok (.iadd, 1) := by decide +kernel
theorem dX7_tryShots_140 : decode cX7_tryShots 140 = .ok (.iload_n 2, 1) := by decide +kernel
theorem dX7_tryShots_141 : decode cX7_tryShots 141 = .ok (.iload_n 3, 1) := by decide +kernel
theorem dX7_tryShots_142 : decode cX7_tryShots 142 = .ok (.iconst 4, 1) := by decide +kernel
theorem dX7_tryShots_143 : decode cX7_tryShots 143 = .ok (.ishl, 1) := by decide +kernel
theorem dX7_tryShots_144 : decode cX7_tryShots 144 = .ok (.iload 4, 2) := by decide +kernel
theorem dX7_tryShots_146 : decode cX7_tryShots 146 = .ok (.ior, 1) := by decide +kernel
theorem dX7_tryShots_147 : decode cX7_tryShots 147 = .ok (.invokevirtual 76, 3) := by decide +kernel
theorem dX7_tryShots_150 : decode cX7_tryShots 150 = .ok (.iinc 4 1, 3) := by decide +kernel
theorem dX7_tryShots_153 : decode cX7_tryShots 153 = .ok (.goto (-78), 3) := by decide +kernel
theorem dX7_tryShots_156 : decode cX7_tryShots 156 = .ok (.return_, 1) := by decide +kernel
theorem dX8_init_0 : decode cX8_init 0 = .ok (.aload_n 0, 1) := by decide +kernel
theorem dX8_init_1 : decode cX8_init 1 = .ok (.invokespecial 3, 3) := by decide +kernel
theorem dX8_init_4 : decode cX8_init 4 = .ok (.aload_n 0, 1) := by decide +kernel
theorem dX8_init_5 : decode cX8_init 5 = .ok (.bipush 11, 2) := by decide +kernel
theorem dX8_init_7 : decode cX8_init 7 = .ok (.newarray .int, 2) := by decide +kernel
theorem dX8_init_9 : decode cX8_init 9 = .ok (.putfield 9, 3) := by decide +kernel
theorem dX8_init_12 : decode cX8_init 12 = .ok (.aload_n 0, 1) := by decide +kernel
theorem dX8_init_13 : decode cX8_init 13 = .ok (.aload_n 1, 1) := by decide +kernel
theorem dX8_init_14 : decode cX8_init 14 = .ok (.putfield 15, 3) := by decide +kernel
theorem dX8_init_17 : decode cX8_init 17 = .ok (.aload_n 0, 1) := by decide +kernel
theorem dX8_init_18 : decode cX8_init 18 = .ok (.aload_n 2, 1) := by decide +kernel
theorem dX8_init_19 : decode cX8_init 19 = .ok (.putfield 19, 3) := by decide +kernel
theorem dX8_init_22 : decode cX8_init 22 = .ok (.return_, 1) := by decide +kernel
theorem dX8_ask_0 : decode cX8_ask 0 = .ok (.aload_n 0, 1) := by decide +kernel
theorem dX8_ask_1 : decode cX8_ask 1 = .ok (.getfield 15, 3) := by decide +kernel
theorem dX8_ask_4 : decode cX8_ask 4 = .ok (.invokevirtual 23, 3) := by decide +kernel
theorem dX8_ask_7 : decode cX8_ask 7 = .ok (.astore 5, 2) := by decide +kernel
theorem dX8_ask_9 : decode cX8_ask 9 = .ok (.aload 5, 2) := by decide +kernel
theorem dX8_ask_11 : decode cX8_ask 11 = .ok (.ifnonnull 12, 3) := by decide +kernel
theorem dX8_ask_14 : decode cX8_ask 14 = .ok (.aload_n 1, 1) := by decide +kernel
theorem dX8_ask_15 : decode cX8_ask 15 = .ok (.iload_n 2, 1) := by decide +kernel
theorem dX8_ask_16 : decode cX8_ask 16 = .ok (.iload_n 3, 1) := by decide +kernel
theorem dX8_ask_17 : decode cX8_ask 17 = .ok (.iload 4, 2) := by decide +kernel
theorem dX8_ask_19 : decode cX8_ask 19 = .ok (.invokestatic 29, 3) := by decide +kernel
theorem dX8_ask_22 : decode cX8_ask 22 = .ok (.ireturn, 1) := by decide +kernel
theorem dX8_ask_23 : decode cX8_ask 23 = .ok (.iconst 0, 1) := by decide +kernel
theorem dX8_ask_24 : decode cX8_ask 24 = .ok (.istore 6, 2) := by decide +kernel
theorem dX8_ask_26 : decode cX8_ask 26 = .ok (.aload 5, 2) := by decide +kernel
theorem dX8_ask_28 : decode cX8_ask 28 = .ok (.getfield 33, 3) := by decide +kernel
theorem dX8_ask_31 : decode cX8_ask 31 = .ok (.iconst 1, 1) := by decide +kernel
theorem dX8_ask_32 : decode cX8_ask 32 = .ok (.isub, 1) := by decide +kernel
theorem dX8_ask_33 : decode cX8_ask 33 = .ok (.istore 7, 2) := by decide +kernel
theorem dX8_ask_35 : decode cX8_ask 35 = .ok (.iload 7, 2) := by decide +kernel
theorem dX8_ask_37 : decode cX8_ask 37 = .ok (.ifCond .lt 122, 3) := by decide +kernel
theorem dX8_ask_40 : decode cX8_ask 40 = .ok (.aload 5, 2) := by decide +kernel
theorem dX8_ask_42 : decode cX8_ask 42 = .ok (.iload 7, 2) := by decide +kernel
theorem dX8_ask_44 : decode cX8_ask 44 = .ok (.iconst 0, 1) := by decide +kernel
theorem dX8_ask_45 : decode cX8_ask 45 = .ok (.invokevirtual 39, 3) := by decide +kernel
theorem dX8_ask_48 : decode cX8_ask 48 = .ok (.iload_n 2, 1) := by decide +kernel
theorem dX8_ask_49 : decode cX8_ask 49 = .ok (.if_icmp .ne 104, 3) := by decide +kernel
theorem dX8_ask_52 : decode cX8_ask 52 = .ok (.iload 6, 2) := by decide +kernel
theorem dX8_ask_54 : decode cX8_ask 54 = .ok (.ifCond .ne 14, 3) := by decide +kernel
theorem dX8_ask_57 : decode cX8_ask 57 = .ok (.aload_n 0, 1) := by decide +kernel
theorem dX8_ask_58 : decode cX8_ask 58 = .ok (.aload_n 1, 1) := by decide +kernel
theorem dX8_ask_59 : decode cX8_ask 59 = .ok (.iload_n 3, 1) := by decide +kernel
theorem dX8_ask_60 : decode cX8_ask 60 = .ok (.iload 4, 2) := by decide +kernel
theorem dX8_ask_62 : decode cX8_ask 62 = .ok (.invokevirtual 43, 3) := by decide +kernel
theorem dX8_ask_65 : decode cX8_ask 65 = .ok (.iconst 1, 1) := by decide +kernel
theorem dX8_ask_66 : decode cX8_ask 66 = .ok (.istore 6, 2) := by decide +kernel
theorem dX8_ask_68 : decode cX8_ask 68 = .ok (.aload_n 0, 1) := by decide +kernel
theorem dX8_ask_69 : decode cX8_ask 69 = .ok (.getfield 19, 3) := by decide +kernel
theorem dX8_ask_72 : decode cX8_ask 72 = .ok (.aload 5, 2) := by decide +kernel
theorem dX8_ask_74 : decode cX8_ask 74 = .ok (.aload 5, 2) := by decide +kernel
theorem dX8_ask_76 : decode cX8_ask 76 = .ok (.iload 7, 2) := by decide +kernel
theorem dX8_ask_78 : decode cX8_ask 78 = .ok (.iconst 4, 1) := by decide +kernel
theorem dX8_ask_79 : decode cX8_ask 79 = .ok (.invokevirtual 39, 3) := by decide +kernel
theorem dX8_ask_82 : decode cX8_ask 82 = .ok (.aload 5, 2) := by decide +kernel
theorem dX8_ask_84 : decode cX8_ask 84 = .ok (.iload 7, 2) := by decide +kernel
theorem dX8_ask_86 : decode cX8_ask 86 = .ok (.iconst 5, 1) := by decide +kernel
theorem dX8_ask_87 : decode cX8_ask 87 = .ok (.invokevirtual 39, 3) := by decide +kernel
theorem dX8_ask_90 : decode cX8_ask 90 = .ok (.aload_n 0, 1) := by decide +kernel
theorem dX8_ask_91 : decode cX8_ask 91 = .ok (.getfield 9, 3) := by decide +kernel
theorem dX8_ask_94 : decode cX8_ask 94 = .ok (.invokevirtual 47, 3) := by decide +kernel
theorem dX8_ask_97 : decode cX8_ask 97 = .ok (.ifCond .le 56, 3) := by decide +kernel
theorem dX8_ask_100 : decode cX8_ask 100 = .ok (.aload_n 0, 1) := by decide +kernel
theorem dX8_ask_101 : decode cX8_ask 101 = .ok (.getfield 19, 3) := by decide +kernel
theorem dX8_ask_104 : decode cX8_ask 104 = .ok (.aload 5, 2) := by decide +kernel
theorem dX8_ask_106 : decode cX8_ask 106 = .ok (.aload 5, 2) := by decide +kernel
theorem dX8_ask_108 : decode cX8_ask 108 = .ok (.iload 7, 2) := by decide +kernel
theorem dX8_ask_110 : decode cX8_ask 110 = .ok (.iconst 2, 1) := by decide +kernel
theorem dX8_ask_111 : decode cX8_ask 111 = .ok (.invokevirtual 39, 3) := by decide +kernel
theorem dX8_ask_114 : decode cX8_ask 114 = .ok (.aload 5, 2) := by decide +kernel
theorem dX8_ask_116 : decode cX8_ask 116 = .ok (.iload 7, 2) := by decide +kernel
theorem dX8_ask_118 : decode cX8_ask 118 = .ok (.iconst 3, 1) := by decide +kernel
theorem dX8_ask_119 : decode cX8_ask 119 = .ok (.invokevirtual 39, 3) := by decide +kernel
theorem dX8_ask_122 : decode cX8_ask 122 = .ok (.aload_n 0, 1) := by decide +kernel
theorem dX8_ask_123 : decode cX8_ask 123 = .ok (.getfield 9, 3) := by decide +kernel
theorem dX8_ask_126 : decode cX8_ask 126 = .ok (.invokevirtual 47, 3) := by decide +kernel
theorem dX8_ask_129 : decode cX8_ask 129 = .ok (.istore 8, 2) := by decide +kernel
theorem dX8_ask_131 : decode cX8_ask 131 = .ok (.iload 8, 2) := by decide +kernel
theorem dX8_ask_133 : decode cX8_ask 133 = .ok (.ldc 53, 2) := by decide +kernel
theorem dX8_ask_135 : decode cX8_ask 135 = .ok (.if_icmp .eq 18, 3) := by decide +kernel
theorem dX8_ask_138 : decode cX8_ask 138 = .ok (.iconst 0, 1) := by decide +kernel
theorem dX8_ask_139 : decode cX8_ask 139 = .ok (.getstatic 54, 3) := by decide +kernel
theorem dX8_ask_142 : decode cX8_ask 142 = .ok (.iload_n 2, 1) := by decide +kernel
theorem dX8_ask_143 : decode cX8_ask 143 = .ok (.iaload, 1) := by decide +kernel
theorem dX8_ask_144 : decode cX8_ask 144 = .ok (.iload 8, 2) := by decide +kernel
theorem dX8_ask_146 : decode cX8_ask 146 = .ok (.invokestatic 57, 3) := by decide +kernel
theorem dX8_ask_149 : decode cX8_ask 149 = .ok (.invokestatic 62, 3) := by decide +kernel
theorem dX8_ask_152 : decode cX8_ask 152 = .ok (.ireturn, 1) := by decide +kernel
theorem dX8_ask_153 : decode cX8_ask 153 = .ok (.iinc 7 (-1), 3) := by decide +kernel
theorem dX8_ask_156 : decode cX8_ask 156 = .ok (.goto (-121), 3) := by decide +kernel
theorem dX8_ask_159 : decode cX8_ask 159 = .ok (.aload_n 1, 1) := by decide +kernel
theorem dX8_ask_160 : decode cX8_ask 160 = .ok (.iload_n 2, 1) := by decide +kernel
theorem dX8_ask_161 : decode cX8_ask 161 = .ok (.iload_n 3, 1) := by decide +kernel
theorem dX8_ask_162 : decode cX8_ask 162 = .ok (.iload 4, 2) := by decide +kernel
theorem dX8_ask_164 : decode cX8_ask 164 = .ok (.invokestatic 29, 3) := by decide +kernel
theorem dX8_ask_167 : decode cX8_ask 167 = .ok (.ireturn, 1) := by decide +kernel
theorem dX8_withoutLaw_0 : decode cX8_withoutLaw 0 = .ok (.iload_n 1, 1) := by decide +kernel
theorem dX8_withoutLaw_1 : decode cX8_withoutLaw 1 = .ok (.tableswitch 79 0 3 #[31, 41, 54, 67], 31) := by decide +kernel
theorem dX8_withoutLaw_32 : decode cX8_withoutLaw 32 = .ok (.aload_n 0, 1) := by decide +kernel
theorem dX8_withoutLaw_33 : decode cX8_withoutLaw 33 = .ok (.getfield 65, 3) := by decide +kernel
theorem dX8_withoutLaw_36 : decode cX8_withoutLaw 36 = .ok (.bipush 63, 2) := by decide +kernel
theorem dX8_withoutLaw_38 : decode cX8_withoutLaw 38 = .ok (.iload_n 2, 1) := by decide +kernel
theorem dX8_withoutLaw_39 : decode cX8_withoutLaw 39 = .ok (.iadd, 1) := by decide +kernel
theorem dX8_withoutLaw_40 : decode cX8_withoutLaw 40 = .ok (.iaload, 1) := by decide +kernel
theorem dX8_withoutLaw_41 : decode cX8_withoutLaw 41 = .ok (.ireturn, 1) := by decide +kernel
theorem dX8_withoutLaw_42 : decode cX8_withoutLaw 42 = .ok (.aload_n 0, 1) := by decide +kernel
theorem dX8_withoutLaw_43 : decode cX8_withoutLaw 43 = .ok (.getfield 65, 3) := by decide +kernel
theorem dX8_withoutLaw_46 : decode cX8_withoutLaw 46 = .ok (.bipush 39, 2) := by decide +kernel
theorem dX8_withoutLaw_48 : decode cX8_withoutLaw 48 = .ok (.iload_n 3, 1) := by decide +kernel
theorem dX8_withoutLaw_49 : decode cX8_withoutLaw 49 = .ok (.iadd, 1) := by decide +kernel
theorem dX8_withoutLaw_50 : decode cX8_withoutLaw 50 = .ok (.iaload, 1) := by decide +kernel
theorem dX8_withoutLaw_51 : decode cX8_withoutLaw 51 = .ok (.bipush 10, 2) := by decide +kernel
theorem dX8_withoutLaw_53 : decode cX8_withoutLaw 53 = .ok (.idiv, 1) := by decide +kernel
theorem dX8_withoutLaw_54 : decode cX8_withoutLaw 54 = .ok (.ireturn, 1) := by decide +kernel
theorem dX8_withoutLaw_55 : decode cX8_withoutLaw 55 = .ok (.aload_n 0, 1) := by decide +kernel
theorem dX8_withoutLaw_56 : decode cX8_withoutLaw 56 = .ok (.getfield 65, 3) := by decide +kernel
theorem dX8_withoutLaw_59 : decode cX8_withoutLaw 59 = .ok (.bipush 39, 2) := by decide +kernel
theorem dX8_withoutLaw_61 : decode cX8_withoutLaw 61 = .ok (.iload_n 3, 1) := by decide +kernel
theorem dX8_withoutLaw_62 : decode cX8_withoutLaw 62 = .ok (.iadd, 1) := by decide +kernel
theorem dX8_withoutLaw_63 : decode cX8_withoutLaw 63 = .ok (.iaload, 1) := by decide +kernel
theorem dX8_withoutLaw_64 : decode cX8_withoutLaw 64 = .ok (.bipush 20, 2) := by decide +kernel
theorem dX8_withoutLaw_66 : decode cX8_withoutLaw 66 = .ok (.idiv, 1) := by decide +kernel
theorem dX8_withoutLaw_67 : decode cX8_withoutLaw 67 = .ok (.ireturn, 1) := by decide +kernel
theorem dX8_withoutLaw_68 : decode cX8_withoutLaw 68 = .ok (.aload_n 0, 1) := by decide +kernel
theorem dX8_withoutLaw_69 : decode cX8_withoutLaw 69 = .ok (.getfield 65, 3) := by decide +kernel
theorem dX8_withoutLaw_72 : decode cX8_withoutLaw 72 = .ok (.iconst 4, 1) := by decide +kernel
theorem dX8_withoutLaw_73 : decode cX8_withoutLaw 73 = .ok (.iload_n 3, 1) := by decide +kernel
theorem dX8_withoutLaw_74 : decode cX8_withoutLaw 74 = .ok (.iadd, 1) := by decide +kernel
theorem dX8_withoutLaw_75 : decode cX8_withoutLaw 75 = .ok (.iaload, 1) := by decide +kernel
theorem dX8_withoutLaw_76 : decode cX8_withoutLaw 76 = .ok (.bipush 10, 2) := by decide +kernel
theorem dX8_withoutLaw_78 : decode cX8_withoutLaw 78 = .ok (.imul, 1) := by decide +kernel
theorem dX8_withoutLaw_79 : decode cX8_withoutLaw 79 = .ok (.ireturn, 1) := by decide +kernel
theorem dX8_withoutLaw_80 : decode cX8_withoutLaw 80 = .ok (.iconst 0, 1) := by decide +kernel
theorem dX8_withoutLaw_81 : decode cX8_withoutLaw 81 = .ok (.ireturn, 1) := by decide +kernel
theorem dX8_setWords_0 : decode cX8_setWords 0 = .ok (.aload_n 0, 1) := by decide +kernel
theorem dX8_setWords_1 : decode cX8_setWords 1 = .ok (.getfield 9, 3) := by decide +kernel
theorem dX8_setWords_4 : decode cX8_setWords 4 = .ok (.iconst 0, 1) := by decide +kernel
