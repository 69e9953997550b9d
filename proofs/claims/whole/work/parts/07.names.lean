theorem dX9_feed_0 : decode cX9_feed 0 = .ok (.aload_n 0, 1) := by decide +kernel
theorem dX9_feed_1 : decode cX9_feed 1 = .ok (.iconst 0, 1) := by decide +kernel
theorem dX9_feed_2 : decode cX9_feed 2 = .ok (.putfield 1, 3) := by decide +kernel
theorem dX9_feed_5 : decode cX9_feed 5 = .ok (.aload_n 0, 1) := by decide +kernel
theorem dX9_feed_6 : decode cX9_feed 6 = .ok (.lload_n 1, 1) := by decide +kernel
theorem dX9_feed_7 : decode cX9_feed 7 = .ok (.invokevirtual 7, 3) := by decide +kernel
theorem dX9_feed_10 : decode cX9_feed 10 = .ok (.aload_n 0, 1) := by decide +kernel
theorem dX9_feed_11 : decode cX9_feed 11 = .ok (.lload_n 3, 1) := by decide +kernel
theorem dX9_feed_12 : decode cX9_feed 12 = .ok (.invokevirtual 7, 3) := by decide +kernel
theorem dX9_feed_15 : decode cX9_feed 15 = .ok (.aload_n 0, 1) := by decide +kernel
theorem dX9_feed_16 : decode cX9_feed 16 = .ok (.lload 5, 2) := by decide +kernel
theorem dX9_feed_18 : decode cX9_feed 18 = .ok (.invokevirtual 7, 3) := by decide +kernel
theorem dX9_feed_21 : decode cX9_feed 21 = .ok (.aload_n 0, 1) := by decide +kernel
theorem dX9_feed_22 : decode cX9_feed 22 = .ok (.getfield 11, 3) := by decide +kernel
theorem dX9_feed_25 : decode cX9_feed 25 = .ok (.ireturn, 1) := by decide +kernel
theorem dX9_lay_0 : decode cX9_lay 0 = .ok (.bipush 56, 2) := by decide +kernel
theorem dX9_lay_2 : decode cX9_lay 2 = .ok (.istore_n 3, 1) := by decide +kernel
theorem dX9_lay_3 : decode cX9_lay 3 = .ok (.iload_n 3, 1) := by decide +kernel
theorem dX9_lay_4 : decode cX9_lay 4 = .ok (.ifCond .lt 71, 3) := by decide +kernel
theorem dX9_lay_7 : decode cX9_lay 7 = .ok (.lload_n 1, 1) := by decide +kernel
theorem dX9_lay_8 : decode cX9_lay 8 = .ok (.iload_n 3, 1) := by decide +kernel
theorem dX9_lay_9 : decode cX9_lay 9 = .ok (.lshr, 1) := by decide +kernel
theorem dX9_lay_10 : decode cX9_lay 10 = .ok (.l2i, 1) := by decide +kernel
theorem dX9_lay_11 : decode cX9_lay 11 = .ok (.sipush 255, 3) := by decide +kernel
theorem dX9_lay_14 : decode cX9_lay 14 = .ok (.iand, 1) := by decide +kernel
theorem dX9_lay_15 : decode cX9_lay 15 = .ok (.istore 4, 2) := by decide +kernel
theorem dX9_lay_17 : decode cX9_lay 17 = .ok (.iload 4, 2) := by decide +kernel
theorem dX9_lay_19 : decode cX9_lay 19 = .ok (.bipush 10, 2) := by decide +kernel
theorem dX9_lay_21 : decode cX9_lay 21 = .ok (.if_icmp .eq 17, 3) := by decide +kernel
theorem dX9_lay_24 : decode cX9_lay 24 = .ok (.iload 4, 2) := by decide +kernel
theorem dX9_lay_26 : decode cX9_lay 26 = .ok (.bipush 32, 2) := by decide +kernel
theorem dX9_lay_28 : decode cX9_lay 28 = .ok (.if_icmp .lt 41, 3) := by decide +kernel
theorem dX9_lay_31 : decode cX9_lay 31 = .ok (.iload 4, 2) := by decide +kernel
theorem dX9_lay_33 : decode cX9_lay 33 = .ok (.bipush 126, 2) := by decide +kernel
theorem dX9_lay_35 : decode cX9_lay 35 = .ok (.if_icmp .gt 34, 3) := by decide +kernel
theorem dX9_lay_38 : decode cX9_lay 38 = .ok (.aload_n 0, 1) := by decide +kernel
theorem dX9_lay_39 : decode cX9_lay 39 = .ok (.getfield 11, 3) := by decide +kernel
theorem dX9_lay_42 : decode cX9_lay 42 = .ok (.sipush 600, 3) := by decide +kernel
theorem dX9_lay_45 : decode cX9_lay 45 = .ok (.if_icmp .ge 24, 3) := by decide +kernel
theorem dX9_lay_48 : decode cX9_lay 48 = .ok (.aload_n 0, 1) := by decide +kernel
theorem dX9_lay_49 : decode cX9_lay 49 = .ok (.getfield 14, 3) := by decide +kernel
theorem dX9_lay_52 : decode cX9_lay 52 = .ok (.aload_n 0, 1) := by decide +kernel
theorem dX9_lay_53 : decode cX9_lay 53 = .ok (.getfield 11, 3) := by decide +kernel
theorem dX9_lay_56 : decode cX9_lay 56 = .ok (.iload 4, 2) := by decide +kernel
theorem dX9_lay_58 : decode cX9_lay 58 = .ok (.iastore, 1) := by decide +kernel
theorem dX9_lay_59 : decode cX9_lay 59 = .ok (.aload_n 0, 1) := by decide +kernel
theorem dX9_lay_60 : decode cX9_lay 60 = .ok (.dup, 1) := by decide +kernel
theorem dX9_lay_61 : decode cX9_lay 61 = .ok (.getfield 11, 3) := by decide +kernel
theorem dX9_lay_64 : decode cX9_lay 64 = .ok (.iconst 1, 1) := by decide +kernel
theorem dX9_lay_65 : decode cX9_lay 65 = .ok (.iadd, 1) := by decide +kernel
theorem dX9_lay_66 : decode cX9_lay 66 = .ok (.putfield 11, 3) := by decide +kernel
theorem dX9_lay_69 : decode cX9_lay 69 = .ok (.iinc 3 (-8), 3) := by decide +kernel
theorem dX9_lay_72 : decode cX9_lay 72 = .ok (.goto (-69), 3) := by decide +kernel
theorem dX9_lay_75 : decode cX9_lay 75 = .ok (.return_, 1) := by decide +kernel
theorem dX9_init_0 : decode cX9_init 0 = .ok (.aload_n 0, 1) := by decide +kernel
theorem dX9_init_1 : decode cX9_init 1 = .ok (.invokespecial 18, 3) := by decide +kernel
theorem dX9_init_4 : decode cX9_init 4 = .ok (.aload_n 0, 1) := by decide +kernel
theorem dX9_init_5 : decode cX9_init 5 = .ok (.sipush 600, 3) := by decide +kernel
theorem dX9_init_8 : decode cX9_init 8 = .ok (.newarray .int, 2) := by decide +kernel
theorem dX9_init_10 : decode cX9_init 10 = .ok (.putfield 14, 3) := by decide +kernel
theorem dX9_init_13 : decode cX9_init 13 = .ok (.aload_n 0, 1) := by decide +kernel
theorem dX9_init_14 : decode cX9_init 14 = .ok (.sipush 602, 3) := by decide +kernel
theorem dX9_init_17 : decode cX9_init 17 = .ok (.newarray .int, 2) := by decide +kernel
theorem dX9_init_19 : decode cX9_init 19 = .ok (.putfield 24, 3) := by decide +kernel
theorem dX9_init_22 : decode cX9_init 22 = .ok (.aload_n 0, 1) := by decide +kernel
theorem dX9_init_23 : decode cX9_init 23 = .ok (.sipush 602, 3) := by decide +kernel
theorem dX9_init_26 : decode cX9_init 26 = .ok (.newarray .int, 2) := by decide +kernel
theorem dX9_init_28 : decode cX9_init 28 = .ok (.putfield 27, 3) := by decide +kernel
theorem dX9_init_31 : decode cX9_init 31 = .ok (.aload_n 0, 1) := by decide +kernel
theorem dX9_init_32 : decode cX9_init 32 = .ok (.sipush 602, 3) := by decide +kernel
theorem dX9_init_35 : decode cX9_init 35 = .ok (.newarray .long, 2) := by decide +kernel
theorem dX9_init_37 : decode cX9_init 37 = .ok (.putfield 30, 3) := by decide +kernel
theorem dX9_init_40 : decode cX9_init 40 = .ok (.aload_n 0, 1) := by decide +kernel
theorem dX9_init_41 : decode cX9_init 41 = .ok (.bipush 9, 2) := by decide +kernel
theorem dX9_init_43 : decode cX9_init 43 = .ok (.newarray .long, 2) := by decide +kernel
theorem dX9_init_45 : decode cX9_init 45 = .ok (.dup, 1) := by decide +kernel
theorem dX9_init_46 : decode cX9_init 46 = .ok (.iconst 0, 1) := by decide +kernel
theorem dX9_init_47 : decode cX9_init 47 = .ok (.ldc2_w 34, 3) := by decide +kernel
theorem dX9_init_50 : decode cX9_init 50 = .ok (.lastore, 1) := by decide +kernel
theorem dX9_init_51 : decode cX9_init 51 = .ok (.dup, 1) := by decide +kernel
theorem dX9_init_52 : decode cX9_init 52 = .ok (.iconst 1, 1) := by decide +kernel
theorem dX9_init_53 : decode cX9_init 53 = .ok (.ldc2_w 36, 3) := by decide +kernel
theorem dX9_init_56 : decode cX9_init 56 = .ok (.lastore, 1) := by decide +kernel
theorem dX9_init_57 : decode cX9_init 57 = .ok (.dup, 1) := by decide +kernel
theorem dX9_init_58 : decode cX9_init 58 = .ok (.iconst 2, 1) := by decide +kernel
theorem dX9_init_59 : decode cX9_init 59 = .ok (.ldc2_w 38, 3) := by decide +kernel
theorem dX9_init_62 : decode cX9_init 62 = .ok (.lastore, 1) := by decide +kernel
theorem dX9_init_63 : decode cX9_init 63 = .ok (.dup, 1) := by decide +kernel
theorem dX9_init_64 : decode cX9_init 64 = .ok (.iconst 3, 1) := by decide +kernel
theorem dX9_init_65 : decode cX9_init 65 = .ok (.ldc2_w 40, 3) := by decide +kernel
theorem dX9_init_68 : decode cX9_init 68 = .ok (.lastore, 1) := by decide +kernel
theorem dX9_init_69 : decode cX9_init 69 = .ok (.dup, 1) := by decide +kernel
theorem dX9_init_70 : decode cX9_init 70 = .ok (.iconst 4, 1) := by decide +kernel
theorem dX9_init_71 : decode cX9_init 71 = .ok (.ldc2_w 42, 3) := by decide +kernel
theorem dX9_init_74 : decode cX9_init 74 = .ok (.lastore, 1) := by decide +kernel
theorem dX9_init_75 : decode cX9_init 75 = .ok (.dup, 1) := by decide +kernel
theorem dX9_init_76 : decode cX9_init 76 = .ok (.iconst 5, 1) := by decide +kernel
theorem dX9_init_77 : decode cX9_init 77 = .ok (.ldc2_w 44, 3) := by decide +kernel
theorem dX9_init_80 : decode cX9_init 80 = .ok (.lastore, 1) := by decide +kernel
theorem dX9_init_81 : decode cX9_init 81 = .ok (.dup, 1) := by decide +kernel
theorem dX9_init_82 : decode cX9_init 82 = .ok (.bipush 6, 2) := by decide +kernel
theorem dX9_init_84 : decode cX9_init 84 = .ok (.ldc2_w 46, 3) := by decide +kernel
theorem dX9_init_87 : decode cX9_init 87 = .ok (.lastore, 1) := by decide +kernel
theorem dX9_init_88 : decode cX9_init 88 = .ok (.dup, 1) := by decide +kernel
theorem dX9_init_89 : decode cX9_init 89 = .ok (.bipush 7, 2) := by decide +kernel
theorem dX9_init_91 : decode cX9_init 91 = .ok (.ldc2_w 48, 3) := by decide +kernel
theorem dX9_init_94 : decode cX9_init 94 = .ok (.lastore, 1) := by decide +kernel
theorem dX9_init_95 : decode cX9_init 95 = .ok (.dup, 1) := by decide +kernel
theorem dX9_init_96 : decode cX9_init 96 = .ok (.bipush 8, 2) := by decide +kernel
theorem dX9_init_98 : decode cX9_init 98 = .ok (.ldc2_w 50, 3) := by decide +kernel
theorem dX9_init_101 : decode cX9_init 101 = .ok (.lastore, 1) := by decide +kernel
theorem dX9_init_102 : decode cX9_init 102 = .ok (.putfield 52, 3) := by decide +kernel
theorem dX9_init_105 : decode cX9_init 105 = .ok (.aload_n 0, 1) := by decide +kernel
theorem dX9_init_106 : decode cX9_init 106 = .ok (.iconst 2, 1) := by decide +kernel
theorem dX9_init_107 : decode cX9_init 107 = .ok (.newarray .int, 2) := by decide +kernel
theorem dX9_init_109 : decode cX9_init 109 = .ok (.putfield 55, 3) := by decide +kernel
theorem dX9_init_112 : decode cX9_init 112 = .ok (.aload_n 0, 1) := by decide +kernel
theorem dX9_init_113 : decode cX9_init 113 = .ok (.bipush 32, 2) := by decide +kernel
theorem dX9_init_115 : decode cX9_init 115 = .ok (.newarray .int, 2) := by decide +kernel
theorem dX9_init_117 : decode cX9_init 117 = .ok (.putfield 58, 3) := by decide +kernel
theorem dX9_init_120 : decode cX9_init 120 = .ok (.aload_n 0, 1) := by decide +kernel
theorem dX9_init_121 : decode cX9_init 121 = .ok (.bipush 32, 2) := by decide +kernel
theorem dX9_init_123 : decode cX9_init 123 = .ok (.newarray .int, 2) := by decide +kernel
theorem dX9_init_125 : decode cX9_init 125 = .ok (.putfield 61, 3) := by decide +kernel
theorem dX9_init_128 : decode cX9_init 128 = .ok (.aload_n 0, 1) := by decide +kernel
theorem dX9_init_129 : decode cX9_init 129 = .ok (.sipush 1320, 3) := by decide +kernel
theorem dX9_init_132 : decode cX9_init 132 = .ok (.newarray .int, 2) := by decide +kernel
theorem dX9_init_134 : decode cX9_init 134 = .ok (.putfield 64, 3) := by decide +kernel
theorem dX9_init_137 : decode cX9_init 137 = .ok (.aload_n 0, 1) := by decide +kernel
theorem dX9_init_138 : decode cX9_init 138 = .ok (.sipush 1320, 3) := by decide +kernel
theorem dX9_init_141 : decode cX9_init 141 = .ok (.newarray .int, 2) := by decide +kernel
theorem dX9_init_143 : decode cX9_init 143 = .ok (.putfield 67, 3) := by decide +kernel
theorem dX9_init_146 : decode cX9_init 146 = .ok (.aload_n 0, 1) := by decide +kernel
theorem dX9_init_147 : decode cX9_init 147 = .ok (.bipush 7, 2) := by decide +kernel
theorem dX9_init_149 : decode cX9_init 149 = .ok (.newarray .int, 2) := by decide +kernel
theorem dX9_init_151 : decode cX9_init 151 = .ok (.putfield 70, 3) := by decide +kernel
theorem dX9_init_154 : decode cX9_init 154 = .ok (.aload_n 0, 1) := by decide +kernel
theorem dX9_init_155 : decode cX9_init 155 = .ok (.bipush 7, 2) := by decide +kernel
theorem dX9_init_157 : decode cX9_init 157 = .ok (.newarray .int, 2) := by decide +kernel
theorem dX9_init_159 : decode cX9_init 159 = .ok (.putfield 73, 3) := by decide +kernel
theorem dX9_init_162 : decode cX9_init 162 = .ok (.aload_n 0, 1) := by decide +kernel
theorem dX9_init_163 : decode cX9_init 163 = .ok (.bipush 7, 2) := by decide +kernel
theorem dX9_init_165 : decode cX9_init 165 = .ok (.newarray .int, 2) := by decide +kernel
theorem dX9_init_167 : decode cX9_init 167 = .ok (.putfield 76, 3) := by decide +kernel
theorem dX9_init_170 : decode cX9_init 170 = .ok (.aload_n 0, 1) := by decide +kernel
theorem dX9_init_171 : decode cX9_init 171 = .ok (.bipush 6, 2) := by decide +kernel
theorem dX9_init_173 : decode cX9_init 173 = .ok (.newarray .int, 2) := by decide +kernel
theorem dX9_init_175 : decode cX9_init 175 = .ok (.putfield 79, 3) := by decide +kernel
theorem dX9_init_178 : decode cX9_init 178 = .ok (.aload_n 0, 1) := by decide +kernel
theorem dX9_init_179 : decode cX9_init 179 = .ok (.sipush 660, 3) := by decide +kernel
theorem dX9_init_182 : decode cX9_init 182 = .ok (.newarray .int, 2) := by decide +kernel
theorem dX9_init_184 : decode cX9_init 184 = .ok (.putfield 82, 3) := by decide +kernel
theorem dX9_init_187 : decode cX9_init 187 = .ok (.aload_n 0, 1) := by decide +kernel
theorem dX9_init_188 : decode cX9_init 188 = .ok (.sipush 480, 3) := by decide +kernel
theorem dX9_init_191 : decode cX9_init 191 = .ok (.newarray .int, 2) := by decide +kernel
theorem dX9_init_193 : decode cX9_init 193 = .ok (.putfield 85, 3) := by decide +kernel
theorem dX9_init_196 : decode cX9_init 196 = .ok (.aload_n 0, 1) := by decide +kernel
theorem dX9_init_197 : decode cX9_init 197 = .ok (.bipush 60, 2) := by decide +kernel
theorem dX9_init_199 : decode cX9_init 199 = .ok (.newarray .boolean, 2) := by decide +kernel
theorem dX9_init_201 : decode cX9_init 201 = .ok (.putfield 88, 3) := by decide +kernel
theorem dX9_init_204 : decode cX9_init 204 = .ok (.aload_n 0, 1) := by decide +kernel
theorem dX9_init_205 : decode cX9_init 205 = .ok (.bipush 8, 2) := by decide +kernel
theorem dX9_init_207 : decode cX9_init 207 = .ok (.newarray .int, 2) := by decide +kernel
theorem dX9_init_209 : decode cX9_init 209 = .ok (.putfield 92, 3) := by decide +kernel
theorem dX9_init_212 : decode cX9_init 212 = .ok (.aload_n 0, 1) := by decide +kernel
theorem dX9_init_213 : decode cX9_init 213 = .ok (.bipush 8, 2) := by decide +kernel
theorem dX9_init_215 : decode cX9_init 215 = .ok (.newarray .int, 2) := by decide +kernel
theorem dX9_init_217 : decode cX9_init 217 = .ok (.putfield 95, 3) := by decide +kernel
theorem dX9_init_220 : decode cX9_init 220 = .ok (.aload_n 0, 1) := by decide +kernel
theorem dX9_init_221 : decode cX9_init 221 = .ok (.bipush 60, 2) := by decide +kernel
theorem dX9_init_223 : decode cX9_init 223 = .ok (.newarray .int, 2) := by decide +kernel
theorem dX9_init_225 : decode cX9_init 225 = .ok (.putfield 98, 3) := by decide +kernel
theorem dX9_init_228 : decode cX9_init 228 = .ok (.aload_n 0, 1) := by decide +kernel
theorem dX9_init_229 : decode cX9_init 229 = .ok (.bipush 60, 2) := by decide +kernel
theorem dX9_init_231 : decode cX9_init 231 = .ok (.newarray .int, 2) := by decide +kernel
theorem dX9_init_233 : decode cX9_init 233 = .ok (.putfield 101, 3) := by decide +kernel
theorem dX9_init_236 : decode cX9_init 236 = .ok (.aload_n 0, 1) := by decide +kernel
theorem dX9_init_237 : decode cX9_init 237 = .ok (.bipush 60, 2) := by decide +kernel
theorem dX9_init_239 : decode cX9_init 239 = .ok (.newarray .int, 2) := by decide +kernel
theorem dX9_init_241 : decode cX9_init 241 = .ok (.putfield 104, 3) := by decide +kernel
theorem dX9_init_244 : decode cX9_init 244 = .ok (.aload_n 0, 1) := by decide +kernel
theorem dX9_init_245 : decode cX9_init 245 = .ok (.bipush 60, 2) := by decide +kernel
theorem dX9_init_247 : decode cX9_init 247 = .ok (.newarray .int, 2) := by decide +kernel
theorem dX9_init_249 : decode cX9_init 249 = .ok (.putfield 107, 3) := by decide +kernel
theorem dX9_init_252 : decode cX9_init 252 = .ok (.aload_n 0, 1) := by decide +kernel
theorem dX9_init_253 : decode cX9_init 253 = .ok (.bipush 60, 2) := by decide +kernel
theorem dX9_init_255 : decode cX9_init 255 = .ok (.newarray .int, 2) := by decide +kernel
theorem dX9_init_257 : decode cX9_init 257 = .ok (.putfield 110, 3) := by decide +kernel
theorem dX9_init_260 : decode cX9_init 260 = .ok (.aload_n 0, 1) := by decide +kernel
theorem dX9_init_261 : decode cX9_init 261 = .ok (.bipush 60, 2) := by decide +kernel
theorem dX9_init_263 : decode cX9_init 263 = .ok (.newarray .boolean, 2) := by decide +kernel
theorem dX9_init_265 : decode cX9_init 265 = .ok (.putfield 113, 3) := by decide +kernel
theorem dX9_init_268 : decode cX9_init 268 = .ok (.aload_n 0, 1) := by decide +kernel
theorem dX9_init_269 : decode cX9_init 269 = .ok (.bipush 60, 2) := by decide +kernel
theorem dX9_init_271 : decode cX9_init 271 = .ok (.newarray .int, 2) := by decide +kernel
theorem dX9_init_273 : decode cX9_init 273 = .ok (.putfield 116, 3) := by decide +kernel
theorem dX9_init_276 : decode cX9_init 276 = .ok (.aload_n 0, 1) := by decide +kernel
theorem dX9_init_277 : decode cX9_init 277 = .ok (.bipush 60, 2) := by decide +kernel
theorem dX9_init_279 : decode cX9_init 279 = .ok (.newarray .int, 2) := by decide +kernel
theorem dX9_init_281 : decode cX9_init 281 = .ok (.putfield 119, 3) := by decide +kernel
theorem dX9_init_284 : decode cX9_init 284 = .ok (.aload_n 0, 1) := by decide +kernel
theorem dX9_init_285 : decode cX9_init 285 = .ok (.bipush 60, 2) := by decide +kernel
theorem dX9_init_287 : decode cX9_init 287 = .ok (.newarray .int, 2) := by decide +kernel
theorem dX9_init_289 : decode cX9_init 289 = .ok (.putfield 122, 3) := by decide +kernel
theorem dX9_init_292 : decode cX9_init 292 = .ok (.aload_n 0, 1) := by decide +kernel
theorem dX9_init_293 : decode cX9_init 293 = .ok (.bipush 60, 2) := by decide +kernel
theorem dX9_init_295 : decode cX9_init 295 = .ok (.newarray .int, 2) := by decide +kernel
theorem dX9_init_297 : decode cX9_init 297 = .ok (.putfield 125, 3) := by decide +kernel
theorem dX9_init_300 : decode cX9_init 300 = .ok (.aload_n 0, 1) := by decide +kernel
theorem dX9_init_301 : decode cX9_init 301 = .ok (.bipush 60, 2) := by decide +kernel
theorem dX9_init_303 : decode cX9_init 303 = .ok (.newarray .int, 2) := by decide +kernel
theorem dX9_init_305 : decode cX9_init 305 = .ok (.putfield 128, 3) := by decide +kernel
theorem dX9_init_308 : decode cX9_init 308 = .ok (.aload_n 0, 1) := by decide +kernel
theorem dX9_init_309 : decode cX9_init 309 = .ok (.bipush 60, 2) := by decide +kernel
theorem dX9_init_311 : decode cX9_init 311 = .ok (.newarray .int, 2) := by decide +kernel
theorem dX9_init_313 : decode cX9_init 313 = .ok (.putfield 131, 3) := by decide +kernel
theorem dX9_init_316 : decode cX9_init 316 = .ok (.aload_n 0, 1) := by decide +kernel
theorem dX9_init_317 : decode cX9_init 317 = .ok (.bipush 60, 2) := by decide +kernel
theorem dX9_init_319 : decode cX9_init 319 = .ok (.newarray .boolean, 2) := by decide +kernel
theorem dX9_init_321 : decode cX9_init 321 = .ok (.putfield 134, 3) := by decide +kernel
theorem dX9_init_324 : decode cX9_init 324 = .ok (.aload_n 0, 1) := by decide +kernel
theorem dX9_init_325 : decode cX9_init 325 = .ok (.bipush 24, 2) := by decide +kernel
theorem dX9_init_327 : decode cX9_init 327 = .ok (.newarray .int, 2) := by decide +kernel
theorem dX9_init_329 : decode cX9_init 329 = .ok (.putfield 137, 3) := by decide +kernel
theorem dX9_init_332 : decode cX9_init 332 = .ok (.aload_n 0, 1) := by decide +kernel
theorem dX9_init_333 : decode cX9_init 333 = .ok (.bipush 24, 2) := by decide +kernel
theorem dX9_init_335 : decode cX9_init 335 = .ok (.newarray .int, 2) := by decide +kernel
theorem dX9_init_337 : decode cX9_init 337 = .ok (.putfield 140, 3) := by decide +kernel
theorem dX9_init_340 : decode cX9_init 340 = .ok (.aload_n 0, 1) := by decide +kernel
theorem dX9_init_341 : decode cX9_init 341 = .ok (.bipush 24, 2) := by decide +kernel
theorem dX9_init_343 : decode cX9_init 343 = .ok (.newarray .int, 2) := by decide +kernel
theorem dX9_init_345 : decode cX9_init 345 = .ok (.putfield 143, 3) := by decide +kernel
theorem dX9_init_348 : decode cX9_init 348 = .ok (.aload_n 0, 1) := by decide +kernel
theorem dX9_init_349 : decode cX9_init 349 = .ok (.bipush 24, 2) := by decide +kernel
theorem dX9_init_351 : decode cX9_init 351 = .ok (.newarray .int, 2) := by decide +kernel
theorem dX9_init_353 : decode cX9_init 353 = .ok (.putfield 146, 3) := by decide +kernel
theorem dX9_init_356 : decode cX9_init 356 = .ok (.aload_n 0, 1) := by decide +kernel
theorem dX9_init_357 : decode cX9_init 357 = .ok (.bipush 24, 2) := by decide +kernel
theorem dX9_init_359 : decode cX9_init 359 = .ok (.newarray .boolean, 2) := by decide +kernel
theorem dX9_init_361 : decode cX9_init 361 = .ok (.putfield 149, 3) := by decide +kernel
theorem dX9_init_364 : decode cX9_init 364 = .ok (.aload_n 0, 1) := by decide +kernel
theorem dX9_init_365 : decode cX9_init 365 = .ok (.bipush 24, 2) := by decide +kernel
theorem dX9_init_367 : decode cX9_init 367 = .ok (.newarray .boolean, 2) := by decide +kernel
theorem dX9_init_369 : decode cX9_init 369 = .ok (.putfield 152, 3) := by decide +kernel
theorem dX9_init_372 : decode cX9_init 372 = .ok (.aload_n 0, 1) := by decide +kernel
theorem dX9_init_373 : decode cX9_init 373 = .ok (.bipush 8, 2) := by decide +kernel
theorem dX9_init_375 : decode cX9_init 375 = .ok (.newarray .int, 2) := by decide +kernel
theorem dX9_init_377 : decode cX9_init 377 = .ok (.putfield 155, 3) := by decide +kernel
theorem dX9_init_380 : decode cX9_init 380 = .ok (.aload_n 0, 1) := by decide +kernel
theorem dX9_init_381 : decode cX9_init 381 = .ok (.bipush 8, 2) := by decide +kernel
theorem dX9_init_383 : decode cX9_init 383 = .ok (.newarray .int, 2) := by decide +kernel
theorem dX9_init_385 : decode cX9_init 385 = .ok (.putfield 158, 3) := by decide +kernel
theorem dX9_init_388 : decode cX9_init 388 = .ok (.iconst 0, 1) := by decide +kernel
theorem dX9_init_389 : decode cX9_init 389 = .ok (.istore_n 1, 1) := by decide +kernel
theorem dX9_init_390 : decode cX9_init 390 = .ok (.iload_n 1, 1) := by decide +kernel
theorem dX9_init_391 : decode cX9_init 391 = .ok (.sipush 480, 3) := by decide +kernel
theorem dX9_init_394 : decode cX9_init 394 = .ok (.if_icmp .ge 16, 3) := by decide +kernel
theorem dX9_init_397 : decode cX9_init 397 = .ok (.aload_n 0, 1) := by decide +kernel
theorem dX9_init_398 : decode cX9_init 398 = .ok (.getfield 85, 3) := by decide +kernel
theorem dX9_init_401 : decode cX9_init 401 = .ok (.iload_n 1, 1) := by decide +kernel
theorem dX9_init_402 : decode cX9_init 402 = .ok (.iconst (-1), 1) := by decide +kernel
theorem dX9_init_403 : decode cX9_init 403 = .ok (.iastore, 1) := by decide +kernel
theorem dX9_init_404 : decode cX9_init 404 = .ok (.iinc 1 1, 3) := by decide +kernel
theorem dX9_init_407 : decode cX9_init 407 = .ok (.goto (-17), 3) := by decide +kernel
theorem dX9_init_410 : decode cX9_init 410 = .ok (.return_, 1) := by decide +kernel
theorem dX9_isLetter_0 : decode cX9_isLetter 0 = .ok (.iload_n 0, 1) := by decide +kernel
theorem dX9_isLetter_1 : decode cX9_isLetter 1 = .ok (.bipush 97, 2) := by decide +kernel
theorem dX9_isLetter_3 : decode cX9_isLetter 3 = .ok (.if_icmp .lt 13, 3) := by decide +kernel
theorem dX9_isLetter_6 : decode cX9_isLetter 6 = .ok (.iload_n 0, 1) := by decide +kernel
theorem dX9_isLetter_7 : decode cX9_isLetter 7 = .ok (.bipush 122, 2) := by decide +kernel
theorem dX9_isLetter_9 : decode cX9_isLetter 9 = .ok (.if_icmp .gt 7, 3) := by decide +kernel
theorem dX9_isLetter_12 : decode cX9_isLetter 12 = .ok (.iconst 1, 1) := by decide +kernel
theorem dX9_isLetter_13 : decode cX9_isLetter 13 = .ok (.goto 4, 3) := by decide +kernel
theorem dX9_isLetter_16 : decode cX9_isLetter 16 = .ok (.iconst 0, 1) := by decide +kernel
theorem dX9_isLetter_17 : decode cX9_isLetter 17 = .ok (.ireturn, 1) := by decide +kernel
theorem dX9_isDigit_0 : decode cX9_isDigit 0 = .ok (.iload_n 0, 1) := by decide +kernel
theorem dX9_isDigit_1 : decode cX9_isDigit 1 = .ok (.bipush 48, 2) := by decide +kernel
theorem dX9_isDigit_3 : decode cX9_isDigit 3 = .ok (.if_icmp .lt 13, 3) := by decide +kernel
theorem dX9_isDigit_6 : decode cX9_isDigit 6 = .ok (.iload_n 0, 1) := by decide +kernel
theorem dX9_isDigit_7 : decode cX9_isDigit 7 = .ok (.bipush 57, 2) := by decide +kernel
theorem dX9_isDigit_9 : decode cX9_isDigit 9 = .ok (.if_icmp .gt 7, 3) := by decide +kernel
theorem dX9_isDigit_12 : decode cX9_isDigit 12 = .ok (.iconst 1, 1) := by decide +kernel
theorem dX9_isDigit_13 : decode cX9_isDigit 13 = .ok (.goto 4, 3) := by decide +kernel
theorem dX9_isDigit_16 : decode cX9_isDigit 16 = .ok (.iconst 0, 1) := by decide +kernel
theorem dX9_isDigit_17 : decode cX9_isDigit 17 = .ok (.ireturn, 1) := by decide +kernel
set_option maxRecDepth 20000 in
theorem ggX9_rank_X9_isLetter : GoodIn wsX9_rank wsX9_isLetter := goodIn_r _ [4] (by decide +kernel) (by decide +kernel)
set_option maxRecDepth 20000 in
theorem gX9_rank_X9_isLetter : GoodIn wsX9_rank (va_wsS RX9 161 yX9_isLetter wsX9_isLetter) := goodIn_app (goodIn_of _ (by decide +kernel)) ggX9_rank_X9_isLetter
theorem dX9_rank_0 : decode cX9_rank 0 = .ok (.iload_n 0, 1) := by decide +kernel
theorem dX9_rank_1 : decode cX9_rank 1 = .ok (.invokestatic 161, 3) := by decide +kernel
theorem dX9_rank_4 : decode cX9_rank 4 = .ok (.ifCond .eq 10, 3) := by decide +kernel
theorem dX9_rank_7 : decode cX9_rank 7 = .ok (.iload_n 0, 1) := by decide +kernel
theorem dX9_rank_8 : decode cX9_rank 8 = .ok (.bipush 96, 2) := by decide +kernel
theorem dX9_rank_10 : decode cX9_rank 10 = .ok (.isub, 1) := by decide +kernel
theorem dX9_rank_11 : decode cX9_rank 11 = .ok (.goto 7, 3) := by decide +kernel
theorem dX9_rank_14 : decode cX9_rank 14 = .ok (.iload_n 0, 1) := by decide +kernel
theorem dX9_rank_15 : decode cX9_rank 15 = .ok (.bipush 21, 2) := by decide +kernel
theorem dX9_rank_17 : decode cX9_rank 17 = .ok (.isub, 1) := by decide +kernel
theorem dX9_rank_18 : decode cX9_rank 18 = .ok (.ireturn, 1) := by decide +kernel
theorem dX9_isSignOf_0 : decode cX9_isSignOf 0 = .ok (.iload_n 0, 1) := by decide +kernel
theorem dX9_isSignOf_1 : decode cX9_isSignOf 1 = .ok (.bipush 40, 2) := by decide +kernel
theorem dX9_isSignOf_3 : decode cX9_isSignOf 3 = .ok (.if_icmp .eq 39, 3) := by decide +kernel
theorem dX9_isSignOf_6 : decode cX9_isSignOf 6 = .ok (.iload_n 0, 1) := by decide +kernel
theorem dX9_isSignOf_7 : decode cX9_isSignOf 7 = .ok (.bipush 41, 2) := by decide +kernel
theorem dX9_isSignOf_9 : decode cX9_isSignOf 9 = .ok (.if_icmp .eq 33, 3) := by decide +kernel
theorem dX9_isSignOf_12 : decode cX9_isSignOf 12 = .ok (.iload_n 0, 1) := by decide +kernel
theorem dX9_isSignOf_13 : decode cX9_isSignOf 13 = .ok (.bipush 59, 2) := by decide +kernel
theorem dX9_isSignOf_15 : decode cX9_isSignOf 15 = .ok (.if_icmp .eq 27, 3) := by decide +kernel
theorem dX9_isSignOf_18 : decode cX9_isSignOf 18 = .ok (.iload_n 0, 1) := by decide +kernel
theorem dX9_isSignOf_19 : decode cX9_isSignOf 19 = .ok (.bipush 61, 2) := by decide +kernel
theorem dX9_isSignOf_21 : decode cX9_isSignOf 21 = .ok (.if_icmp .eq 21, 3) := by decide +kernel
theorem dX9_isSignOf_24 : decode cX9_isSignOf 24 = .ok (.iload_n 0, 1) := by decide +kernel
theorem dX9_isSignOf_25 : decode cX9_isSignOf 25 = .ok (.bipush 60, 2) := by decide +kernel
theorem dX9_isSignOf_27 : decode cX9_isSignOf 27 = .ok (.if_icmp .eq 15, 3) := by decide +kernel
theorem dX9_isSignOf_30 : decode cX9_isSignOf 30 = .ok (.iload_n 0, 1) := by decide +kernel
theorem dX9_isSignOf_31 : decode cX9_isSignOf 31 = .ok (.bipush 43, 2) := by decide +kernel
theorem dX9_isSignOf_33 : decode cX9_isSignOf 33 = .ok (.if_icmp .eq 9, 3) := by decide +kernel
theorem dX9_isSignOf_36 : decode cX9_isSignOf 36 = .ok (.iload_n 0, 1) := by decide +kernel
theorem dX9_isSignOf_37 : decode cX9_isSignOf 37 = .ok (.bipush 45, 2) := by decide +kernel
theorem dX9_isSignOf_39 : decode cX9_isSignOf 39 = .ok (.if_icmp .ne 7, 3) := by decide +kernel
theorem dX9_isSignOf_42 : decode cX9_isSignOf 42 = .ok (.iconst 1, 1) := by decide +kernel
theorem dX9_isSignOf_43 : decode cX9_isSignOf 43 = .ok (.goto 4, 3) := by decide +kernel
theorem dX9_isSignOf_46 : decode cX9_isSignOf 46 = .ok (.iconst 0, 1) := by decide +kernel
theorem dX9_isSignOf_47 : decode cX9_isSignOf 47 = .ok (.ireturn, 1) := by decide +kernel
set_option maxRecDepth 20000 in
theorem ggX9_cutAll_X9_isLetter : GoodIn wsX9_cutAll wsX9_isLetter := goodIn_r _ [15] (by decide +kernel) (by decide +kernel)
set_option maxRecDepth 20000 in
theorem gX9_cutAll_X9_isLetter : GoodIn wsX9_cutAll (va_wsS RX9 161 yX9_isLetter wsX9_isLetter) := goodIn_app (goodIn_of _ (by decide +kernel)) ggX9_cutAll_X9_isLetter
set_option maxRecDepth 20000 in
theorem ggX9_cutAll_X9_rank : GoodIn wsX9_cutAll wsX9_rank := goodIn_r _ [18, 12, 13, 14, 15] (by decide +kernel) (by decide +kernel)
set_option maxRecDepth 20000 in
theorem gX9_cutAll_X9_rank : GoodIn wsX9_cutAll (va_wsS RX9 170 yX9_rank wsX9_rank) := goodIn_app (goodIn_of _ (by decide +kernel)) ggX9_cutAll_X9_rank
set_option maxRecDepth 20000 in
theorem ggX9_cutAll_X9_isDigit : GoodIn wsX9_cutAll wsX9_isDigit := goodIn_r _ [21] (by decide +kernel) (by decide +kernel)
set_option maxRecDepth 20000 in
theorem gX9_cutAll_X9_isDigit : GoodIn wsX9_cutAll (va_wsS RX9 173 yX9_isDigit wsX9_isDigit) := goodIn_app (goodIn_of _ (by decide +kernel)) ggX9_cutAll_X9_isDigit
set_option maxRecDepth 20000 in
theorem ggX9_cutAll_X9_isSignOf : GoodIn wsX9_cutAll wsX9_isSignOf := goodIn_r _ [24] (by decide +kernel) (by decide +kernel)
set_option maxRecDepth 20000 in
theorem gX9_cutAll_X9_isSignOf : GoodIn wsX9_cutAll (va_wsS RX9 180 yX9_isSignOf wsX9_isSignOf) := goodIn_app (goodIn_of _ (by decide +kernel)) ggX9_cutAll_X9_isSignOf
theorem dX9_cutAll_0 : decode cX9_cutAll 0 = .ok (.aload_n 0, 1) := by decide +kernel
theorem dX9_cutAll_1 : decode cX9_cutAll 1 = .ok (.aload_n 0, 1) := by decide +kernel
theorem dX9_cutAll_2 : decode cX9_cutAll 2 = .ok (.getfield 11, 3) := by decide +kernel
theorem dX9_cutAll_5 : decode cX9_cutAll 5 = .ok (.putfield 165, 3) := by decide +kernel
theorem dX9_cutAll_8 : decode cX9_cutAll 8 = .ok (.aload_n 0, 1) := by decide +kernel
theorem dX9_cutAll_9 : decode cX9_cutAll 9 = .ok (.iconst 0, 1) := by decide +kernel
theorem dX9_cutAll_10 : decode cX9_cutAll 10 = .ok (.putfield 11, 3) := by decide +kernel
theorem dX9_cutAll_13 : decode cX9_cutAll 13 = .ok (.iconst 0, 1) := by decide +kernel
theorem dX9_cutAll_14 : decode cX9_cutAll 14 = .ok (.istore_n 1, 1) := by decide +kernel
theorem dX9_cutAll_15 : decode cX9_cutAll 15 = .ok (.iconst 0, 1) := by decide +kernel
theorem dX9_cutAll_16 : decode cX9_cutAll 16 = .ok (.istore_n 2, 1) := by decide +kernel
theorem dX9_cutAll_17 : decode cX9_cutAll 17 = .ok (.iload_n 2, 1) := by decide +kernel
theorem dX9_cutAll_18 : decode cX9_cutAll 18 = .ok (.aload_n 0, 1) := by decide +kernel
theorem dX9_cutAll_19 : decode cX9_cutAll 19 = .ok (.getfield 165, 3) := by decide +kernel
theorem dX9_cutAll_22 : decode cX9_cutAll 22 = .ok (.if_icmp .ge 257, 3) := by decide +kernel
theorem dX9_cutAll_25 : decode cX9_cutAll 25 = .ok (.aload_n 0, 1) := by decide +kernel
theorem dX9_cutAll_26 : decode cX9_cutAll 26 = .ok (.getfield 14, 3) := by decide +kernel
theorem dX9_cutAll_29 : decode cX9_cutAll 29 = .ok (.iload_n 2, 1) := by decide +kernel
theorem dX9_cutAll_30 : decode cX9_cutAll 30 = .ok (.iaload, 1) := by decide +kernel
theorem dX9_cutAll_31 : decode cX9_cutAll 31 = .ok (.istore_n 3, 1) := by decide +kernel
theorem dX9_cutAll_32 : decode cX9_cutAll 32 = .ok (.iload_n 3, 1) := by decide +kernel
theorem dX9_cutAll_33 : decode cX9_cutAll 33 = .ok (.bipush 10, 2) := by decide +kernel
theorem dX9_cutAll_35 : decode cX9_cutAll 35 = .ok (.if_icmp .eq 9, 3) := by decide +kernel
theorem dX9_cutAll_38 : decode cX9_cutAll 38 = .ok (.iload_n 3, 1) := by decide +kernel
theorem dX9_cutAll_39 : decode cX9_cutAll 39 = .ok (.bipush 32, 2) := by decide +kernel
theorem dX9_cutAll_41 : decode cX9_cutAll 41 = .ok (.if_icmp .ne 9, 3) := by decide +kernel
theorem dX9_cutAll_44 : decode cX9_cutAll 44 = .ok (.iinc 2 1, 3) := by decide +kernel
theorem dX9_cutAll_47 : decode cX9_cutAll 47 = .ok (.goto (-30), 3) := by decide +kernel
theorem dX9_cutAll_50 : decode cX9_cutAll 50 = .ok (.iload_n 2, 1) := by decide +kernel
theorem dX9_cutAll_51 : decode cX9_cutAll 51 = .ok (.istore 4, 2) := by decide +kernel
theorem dX9_cutAll_53 : decode cX9_cutAll 53 = .ok (.lconst 0, 1) := by decide +kernel
theorem dX9_cutAll_54 : decode cX9_cutAll 54 = .ok (.lstore 5, 2) := by decide +kernel
theorem dX9_cutAll_56 : decode cX9_cutAll 56 = .ok (.aload_n 0, 1) := by decide +kernel
theorem dX9_cutAll_57 : decode cX9_cutAll 57 = .ok (.getfield 27, 3) := by decide +kernel
theorem dX9_cutAll_60 : decode cX9_cutAll 60 = .ok (.iload_n 1, 1) := by decide +kernel
theorem dX9_cutAll_61 : decode cX9_cutAll 61 = .ok (.iload_n 2, 1) := by decide +kernel
theorem dX9_cutAll_62 : decode cX9_cutAll 62 = .ok (.iastore, 1) := by decide +kernel
theorem dX9_cutAll_63 : decode cX9_cutAll 63 = .ok (.iload_n 3, 1) := by decide +kernel
theorem dX9_cutAll_64 : decode cX9_cutAll 64 = .ok (.invokestatic 161, 3) := by decide +kernel
theorem dX9_cutAll_67 : decode cX9_cutAll 67 = .ok (.ifCond .eq 85, 3) := by decide +kernel
theorem dX9_cutAll_70 : decode cX9_cutAll 70 = .ok (.iload_n 2, 1) := by decide +kernel
theorem dX9_cutAll_71 : decode cX9_cutAll 71 = .ok (.aload_n 0, 1) := by decide +kernel
theorem dX9_cutAll_72 : decode cX9_cutAll 72 = .ok (.getfield 165, 3) := by decide +kernel
theorem dX9_cutAll_75 : decode cX9_cutAll 75 = .ok (.if_icmp .ge 54, 3) := by decide +kernel
theorem dX9_cutAll_78 : decode cX9_cutAll 78 = .ok (.aload_n 0, 1) := by decide +kernel
theorem dX9_cutAll_79 : decode cX9_cutAll 79 = .ok (.getfield 14, 3) := by decide +kernel
theorem dX9_cutAll_82 : decode cX9_cutAll 82 = .ok (.iload_n 2, 1) := by decide +kernel
theorem dX9_cutAll_83 : decode cX9_cutAll 83 = .ok (.iaload, 1) := by decide +kernel
theorem dX9_cutAll_84 : decode cX9_cutAll 84 = .ok (.invokestatic 161, 3) := by decide +kernel
theorem dX9_cutAll_87 : decode cX9_cutAll 87 = .ok (.ifCond .eq 42, 3) := by decide +kernel
theorem dX9_cutAll_90 : decode cX9_cutAll 90 = .ok (.iload_n 2, 1) := by decide +kernel
theorem dX9_cutAll_91 : decode cX9_cutAll 91 = .ok (.iload 4, 2) := by decide +kernel
theorem dX9_cutAll_93 : decode cX9_cutAll 93 = .ok (.isub, 1) := by decide +kernel
theorem dX9_cutAll_94 : decode cX9_cutAll 94 = .ok (.bipush 8, 2) := by decide +kernel
theorem dX9_cutAll_96 : decode cX9_cutAll 96 = .ok (.if_icmp .ge 23, 3) := by decide +kernel
theorem dX9_cutAll_99 : decode cX9_cutAll 99 = .ok (.ldc2_w 168, 3) := by decide +kernel
theorem dX9_cutAll_102 : decode cX9_cutAll 102 = .ok (.lload 5, 2) := by decide +kernel
theorem dX9_cutAll_104 : decode cX9_cutAll 104 = .ok (.lmul, 1) := by decide +kernel
theorem dX9_cutAll_105 : decode cX9_cutAll 105 = .ok (.aload_n 0, 1) := by decide +kernel
theorem dX9_cutAll_106 : decode cX9_cutAll 106 = .ok (.getfield 14, 3) := by decide +kernel
theorem dX9_cutAll_109 : decode cX9_cutAll 109 = .ok (.iload_n 2, 1) := by decide +kernel
theorem dX9_cutAll_110 : decode cX9_cutAll 110 = .ok (.iaload, 1) := by decide +kernel
theorem dX9_cutAll_111 : decode cX9_cutAll 111 = .ok (.invokestatic 170, 3) := by decide +kernel
theorem dX9_cutAll_114 : decode cX9_cutAll 114 = .ok (.i2l, 1) := by decide +kernel
theorem dX9_cutAll_115 : decode cX9_cutAll 115 = .ok (.ladd, 1) := by decide +kernel
theorem dX9_cutAll_116 : decode cX9_cutAll 116 = .ok (.goto 5, 3) := by decide +kernel
theorem dX9_cutAll_119 : decode cX9_cutAll 119 = .ok (.lload 5, 2) := by decide +kernel
theorem dX9_cutAll_121 : decode cX9_cutAll 121 = .ok (.lstore 5, 2) := by decide +kernel
theorem dX9_cutAll_123 : decode cX9_cutAll 123 = .ok (.iinc 2 1, 3) := by decide +kernel
theorem dX9_cutAll_126 : decode cX9_cutAll 126 = .ok (.goto (-56), 3) := by decide +kernel
theorem dX9_cutAll_129 : decode cX9_cutAll 129 = .ok (.aload_n 0, 1) := by decide +kernel
theorem dX9_cutAll_130 : decode cX9_cutAll 130 = .ok (.getfield 24, 3) := by decide +kernel
theorem dX9_cutAll_133 : decode cX9_cutAll 133 = .ok (.iload_n 1, 1) := by decide +kernel
theorem dX9_cutAll_134 : decode cX9_cutAll 134 = .ok (.iload_n 2, 1) := by decide +kernel
theorem dX9_cutAll_135 : decode cX9_cutAll 135 = .ok (.iload 4, 2) := by decide +kernel
theorem dX9_cutAll_137 : decode cX9_cutAll 137 = .ok (.isub, 1) := by decide +kernel
theorem dX9_cutAll_138 : decode cX9_cutAll 138 = .ok (.bipush 8, 2) := by decide +kernel
theorem dX9_cutAll_140 : decode cX9_cutAll 140 = .ok (.if_icmp .le 7, 3) := by decide +kernel
theorem dX9_cutAll_143 : decode cX9_cutAll 143 = .ok (.iconst 4, 1) := by decide +kernel
theorem dX9_cutAll_144 : decode cX9_cutAll 144 = .ok (.goto 4, 3) := by decide +kernel
theorem dX9_cutAll_147 : decode cX9_cutAll 147 = .ok (.iconst 1, 1) := by decide +kernel
theorem dX9_cutAll_148 : decode cX9_cutAll 148 = .ok (.iastore, 1) := by decide +kernel
theorem dX9_cutAll_149 : decode cX9_cutAll 149 = .ok (.goto 116, 3) := by decide +kernel
theorem dX9_cutAll_152 : decode cX9_cutAll 152 = .ok (.iload_n 3, 1) := by decide +kernel
theorem dX9_cutAll_153 : decode cX9_cutAll 153 = .ok (.invokestatic 173, 3) := by decide +kernel
theorem dX9_cutAll_156 : decode cX9_cutAll 156 = .ok (.ifCond .eq 84, 3) := by decide +kernel
theorem dX9_cutAll_159 : decode cX9_cutAll 159 = .ok (.iload_n 2, 1) := by decide +kernel
theorem dX9_cutAll_160 : decode cX9_cutAll 160 = .ok (.aload_n 0, 1) := by decide +kernel
theorem dX9_cutAll_161 : decode cX9_cutAll 161 = .ok (.getfield 165, 3) := by decide +kernel
theorem dX9_cutAll_164 : decode cX9_cutAll 164 = .ok (.if_icmp .ge 54, 3) := by decide +kernel
theorem dX9_cutAll_167 : decode cX9_cutAll 167 = .ok (.aload_n 0, 1) := by decide +kernel
theorem dX9_cutAll_168 : decode cX9_cutAll 168 = .ok (.getfield 14, 3) := by decide +kernel
theorem dX9_cutAll_171 : decode cX9_cutAll 171 = .ok (.iload_n 2, 1) := by decide +kernel
theorem dX9_cutAll_172 : decode cX9_cutAll 172 = .ok (.iaload, 1) := by decide +kernel
theorem dX9_cutAll_173 : decode cX9_cutAll 173 = .ok (.invokestatic 173, 3) := by decide +kernel
theorem dX9_cutAll_176 : decode cX9_cutAll 176 = .ok (.ifCond .eq 42, 3) := by decide +kernel
theorem dX9_cutAll_179 : decode cX9_cutAll 179 = .ok (.iload_n 2, 1) := by decide +kernel
theorem dX9_cutAll_180 : decode cX9_cutAll 180 = .ok (.iload 4, 2) := by decide +kernel
theorem dX9_cutAll_182 : decode cX9_cutAll 182 = .ok (.isub, 1) := by decide +kernel
theorem dX9_cutAll_183 : decode cX9_cutAll 183 = .ok (.iconst 4, 1) := by decide +kernel
theorem dX9_cutAll_184 : decode cX9_cutAll 184 = .ok (.if_icmp .ge 24, 3) := by decide +kernel
theorem dX9_cutAll_187 : decode cX9_cutAll 187 = .ok (.ldc2_w 176, 3) := by decide +kernel
theorem dX9_cutAll_190 : decode cX9_cutAll 190 = .ok (.lload 5, 2) := by decide +kernel
theorem dX9_cutAll_192 : decode cX9_cutAll 192 = .ok (.lmul, 1) := by decide +kernel
theorem dX9_cutAll_193 : decode cX9_cutAll 193 = .ok (.aload_n 0, 1) := by decide +kernel
theorem dX9_cutAll_194 : decode cX9_cutAll 194 = .ok (.getfield 14, 3) := by decide +kernel
theorem dX9_cutAll_197 : decode cX9_cutAll 197 = .ok (.iload_n 2, 1) := by decide +kernel
theorem dX9_cutAll_198 : decode cX9_cutAll 198 = .ok (.iaload, 1) := by decide +kernel
theorem dX9_cutAll_199 : decode cX9_cutAll 199 = .ok (.i2l, 1) := by decide +kernel
theorem dX9_cutAll_200 : decode cX9_cutAll 200 = .ok (.ladd, 1) := by decide +kernel
theorem dX9_cutAll_201 : decode cX9_cutAll 201 = .ok (.ldc2_w 178, 3) := by decide +kernel
theorem dX9_cutAll_204 : decode cX9_cutAll 204 = .ok (.lsub, 1) := by decide +kernel
theorem dX9_cutAll_205 : decode cX9_cutAll 205 = .ok (.goto 5, 3) := by decide +kernel
theorem dX9_cutAll_208 : decode cX9_cutAll 208 = .ok (.lload 5, 2) := by decide +kernel
theorem dX9_cutAll_210 : decode cX9_cutAll 210 = .ok (.lstore 5, 2) := by decide +kernel
theorem dX9_cutAll_212 : decode cX9_cutAll 212 = .ok (.iinc 2 1, 3) := by decide +kernel
theorem dX9_cutAll_215 : decode cX9_cutAll 215 = .ok (.goto (-56), 3) := by decide +kernel
theorem dX9_cutAll_218 : decode cX9_cutAll 218 = .ok (.aload_n 0, 1) := by decide +kernel
theorem dX9_cutAll_219 : decode cX9_cutAll 219 = .ok (.getfield 24, 3) := by decide +kernel
theorem dX9_cutAll_222 : decode cX9_cutAll 222 = .ok (.iload_n 1, 1) := by decide +kernel
theorem dX9_cutAll_223 : decode cX9_cutAll 223 = .ok (.iload_n 2, 1) := by decide +kernel
theorem dX9_cutAll_224 : decode cX9_cutAll 224 = .ok (.iload 4, 2) := by decide +kernel
theorem dX9_cutAll_226 : decode cX9_cutAll 226 = .ok (.isub, 1) := by decide +kernel
theorem dX9_cutAll_227 : decode cX9_cutAll 227 = .ok (.iconst 4, 1) := by decide +kernel
theorem dX9_cutAll_228 : decode cX9_cutAll 228 = .ok (.if_icmp .le 7, 3) := by decide +kernel
theorem dX9_cutAll_231 : decode cX9_cutAll 231 = .ok (.iconst 4, 1) := by decide +kernel
theorem dX9_cutAll_232 : decode cX9_cutAll 232 = .ok (.goto 4, 3) := by decide +kernel
theorem dX9_cutAll_235 : decode cX9_cutAll 235 = .ok (.iconst 2, 1) := by decide +kernel
theorem dX9_cutAll_236 : decode cX9_cutAll 236 = .ok (.iastore, 1) := by decide +kernel
theorem dX9_cutAll_237 : decode cX9_cutAll 237 = .ok (.goto 28, 3) := by decide +kernel
theorem dX9_cutAll_240 : decode cX9_cutAll 240 = .ok (.iload_n 3, 1) := by decide +kernel
theorem dX9_cutAll_241 : decode cX9_cutAll 241 = .ok (.i2l, 1) := by decide +kernel
theorem dX9_cutAll_242 : decode cX9_cutAll 242 = .ok (.lstore 5, 2) := by decide +kernel
theorem dX9_cutAll_244 : decode cX9_cutAll 244 = .ok (.aload_n 0, 1) := by decide +kernel
theorem dX9_cutAll_245 : decode cX9_cutAll 245 = .ok (.getfield 24, 3) := by decide +kernel
theorem dX9_cutAll_248 : decode cX9_cutAll 248 = .ok (.iload_n 1, 1) := by decide +kernel
theorem dX9_cutAll_249 : decode cX9_cutAll 249 = .ok (.iload_n 3, 1) := by decide +kernel
theorem dX9_cutAll_250 : decode cX9_cutAll 250 = .ok (.invokestatic 180, 3) := by decide +kernel
theorem dX9_cutAll_253 : decode cX9_cutAll 253 = .ok (.ifCond .eq 7, 3) := by decide +kernel
theorem dX9_cutAll_256 : decode cX9_cutAll 256 = .ok (.iconst 3, 1) := by decide +kernel
theorem dX9_cutAll_257 : decode cX9_cutAll 257 = .ok (.goto 4, 3) := by decide +kernel
theorem dX9_cutAll_260 : decode cX9_cutAll 260 = .ok (.iconst 4, 1) := by decide +kernel
theorem dX9_cutAll_261 : decode cX9_cutAll 261 = .ok (.iastore, 1) := by decide +kernel
theorem dX9_cutAll_262 : decode cX9_cutAll 262 = .ok (.iinc 2 1, 3) := by decide +kernel
theorem dX9_cutAll_265 : decode cX9_cutAll 265 = .ok (.aload_n 0, 1) := by decide +kernel
theorem dX9_cutAll_266 : decode cX9_cutAll 266 = .ok (.getfield 30, 3) := by decide +kernel
theorem dX9_cutAll_269 : decode cX9_cutAll 269 = .ok (.iload_n 1, 1) := by decide +kernel
theorem dX9_cutAll_270 : decode cX9_cutAll 270 = .ok (.lload 5, 2) := by decide +kernel
theorem dX9_cutAll_272 : decode cX9_cutAll 272 = .ok (.lastore, 1) := by decide +kernel
theorem dX9_cutAll_273 : decode cX9_cutAll 273 = .ok (.iinc 1 1, 3) := by decide +kernel
theorem dX9_cutAll_276 : decode cX9_cutAll 276 = .ok (.goto (-259), 3) := by decide +kernel
theorem dX9_cutAll_279 : decode cX9_cutAll 279 = .ok (.aload_n 0, 1) := by decide +kernel
theorem dX9_cutAll_280 : decode cX9_cutAll 280 = .ok (.getfield 24, 3) := by decide +kernel
theorem dX9_cutAll_283 : decode cX9_cutAll 283 = .ok (.iload_n 1, 1) := by decide +kernel
theorem dX9_cutAll_284 : decode cX9_cutAll 284 = .ok (.iconst 0, 1) := by decide +kernel
theorem dX9_cutAll_285 : decode cX9_cutAll 285 = .ok (.iastore, 1) := by decide +kernel
theorem dX9_cutAll_286 : decode cX9_cutAll 286 = .ok (.aload_n 0, 1) := by decide +kernel
theorem dX9_cutAll_287 : decode cX9_cutAll 287 = .ok (.getfield 27, 3) := by decide +kernel
theorem dX9_cutAll_290 : decode cX9_cutAll 290 = .ok (.iload_n 1, 1) := by decide +kernel
theorem dX9_cutAll_291 : decode cX9_cutAll 291 = .ok (.aload_n 0, 1) := by decide +kernel
theorem dX9_cutAll_292 : decode cX9_cutAll 292 = .ok (.getfield 165, 3) := by decide +kernel
theorem dX9_cutAll_295 : decode cX9_cutAll 295 = .ok (.iastore, 1) := by decide +kernel
theorem dX9_cutAll_296 : decode cX9_cutAll 296 = .ok (.aload_n 0, 1) := by decide +kernel
theorem dX9_cutAll_297 : decode cX9_cutAll 297 = .ok (.iconst 0, 1) := by decide +kernel
theorem dX9_cutAll_298 : decode cX9_cutAll 298 = .ok (.putfield 183, 3) := by decide +kernel
theorem dX9_cutAll_301 : decode cX9_cutAll 301 = .ok (.aload_n 0, 1) := by decide +kernel
theorem dX9_cutAll_302 : decode cX9_cutAll 302 = .ok (.iconst 0, 1) := by decide +kernel
theorem dX9_cutAll_303 : decode cX9_cutAll 303 = .ok (.putfield 186, 3) := by decide +kernel
theorem dX9_cutAll_306 : decode cX9_cutAll 306 = .ok (.return_, 1) := by decide +kernel
theorem dX9_wrong_0 : decode cX9_wrong 0 = .ok (.aload_n 0, 1) := by decide +kernel
theorem dX9_wrong_1 : decode cX9_wrong 1 = .ok (.getfield 186, 3) := by decide +kernel
theorem dX9_wrong_4 : decode cX9_wrong 4 = .ok (.ifCond .ne 21, 3) := by decide +kernel
theorem dX9_wrong_7 : decode cX9_wrong 7 = .ok (.aload_n 0, 1) := by decide +kernel
theorem dX9_wrong_8 : decode cX9_wrong 8 = .ok (.iload_n 1, 1) := by decide +kernel
theorem dX9_wrong_9 : decode cX9_wrong 9 = .ok (.bipush 16, 2) := by decide +kernel
theorem dX9_wrong_11 : decode cX9_wrong 11 = .ok (.aload_n 0, 1) := by decide +kernel
theorem dX9_wrong_12 : decode cX9_wrong 12 = .ok (.getfield 27, 3) := by decide +kernel
theorem dX9_wrong_15 : decode cX9_wrong 15 = .ok (.aload_n 0, 1) := by decide +kernel
theorem dX9_wrong_16 : decode cX9_wrong 16 = .ok (.getfield 183, 3) := by decide +kernel
theorem dX9_wrong_19 : decode cX9_wrong 19 = .ok (.iaload, 1) := by decide +kernel
theorem dX9_wrong_20 : decode cX9_wrong 20 = .ok (.imul, 1) := by decide +kernel
theorem dX9_wrong_21 : decode cX9_wrong 21 = .ok (.iadd, 1) := by decide +kernel
theorem dX9_wrong_22 : decode cX9_wrong 22 = .ok (.putfield 186, 3) := by decide +kernel
theorem dX9_wrong_25 : decode cX9_wrong 25 = .ok (.return_, 1) := by decide +kernel
theorem dX9_isSign_0 : decode cX9_isSign 0 = .ok (.aload_n 0, 1) := by decide +kernel
theorem dX9_isSign_1 : decode cX9_isSign 1 = .ok (.getfield 186, 3) := by decide +kernel
theorem dX9_isSign_4 : decode cX9_isSign 4 = .ok (.ifCond .ne 35, 3) := by decide +kernel
theorem dX9_isSign_7 : decode cX9_isSign 7 = .ok (.aload_n 0, 1) := by decide +kernel
theorem dX9_isSign_8 : decode cX9_isSign 8 = .ok (.getfield 24, 3) := by decide +kernel
theorem dX9_isSign_11 : decode cX9_isSign 11 = .ok (.aload_n 0, 1) := by decide +kernel
theorem dX9_isSign_12 : decode cX9_isSign 12 = .ok (.getfield 183, 3) := by decide +kernel
theorem dX9_isSign_15 : decode cX9_isSign 15 = .ok (.iaload, 1) := by decide +kernel
theorem dX9_isSign_16 : decode cX9_isSign 16 = .ok (.iconst 3, 1) := by decide +kernel
theorem dX9_isSign_17 : decode cX9_isSign 17 = .ok (.if_icmp .ne 22, 3) := by decide +kernel
theorem dX9_isSign_20 : decode cX9_isSign 20 = .ok (.aload_n 0, 1) := by decide +kernel
theorem dX9_isSign_21 : decode cX9_isSign 21 = .ok (.getfield 30, 3) := by decide +kernel
theorem dX9_isSign_24 : decode cX9_isSign 24 = .ok (.aload_n 0, 1) := by decide +kernel
theorem dX9_isSign_25 : decode cX9_isSign 25 = .ok (.getfield 183, 3) := by decide +kernel
theorem dX9_isSign_28 : decode cX9_isSign 28 = .ok (.laload, 1) := by decide +kernel
theorem dX9_isSign_29 : decode cX9_isSign 29 = .ok (.iload_n 1, 1) := by decide +kernel
theorem dX9_isSign_30 : decode cX9_isSign 30 = .ok (.i2l, 1) := by decide +kernel
theorem dX9_isSign_31 : decode cX9_isSign 31 = .ok (.lcmp, 1) := by decide +kernel
theorem dX9_isSign_32 : decode cX9_isSign 32 = .ok (.ifCond .ne 7, 3) := by decide +kernel
theorem dX9_isSign_35 : decode cX9_isSign 35 = .ok (.iconst 1, 1) := by decide +kernel
theorem dX9_isSign_36 : decode cX9_isSign 36 = .ok (.goto 4, 3) := by decide +kernel
theorem dX9_isSign_39 : decode cX9_isSign 39 = .ok (.iconst 0, 1) := by decide +kernel
theorem dX9_isSign_40 : decode cX9_isSign 40 = .ok (.ireturn, 1) := by decide +kernel
theorem dX9_isWord_0 : decode cX9_isWord 0 = .ok (.aload_n 0, 1) := by decide +kernel
theorem dX9_isWord_1 : decode cX9_isWord 1 = .ok (.getfield 186, 3) := by decide +kernel
theorem dX9_isWord_4 : decode cX9_isWord 4 = .ok (.ifCond .ne 39, 3) := by decide +kernel
theorem dX9_isWord_7 : decode cX9_isWord 7 = .ok (.aload_n 0, 1) := by decide +kernel
theorem dX9_isWord_8 : decode cX9_isWord 8 = .ok (.getfield 24, 3) := by decide +kernel
theorem dX9_isWord_11 : decode cX9_isWord 11 = .ok (.aload_n 0, 1) := by decide +kernel
theorem dX9_isWord_12 : decode cX9_isWord 12 = .ok (.getfield 183, 3) := by decide +kernel
theorem dX9_isWord_15 : decode cX9_isWord 15 = .ok (.iaload, 1) := by decide +kernel
theorem dX9_isWord_16 : decode cX9_isWord 16 = .ok (.iconst 1, 1) := by decide +kernel
theorem dX9_isWord_17 : decode cX9_isWord 17 = .ok (.if_icmp .ne 26, 3) := by decide +kernel
theorem dX9_isWord_20 : decode cX9_isWord 20 = .ok (.aload_n 0, 1) := by decide +kernel
theorem dX9_isWord_21 : decode cX9_isWord 21 = .ok (.getfield 30, 3) := by decide +kernel
theorem dX9_isWord_24 : decode cX9_isWord 24 = .ok (.aload_n 0, 1) := by decide +kernel
theorem dX9_isWord_25 : decode cX9_isWord 25 = .ok (.getfield 183, 3) := by decide +kernel
theorem dX9_isWord_28 : decode cX9_isWord 28 = .ok (.laload, 1) := by decide +kernel
theorem dX9_isWord_29 : decode cX9_isWord 29 = .ok (.aload_n 0, 1) := by decide +kernel
theorem dX9_isWord_30 : decode cX9_isWord 30 = .ok (.getfield 52, 3) := by decide +kernel
theorem dX9_isWord_33 : decode cX9_isWord 33 = .ok (.iload_n 1, 1) := by decide +kernel
theorem dX9_isWord_34 : decode cX9_isWord 34 = .ok (.laload, 1) := by decide +kernel
theorem dX9_isWord_35 : decode cX9_isWord 35 = .ok (.lcmp, 1) := by decide +kernel
theorem dX9_isWord_36 : decode cX9_isWord 36 = .ok (.ifCond .ne 7, 3) := by decide +kernel
theorem dX9_isWord_39 : decode cX9_isWord 39 = .ok (.iconst 1, 1) := by decide +kernel
theorem dX9_isWord_40 : decode cX9_isWord 40 = .ok (.goto 4, 3) := by decide +kernel
theorem dX9_isWord_43 : decode cX9_isWord 43 = .ok (.iconst 0, 1) := by decide +kernel
theorem dX9_isWord_44 : decode cX9_isWord 44 = .ok (.ireturn, 1) := by decide +kernel
set_option maxRecDepth 20000 in
theorem ggX9_takeSign_X9_isSign : GoodIn wsX9_takeSign wsX9_isSign := goodIn_r _ [6, 7, 8, 1, 9, 15, 16, 17, 18, 19, 20, 21, 22, 23, 24, 25, 26, 27, 28, 29, 30, 31, 32, 33, 34, 35, 36, 37, 38, 39, 40, 41, 42, 43, 44, 45, 46, 47, 48, 49, 50, 51, 52, 53, 54, 55, 56, 57, 58, 59, 60, 61, 62, 63, 64, 65, 66, 67, 68, 69, 70, 71, 72, 73, 74, 75, 76] (by decide +kernel) (by decide +kernel)
set_option maxRecDepth 20000 in
theorem gX9_takeSign_X9_isSign : GoodIn wsX9_takeSign (wsV RX9 189 RX9 yX9_isSign wsX9_isSign) := goodIn_app (goodIn_of _ (by decide +kernel)) ggX9_takeSign_X9_isSign
set_option maxRecDepth 20000 in
theorem ggX9_takeSign_X9_wrong : GoodIn wsX9_takeSign wsX9_wrong := goodIn_r _ [13, 7, 14, 1, 15, 16, 17, 18, 19, 20, 21, 22, 23, 24, 25, 26, 27, 28, 29, 30, 31, 32, 33, 34, 35, 36, 37, 38, 39, 40, 41, 42, 43, 44, 45, 46, 47, 48, 49, 50, 51, 52, 53, 54, 55, 56, 57, 58, 59, 60, 61, 62, 63, 64, 65, 66, 67, 68, 69, 70, 71, 72, 73, 74, 75, 76] (by decide +kernel) (by decide +kernel)
set_option maxRecDepth 20000 in
theorem gX9_takeSign_X9_wrong : GoodIn wsX9_takeSign (wsV RX9 192 RX9 yX9_wrong wsX9_wrong) := goodIn_app (goodIn_of _ (by decide +kernel)) ggX9_takeSign_X9_wrong
theorem dX9_takeSign_0 : decode cX9_takeSign 0 = .ok (.aload_n 0, 1) := by decide +kernel
theorem dX9_takeSign_1 : decode cX9_takeSign 1 = .ok (.iload_n 1, 1) := by decide +kernel
theorem dX9_takeSign_2 : decode cX9_takeSign 2 = .ok (.invokevirtual 189, 3) := by decide +kernel
theorem dX9_takeSign_5 : decode cX9_takeSign 5 = .ok (.ifCond .eq 16, 3) := by decide +kernel
theorem dX9_takeSign_8 : decode cX9_takeSign 8 = .ok (.aload_n 0, 1) := by decide +kernel
theorem dX9_takeSign_9 : decode cX9_takeSign 9 = .ok (.dup, 1) := by decide +kernel
theorem dX9_takeSign_10 : decode cX9_takeSign 10 = .ok (.getfield 183, 3) := by decide +kernel
theorem dX9_takeSign_13 : decode cX9_takeSign 13 = .ok (.iconst 1, 1) := by decide +kernel
theorem dX9_takeSign_14 : decode cX9_takeSign 14 = .ok (.iadd, 1) := by decide +kernel
theorem dX9_takeSign_15 : decode cX9_takeSign 15 = .ok (.putfield 183, 3) := by decide +kernel
theorem dX9_takeSign_18 : decode cX9_takeSign 18 = .ok (.goto 8, 3) := by decide +kernel
theorem dX9_takeSign_21 : decode cX9_takeSign 21 = .ok (.aload_n 0, 1) := by decide +kernel
theorem dX9_takeSign_22 : decode cX9_takeSign 22 = .ok (.iconst 1, 1) := by decide +kernel
theorem dX9_takeSign_23 : decode cX9_takeSign 23 = .ok (.invokevirtual 192, 3) := by decide +kernel
theorem dX9_takeSign_26 : decode cX9_takeSign 26 = .ok (.return_, 1) := by decide +kernel
set_option maxRecDepth 20000 in
theorem ggX9_hasSign_X9_isSign : GoodIn wsX9_hasSign wsX9_isSign := goodIn_r _ [6, 7, 8, 1, 9, 10, 11, 12, 13, 14, 15, 16, 17, 18, 19, 20, 21, 22, 23, 24, 25, 26, 27, 28, 29, 30, 31, 32, 33, 34, 35, 36, 37, 38, 39, 40, 41, 42, 43, 44, 45, 46, 47, 48, 49, 50, 51, 52, 53, 54, 55, 56, 57, 58, 59, 60, 61, 62, 63, 64, 65, 66, 67, 68, 69, 70, 71] (by decide +kernel) (by decide +kernel)
set_option maxRecDepth 20000 in
theorem gX9_hasSign_X9_isSign : GoodIn wsX9_hasSign (wsV RX9 189 RX9 yX9_isSign wsX9_isSign) := goodIn_app (goodIn_of _ (by decide +kernel)) ggX9_hasSign_X9_isSign
theorem dX9_hasSign_0 : decode cX9_hasSign 0 = .ok (.aload_n 0, 1) := by decide +kernel
theorem dX9_hasSign_1 : decode cX9_hasSign 1 = .ok (.iload_n 1, 1) := by decide +kernel
theorem dX9_hasSign_2 : decode cX9_hasSign 2 = .ok (.invokevirtual 189, 3) := by decide +kernel
theorem dX9_hasSign_5 : decode cX9_hasSign 5 = .ok (.istore_n 2, 1) := by decide +kernel
theorem dX9_hasSign_6 : decode cX9_hasSign 6 = .ok (.aload_n 0, 1) := by decide +kernel
theorem dX9_hasSign_7 : decode cX9_hasSign 7 = .ok (.dup, 1) := by decide +kernel
theorem dX9_hasSign_8 : decode cX9_hasSign 8 = .ok (.getfield 183, 3) := by decide +kernel
theorem dX9_hasSign_11 : decode cX9_hasSign 11 = .ok (.iload_n 2, 1) := by decide +kernel
theorem dX9_hasSign_12 : decode cX9_hasSign 12 = .ok (.ifCond .eq 7, 3) := by decide +kernel
theorem dX9_hasSign_15 : decode cX9_hasSign 15 = .ok (.iconst 1, 1) := by decide +kernel
theorem dX9_hasSign_16 : decode cX9_hasSign 16 = .ok (.goto 4, 3) := by decide +kernel
theorem dX9_hasSign_19 : decode cX9_hasSign 19 = .ok (.iconst 0, 1) := by decide +kernel
theorem dX9_hasSign_20 : decode cX9_hasSign 20 = .ok (.iadd, 1) := by decide +kernel
theorem dX9_hasSign_21 : decode cX9_hasSign 21 = .ok (.putfield 183, 3) := by decide +kernel
theorem dX9_hasSign_24 : decode cX9_hasSign 24 = .ok (.iload_n 2, 1) := by decide +kernel
theorem dX9_hasSign_25 : decode cX9_hasSign 25 = .ok (.ireturn, 1) := by decide +kernel
set_option maxRecDepth 20000 in
theorem ggX9_hasWord_X9_isWord : GoodIn wsX9_hasWord wsX9_isWord := goodIn_r _ [6, 7, 8, 1, 9, 10, 11, 12, 13, 14, 15, 16, 17, 18, 19, 20, 21, 22, 23, 24, 25, 26, 27, 28, 29, 30, 31, 32, 33, 34, 35, 36, 37, 38, 39, 40, 41, 42, 43, 44, 45, 46, 47, 48, 49, 50, 51, 52, 53, 54, 55, 56, 57, 58, 59, 60, 61, 62, 63, 64, 65, 66, 67, 68, 69, 70, 71, 72] (by decide +kernel) (by decide +kernel)
set_option maxRecDepth 20000 in
theorem gX9_hasWord_X9_isWord : GoodIn wsX9_hasWord (wsV RX9 196 RX9 yX9_isWord wsX9_isWord) := goodIn_app (goodIn_of _ (by decide +kernel)) ggX9_hasWord_X9_isWord
theorem dX9_hasWord_0 : decode cX9_hasWord 0 = .ok (.aload_n 0, 1) := by decide +kernel
theorem dX9_hasWord_1 : decode cX9_hasWord 1 = .ok (.iload_n 1, 1) := by decide +kernel
theorem dX9_hasWord_2 : decode cX9_hasWord 2 = .ok (.invokevirtual 196, 3) := by decide +kernel
theorem dX9_hasWord_5 : decode cX9_hasWord 5 = .ok (.istore_n 2, 1) := by decide +kernel
theorem dX9_hasWord_6 : decode cX9_hasWord 6 = .ok (.aload_n 0, 1) := by decide +kernel
theorem dX9_hasWord_7 : decode cX9_hasWord 7 = .ok (.dup, 1) := by decide +kernel
theorem dX9_hasWord_8 : decode cX9_hasWord 8 = .ok (.getfield 183, 3) := by decide +kernel
theorem dX9_hasWord_11 : decode cX9_hasWord 11 = .ok (.iload_n 2, 1) := by decide +kernel
theorem dX9_hasWord_12 : decode cX9_hasWord 12 = .ok (.ifCond .eq 7, 3) := by decide +kernel
theorem dX9_hasWord_15 : decode cX9_hasWord 15 = .ok (.iconst 1, 1) := by decide +kernel
theorem dX9_hasWord_16 : decode cX9_hasWord 16 = .ok (.goto 4, 3) := by decide +kernel
theorem dX9_hasWord_19 : decode cX9_hasWord 19 = .ok (.iconst 0, 1) := by decide +kernel
theorem dX9_hasWord_20 : decode cX9_hasWord 20 = .ok (.iadd, 1) := by decide +kernel
theorem dX9_hasWord_21 : decode cX9_hasWord 21 = .ok (.putfield 183, 3) := by decide +kernel
theorem dX9_hasWord_24 : decode cX9_hasWord 24 = .ok (.iload_n 2, 1) := by decide +kernel
theorem dX9_hasWord_25 : decode cX9_hasWord 25 = .ok (.ireturn, 1) := by decide +kernel
set_option maxRecDepth 20000 in
theorem ggX9_takeWord_X9_hasWord : GoodIn wsX9_takeWord wsX9_hasWord := goodIn_r _ [5, 6, 7, 8, 9, 4, 10, 11, 12, 13, 14, 20, 21, 22, 23, 24, 25, 26, 27, 28, 29, 30, 31, 32, 33, 34, 35, 36, 37, 38, 39, 40, 41, 42, 43, 44, 45, 46, 47, 48, 49, 50, 51, 52, 53, 54, 55, 56, 57, 58, 59, 60, 61, 62, 63, 64, 65, 66, 67, 68, 69, 70, 71, 72, 73, 74, 75, 76, 77, 78, 79, 80, 81] (by decide +kernel) (by decide +kernel)
set_option maxRecDepth 20000 in
theorem gX9_takeWord_X9_hasWord : GoodIn wsX9_takeWord (wsV RX9 199 RX9 yX9_hasWord wsX9_hasWord) := goodIn_app (goodIn_of _ (by decide +kernel)) ggX9_takeWord_X9_hasWord
set_option maxRecDepth 20000 in
theorem ggX9_takeWord_X9_wrong : GoodIn wsX9_takeWord wsX9_wrong := goodIn_r _ [18, 11, 19, 6, 20, 21, 22, 23, 24, 25, 26, 27, 28, 29, 30, 31, 32, 33, 34, 35, 36, 37, 38, 39, 40, 41, 42, 43, 44, 45, 46, 47, 48, 49, 50, 51, 52, 53, 54, 55, 56, 57, 58, 59, 60, 61, 62, 63, 64, 65, 66, 67, 68, 69, 70, 71, 72, 73, 74, 75, 76, 77, 78, 79, 80, 81] (by decide +kernel) (by decide +kernel)
set_option maxRecDepth 20000 in
theorem gX9_takeWord_X9_wrong : GoodIn wsX9_takeWord (wsV RX9 192 RX9 yX9_wrong wsX9_wrong) := goodIn_app (goodIn_of _ (by decide +kernel)) ggX9_takeWord_X9_wrong
theorem dX9_takeWord_0 : decode cX9_takeWord 0 = .ok (.aload_n 0, 1) := by decide +kernel
theorem dX9_takeWord_1 : decode cX9_takeWord 1 = .ok (.iload_n 1, 1) := by decide +kernel
theorem dX9_takeWord_2 : decode cX9_takeWord 2 = .ok (.invokevirtual 199, 3) := by decide +kernel
theorem dX9_takeWord_5 : decode cX9_takeWord 5 = .ok (.ifCond .ne 8, 3) := by decide +kernel
theorem dX9_takeWord_8 : decode cX9_takeWord 8 = .ok (.aload_n 0, 1) := by decide +kernel
theorem dX9_takeWord_9 : decode cX9_takeWord 9 = .ok (.iconst 1, 1) := by decide +kernel
theorem dX9_takeWord_10 : decode cX9_takeWord 10 = .ok (.invokevirtual 192, 3) := by decide +kernel
theorem dX9_takeWord_13 : decode cX9_takeWord 13 = .ok (.return_, 1) := by decide +kernel
theorem dX9_emit_0 : decode cX9_emit 0 = .ok (.aload_n 0, 1) := by decide +kernel
theorem dX9_emit_1 : decode cX9_emit 1 = .ok (.getfield 64, 3) := by decide +kernel
theorem dX9_emit_4 : decode cX9_emit 4 = .ok (.sipush 660, 3) := by decide +kernel
theorem dX9_emit_7 : decode cX9_emit 7 = .ok (.aload_n 0, 1) := by decide +kernel
theorem dX9_emit_8 : decode cX9_emit 8 = .ok (.getfield 202, 3) := by decide +kernel
theorem dX9_emit_11 : decode cX9_emit 11 = .ok (.imul, 1) := by decide +kernel
theorem dX9_emit_12 : decode cX9_emit 12 = .ok (.aload_n 0, 1) := by decide +kernel
theorem dX9_emit_13 : decode cX9_emit 13 = .ok (.getfield 205, 3) := by decide +kernel
theorem dX9_emit_16 : decode cX9_emit 16 = .ok (.iadd, 1) := by decide +kernel
theorem dX9_emit_17 : decode cX9_emit 17 = .ok (.iload_n 1, 1) := by decide +kernel
theorem dX9_emit_18 : decode cX9_emit 18 = .ok (.iastore, 1) := by decide +kernel
theorem dX9_emit_19 : decode cX9_emit 19 = .ok (.aload_n 0, 1) := by decide +kernel
theorem dX9_emit_20 : decode cX9_emit 20 = .ok (.getfield 67, 3) := by decide +kernel
theorem dX9_emit_23 : decode cX9_emit 23 = .ok (.sipush 660, 3) := by decide +kernel
theorem dX9_emit_26 : decode cX9_emit 26 = .ok (.aload_n 0, 1) := by decide +kernel
theorem dX9_emit_27 : decode cX9_emit 27 = .ok (.getfield 202, 3) := by decide +kernel
theorem dX9_emit_30 : decode cX9_emit 30 = .ok (.imul, 1) := by decide +kernel
theorem dX9_emit_31 : decode cX9_emit 31 = .ok (.aload_n 0, 1) := by decide +kernel
theorem dX9_emit_32 : decode cX9_emit 32 = .ok (.getfield 205, 3) := by decide +kernel
theorem dX9_emit_35 : decode cX9_emit 35 = .ok (.iadd, 1) := by decide +kernel
theorem dX9_emit_36 : decode cX9_emit 36 = .ok (.iload_n 2, 1) := by decide +kernel
theorem dX9_emit_37 : decode cX9_emit 37 = .ok (.iastore, 1) := by decide +kernel
theorem dX9_emit_38 : decode cX9_emit 38 = .ok (.aload_n 0, 1) := by decide +kernel
theorem dX9_emit_39 : decode cX9_emit 39 = .ok (.dup, 1) := by decide +kernel
theorem dX9_emit_40 : decode cX9_emit 40 = .ok (.getfield 205, 3) := by decide +kernel
theorem dX9_emit_43 : decode cX9_emit 43 = .ok (.iconst 1, 1) := by decide +kernel
theorem dX9_emit_44 : decode cX9_emit 44 = .ok (.iadd, 1) := by decide +kernel
theorem dX9_emit_45 : decode cX9_emit 45 = .ok (.putfield 205, 3) := by decide +kernel
theorem dX9_emit_48 : decode cX9_emit 48 = .ok (.return_, 1) := by decide +kernel
set_option maxRecDepth 20000 in
theorem ggX9_text_X9_cutAll : GoodIn wsX9_text wsX9_cutAll := goodIn_r _ [13, 14, 15, 16, 17, 18, 7, 19, 20, 21, 8, 6, 22, 23, 12, 24, 25, 26, 27, 28, 29, 30, 31, 32, 33, 96, 97, 98, 99, 100, 101, 102, 103, 104, 105, 106, 107, 108, 109, 110, 111, 112, 113, 114, 115, 116, 117, 118, 119, 120, 121, 122, 123, 124, 125, 126, 127, 128, 129, 130, 131, 132, 133, 134, 135, 136, 137, 138, 139, 140, 141, 142, 143, 144, 145, 146, 147, 148, 149, 150, 151, 152, 153, 154, 155, 156, 157] (by decide +kernel) (by decide +kernel)
set_option maxRecDepth 20000 in
theorem gX9_text_X9_cutAll : GoodIn wsX9_text (wsV RX9 208 RX9 yX9_cutAll wsX9_cutAll) := goodIn_app (goodIn_of _ (by decide +kernel)) ggX9_text_X9_cutAll
set_option maxRecDepth 20000 in
theorem ggX9_text_X9_line : GoodIn wsX9_text wsX9_line := goodIn_r _ [37, 4, 3, 6, 8, 7, 21, 38, 39, 40, 5, 41, 42, 43, 44, 12, 45, 46, 47, 48, 49, 50, 17, 51, 52, 53, 54, 55, 56, 57, 58, 59, 60, 61, 62, 63, 64, 65, 66, 67, 68, 69, 70, 71, 72, 73, 74, 75, 76, 77, 78, 79, 80, 81, 82, 83, 84, 85, 86, 87, 88, 89, 90, 91, 92, 93, 94, 95, 96, 97, 98, 99, 100, 101, 102, 103, 104, 105, 106, 107, 108, 109, 110, 111, 112, 113, 114, 115, 116, 117, 118, 119, 120, 121, 122, 123, 124, 125, 126, 127, 128, 129, 130, 131, 132, 133, 134, 135, 136, 137, 138, 139, 140, 141, 142, 143, 144, 145, 146, 147, 148, 149, 150, 151, 152, 153, 154, 155, 156, 157] (by decide +kernel) (by decide +kernel)
set_option maxRecDepth 20000 in
theorem gX9_text_X9_line : GoodIn wsX9_text (wsV RX9 214 RX9 yX9_line wsX9_line) := goodIn_app (goodIn_of _ (by decide +kernel)) ggX9_text_X9_line
theorem dX9_text_0 : decode cX9_text 0 = .ok (.aload_n 0, 1) := by decide +kernel
theorem dX9_text_1 : decode cX9_text 1 = .ok (.iconst 0, 1) := by decide +kernel
theorem dX9_text_2 : decode cX9_text 2 = .ok (.putfield 1, 3) := by decide +kernel
theorem dX9_text_5 : decode cX9_text 5 = .ok (.aload_n 0, 1) := by decide +kernel
theorem dX9_text_6 : decode cX9_text 6 = .ok (.invokevirtual 208, 3) := by decide +kernel
theorem dX9_text_9 : decode cX9_text 9 = .ok (.aload_n 0, 1) := by decide +kernel
theorem dX9_text_10 : decode cX9_text 10 = .ok (.iconst 1, 1) := by decide +kernel
theorem dX9_text_11 : decode cX9_text 11 = .ok (.aload_n 0, 1) := by decide +kernel
theorem dX9_text_12 : decode cX9_text 12 = .ok (.getfield 211, 3) := by decide +kernel
theorem dX9_text_15 : decode cX9_text 15 = .ok (.isub, 1) := by decide +kernel
theorem dX9_text_16 : decode cX9_text 16 = .ok (.putfield 202, 3) := by decide +kernel
theorem dX9_text_19 : decode cX9_text 19 = .ok (.aload_n 0, 1) := by decide +kernel
theorem dX9_text_20 : decode cX9_text 20 = .ok (.getfield 55, 3) := by decide +kernel
theorem dX9_text_23 : decode cX9_text 23 = .ok (.aload_n 0, 1) := by decide +kernel
theorem dX9_text_24 : decode cX9_text 24 = .ok (.getfield 202, 3) := by decide +kernel
theorem dX9_text_27 : decode cX9_text 27 = .ok (.iconst 0, 1) := by decide +kernel
theorem dX9_text_28 : decode cX9_text 28 = .ok (.iastore, 1) := by decide +kernel
theorem dX9_text_29 : decode cX9_text 29 = .ok (.aload_n 0, 1) := by decide +kernel
theorem dX9_text_30 : decode cX9_text 30 = .ok (.iconst 0, 1) := by decide +kernel
theorem dX9_text_31 : decode cX9_text 31 = .ok (.putfield 205, 3) := by decide +kernel
theorem dX9_text_34 : decode cX9_text 34 = .ok (.aload_n 0, 1) := by decide +kernel
theorem dX9_text_35 : decode cX9_text 35 = .ok (.getfield 186, 3) := by decide +kernel
theorem dX9_text_38 : decode cX9_text 38 = .ok (.ifCond .ne 22, 3) := by decide +kernel
theorem dX9_text_41 : decode cX9_text 41 = .ok (.aload_n 0, 1) := by decide +kernel
theorem dX9_text_42 : decode cX9_text 42 = .ok (.getfield 24, 3) := by decide +kernel
theorem dX9_text_45 : decode cX9_text 45 = .ok (.aload_n 0, 1) := by decide +kernel
theorem dX9_text_46 : decode cX9_text 46 = .ok (.getfield 183, 3) := by decide +kernel
theorem dX9_text_49 : decode cX9_text 49 = .ok (.iaload, 1) := by decide +kernel
theorem dX9_text_50 : decode cX9_text 50 = .ok (.ifCond .eq 10, 3) := by decide +kernel
theorem dX9_text_53 : decode cX9_text 53 = .ok (.aload_n 0, 1) := by decide +kernel
theorem dX9_text_54 : decode cX9_text 54 = .ok (.invokevirtual 214, 3) := by decide +kernel
theorem dX9_text_57 : decode cX9_text 57 = .ok (.goto (-23), 3) := by decide +kernel
theorem dX9_text_60 : decode cX9_text 60 = .ok (.aload_n 0, 1) := by decide +kernel
theorem dX9_text_61 : decode cX9_text 61 = .ok (.getfield 186, 3) := by decide +kernel
theorem dX9_text_64 : decode cX9_text 64 = .ok (.ifCond .ne 11, 3) := by decide +kernel
theorem dX9_text_67 : decode cX9_text 67 = .ok (.aload_n 0, 1) := by decide +kernel
theorem dX9_text_68 : decode cX9_text 68 = .ok (.aload_n 0, 1) := by decide +kernel
theorem dX9_text_69 : decode cX9_text 69 = .ok (.getfield 202, 3) := by decide +kernel
theorem dX9_text_72 : decode cX9_text 72 = .ok (.putfield 211, 3) := by decide +kernel
theorem dX9_text_75 : decode cX9_text 75 = .ok (.aload_n 0, 1) := by decide +kernel
theorem dX9_text_76 : decode cX9_text 76 = .ok (.getfield 186, 3) := by decide +kernel
theorem dX9_text_79 : decode cX9_text 79 = .ok (.ireturn, 1) := by decide +kernel
set_option maxRecDepth 20000 in
theorem ggX9_line_X9_isWord : GoodIn wsX9_line wsX9_isWord := goodIn_r _ [16, 3, 5, 4, 6, 17, 68, 69, 70, 71, 72, 73, 74, 75, 76, 77, 78, 79, 80, 81, 82, 83, 84, 85, 86, 87, 88, 89, 90, 91, 92, 93, 94, 95, 96, 97, 98, 99, 100, 101, 102, 103, 104, 105, 106, 107, 108, 109, 110, 111, 112, 113, 114, 115, 116, 117, 118, 119, 120, 121, 122, 123, 124, 125, 126, 127, 128, 129] (by decide +kernel) (by decide +kernel)
set_option maxRecDepth 20000 in
theorem gX9_line_X9_isWord : GoodIn wsX9_line (wsV RX9 196 RX9 yX9_isWord wsX9_isWord) := goodIn_app (goodIn_of _ (by decide +kernel)) ggX9_line_X9_isWord
set_option maxRecDepth 20000 in
theorem ggX9_line_X9_wrong : GoodIn wsX9_line wsX9_wrong := goodIn_r _ [21, 3, 22, 4, 68, 69, 70, 71, 72, 73, 74, 75, 76, 77, 78, 79, 80, 81, 82, 83, 84, 85, 86, 87, 88, 89, 90, 91, 92, 93, 94, 95, 96, 97, 98, 99, 100, 101, 102, 103, 104, 105, 106, 107, 108, 109, 110, 111, 112, 113, 114, 115, 116, 117, 118, 119, 120, 121, 122, 123, 124, 125, 126, 127, 128, 129] (by decide +kernel) (by decide +kernel)
set_option maxRecDepth 20000 in
theorem gX9_line_X9_wrong : GoodIn wsX9_line (wsV RX9 192 RX9 yX9_wrong wsX9_wrong) := goodIn_app (goodIn_of _ (by decide +kernel)) ggX9_line_X9_wrong
set_option maxRecDepth 20000 in
theorem ggX9_line_X9_takeWord : GoodIn wsX9_line wsX9_takeWord := goodIn_r _ [26, 27, 28, 29, 15, 30, 4, 12, 13, 14, 16, 3, 5, 6, 17, 18, 19, 20, 21, 22, 68, 69, 70, 71, 72, 73, 74, 75, 76, 77, 78, 79, 80, 81, 82, 83, 84, 85, 86, 87, 88, 89, 90, 91, 92, 93, 94, 95, 96, 97, 98, 99, 100, 101, 102, 103, 104, 105, 106, 107, 108, 109, 110, 111, 112, 113, 114, 115, 116, 117, 118, 119, 120, 121, 122, 123, 124, 125, 126, 127, 128, 129] (by decide +kernel) (by decide +kernel)
set_option maxRecDepth 20000 in
theorem gX9_line_X9_takeWord : GoodIn wsX9_line (wsV RX9 219 RX9 yX9_takeWord wsX9_takeWord) := goodIn_app (goodIn_of _ (by decide +kernel)) ggX9_line_X9_takeWord
set_option maxRecDepth 20000 in
theorem ggX9_line_X9_opens : GoodIn wsX9_line wsX9_opens := goodIn_r _ [34, 35, 11, 36, 37, 68, 69, 70, 71, 72, 73, 74, 75, 76, 77, 78, 79, 80, 81, 82, 83, 84, 85, 86, 87, 88, 89, 90, 91, 92, 93, 94, 95, 96, 97, 98, 99, 100, 101, 102, 103, 104, 105, 106, 107, 108, 109, 110, 111, 112, 113, 114, 115, 116, 117, 118, 119, 120, 121, 122, 123, 124, 125, 126, 127, 128, 129] (by decide +kernel) (by decide +kernel)
set_option maxRecDepth 20000 in
theorem gX9_line_X9_opens : GoodIn wsX9_line (wsV RX9 225 RX9 yX9_opens wsX9_opens) := goodIn_app (goodIn_of _ (by decide +kernel)) ggX9_line_X9_opens
set_option maxRecDepth 20000 in
theorem ggX9_line_X9_part : GoodIn wsX9_line wsX9_part := goodIn_r _ [41, 3, 5, 4, 11, 6, 42, 43, 44, 15, 45, 12, 13, 14, 16, 17, 46, 47, 48, 49, 18, 19, 20, 21, 22, 50, 51, 52, 53, 31, 32, 33, 34, 35, 36, 37, 54, 55, 56, 57, 58, 2, 10, 59, 68, 69, 70, 71, 72, 73, 74, 75, 76, 77, 78, 79, 80, 81, 82, 83, 84, 85, 86, 87, 88, 89, 90, 91, 92, 93, 94, 95, 96, 97, 98, 99, 100, 101, 102, 103, 104, 105, 106, 107, 108, 109, 110, 111, 112, 113, 114, 115, 116, 117, 118, 119, 120, 121, 122, 123, 124, 125, 126, 127, 128, 129] (by decide +kernel) (by decide +kernel)
set_option maxRecDepth 20000 in
theorem gX9_line_X9_part : GoodIn wsX9_line (wsV RX9 228 RX9 yX9_part wsX9_part) := goodIn_app (goodIn_of _ (by decide +kernel)) ggX9_line_X9_part
set_option maxRecDepth 20000 in
theorem ggX9_line_X9_goesOnBehind : GoodIn wsX9_line wsX9_goesOnBehind := goodIn_r _ [63, 3, 35, 11, 4, 36, 37, 54, 55, 56, 15, 57, 58, 2, 10, 59, 46, 47, 48, 49, 5, 6, 12, 13, 14, 16, 17, 64, 65, 66, 67, 18, 19, 20, 21, 22, 68, 69, 70, 71, 72, 73, 74, 75, 76, 77, 78, 79, 80, 81, 82, 83, 84, 85, 86, 87, 88, 89, 90, 91, 92, 93, 94, 95, 96, 97, 98, 99, 100, 101, 102, 103, 104, 105, 106, 107, 108, 109, 110, 111, 112, 113, 114, 115, 116, 117, 118, 119, 120, 121, 122, 123, 124, 125, 126, 127, 128, 129] (by decide +kernel) (by decide +kernel)
set_option maxRecDepth 20000 in
theorem gX9_line_X9_goesOnBehind : GoodIn wsX9_line (wsV RX9 232 RX9 yX9_goesOnBehind wsX9_goesOnBehind) := goodIn_app (goodIn_of _ (by decide +kernel)) ggX9_line_X9_goesOnBehind
set_option maxRecDepth 20000 in
theorem ggX9_line_X9_emit : GoodIn wsX9_line wsX9_emit := goodIn_r _ [57, 58, 2, 10, 59, 68, 69, 70, 71, 72, 73, 74, 75, 76, 77, 78, 79, 80, 81, 82, 83, 84, 85, 86, 87, 88, 89, 90, 91, 92, 93, 94, 95, 96, 97, 98, 99, 100, 101, 102, 103, 104, 105, 106, 107, 108, 109, 110, 111, 112, 113, 114, 115, 116, 117, 118, 119, 120, 121, 122, 123, 124, 125, 126, 127, 128, 129] (by decide +kernel) (by decide +kernel)
set_option maxRecDepth 20000 in
theorem gX9_line_X9_emit : GoodIn wsX9_line (wsV RX9 235 RX9 yX9_emit wsX9_emit) := goodIn_app (goodIn_of _ (by decide +kernel)) ggX9_line_X9_emit
set_option maxRecDepth 20000 in
theorem ggX9_line_X9_takeSign : GoodIn wsX9_line wsX9_takeSign := goodIn_r _ [67, 4, 46, 47, 48, 15, 49, 3, 5, 6, 18, 19, 20, 21, 22, 68, 69, 70, 71, 72, 73, 74, 75, 76, 77, 78, 79, 80, 81, 82, 83, 84, 85, 86, 87, 88, 89, 90, 91, 92, 93, 94, 95, 96, 97, 98, 99, 100, 101, 102, 103, 104, 105, 106, 107, 108, 109, 110, 111, 112, 113, 114, 115, 116, 117, 118, 119, 120, 121, 122, 123, 124, 125, 126, 127, 128, 129] (by decide +kernel) (by decide +kernel)
set_option maxRecDepth 20000 in
theorem gX9_line_X9_takeSign : GoodIn wsX9_line (wsV RX9 239 RX9 yX9_takeSign wsX9_takeSign) := goodIn_app (goodIn_of _ (by decide +kernel)) ggX9_line_X9_takeSign
theorem dX9_line_0 : decode cX9_line 0 = .ok (.aload_n 0, 1) := by decide +kernel
theorem dX9_line_1 : decode cX9_line 1 = .ok (.iconst 0, 1) := by decide +kernel
theorem dX9_line_2 : decode cX9_line 2 = .ok (.invokevirtual 196, 3) := by decide +kernel
theorem dX9_line_5 : decode cX9_line 5 = .ok (.ifCond .ne 11, 3) := by decide +kernel
theorem dX9_line_8 : decode cX9_line 8 = .ok (.aload_n 0, 1) := by decide +kernel
theorem dX9_line_9 : decode cX9_line 9 = .ok (.iconst 1, 1) := by decide +kernel
theorem dX9_line_10 : decode cX9_line 10 = .ok (.invokevirtual 192, 3) := by decide +kernel
theorem dX9_line_13 : decode cX9_line 13 = .ok (.goto 22, 3) := by decide +kernel
theorem dX9_line_16 : decode cX9_line 16 = .ok (.aload_n 0, 1) := by decide +kernel
theorem dX9_line_17 : decode cX9_line 17 = .ok (.getfield 55, 3) := by decide +kernel
theorem dX9_line_20 : decode cX9_line 20 = .ok (.aload_n 0, 1) := by decide +kernel
theorem dX9_line_21 : decode cX9_line 21 = .ok (.getfield 202, 3) := by decide +kernel
theorem dX9_line_24 : decode cX9_line 24 = .ok (.iaload, 1) := by decide +kernel
theorem dX9_line_25 : decode cX9_line 25 = .ok (.bipush 16, 2) := by decide +kernel
theorem dX9_line_27 : decode cX9_line 27 = .ok (.if_icmp .ne 8, 3) := by decide +kernel
theorem dX9_line_30 : decode cX9_line 30 = .ok (.aload_n 0, 1) := by decide +kernel
theorem dX9_line_31 : decode cX9_line 31 = .ok (.iconst 5, 1) := by decide +kernel
theorem dX9_line_32 : decode cX9_line 32 = .ok (.invokevirtual 192, 3) := by decide +kernel
theorem dX9_line_35 : decode cX9_line 35 = .ok (.aload_n 0, 1) := by decide +kernel
theorem dX9_line_36 : decode cX9_line 36 = .ok (.getfield 186, 3) := by decide +kernel
theorem dX9_line_39 : decode cX9_line 39 = .ok (.ifCond .le 4, 3) := by decide +kernel
theorem dX9_line_42 : decode cX9_line 42 = .ok (.return_, 1) := by decide +kernel
theorem dX9_line_43 : decode cX9_line 43 = .ok (.aload_n 0, 1) := by decide +kernel
theorem dX9_line_44 : decode cX9_line 44 = .ok (.dup, 1) := by decide +kernel
theorem dX9_line_45 : decode cX9_line 45 = .ok (.getfield 183, 3) := by decide +kernel
theorem dX9_line_48 : decode cX9_line 48 = .ok (.iconst 1, 1) := by decide +kernel
theorem dX9_line_49 : decode cX9_line 49 = .ok (.iadd, 1) := by decide +kernel
theorem dX9_line_50 : decode cX9_line 50 = .ok (.putfield 183, 3) := by decide +kernel
theorem dX9_line_53 : decode cX9_line 53 = .ok (.bipush 16, 2) := by decide +kernel
theorem dX9_line_55 : decode cX9_line 55 = .ok (.aload_n 0, 1) := by decide +kernel
theorem dX9_line_56 : decode cX9_line 56 = .ok (.getfield 202, 3) := by decide +kernel
theorem dX9_line_59 : decode cX9_line 59 = .ok (.imul, 1) := by decide +kernel
theorem dX9_line_60 : decode cX9_line 60 = .ok (.aload_n 0, 1) := by decide +kernel
theorem dX9_line_61 : decode cX9_line 61 = .ok (.getfield 55, 3) := by decide +kernel
theorem dX9_line_64 : decode cX9_line 64 = .ok (.aload_n 0, 1) := by decide +kernel
theorem dX9_line_65 : decode cX9_line 65 = .ok (.getfield 202, 3) := by decide +kernel
theorem dX9_line_68 : decode cX9_line 68 = .ok (.iaload, 1) := by decide +kernel
theorem dX9_line_69 : decode cX9_line 69 = .ok (.iadd, 1) := by decide +kernel
theorem dX9_line_70 : decode cX9_line 70 = .ok (.istore_n 1, 1) := by decide +kernel
theorem dX9_line_71 : decode cX9_line 71 = .ok (.aload_n 0, 1) := by decide +kernel
theorem dX9_line_72 : decode cX9_line 72 = .ok (.getfield 24, 3) := by decide +kernel
theorem dX9_line_75 : decode cX9_line 75 = .ok (.aload_n 0, 1) := by decide +kernel
theorem dX9_line_76 : decode cX9_line 76 = .ok (.getfield 183, 3) := by decide +kernel
theorem dX9_line_79 : decode cX9_line 79 = .ok (.iaload, 1) := by decide +kernel
theorem dX9_line_80 : decode cX9_line 80 = .ok (.iconst 2, 1) := by decide +kernel
theorem dX9_line_81 : decode cX9_line 81 = .ok (.if_icmp .eq 11, 3) := by decide +kernel
theorem dX9_line_84 : decode cX9_line 84 = .ok (.aload_n 0, 1) := by decide +kernel
theorem dX9_line_85 : decode cX9_line 85 = .ok (.iconst 1, 1) := by decide +kernel
theorem dX9_line_86 : decode cX9_line 86 = .ok (.invokevirtual 192, 3) := by decide +kernel
theorem dX9_line_89 : decode cX9_line 89 = .ok (.goto 24, 3) := by decide +kernel
theorem dX9_line_92 : decode cX9_line 92 = .ok (.aload_n 0, 1) := by decide +kernel
theorem dX9_line_93 : decode cX9_line 93 = .ok (.getfield 30, 3) := by decide +kernel
theorem dX9_line_96 : decode cX9_line 96 = .ok (.aload_n 0, 1) := by decide +kernel
theorem dX9_line_97 : decode cX9_line 97 = .ok (.getfield 183, 3) := by decide +kernel
theorem dX9_line_100 : decode cX9_line 100 = .ok (.laload, 1) := by decide +kernel
theorem dX9_line_101 : decode cX9_line 101 = .ok (.ldc2_w 217, 3) := by decide +kernel
theorem dX9_line_104 : decode cX9_line 104 = .ok (.lcmp, 1) := by decide +kernel
theorem dX9_line_105 : decode cX9_line 105 = .ok (.ifCond .le 8, 3) := by decide +kernel
theorem dX9_line_108 : decode cX9_line 108 = .ok (.aload_n 0, 1) := by decide +kernel
theorem dX9_line_109 : decode cX9_line 109 = .ok (.iconst 4, 1) := by decide +kernel
theorem dX9_line_110 : decode cX9_line 110 = .ok (.invokevirtual 192, 3) := by decide +kernel
theorem dX9_line_113 : decode cX9_line 113 = .ok (.aload_n 0, 1) := by decide +kernel
theorem dX9_line_114 : decode cX9_line 114 = .ok (.getfield 58, 3) := by decide +kernel
theorem dX9_line_117 : decode cX9_line 117 = .ok (.iload_n 1, 1) := by decide +kernel
theorem dX9_line_118 : decode cX9_line 118 = .ok (.aload_n 0, 1) := by decide +kernel
theorem dX9_line_119 : decode cX9_line 119 = .ok (.getfield 186, 3) := by decide +kernel
theorem dX9_line_122 : decode cX9_line 122 = .ok (.ifCond .le 7, 3) := by decide +kernel
theorem dX9_line_125 : decode cX9_line 125 = .ok (.iconst 0, 1) := by decide +kernel
theorem dX9_line_126 : decode cX9_line 126 = .ok (.goto 13, 3) := by decide +kernel
theorem dX9_line_129 : decode cX9_line 129 = .ok (.aload_n 0, 1) := by decide +kernel
theorem dX9_line_130 : decode cX9_line 130 = .ok (.getfield 30, 3) := by decide +kernel
theorem dX9_line_133 : decode cX9_line 133 = .ok (.aload_n 0, 1) := by decide +kernel
theorem dX9_line_134 : decode cX9_line 134 = .ok (.getfield 183, 3) := by decide +kernel
theorem dX9_line_137 : decode cX9_line 137 = .ok (.laload, 1) := by decide +kernel
theorem dX9_line_138 : decode cX9_line 138 = .ok (.l2i, 1) := by decide +kernel
theorem dX9_line_139 : decode cX9_line 139 = .ok (.iastore, 1) := by decide +kernel
theorem dX9_line_140 : decode cX9_line 140 = .ok (.aload_n 0, 1) := by decide +kernel
theorem dX9_line_141 : decode cX9_line 141 = .ok (.dup, 1) := by decide +kernel
theorem dX9_line_142 : decode cX9_line 142 = .ok (.getfield 183, 3) := by decide +kernel
theorem dX9_line_145 : decode cX9_line 145 = .ok (.iconst 1, 1) := by decide +kernel
theorem dX9_line_146 : decode cX9_line 146 = .ok (.iadd, 1) := by decide +kernel
theorem dX9_line_147 : decode cX9_line 147 = .ok (.putfield 183, 3) := by decide +kernel
theorem dX9_line_150 : decode cX9_line 150 = .ok (.aload_n 0, 1) := by decide +kernel
theorem dX9_line_151 : decode cX9_line 151 = .ok (.iconst 1, 1) := by decide +kernel
theorem dX9_line_152 : decode cX9_line 152 = .ok (.invokevirtual 219, 3) := by decide +kernel
theorem dX9_line_155 : decode cX9_line 155 = .ok (.aload_n 0, 1) := by decide +kernel
theorem dX9_line_156 : decode cX9_line 156 = .ok (.getfield 61, 3) := by decide +kernel
theorem dX9_line_159 : decode cX9_line 159 = .ok (.iload_n 1, 1) := by decide +kernel
theorem dX9_line_160 : decode cX9_line 160 = .ok (.sipush 660, 3) := by decide +kernel
theorem dX9_line_163 : decode cX9_line 163 = .ok (.aload_n 0, 1) := by decide +kernel
theorem dX9_line_164 : decode cX9_line 164 = .ok (.getfield 202, 3) := by decide +kernel
theorem dX9_line_167 : decode cX9_line 167 = .ok (.imul, 1) := by decide +kernel
theorem dX9_line_168 : decode cX9_line 168 = .ok (.aload_n 0, 1) := by decide +kernel
theorem dX9_line_169 : decode cX9_line 169 = .ok (.getfield 205, 3) := by decide +kernel
theorem dX9_line_172 : decode cX9_line 172 = .ok (.iadd, 1) := by decide +kernel
theorem dX9_line_173 : decode cX9_line 173 = .ok (.iastore, 1) := by decide +kernel
theorem dX9_line_174 : decode cX9_line 174 = .ok (.aload_n 0, 1) := by decide +kernel
theorem dX9_line_175 : decode cX9_line 175 = .ok (.iconst 0, 1) := by decide +kernel
theorem dX9_line_176 : decode cX9_line 176 = .ok (.putfield 222, 3) := by decide +kernel
theorem dX9_line_179 : decode cX9_line 179 = .ok (.aload_n 0, 1) := by decide +kernel
theorem dX9_line_180 : decode cX9_line 180 = .ok (.invokevirtual 225, 3) := by decide +kernel
theorem dX9_line_183 : decode cX9_line 183 = .ok (.iconst 1, 1) := by decide +kernel
theorem dX9_line_184 : decode cX9_line 184 = .ok (.istore_n 2, 1) := by decide +kernel
theorem dX9_line_185 : decode cX9_line 185 = .ok (.iload_n 2, 1) := by decide +kernel
theorem dX9_line_186 : decode cX9_line 186 = .ok (.ifCond .eq 33, 3) := by decide +kernel
theorem dX9_line_189 : decode cX9_line 189 = .ok (.aload_n 0, 1) := by decide +kernel
theorem dX9_line_190 : decode cX9_line 190 = .ok (.getfield 186, 3) := by decide +kernel
theorem dX9_line_193 : decode cX9_line 193 = .ok (.ifCond .ne 26, 3) := by decide +kernel
theorem dX9_line_196 : decode cX9_line 196 = .ok (.aload_n 0, 1) := by decide +kernel
theorem dX9_line_197 : decode cX9_line 197 = .ok (.invokevirtual 228, 3) := by decide +kernel
theorem dX9_line_200 : decode cX9_line 200 = .ok (.ifCond .ne 10, 3) := by decide +kernel
theorem dX9_line_203 : decode cX9_line 203 = .ok (.aload_n 0, 1) := by decide +kernel
theorem dX9_line_204 : decode cX9_line 204 = .ok (.invokevirtual 232, 3) := by decide +kernel
theorem dX9_line_207 : decode cX9_line 207 = .ok (.ifCond .eq 7, 3) := by decide +kernel
theorem dX9_line_210 : decode cX9_line 210 = .ok (.iconst 1, 1) := by decide +kernel
theorem dX9_line_211 : decode cX9_line 211 = .ok (.goto 4, 3) := by decide +kernel
theorem dX9_line_214 : decode cX9_line 214 = .ok (.iconst 0, 1) := by decide +kernel
theorem dX9_line_215 : decode cX9_line 215 = .ok (.istore_n 2, 1) := by decide +kernel
theorem dX9_line_216 : decode cX9_line 216 = .ok (.goto (-31), 3) := by decide +kernel
theorem dX9_line_219 : decode cX9_line 219 = .ok (.aload_n 0, 1) := by decide +kernel
theorem dX9_line_220 : decode cX9_line 220 = .ok (.iconst 0, 1) := by decide +kernel
theorem dX9_line_221 : decode cX9_line 221 = .ok (.iconst 0, 1) := by decide +kernel
theorem dX9_line_222 : decode cX9_line 222 = .ok (.invokevirtual 235, 3) := by decide +kernel
theorem dX9_line_225 : decode cX9_line 225 = .ok (.aload_n 0, 1) := by decide +kernel
theorem dX9_line_226 : decode cX9_line 226 = .ok (.bipush 59, 2) := by decide +kernel
theorem dX9_line_228 : decode cX9_line 228 = .ok (.invokevirtual 239, 3) := by decide +kernel
theorem dX9_line_231 : decode cX9_line 231 = .ok (.aload_n 0, 1) := by decide +kernel
theorem dX9_line_232 : decode cX9_line 232 = .ok (.getfield 55, 3) := by decide +kernel
theorem dX9_line_235 : decode cX9_line 235 = .ok (.aload_n 0, 1) := by decide +kernel
theorem dX9_line_236 : decode cX9_line 236 = .ok (.getfield 202, 3) := by decide +kernel
theorem dX9_line_239 : decode cX9_line 239 = .ok (.dup2, 1) := by decide +kernel
theorem dX9_line_240 : decode cX9_line 240 = .ok (.iaload, 1) := by decide +kernel
theorem dX9_line_241 : decode cX9_line 241 = .ok (.iconst 1, 1) := by decide +kernel
theorem dX9_line_242 : decode cX9_line 242 = .ok (.iadd, 1) := by decide +kernel
theorem dX9_line_243 : decode cX9_line 243 = .ok (.iastore, 1) := by decide +kernel
theorem dX9_line_244 : decode cX9_line 244 = .ok (.return_, 1) := by decide +kernel
theorem dX9_opens_0 : decode cX9_opens 0 = .ok (.aload_n 0, 1) := by decide +kernel
theorem dX9_opens_1 : decode cX9_opens 1 = .ok (.getfield 70, 3) := by decide +kernel
theorem dX9_opens_4 : decode cX9_opens 4 = .ok (.aload_n 0, 1) := by decide +kernel
theorem dX9_opens_5 : decode cX9_opens 5 = .ok (.getfield 222, 3) := by decide +kernel
theorem dX9_opens_8 : decode cX9_opens 8 = .ok (.iconst 0, 1) := by decide +kernel
theorem dX9_opens_9 : decode cX9_opens 9 = .ok (.iastore, 1) := by decide +kernel
theorem dX9_opens_10 : decode cX9_opens 10 = .ok (.aload_n 0, 1) := by decide +kernel
theorem dX9_opens_11 : decode cX9_opens 11 = .ok (.getfield 73, 3) := by decide +kernel
theorem dX9_opens_14 : decode cX9_opens 14 = .ok (.aload_n 0, 1) := by decide +kernel
theorem dX9_opens_15 : decode cX9_opens 15 = .ok (.getfield 222, 3) := by decide +kernel
theorem dX9_opens_18 : decode cX9_opens 18 = .ok (.iconst 0, 1) := by decide +kernel
theorem dX9_opens_19 : decode cX9_opens 19 = .ok (.iastore, 1) := by decide +kernel
theorem dX9_opens_20 : decode cX9_opens 20 = .ok (.aload_n 0, 1) := by decide +kernel
theorem dX9_opens_21 : decode cX9_opens 21 = .ok (.getfield 76, 3) := by decide +kernel
theorem dX9_opens_24 : decode cX9_opens 24 = .ok (.aload_n 0, 1) := by decide +kernel
theorem dX9_opens_25 : decode cX9_opens 25 = .ok (.getfield 222, 3) := by decide +kernel
theorem dX9_opens_28 : decode cX9_opens 28 = .ok (.iconst 0, 1) := by decide +kernel
theorem dX9_opens_29 : decode cX9_opens 29 = .ok (.iastore, 1) := by decide +kernel
theorem dX9_opens_30 : decode cX9_opens 30 = .ok (.return_, 1) := by decide +kernel
set_option maxRecDepth 20000 in
theorem ggX9_partWord_X9_isWord : GoodIn wsX9_partWord wsX9_isWord := goodIn_r _ [5, 6, 7, 8, 9, 10, 11, 12, 13, 14, 15, 16, 17, 18, 19, 20, 21, 22, 23, 24, 25, 26, 27, 28, 29, 30, 31, 32, 33, 34, 35, 36, 37, 38, 39, 40, 41, 42, 43, 44, 45, 46, 47, 48, 49, 50, 51, 52, 53, 54, 55, 56, 57, 58, 59, 60, 61, 62, 63, 64, 65, 66, 67, 68, 69, 70, 71, 72] (by decide +kernel) (by decide +kernel)
set_option maxRecDepth 20000 in
theorem gX9_partWord_X9_isWord : GoodIn wsX9_partWord (wsV RX9 196 RX9 yX9_isWord wsX9_isWord) := goodIn_app (goodIn_of _ (by decide +kernel)) ggX9_partWord_X9_isWord
theorem dX9_partWord_0 : decode cX9_partWord 0 = .ok (.iconst 0, 1) := by decide +kernel
theorem dX9_partWord_1 : decode cX9_partWord 1 = .ok (.istore_n 1, 1) := by decide +kernel
theorem dX9_partWord_2 : decode cX9_partWord 2 = .ok (.iload_n 1, 1) := by decide +kernel
theorem dX9_partWord_3 : decode cX9_partWord 3 = .ok (.bipush 6, 2) := by decide +kernel
theorem dX9_partWord_5 : decode cX9_partWord 5 = .ok (.if_icmp .ge 21, 3) := by decide +kernel
theorem dX9_partWord_8 : decode cX9_partWord 8 = .ok (.aload_n 0, 1) := by decide +kernel
theorem dX9_partWord_9 : decode cX9_partWord 9 = .ok (.iconst 3, 1) := by decide +kernel
theorem dX9_partWord_10 : decode cX9_partWord 10 = .ok (.iload_n 1, 1) := by decide +kernel
theorem dX9_partWord_11 : decode cX9_partWord 11 = .ok (.iadd, 1) := by decide +kernel
theorem dX9_partWord_12 : decode cX9_partWord 12 = .ok (.invokevirtual 196, 3) := by decide +kernel
theorem dX9_partWord_15 : decode cX9_partWord 15 = .ok (.ifCond .eq 5, 3) := by decide +kernel
theorem dX9_partWord_18 : decode cX9_partWord 18 = .ok (.iload_n 1, 1) := by decide +kernel
theorem dX9_partWord_19 : decode cX9_partWord 19 = .ok (.ireturn, 1) := by decide +kernel
theorem dX9_partWord_20 : decode cX9_partWord 20 = .ok (.iinc 1 1, 3) := by decide +kernel
theorem dX9_partWord_23 : decode cX9_partWord 23 = .ok (.goto (-21), 3) := by decide +kernel
theorem dX9_partWord_26 : decode cX9_partWord 26 = .ok (.iconst (-1), 1) := by decide +kernel
theorem dX9_partWord_27 : decode cX9_partWord 27 = .ok (.ireturn, 1) := by decide +kernel
set_option maxRecDepth 20000 in
theorem ggX9_part_X9_partWord : GoodIn wsX9_part wsX9_partWord := goodIn_r _ [10, 11, 12, 13, 9, 14, 1, 2, 3, 5, 15, 44, 45, 46, 47, 48, 49, 50, 51, 52, 53, 54, 55, 56, 57, 58, 59, 60, 61, 62, 63, 64, 65, 66, 67, 68, 69, 70, 71, 72, 73, 74, 75, 76, 77, 78, 79, 80, 81, 82, 83, 84, 85, 86, 87, 88, 89, 90, 91, 92, 93, 94, 95, 96, 97, 98, 99, 100, 101, 102, 103, 104, 105] (by decide +kernel) (by decide +kernel)
set_option maxRecDepth 20000 in
theorem gX9_part_X9_partWord : GoodIn wsX9_part (wsV RX9 242 RX9 yX9_partWord wsX9_partWord) := goodIn_app (goodIn_of _ (by decide +kernel)) ggX9_part_X9_partWord
set_option maxRecDepth 20000 in
theorem ggX9_part_X9_isSign : GoodIn wsX9_part wsX9_isSign := goodIn_r _ [19, 1, 2, 3, 5, 44, 45, 46, 47, 48, 49, 50, 51, 52, 53, 54, 55, 56, 57, 58, 59, 60, 61, 62, 63, 64, 65, 66, 67, 68, 69, 70, 71, 72, 73, 74, 75, 76, 77, 78, 79, 80, 81, 82, 83, 84, 85, 86, 87, 88, 89, 90, 91, 92, 93, 94, 95, 96, 97, 98, 99, 100, 101, 102, 103, 104, 105] (by decide +kernel) (by decide +kernel)
set_option maxRecDepth 20000 in
theorem gX9_part_X9_isSign : GoodIn wsX9_part (wsV RX9 189 RX9 yX9_isSign wsX9_isSign) := goodIn_app (goodIn_of _ (by decide +kernel)) ggX9_part_X9_isSign
set_option maxRecDepth 20000 in
theorem ggX9_part_X9_wrong : GoodIn wsX9_part wsX9_wrong := goodIn_r _ [23, 1, 24, 3, 44, 45, 46, 47, 48, 49, 50, 51, 52, 53, 54, 55, 56, 57, 58, 59, 60, 61, 62, 63, 64, 65, 66, 67, 68, 69, 70, 71, 72, 73, 74, 75, 76, 77, 78, 79, 80, 81, 82, 83, 84, 85, 86, 87, 88, 89, 90, 91, 92, 93, 94, 95, 96, 97, 98, 99, 100, 101, 102, 103, 104, 105] (by decide +kernel) (by decide +kernel)
set_option maxRecDepth 20000 in
theorem gX9_part_X9_wrong : GoodIn wsX9_part (wsV RX9 192 RX9 yX9_wrong wsX9_wrong) := goodIn_app (goodIn_of _ (by decide +kernel)) ggX9_part_X9_wrong
set_option maxRecDepth 20000 in
theorem ggX9_part_X9_hasSign : GoodIn wsX9_part wsX9_hasSign := goodIn_r _ [28, 3, 16, 17, 18, 9, 19, 1, 2, 5, 44, 45, 46, 47, 48, 49, 50, 51, 52, 53, 54, 55, 56, 57, 58, 59, 60, 61, 62, 63, 64, 65, 66, 67, 68, 69, 70, 71, 72, 73, 74, 75, 76, 77, 78, 79, 80, 81, 82, 83, 84, 85, 86, 87, 88, 89, 90, 91, 92, 93, 94, 95, 96, 97, 98, 99, 100, 101, 102, 103, 104, 105] (by decide +kernel) (by decide +kernel)
set_option maxRecDepth 20000 in
theorem gX9_part_X9_hasSign : GoodIn wsX9_part (wsV RX9 246 RX9 yX9_hasSign wsX9_hasSign) := goodIn_app (goodIn_of _ (by decide +kernel)) ggX9_part_X9_hasSign
set_option maxRecDepth 20000 in
theorem ggX9_part_X9_opens : GoodIn wsX9_part wsX9_opens := goodIn_r _ [32, 33, 4, 34, 35, 44, 45, 46, 47, 48, 49, 50, 51, 52, 53, 54, 55, 56, 57, 58, 59, 60, 61, 62, 63, 64, 65, 66, 67, 68, 69, 70, 71, 72, 73, 74, 75, 76, 77, 78, 79, 80, 81, 82, 83, 84, 85, 86, 87, 88, 89, 90, 91, 92, 93, 94, 95, 96, 97, 98, 99, 100, 101, 102, 103, 104, 105] (by decide +kernel) (by decide +kernel)
set_option maxRecDepth 20000 in
theorem gX9_part_X9_opens : GoodIn wsX9_part (wsV RX9 225 RX9 yX9_opens wsX9_opens) := goodIn_app (goodIn_of _ (by decide +kernel)) ggX9_part_X9_opens
set_option maxRecDepth 20000 in
theorem ggX9_part_X9_emit : GoodIn wsX9_part wsX9_emit := goodIn_r _ [39, 40, 41, 42, 43, 44, 45, 46, 47, 48, 49, 50, 51, 52, 53, 54, 55, 56, 57, 58, 59, 60, 61, 62, 63, 64, 65, 66, 67, 68, 69, 70, 71, 72, 73, 74, 75, 76, 77, 78, 79, 80, 81, 82, 83, 84, 85, 86, 87, 88, 89, 90, 91, 92, 93, 94, 95, 96, 97, 98, 99, 100, 101, 102, 103, 104, 105] (by decide +kernel) (by decide +kernel)
set_option maxRecDepth 20000 in
theorem gX9_part_X9_emit : GoodIn wsX9_part (wsV RX9 235 RX9 yX9_emit wsX9_emit) := goodIn_app (goodIn_of _ (by decide +kernel)) ggX9_part_X9_emit
theorem dX9_part_0 : decode cX9_part 0 = .ok (.aload_n 0, 1) := by decide +kernel
theorem dX9_part_1 : decode cX9_part 1 = .ok (.invokevirtual 242, 3) := by decide +kernel
theorem dX9_part_4 : decode cX9_part 4 = .ok (.istore_n 1, 1) := by decide +kernel
theorem dX9_part_5 : decode cX9_part 5 = .ok (.aload_n 0, 1) := by decide +kernel
theorem dX9_part_6 : decode cX9_part 6 = .ok (.getfield 186, 3) := by decide +kernel
theorem dX9_part_9 : decode cX9_part 9 = .ok (.ifCond .ne 37, 3) := by decide +kernel
theorem dX9_part_12 : decode cX9_part 12 = .ok (.aload_n 0, 1) := by decide +kernel
theorem dX9_part_13 : decode cX9_part 13 = .ok (.getfield 24, 3) := by decide +kernel
theorem dX9_part_16 : decode cX9_part 16 = .ok (.aload_n 0, 1) := by decide +kernel
theorem dX9_part_17 : decode cX9_part 17 = .ok (.getfield 183, 3) := by decide +kernel
theorem dX9_part_20 : decode cX9_part 20 = .ok (.iaload, 1) := by decide +kernel
theorem dX9_part_21 : decode cX9_part 21 = .ok (.iconst 2, 1) := by decide +kernel
theorem dX9_part_22 : decode cX9_part 22 = .ok (.if_icmp .eq 24, 3) := by decide +kernel
theorem dX9_part_25 : decode cX9_part 25 = .ok (.aload_n 0, 1) := by decide +kernel
theorem dX9_part_26 : decode cX9_part 26 = .ok (.bipush 40, 2) := by decide +kernel
theorem dX9_part_28 : decode cX9_part 28 = .ok (.invokevirtual 189, 3) := by decide +kernel
theorem dX9_part_31 : decode cX9_part 31 = .ok (.ifCond .ne 15, 3) := by decide +kernel
theorem dX9_part_34 : decode cX9_part 34 = .ok (.iload_n 1, 1) := by decide +kernel
theorem dX9_part_35 : decode cX9_part 35 = .ok (.ifCond .ge 11, 3) := by decide +kernel
theorem dX9_part_38 : decode cX9_part 38 = .ok (.aload_n 0, 1) := by decide +kernel
theorem dX9_part_39 : decode cX9_part 39 = .ok (.iconst 1, 1) := by decide +kernel
theorem dX9_part_40 : decode cX9_part 40 = .ok (.invokevirtual 192, 3) := by decide +kernel
theorem dX9_part_43 : decode cX9_part 43 = .ok (.goto 16, 3) := by decide +kernel
theorem dX9_part_46 : decode cX9_part 46 = .ok (.aload_n 0, 1) := by decide +kernel
theorem dX9_part_47 : decode cX9_part 47 = .ok (.getfield 222, 3) := by decide +kernel
theorem dX9_part_50 : decode cX9_part 50 = .ok (.iconst 5, 1) := by decide +kernel
theorem dX9_part_51 : decode cX9_part 51 = .ok (.if_icmp .ne 8, 3) := by decide +kernel
theorem dX9_part_54 : decode cX9_part 54 = .ok (.aload_n 0, 1) := by decide +kernel
theorem dX9_part_55 : decode cX9_part 55 = .ok (.iconst 5, 1) := by decide +kernel
theorem dX9_part_56 : decode cX9_part 56 = .ok (.invokevirtual 192, 3) := by decide +kernel
theorem dX9_part_59 : decode cX9_part 59 = .ok (.aload_n 0, 1) := by decide +kernel
theorem dX9_part_60 : decode cX9_part 60 = .ok (.getfield 186, 3) := by decide +kernel
theorem dX9_part_63 : decode cX9_part 63 = .ok (.ifCond .le 5, 3) := by decide +kernel
theorem dX9_part_66 : decode cX9_part 66 = .ok (.iconst 0, 1) := by decide +kernel
theorem dX9_part_67 : decode cX9_part 67 = .ok (.ireturn, 1) := by decide +kernel
theorem dX9_part_68 : decode cX9_part 68 = .ok (.aload_n 0, 1) := by decide +kernel
theorem dX9_part_69 : decode cX9_part 69 = .ok (.bipush 40, 2) := by decide +kernel
theorem dX9_part_71 : decode cX9_part 71 = .ok (.invokevirtual 246, 3) := by decide +kernel
theorem dX9_part_74 : decode cX9_part 74 = .ok (.ifCond .eq 19, 3) := by decide +kernel
theorem dX9_part_77 : decode cX9_part 77 = .ok (.aload_n 0, 1) := by decide +kernel
theorem dX9_part_78 : decode cX9_part 78 = .ok (.dup, 1) := by decide +kernel
theorem dX9_part_79 : decode cX9_part 79 = .ok (.getfield 222, 3) := by decide +kernel
theorem dX9_part_82 : decode cX9_part 82 = .ok (.iconst 1, 1) := by decide +kernel
theorem dX9_part_83 : decode cX9_part 83 = .ok (.iadd, 1) := by decide +kernel
theorem dX9_part_84 : decode cX9_part 84 = .ok (.putfield 222, 3) := by decide +kernel
theorem dX9_part_87 : decode cX9_part 87 = .ok (.aload_n 0, 1) := by decide +kernel
theorem dX9_part_88 : decode cX9_part 88 = .ok (.invokevirtual 225, 3) := by decide +kernel
theorem dX9_part_91 : decode cX9_part 91 = .ok (.iconst 1, 1) := by decide +kernel
theorem dX9_part_92 : decode cX9_part 92 = .ok (.ireturn, 1) := by decide +kernel
theorem dX9_part_93 : decode cX9_part 93 = .ok (.aload_n 0, 1) := by decide +kernel
theorem dX9_part_94 : decode cX9_part 94 = .ok (.iload_n 1, 1) := by decide +kernel
theorem dX9_part_95 : decode cX9_part 95 = .ok (.ifCond .ge 7, 3) := by decide +kernel
theorem dX9_part_98 : decode cX9_part 98 = .ok (.iconst 1, 1) := by decide +kernel
theorem dX9_part_99 : decode cX9_part 99 = .ok (.goto 4, 3) := by decide +kernel
theorem dX9_part_102 : decode cX9_part 102 = .ok (.iconst 2, 1) := by decide +kernel
theorem dX9_part_103 : decode cX9_part 103 = .ok (.iload_n 1, 1) := by decide +kernel
theorem dX9_part_104 : decode cX9_part 104 = .ok (.ifCond .ge 16, 3) := by decide +kernel
theorem dX9_part_107 : decode cX9_part 107 = .ok (.aload_n 0, 1) := by decide +kernel
theorem dX9_part_108 : decode cX9_part 108 = .ok (.getfield 30, 3) := by decide +kernel
theorem dX9_part_111 : decode cX9_part 111 = .ok (.aload_n 0, 1) := by decide +kernel
theorem dX9_part_112 : decode cX9_part 112 = .ok (.getfield 183, 3) := by decide +kernel
theorem dX9_part_115 : decode cX9_part 115 = .ok (.laload, 1) := by decide +kernel
theorem dX9_part_116 : decode cX9_part 116 = .ok (.l2i, 1) := by decide +kernel
theorem dX9_part_117 : decode cX9_part 117 = .ok (.goto 4, 3) := by decide +kernel
theorem dX9_part_120 : decode cX9_part 120 = .ok (.iload_n 1, 1) := by decide +kernel
theorem dX9_part_121 : decode cX9_part 121 = .ok (.invokevirtual 235, 3) := by decide +kernel
theorem dX9_part_124 : decode cX9_part 124 = .ok (.aload_n 0, 1) := by decide +kernel
theorem dX9_part_125 : decode cX9_part 125 = .ok (.dup, 1) := by decide +kernel
theorem dX9_part_126 : decode cX9_part 126 = .ok (.getfield 183, 3) := by decide +kernel
theorem dX9_part_129 : decode cX9_part 129 = .ok (.iconst 1, 1) := by decide +kernel
theorem dX9_part_130 : decode cX9_part 130 = .ok (.iadd, 1) := by decide +kernel
theorem dX9_part_131 : decode cX9_part 131 = .ok (.putfield 183, 3) := by decide +kernel
theorem dX9_part_134 : decode cX9_part 134 = .ok (.iconst 0, 1) := by decide +kernel
theorem dX9_part_135 : decode cX9_part 135 = .ok (.ireturn, 1) := by decide +kernel
set_option maxRecDepth 20000 in
theorem ggX9_goesOnBehind_X9_emit : GoodIn wsX9_goesOnBehind wsX9_emit := goodIn_r _ [11, 12, 13, 14, 15, 36, 37, 38, 39, 40, 41, 42, 43, 44, 45, 46, 47, 48, 49, 50, 51, 52, 53, 54, 55, 56, 57, 58, 59, 60, 61, 62, 63, 64, 65, 66, 67, 68, 69, 70, 71, 72, 73, 74, 75, 76, 77, 78, 79, 80, 81, 82, 83, 84, 85, 86, 87, 88, 89, 90, 91, 92, 93, 94, 95, 96, 97] (by decide +kernel) (by decide +kernel)
set_option maxRecDepth 20000 in
theorem gX9_goesOnBehind_X9_emit : GoodIn wsX9_goesOnBehind (wsV RX9 235 RX9 yX9_emit wsX9_emit) := goodIn_app (goodIn_of _ (by decide +kernel)) ggX9_goesOnBehind_X9_emit
set_option maxRecDepth 20000 in
theorem ggX9_goesOnBehind_X9_isSign : GoodIn wsX9_goesOnBehind wsX9_isSign := goodIn_r _ [19, 1, 20, 4, 21, 36, 37, 38, 39, 40, 41, 42, 43, 44, 45, 46, 47, 48, 49, 50, 51, 52, 53, 54, 55, 56, 57, 58, 59, 60, 61, 62, 63, 64, 65, 66, 67, 68, 69, 70, 71, 72, 73, 74, 75, 76, 77, 78, 79, 80, 81, 82, 83, 84, 85, 86, 87, 88, 89, 90, 91, 92, 93, 94, 95, 96, 97] (by decide +kernel) (by decide +kernel)
set_option maxRecDepth 20000 in
theorem gX9_goesOnBehind_X9_isSign : GoodIn wsX9_goesOnBehind (wsV RX9 189 RX9 yX9_isSign wsX9_isSign) := goodIn_app (goodIn_of _ (by decide +kernel)) ggX9_goesOnBehind_X9_isSign
set_option maxRecDepth 20000 in
theorem ggX9_goesOnBehind_X9_isWord : GoodIn wsX9_goesOnBehind wsX9_isWord := goodIn_r _ [25, 1, 20, 4, 21, 26, 36, 37, 38, 39, 40, 41, 42, 43, 44, 45, 46, 47, 48, 49, 50, 51, 52, 53, 54, 55, 56, 57, 58, 59, 60, 61, 62, 63, 64, 65, 66, 67, 68, 69, 70, 71, 72, 73, 74, 75, 76, 77, 78, 79, 80, 81, 82, 83, 84, 85, 86, 87, 88, 89, 90, 91, 92, 93, 94, 95, 96, 97] (by decide +kernel) (by decide +kernel)
set_option maxRecDepth 20000 in
theorem gX9_goesOnBehind_X9_isWord : GoodIn wsX9_goesOnBehind (wsV RX9 196 RX9 yX9_isWord wsX9_isWord) := goodIn_app (goodIn_of _ (by decide +kernel)) ggX9_goesOnBehind_X9_isWord
set_option maxRecDepth 20000 in
theorem ggX9_goesOnBehind_X9_takeSign : GoodIn wsX9_goesOnBehind wsX9_takeSign := goodIn_r _ [30, 4, 16, 17, 18, 10, 19, 1, 20, 21, 31, 32, 33, 34, 35, 36, 37, 38, 39, 40, 41, 42, 43, 44, 45, 46, 47, 48, 49, 50, 51, 52, 53, 54, 55, 56, 57, 58, 59, 60, 61, 62, 63, 64, 65, 66, 67, 68, 69, 70, 71, 72, 73, 74, 75, 76, 77, 78, 79, 80, 81, 82, 83, 84, 85, 86, 87, 88, 89, 90, 91, 92, 93, 94, 95, 96, 97] (by decide +kernel) (by decide +kernel)
set_option maxRecDepth 20000 in
theorem gX9_goesOnBehind_X9_takeSign : GoodIn wsX9_goesOnBehind (wsV RX9 239 RX9 yX9_takeSign wsX9_takeSign) := goodIn_app (goodIn_of _ (by decide +kernel)) ggX9_goesOnBehind_X9_takeSign
theorem dX9_goesOnBehind_0 : decode cX9_goesOnBehind 0 = .ok (.aload_n 0, 1) := by decide +kernel
theorem dX9_goesOnBehind_1 : decode cX9_goesOnBehind 1 = .ok (.getfield 186, 3) := by decide +kernel
theorem dX9_goesOnBehind_4 : decode cX9_goesOnBehind 4 = .ok (.ifCond .ne 273, 3) := by decide +kernel
theorem dX9_goesOnBehind_7 : decode cX9_goesOnBehind 7 = .ok (.aload_n 0, 1) := by decide +kernel
theorem dX9_goesOnBehind_8 : decode cX9_goesOnBehind 8 = .ok (.getfield 70, 3) := by decide +kernel
theorem dX9_goesOnBehind_11 : decode cX9_goesOnBehind 11 = .ok (.aload_n 0, 1) := by decide +kernel
theorem dX9_goesOnBehind_12 : decode cX9_goesOnBehind 12 = .ok (.getfield 222, 3) := by decide +kernel
theorem dX9_goesOnBehind_15 : decode cX9_goesOnBehind 15 = .ok (.iaload, 1) := by decide +kernel
theorem dX9_goesOnBehind_16 : decode cX9_goesOnBehind 16 = .ok (.ifCond .eq 27, 3) := by decide +kernel
theorem dX9_goesOnBehind_19 : decode cX9_goesOnBehind 19 = .ok (.aload_n 0, 1) := by decide +kernel
theorem dX9_goesOnBehind_20 : decode cX9_goesOnBehind 20 = .ok (.aload_n 0, 1) := by decide +kernel
theorem dX9_goesOnBehind_21 : decode cX9_goesOnBehind 21 = .ok (.getfield 70, 3) := by decide +kernel
theorem dX9_goesOnBehind_24 : decode cX9_goesOnBehind 24 = .ok (.aload_n 0, 1) := by decide +kernel
theorem dX9_goesOnBehind_25 : decode cX9_goesOnBehind 25 = .ok (.getfield 222, 3) := by decide +kernel
theorem dX9_goesOnBehind_28 : decode cX9_goesOnBehind 28 = .ok (.iaload, 1) := by decide +kernel
theorem dX9_goesOnBehind_29 : decode cX9_goesOnBehind 29 = .ok (.iconst 0, 1) := by decide +kernel
theorem dX9_goesOnBehind_30 : decode cX9_goesOnBehind 30 = .ok (.invokevirtual 235, 3) := by decide +kernel
theorem dX9_goesOnBehind_33 : decode cX9_goesOnBehind 33 = .ok (.aload_n 0, 1) := by decide +kernel
theorem dX9_goesOnBehind_34 : decode cX9_goesOnBehind 34 = .ok (.getfield 70, 3) := by decide +kernel
theorem dX9_goesOnBehind_37 : decode cX9_goesOnBehind 37 = .ok (.aload_n 0, 1) := by decide +kernel
theorem dX9_goesOnBehind_38 : decode cX9_goesOnBehind 38 = .ok (.getfield 222, 3) := by decide +kernel
theorem dX9_goesOnBehind_41 : decode cX9_goesOnBehind 41 = .ok (.iconst 0, 1) := by decide +kernel
theorem dX9_goesOnBehind_42 : decode cX9_goesOnBehind 42 = .ok (.iastore, 1) := by decide +kernel
theorem dX9_goesOnBehind_43 : decode cX9_goesOnBehind 43 = .ok (.aload_n 0, 1) := by decide +kernel
theorem dX9_goesOnBehind_44 : decode cX9_goesOnBehind 44 = .ok (.bipush 43, 2) := by decide +kernel
theorem dX9_goesOnBehind_46 : decode cX9_goesOnBehind 46 = .ok (.invokevirtual 189, 3) := by decide +kernel
theorem dX9_goesOnBehind_49 : decode cX9_goesOnBehind 49 = .ok (.ifCond .ne 12, 3) := by decide +kernel
theorem dX9_goesOnBehind_52 : decode cX9_goesOnBehind 52 = .ok (.aload_n 0, 1) := by decide +kernel
theorem dX9_goesOnBehind_53 : decode cX9_goesOnBehind 53 = .ok (.bipush 45, 2) := by decide +kernel
theorem dX9_goesOnBehind_55 : decode cX9_goesOnBehind 55 = .ok (.invokevirtual 189, 3) := by decide +kernel
theorem dX9_goesOnBehind_58 : decode cX9_goesOnBehind 58 = .ok (.ifCond .eq 38, 3) := by decide +kernel
theorem dX9_goesOnBehind_61 : decode cX9_goesOnBehind 61 = .ok (.aload_n 0, 1) := by decide +kernel
theorem dX9_goesOnBehind_62 : decode cX9_goesOnBehind 62 = .ok (.getfield 70, 3) := by decide +kernel
theorem dX9_goesOnBehind_65 : decode cX9_goesOnBehind 65 = .ok (.aload_n 0, 1) := by decide +kernel
theorem dX9_goesOnBehind_66 : decode cX9_goesOnBehind 66 = .ok (.getfield 222, 3) := by decide +kernel
theorem dX9_goesOnBehind_69 : decode cX9_goesOnBehind 69 = .ok (.aload_n 0, 1) := by decide +kernel
theorem dX9_goesOnBehind_70 : decode cX9_goesOnBehind 70 = .ok (.bipush 43, 2) := by decide +kernel
theorem dX9_goesOnBehind_72 : decode cX9_goesOnBehind 72 = .ok (.invokevirtual 189, 3) := by decide +kernel
theorem dX9_goesOnBehind_75 : decode cX9_goesOnBehind 75 = .ok (.ifCond .eq 7, 3) := by decide +kernel
theorem dX9_goesOnBehind_78 : decode cX9_goesOnBehind 78 = .ok (.iconst 3, 1) := by decide +kernel
theorem dX9_goesOnBehind_79 : decode cX9_goesOnBehind 79 = .ok (.goto 4, 3) := by decide +kernel
theorem dX9_goesOnBehind_82 : decode cX9_goesOnBehind 82 = .ok (.iconst 4, 1) := by decide +kernel
theorem dX9_goesOnBehind_83 : decode cX9_goesOnBehind 83 = .ok (.iastore, 1) := by decide +kernel
theorem dX9_goesOnBehind_84 : decode cX9_goesOnBehind 84 = .ok (.aload_n 0, 1) := by decide +kernel
theorem dX9_goesOnBehind_85 : decode cX9_goesOnBehind 85 = .ok (.dup, 1) := by decide +kernel
theorem dX9_goesOnBehind_86 : decode cX9_goesOnBehind 86 = .ok (.getfield 183, 3) := by decide +kernel
theorem dX9_goesOnBehind_89 : decode cX9_goesOnBehind 89 = .ok (.iconst 1, 1) := by decide +kernel
theorem dX9_goesOnBehind_90 : decode cX9_goesOnBehind 90 = .ok (.iadd, 1) := by decide +kernel
theorem dX9_goesOnBehind_91 : decode cX9_goesOnBehind 91 = .ok (.putfield 183, 3) := by decide +kernel
theorem dX9_goesOnBehind_94 : decode cX9_goesOnBehind 94 = .ok (.iconst 1, 1) := by decide +kernel
theorem dX9_goesOnBehind_95 : decode cX9_goesOnBehind 95 = .ok (.ireturn, 1) := by decide +kernel
theorem dX9_goesOnBehind_96 : decode cX9_goesOnBehind 96 = .ok (.aload_n 0, 1) := by decide +kernel
theorem dX9_goesOnBehind_97 : decode cX9_goesOnBehind 97 = .ok (.getfield 73, 3) := by decide +kernel
theorem dX9_goesOnBehind_100 : decode cX9_goesOnBehind 100 = .ok (.aload_n 0, 1) := by decide +kernel
theorem dX9_goesOnBehind_101 : decode cX9_goesOnBehind 101 = .ok (.getfield 222, 3) := by decide +kernel
theorem dX9_goesOnBehind_104 : decode cX9_goesOnBehind 104 = .ok (.iaload, 1) := by decide +kernel
theorem dX9_goesOnBehind_105 : decode cX9_goesOnBehind 105 = .ok (.ifCond .eq 30, 3) := by decide +kernel
theorem dX9_goesOnBehind_108 : decode cX9_goesOnBehind 108 = .ok (.aload_n 0, 1) := by decide +kernel
theorem dX9_goesOnBehind_109 : decode cX9_goesOnBehind 109 = .ok (.aload_n 0, 1) := by decide +kernel
theorem dX9_goesOnBehind_110 : decode cX9_goesOnBehind 110 = .ok (.getfield 73, 3) := by decide +kernel
theorem dX9_goesOnBehind_113 : decode cX9_goesOnBehind 113 = .ok (.aload_n 0, 1) := by decide +kernel
theorem dX9_goesOnBehind_114 : decode cX9_goesOnBehind 114 = .ok (.getfield 222, 3) := by decide +kernel
theorem dX9_goesOnBehind_117 : decode cX9_goesOnBehind 117 = .ok (.iaload, 1) := by decide +kernel
theorem dX9_goesOnBehind_118 : decode cX9_goesOnBehind 118 = .ok (.iconst 0, 1) := by decide +kernel
theorem dX9_goesOnBehind_119 : decode cX9_goesOnBehind 119 = .ok (.invokevirtual 235, 3) := by decide +kernel
theorem dX9_goesOnBehind_122 : decode cX9_goesOnBehind 122 = .ok (.aload_n 0, 1) := by decide +kernel
theorem dX9_goesOnBehind_123 : decode cX9_goesOnBehind 123 = .ok (.getfield 73, 3) := by decide +kernel
theorem dX9_goesOnBehind_126 : decode cX9_goesOnBehind 126 = .ok (.aload_n 0, 1) := by decide +kernel
theorem dX9_goesOnBehind_127 : decode cX9_goesOnBehind 127 = .ok (.getfield 222, 3) := by decide +kernel
theorem dX9_goesOnBehind_130 : decode cX9_goesOnBehind 130 = .ok (.iconst 0, 1) := by decide +kernel
theorem dX9_goesOnBehind_131 : decode cX9_goesOnBehind 131 = .ok (.iastore, 1) := by decide +kernel
theorem dX9_goesOnBehind_132 : decode cX9_goesOnBehind 132 = .ok (.goto 57, 3) := by decide +kernel
theorem dX9_goesOnBehind_135 : decode cX9_goesOnBehind 135 = .ok (.aload_n 0, 1) := by decide +kernel
theorem dX9_goesOnBehind_136 : decode cX9_goesOnBehind 136 = .ok (.bipush 60, 2) := by decide +kernel
theorem dX9_goesOnBehind_138 : decode cX9_goesOnBehind 138 = .ok (.invokevirtual 189, 3) := by decide +kernel
theorem dX9_goesOnBehind_141 : decode cX9_goesOnBehind 141 = .ok (.ifCond .ne 12, 3) := by decide +kernel
theorem dX9_goesOnBehind_144 : decode cX9_goesOnBehind 144 = .ok (.aload_n 0, 1) := by decide +kernel
theorem dX9_goesOnBehind_145 : decode cX9_goesOnBehind 145 = .ok (.bipush 61, 2) := by decide +kernel
theorem dX9_goesOnBehind_147 : decode cX9_goesOnBehind 147 = .ok (.invokevirtual 189, 3) := by decide +kernel
theorem dX9_goesOnBehind_150 : decode cX9_goesOnBehind 150 = .ok (.ifCond .eq 39, 3) := by decide +kernel
theorem dX9_goesOnBehind_153 : decode cX9_goesOnBehind 153 = .ok (.aload_n 0, 1) := by decide +kernel
theorem dX9_goesOnBehind_154 : decode cX9_goesOnBehind 154 = .ok (.getfield 73, 3) := by decide +kernel
theorem dX9_goesOnBehind_157 : decode cX9_goesOnBehind 157 = .ok (.aload_n 0, 1) := by decide +kernel
theorem dX9_goesOnBehind_158 : decode cX9_goesOnBehind 158 = .ok (.getfield 222, 3) := by decide +kernel
theorem dX9_goesOnBehind_161 : decode cX9_goesOnBehind 161 = .ok (.aload_n 0, 1) := by decide +kernel
theorem dX9_goesOnBehind_162 : decode cX9_goesOnBehind 162 = .ok (.bipush 60, 2) := by decide +kernel
theorem dX9_goesOnBehind_164 : decode cX9_goesOnBehind 164 = .ok (.invokevirtual 189, 3) := by decide +kernel
theorem dX9_goesOnBehind_167 : decode cX9_goesOnBehind 167 = .ok (.ifCond .eq 7, 3) := by decide +kernel
theorem dX9_goesOnBehind_170 : decode cX9_goesOnBehind 170 = .ok (.iconst 5, 1) := by decide +kernel
theorem dX9_goesOnBehind_171 : decode cX9_goesOnBehind 171 = .ok (.goto 5, 3) := by decide +kernel
theorem dX9_goesOnBehind_174 : decode cX9_goesOnBehind 174 = .ok (.bipush 6, 2) := by decide +kernel
theorem dX9_goesOnBehind_176 : decode cX9_goesOnBehind 176 = .ok (.iastore, 1) := by decide +kernel
theorem dX9_goesOnBehind_177 : decode cX9_goesOnBehind 177 = .ok (.aload_n 0, 1) := by decide +kernel
theorem dX9_goesOnBehind_178 : decode cX9_goesOnBehind 178 = .ok (.dup, 1) := by decide +kernel
theorem dX9_goesOnBehind_179 : decode cX9_goesOnBehind 179 = .ok (.getfield 183, 3) := by decide +kernel
theorem dX9_goesOnBehind_182 : decode cX9_goesOnBehind 182 = .ok (.iconst 1, 1) := by decide +kernel
theorem dX9_goesOnBehind_183 : decode cX9_goesOnBehind 183 = .ok (.iadd, 1) := by decide +kernel
theorem dX9_goesOnBehind_184 : decode cX9_goesOnBehind 184 = .ok (.putfield 183, 3) := by decide +kernel
theorem dX9_goesOnBehind_187 : decode cX9_goesOnBehind 187 = .ok (.iconst 1, 1) := by decide +kernel
theorem dX9_goesOnBehind_188 : decode cX9_goesOnBehind 188 = .ok (.ireturn, 1) := by decide +kernel
theorem dX9_goesOnBehind_189 : decode cX9_goesOnBehind 189 = .ok (.aload_n 0, 1) := by decide +kernel
theorem dX9_goesOnBehind_190 : decode cX9_goesOnBehind 190 = .ok (.getfield 76, 3) := by decide +kernel
theorem dX9_goesOnBehind_193 : decode cX9_goesOnBehind 193 = .ok (.aload_n 0, 1) := by decide +kernel
theorem dX9_goesOnBehind_194 : decode cX9_goesOnBehind 194 = .ok (.getfield 222, 3) := by decide +kernel
theorem dX9_goesOnBehind_197 : decode cX9_goesOnBehind 197 = .ok (.iaload, 1) := by decide +kernel
theorem dX9_goesOnBehind_198 : decode cX9_goesOnBehind 198 = .ok (.ifCond .eq 20, 3) := by decide +kernel
theorem dX9_goesOnBehind_201 : decode cX9_goesOnBehind 201 = .ok (.aload_n 0, 1) := by decide +kernel
theorem dX9_goesOnBehind_202 : decode cX9_goesOnBehind 202 = .ok (.bipush 7, 2) := by decide +kernel
theorem dX9_goesOnBehind_204 : decode cX9_goesOnBehind 204 = .ok (.iconst 0, 1) := by decide +kernel
theorem dX9_goesOnBehind_205 : decode cX9_goesOnBehind 205 = .ok (.invokevirtual 235, 3) := by decide +kernel
theorem dX9_goesOnBehind_208 : decode cX9_goesOnBehind 208 = .ok (.aload_n 0, 1) := by decide +kernel
theorem dX9_goesOnBehind_209 : decode cX9_goesOnBehind 209 = .ok (.getfield 76, 3) := by decide +kernel
theorem dX9_goesOnBehind_212 : decode cX9_goesOnBehind 212 = .ok (.aload_n 0, 1) := by decide +kernel
theorem dX9_goesOnBehind_213 : decode cX9_goesOnBehind 213 = .ok (.getfield 222, 3) := by decide +kernel
theorem dX9_goesOnBehind_216 : decode cX9_goesOnBehind 216 = .ok (.iconst 0, 1) := by decide +kernel
theorem dX9_goesOnBehind_217 : decode cX9_goesOnBehind 217 = .ok (.iastore, 1) := by decide +kernel
theorem dX9_goesOnBehind_218 : decode cX9_goesOnBehind 218 = .ok (.aload_n 0, 1) := by decide +kernel
theorem dX9_goesOnBehind_219 : decode cX9_goesOnBehind 219 = .ok (.iconst 2, 1) := by decide +kernel
theorem dX9_goesOnBehind_220 : decode cX9_goesOnBehind 220 = .ok (.invokevirtual 196, 3) := by decide +kernel
theorem dX9_goesOnBehind_223 : decode cX9_goesOnBehind 223 = .ok (.ifCond .eq 26, 3) := by decide +kernel
theorem dX9_goesOnBehind_226 : decode cX9_goesOnBehind 226 = .ok (.aload_n 0, 1) := by decide +kernel
theorem dX9_goesOnBehind_227 : decode cX9_goesOnBehind 227 = .ok (.getfield 76, 3) := by decide +kernel
theorem dX9_goesOnBehind_230 : decode cX9_goesOnBehind 230 = .ok (.aload_n 0, 1) := by decide +kernel
theorem dX9_goesOnBehind_231 : decode cX9_goesOnBehind 231 = .ok (.getfield 222, 3) := by decide +kernel
theorem dX9_goesOnBehind_234 : decode cX9_goesOnBehind 234 = .ok (.bipush 7, 2) := by decide +kernel
theorem dX9_goesOnBehind_236 : decode cX9_goesOnBehind 236 = .ok (.iastore, 1) := by decide +kernel
theorem dX9_goesOnBehind_237 : decode cX9_goesOnBehind 237 = .ok (.aload_n 0, 1) := by decide +kernel
theorem dX9_goesOnBehind_238 : decode cX9_goesOnBehind 238 = .ok (.dup, 1) := by decide +kernel
theorem dX9_goesOnBehind_239 : decode cX9_goesOnBehind 239 = .ok (.getfield 183, 3) := by decide +kernel
theorem dX9_goesOnBehind_242 : decode cX9_goesOnBehind 242 = .ok (.iconst 1, 1) := by decide +kernel
theorem dX9_goesOnBehind_243 : decode cX9_goesOnBehind 243 = .ok (.iadd, 1) := by decide +kernel
theorem dX9_goesOnBehind_244 : decode cX9_goesOnBehind 244 = .ok (.putfield 183, 3) := by decide +kernel
theorem dX9_goesOnBehind_247 : decode cX9_goesOnBehind 247 = .ok (.iconst 1, 1) := by decide +kernel
theorem dX9_goesOnBehind_248 : decode cX9_goesOnBehind 248 = .ok (.ireturn, 1) := by decide +kernel
theorem dX9_goesOnBehind_249 : decode cX9_goesOnBehind 249 = .ok (.aload_n 0, 1) := by decide +kernel
theorem dX9_goesOnBehind_250 : decode cX9_goesOnBehind 250 = .ok (.getfield 222, 3) := by decide +kernel
theorem dX9_goesOnBehind_253 : decode cX9_goesOnBehind 253 = .ok (.ifCond .ne 5, 3) := by decide +kernel
theorem dX9_goesOnBehind_256 : decode cX9_goesOnBehind 256 = .ok (.iconst 0, 1) := by decide +kernel
theorem dX9_goesOnBehind_257 : decode cX9_goesOnBehind 257 = .ok (.ireturn, 1) := by decide +kernel
theorem dX9_goesOnBehind_258 : decode cX9_goesOnBehind 258 = .ok (.aload_n 0, 1) := by decide +kernel
theorem dX9_goesOnBehind_259 : decode cX9_goesOnBehind 259 = .ok (.bipush 41, 2) := by decide +kernel
theorem dX9_goesOnBehind_261 : decode cX9_goesOnBehind 261 = .ok (.invokevirtual 239, 3) := by decide +kernel
theorem dX9_goesOnBehind_264 : decode cX9_goesOnBehind 264 = .ok (.aload_n 0, 1) := by decide +kernel
theorem dX9_goesOnBehind_265 : decode cX9_goesOnBehind 265 = .ok (.dup, 1) := by decide +kernel
theorem dX9_goesOnBehind_266 : decode cX9_goesOnBehind 266 = .ok (.getfield 222, 3) := by decide +kernel
theorem dX9_goesOnBehind_269 : decode cX9_goesOnBehind 269 = .ok (.iconst 1, 1) := by decide +kernel
theorem dX9_goesOnBehind_270 : decode cX9_goesOnBehind 270 = .ok (.isub, 1) := by decide +kernel
theorem dX9_goesOnBehind_271 : decode cX9_goesOnBehind 271 = .ok (.putfield 222, 3) := by decide +kernel
theorem dX9_goesOnBehind_274 : decode cX9_goesOnBehind 274 = .ok (.goto (-274), 3) := by decide +kernel
theorem dX9_goesOnBehind_277 : decode cX9_goesOnBehind 277 = .ok (.iconst 0, 1) := by decide +kernel
theorem dX9_goesOnBehind_278 : decode cX9_goesOnBehind 278 = .ok (.ireturn, 1) := by decide +kernel
theorem dX9_worth_0 : decode cX9_worth 0 = .ok (.iload_n 1, 1) := by decide +kernel
theorem dX9_worth_1 : decode cX9_worth 1 = .ok (.istore_n 2, 1) := by decide +kernel
theorem dX9_worth_2 : decode cX9_worth 2 = .ok (.iconst 0, 1) := by decide +kernel
theorem dX9_worth_3 : decode cX9_worth 3 = .ok (.istore_n 3, 1) := by decide +kernel
theorem dX9_worth_4 : decode cX9_worth 4 = .ok (.aload_n 0, 1) := by decide +kernel
theorem dX9_worth_5 : decode cX9_worth 5 = .ok (.getfield 64, 3) := by decide +kernel
theorem dX9_worth_8 : decode cX9_worth 8 = .ok (.iload_n 2, 1) := by decide +kernel
theorem dX9_worth_9 : decode cX9_worth 9 = .ok (.iaload, 1) := by decide +kernel
theorem dX9_worth_10 : decode cX9_worth 10 = .ok (.ifCond .eq 182, 3) := by decide +kernel
theorem dX9_worth_13 : decode cX9_worth 13 = .ok (.aload_n 0, 1) := by decide +kernel
theorem dX9_worth_14 : decode cX9_worth 14 = .ok (.getfield 64, 3) := by decide +kernel
theorem dX9_worth_17 : decode cX9_worth 17 = .ok (.iload_n 2, 1) := by decide +kernel
theorem dX9_worth_18 : decode cX9_worth 18 = .ok (.iaload, 1) := by decide +kernel
theorem dX9_worth_19 : decode cX9_worth 19 = .ok (.istore 4, 2) := by decide +kernel
theorem dX9_worth_21 : decode cX9_worth 21 = .ok (.iload 4, 2) := by decide +kernel
theorem dX9_worth_23 : decode cX9_worth 23 = .ok (.iconst 1, 1) := by decide +kernel
theorem dX9_worth_24 : decode cX9_worth 24 = .ok (.if_icmp .eq 9, 3) := by decide +kernel
theorem dX9_worth_27 : decode cX9_worth 27 = .ok (.iload 4, 2) := by decide +kernel
theorem dX9_worth_29 : decode cX9_worth 29 = .ok (.iconst 2, 1) := by decide +kernel
theorem dX9_worth_30 : decode cX9_worth 30 = .ok (.if_icmp .ne 41, 3) := by decide +kernel
theorem dX9_worth_33 : decode cX9_worth 33 = .ok (.aload_n 0, 1) := by decide +kernel
theorem dX9_worth_34 : decode cX9_worth 34 = .ok (.getfield 82, 3) := by decide +kernel
theorem dX9_worth_37 : decode cX9_worth 37 = .ok (.iload_n 3, 1) := by decide +kernel
theorem dX9_worth_38 : decode cX9_worth 38 = .ok (.iload 4, 2) := by decide +kernel
theorem dX9_worth_40 : decode cX9_worth 40 = .ok (.iconst 1, 1) := by decide +kernel
theorem dX9_worth_41 : decode cX9_worth 41 = .ok (.if_icmp .ne 12, 3) := by decide +kernel
theorem dX9_worth_44 : decode cX9_worth 44 = .ok (.aload_n 0, 1) := by decide +kernel
theorem dX9_worth_45 : decode cX9_worth 45 = .ok (.getfield 67, 3) := by decide +kernel
theorem dX9_worth_48 : decode cX9_worth 48 = .ok (.iload_n 2, 1) := by decide +kernel
theorem dX9_worth_49 : decode cX9_worth 49 = .ok (.iaload, 1) := by decide +kernel
theorem dX9_worth_50 : decode cX9_worth 50 = .ok (.goto 14, 3) := by decide +kernel
theorem dX9_worth_53 : decode cX9_worth 53 = .ok (.aload_n 0, 1) := by decide +kernel
theorem dX9_worth_54 : decode cX9_worth 54 = .ok (.getfield 79, 3) := by decide +kernel
theorem dX9_worth_57 : decode cX9_worth 57 = .ok (.aload_n 0, 1) := by decide +kernel
theorem dX9_worth_58 : decode cX9_worth 58 = .ok (.getfield 67, 3) := by decide +kernel
theorem dX9_worth_61 : decode cX9_worth 61 = .ok (.iload_n 2, 1) := by decide +kernel
theorem dX9_worth_62 : decode cX9_worth 62 = .ok (.iaload, 1) := by decide +kernel
theorem dX9_worth_63 : decode cX9_worth 63 = .ok (.iaload, 1) := by decide +kernel
theorem dX9_worth_64 : decode cX9_worth 64 = .ok (.iastore, 1) := by decide +kernel
theorem dX9_worth_65 : decode cX9_worth 65 = .ok (.iinc 3 1, 3) := by decide +kernel
theorem dX9_worth_68 : decode cX9_worth 68 = .ok (.goto 118, 3) := by decide +kernel
theorem dX9_worth_71 : decode cX9_worth 71 = .ok (.iinc 3 (-1), 3) := by decide +kernel
theorem dX9_worth_74 : decode cX9_worth 74 = .ok (.aload_n 0, 1) := by decide +kernel
theorem dX9_worth_75 : decode cX9_worth 75 = .ok (.getfield 82, 3) := by decide +kernel
theorem dX9_worth_78 : decode cX9_worth 78 = .ok (.iload_n 3, 1) := by decide +kernel
theorem dX9_worth_79 : decode cX9_worth 79 = .ok (.iaload, 1) := by decide +kernel
theorem dX9_worth_80 : decode cX9_worth 80 = .ok (.istore 5, 2) := by decide +kernel
theorem dX9_worth_82 : decode cX9_worth 82 = .ok (.aload_n 0, 1) := by decide +kernel
theorem dX9_worth_83 : decode cX9_worth 83 = .ok (.getfield 82, 3) := by decide +kernel
theorem dX9_worth_86 : decode cX9_worth 86 = .ok (.iload_n 3, 1) := by decide +kernel
theorem dX9_worth_87 : decode cX9_worth 87 = .ok (.iconst 1, 1) := by decide +kernel
theorem dX9_worth_88 : decode cX9_worth 88 = .ok (.isub, 1) := by decide +kernel
theorem dX9_worth_89 : decode cX9_worth 89 = .ok (.iaload, 1) := by decide +kernel
theorem dX9_worth_90 : decode cX9_worth 90 = .ok (.istore 6, 2) := by decide +kernel
theorem dX9_worth_92 : decode cX9_worth 92 = .ok (.aload_n 0, 1) := by decide +kernel
theorem dX9_worth_93 : decode cX9_worth 93 = .ok (.getfield 82, 3) := by decide +kernel
theorem dX9_worth_96 : decode cX9_worth 96 = .ok (.iload_n 3, 1) := by decide +kernel
theorem dX9_worth_97 : decode cX9_worth 97 = .ok (.iconst 1, 1) := by decide +kernel
theorem dX9_worth_98 : decode cX9_worth 98 = .ok (.isub, 1) := by decide +kernel
theorem dX9_worth_99 : decode cX9_worth 99 = .ok (.iload 4, 2) := by decide +kernel
theorem dX9_worth_101 : decode cX9_worth 101 = .ok (.iconst 3, 1) := by decide +kernel
theorem dX9_worth_102 : decode cX9_worth 102 = .ok (.if_icmp .ne 11, 3) := by decide +kernel
theorem dX9_worth_105 : decode cX9_worth 105 = .ok (.iload 6, 2) := by decide +kernel
theorem dX9_worth_107 : decode cX9_worth 107 = .ok (.iload 5, 2) := by decide +kernel
theorem dX9_worth_109 : decode cX9_worth 109 = .ok (.iadd, 1) := by decide +kernel
theorem dX9_worth_110 : decode cX9_worth 110 = .ok (.goto 75, 3) := by decide +kernel
theorem dX9_worth_113 : decode cX9_worth 113 = .ok (.iload 4, 2) := by decide +kernel
theorem dX9_worth_115 : decode cX9_worth 115 = .ok (.iconst 4, 1) := by decide +kernel
theorem dX9_worth_116 : decode cX9_worth 116 = .ok (.if_icmp .ne 11, 3) := by decide +kernel
theorem dX9_worth_119 : decode cX9_worth 119 = .ok (.iload 6, 2) := by decide +kernel
theorem dX9_worth_121 : decode cX9_worth 121 = .ok (.iload 5, 2) := by decide +kernel
theorem dX9_worth_123 : decode cX9_worth 123 = .ok (.isub, 1) := by decide +kernel
theorem dX9_worth_124 : decode cX9_worth 124 = .ok (.goto 61, 3) := by decide +kernel
theorem dX9_worth_127 : decode cX9_worth 127 = .ok (.iload 4, 2) := by decide +kernel
theorem dX9_worth_129 : decode cX9_worth 129 = .ok (.iconst 5, 1) := by decide +kernel
theorem dX9_worth_130 : decode cX9_worth 130 = .ok (.if_icmp .ne 18, 3) := by decide +kernel
theorem dX9_worth_133 : decode cX9_worth 133 = .ok (.iload 6, 2) := by decide +kernel
theorem dX9_worth_135 : decode cX9_worth 135 = .ok (.iload 5, 2) := by decide +kernel
theorem dX9_worth_137 : decode cX9_worth 137 = .ok (.if_icmp .ge 7, 3) := by decide +kernel
theorem dX9_worth_140 : decode cX9_worth 140 = .ok (.iconst 1, 1) := by decide +kernel
theorem dX9_worth_141 : decode cX9_worth 141 = .ok (.goto 44, 3) := by decide +kernel
theorem dX9_worth_144 : decode cX9_worth 144 = .ok (.iconst 0, 1) := by decide +kernel
theorem dX9_worth_145 : decode cX9_worth 145 = .ok (.goto 40, 3) := by decide +kernel
theorem dX9_worth_148 : decode cX9_worth 148 = .ok (.iload 4, 2) := by decide +kernel
theorem dX9_worth_150 : decode cX9_worth 150 = .ok (.bipush 6, 2) := by decide +kernel
theorem dX9_worth_152 : decode cX9_worth 152 = .ok (.if_icmp .ne 18, 3) := by decide +kernel
theorem dX9_worth_155 : decode cX9_worth 155 = .ok (.iload 6, 2) := by decide +kernel
theorem dX9_worth_157 : decode cX9_worth 157 = .ok (.iload 5, 2) := by decide +kernel
theorem dX9_worth_159 : decode cX9_worth 159 = .ok (.if_icmp .ne 7, 3) := by decide +kernel
theorem dX9_worth_162 : decode cX9_worth 162 = .ok (.iconst 1, 1) := by decide +kernel
theorem dX9_worth_163 : decode cX9_worth 163 = .ok (.goto 22, 3) := by decide +kernel
theorem dX9_worth_166 : decode cX9_worth 166 = .ok (.iconst 0, 1) := by decide +kernel
theorem dX9_worth_167 : decode cX9_worth 167 = .ok (.goto 18, 3) := by decide +kernel
theorem dX9_worth_170 : decode cX9_worth 170 = .ok (.iload 6, 2) := by decide +kernel
theorem dX9_worth_172 : decode cX9_worth 172 = .ok (.ifCond .eq 12, 3) := by decide +kernel
theorem dX9_worth_175 : decode cX9_worth 175 = .ok (.iload 5, 2) := by decide +kernel
theorem dX9_worth_177 : decode cX9_worth 177 = .ok (.ifCond .eq 7, 3) := by decide +kernel
theorem dX9_worth_180 : decode cX9_worth 180 = .ok (.iconst 1, 1) := by decide +kernel
theorem dX9_worth_181 : decode cX9_worth 181 = .ok (.goto 4, 3) := by decide +kernel
theorem dX9_worth_184 : decode cX9_worth 184 = .ok (.iconst 0, 1) := by decide +kernel
theorem dX9_worth_185 : decode cX9_worth 185 = .ok (.iastore, 1) := by decide +kernel
theorem dX9_worth_186 : decode cX9_worth 186 = .ok (.iinc 2 1, 3) := by decide +kernel
theorem dX9_worth_189 : decode cX9_worth 189 = .ok (.goto (-185), 3) := by decide +kernel
theorem dX9_worth_192 : decode cX9_worth 192 = .ok (.aload_n 0, 1) := by decide +kernel
theorem dX9_worth_193 : decode cX9_worth 193 = .ok (.getfield 82, 3) := by decide +kernel
theorem dX9_worth_196 : decode cX9_worth 196 = .ok (.iconst 0, 1) := by decide +kernel
theorem dX9_worth_197 : decode cX9_worth 197 = .ok (.iaload, 1) := by decide +kernel
theorem dX9_worth_198 : decode cX9_worth 198 = .ok (.ireturn, 1) := by decide +kernel
theorem dX9_examiner_0 : decode cX9_examiner 0 = .ok (.aload_n 0, 1) := by decide +kernel
theorem dX9_examiner_1 : decode cX9_examiner 1 = .ok (.iconst 0, 1) := by decide +kernel
theorem dX9_examiner_2 : decode cX9_examiner 2 = .ok (.putfield 1, 3) := by decide +kernel
theorem dX9_examiner_5 : decode cX9_examiner 5 = .ok (.aload_n 0, 1) := by decide +kernel
theorem dX9_examiner_6 : decode cX9_examiner 6 = .ok (.getfield 249, 3) := by decide +kernel
theorem dX9_examiner_9 : decode cX9_examiner 9 = .ok (.bipush 8, 2) := by decide +kernel
theorem dX9_examiner_11 : decode cX9_examiner 11 = .ok (.if_icmp .ne 5, 3) := by decide +kernel
theorem dX9_examiner_14 : decode cX9_examiner 14 = .ok (.iconst (-1), 1) := by decide +kernel
theorem dX9_examiner_15 : decode cX9_examiner 15 = .ok (.ireturn, 1) := by decide +kernel
theorem dX9_examiner_16 : decode cX9_examiner 16 = .ok (.aload_n 0, 1) := by decide +kernel
theorem dX9_examiner_17 : decode cX9_examiner 17 = .ok (.dup, 1) := by decide +kernel
theorem dX9_examiner_18 : decode cX9_examiner 18 = .ok (.getfield 249, 3) := by decide +kernel
theorem dX9_examiner_21 : decode cX9_examiner 21 = .ok (.iconst 1, 1) := by decide +kernel
theorem dX9_examiner_22 : decode cX9_examiner 22 = .ok (.iadd, 1) := by decide +kernel
theorem dX9_examiner_23 : decode cX9_examiner 23 = .ok (.putfield 249, 3) := by decide +kernel
theorem dX9_examiner_26 : decode cX9_examiner 26 = .ok (.aload_n 0, 1) := by decide +kernel
theorem dX9_examiner_27 : decode cX9_examiner 27 = .ok (.getfield 249, 3) := by decide +kernel
theorem dX9_examiner_30 : decode cX9_examiner 30 = .ok (.iconst 1, 1) := by decide +kernel
theorem dX9_examiner_31 : decode cX9_examiner 31 = .ok (.isub, 1) := by decide +kernel
theorem dX9_examiner_32 : decode cX9_examiner 32 = .ok (.ireturn, 1) := by decide +kernel
theorem dX9_hasHour_0 : decode cX9_hasHour 0 = .ok (.aload_n 0, 1) := by decide +kernel
theorem dX9_hasHour_1 : decode cX9_hasHour 1 = .ok (.getfield 85, 3) := by decide +kernel
theorem dX9_hasHour_4 : decode cX9_hasHour 4 = .ok (.bipush 60, 2) := by decide +kernel
theorem dX9_hasHour_6 : decode cX9_hasHour 6 = .ok (.iload_n 1, 1) := by decide +kernel
theorem dX9_hasHour_7 : decode cX9_hasHour 7 = .ok (.imul, 1) := by decide +kernel
theorem dX9_hasHour_8 : decode cX9_hasHour 8 = .ok (.iload_n 2, 1) := by decide +kernel
theorem dX9_hasHour_9 : decode cX9_hasHour 9 = .ok (.iadd, 1) := by decide +kernel
theorem dX9_hasHour_10 : decode cX9_hasHour 10 = .ok (.iaload, 1) := by decide +kernel
theorem dX9_hasHour_11 : decode cX9_hasHour 11 = .ok (.istore 4, 2) := by decide +kernel
theorem dX9_hasHour_13 : decode cX9_hasHour 13 = .ok (.iload 4, 2) := by decide +kernel
theorem dX9_hasHour_15 : decode cX9_hasHour 15 = .ok (.ifCond .ge 5, 3) := by decide +kernel
theorem dX9_hasHour_18 : decode cX9_hasHour 18 = .ok (.iconst 0, 1) := by decide +kernel
theorem dX9_hasHour_19 : decode cX9_hasHour 19 = .ok (.ireturn, 1) := by decide +kernel
theorem dX9_hasHour_20 : decode cX9_hasHour 20 = .ok (.iload_n 2, 1) := by decide +kernel
theorem dX9_hasHour_21 : decode cX9_hasHour 21 = .ok (.ifCond .ne 7, 3) := by decide +kernel
theorem dX9_hasHour_24 : decode cX9_hasHour 24 = .ok (.iconst (-1), 1) := by decide +kernel
theorem dX9_hasHour_25 : decode cX9_hasHour 25 = .ok (.goto 16, 3) := by decide +kernel
theorem dX9_hasHour_28 : decode cX9_hasHour 28 = .ok (.aload_n 0, 1) := by decide +kernel
theorem dX9_hasHour_29 : decode cX9_hasHour 29 = .ok (.getfield 85, 3) := by decide +kernel
theorem dX9_hasHour_32 : decode cX9_hasHour 32 = .ok (.bipush 60, 2) := by decide +kernel
theorem dX9_hasHour_34 : decode cX9_hasHour 34 = .ok (.iload_n 1, 1) := by decide +kernel
theorem dX9_hasHour_35 : decode cX9_hasHour 35 = .ok (.imul, 1) := by decide +kernel
theorem dX9_hasHour_36 : decode cX9_hasHour 36 = .ok (.iload_n 2, 1) := by decide +kernel
theorem dX9_hasHour_37 : decode cX9_hasHour 37 = .ok (.iadd, 1) := by decide +kernel
theorem dX9_hasHour_38 : decode cX9_hasHour 38 = .ok (.iconst 1, 1) := by decide +kernel
theorem dX9_hasHour_39 : decode cX9_hasHour 39 = .ok (.isub, 1) := by decide +kernel
theorem dX9_hasHour_40 : decode cX9_hasHour 40 = .ok (.iaload, 1) := by decide +kernel
theorem dX9_hasHour_41 : decode cX9_hasHour 41 = .ok (.istore 5, 2) := by decide +kernel
theorem dX9_hasHour_43 : decode cX9_hasHour 43 = .ok (.iload_n 3, 1) := by decide +kernel
theorem dX9_hasHour_44 : decode cX9_hasHour 44 = .ok (.ifCond .gt 15, 3) := by decide +kernel
theorem dX9_hasHour_47 : decode cX9_hasHour 47 = .ok (.iload 5, 2) := by decide +kernel
theorem dX9_hasHour_49 : decode cX9_hasHour 49 = .ok (.ifCond .lt 10, 3) := by decide +kernel
theorem dX9_hasHour_52 : decode cX9_hasHour 52 = .ok (.iload 5, 2) := by decide +kernel
theorem dX9_hasHour_54 : decode cX9_hasHour 54 = .ok (.iload 4, 2) := by decide +kernel
theorem dX9_hasHour_56 : decode cX9_hasHour 56 = .ok (.if_icmp .ne 7, 3) := by decide +kernel
theorem dX9_hasHour_59 : decode cX9_hasHour 59 = .ok (.iconst 1, 1) := by decide +kernel
theorem dX9_hasHour_60 : decode cX9_hasHour 60 = .ok (.goto 4, 3) := by decide +kernel
theorem dX9_hasHour_63 : decode cX9_hasHour 63 = .ok (.iconst 0, 1) := by decide +kernel
theorem dX9_hasHour_64 : decode cX9_hasHour 64 = .ok (.ireturn, 1) := by decide +kernel
set_option maxRecDepth 20000 in
theorem ggX9_isThere_X9_hasHour : GoodIn wsX9_isThere wsX9_hasHour := goodIn_r _ [5, 6, 7, 8, 9, 10, 11, 12, 13, 14, 15, 16, 17, 18, 19, 20, 21, 22, 23, 24, 25, 26, 27, 28, 29, 30, 31, 32, 33, 34, 35, 36, 37, 38, 39, 40, 41, 42, 43, 44, 45, 46, 47, 48, 49, 50, 51, 52, 53, 54, 55, 56, 57, 58, 59, 60, 61, 62, 63, 64, 65, 66, 67, 68] (by decide +kernel) (by decide +kernel)
set_option maxRecDepth 20000 in
theorem gX9_isThere_X9_hasHour : GoodIn wsX9_isThere (wsV RX9 252 RX9 yX9_hasHour wsX9_hasHour) := goodIn_app (goodIn_of _ (by decide +kernel)) ggX9_isThere_X9_hasHour
theorem dX9_isThere_0 : decode cX9_isThere 0 = .ok (.aload_n 0, 1) := by decide +kernel
theorem dX9_isThere_1 : decode cX9_isThere 1 = .ok (.iload_n 1, 1) := by decide +kernel
theorem dX9_isThere_2 : decode cX9_isThere 2 = .ok (.bipush 8, 2) := by decide +kernel
theorem dX9_isThere_4 : decode cX9_isThere 4 = .ok (.irem, 1) := by decide +kernel
theorem dX9_isThere_5 : decode cX9_isThere 5 = .ok (.iload_n 1, 1) := by decide +kernel
theorem dX9_isThere_6 : decode cX9_isThere 6 = .ok (.bipush 48, 2) := by decide +kernel
theorem dX9_isThere_8 : decode cX9_isThere 8 = .ok (.idiv, 1) := by decide +kernel
theorem dX9_isThere_9 : decode cX9_isThere 9 = .ok (.iload_n 1, 1) := by decide +kernel
theorem dX9_isThere_10 : decode cX9_isThere 10 = .ok (.bipush 48, 2) := by decide +kernel
theorem dX9_isThere_12 : decode cX9_isThere 12 = .ok (.irem, 1) := by decide +kernel
theorem dX9_isThere_13 : decode cX9_isThere 13 = .ok (.bipush 8, 2) := by decide +kernel
theorem dX9_isThere_15 : decode cX9_isThere 15 = .ok (.idiv, 1) := by decide +kernel
theorem dX9_isThere_16 : decode cX9_isThere 16 = .ok (.invokevirtual 252, 3) := by decide +kernel
theorem dX9_isThere_19 : decode cX9_isThere 19 = .ok (.ireturn, 1) := by decide +kernel
theorem dX9_learner_0 : decode cX9_learner 0 = .ok (.aload_n 0, 1) := by decide +kernel
theorem dX9_learner_1 : decode cX9_learner 1 = .ok (.iconst 0, 1) := by decide +kernel
theorem dX9_learner_2 : decode cX9_learner 2 = .ok (.putfield 1, 3) := by decide +kernel
theorem dX9_learner_5 : decode cX9_learner 5 = .ok (.iload_n 1, 1) := by decide +kernel
theorem dX9_learner_6 : decode cX9_learner 6 = .ok (.ifCond .lt 55, 3) := by decide +kernel
theorem dX9_learner_9 : decode cX9_learner 9 = .ok (.iload_n 1, 1) := by decide +kernel
theorem dX9_learner_10 : decode cX9_learner 10 = .ok (.iconst 5, 1) := by decide +kernel
theorem dX9_learner_11 : decode cX9_learner 11 = .ok (.if_icmp .gt 50, 3) := by decide +kernel
theorem dX9_learner_14 : decode cX9_learner 14 = .ok (.iload_n 2, 1) := by decide +kernel
theorem dX9_learner_15 : decode cX9_learner 15 = .ok (.ifCond .lt 46, 3) := by decide +kernel
theorem dX9_learner_18 : decode cX9_learner 18 = .ok (.iload_n 2, 1) := by decide +kernel
theorem dX9_learner_19 : decode cX9_learner 19 = .ok (.iconst 3, 1) := by decide +kernel
theorem dX9_learner_20 : decode cX9_learner 20 = .ok (.if_icmp .gt 41, 3) := by decide +kernel
theorem dX9_learner_23 : decode cX9_learner 23 = .ok (.iload_n 3, 1) := by decide +kernel
theorem dX9_learner_24 : decode cX9_learner 24 = .ok (.ifCond .lt 37, 3) := by decide +kernel
theorem dX9_learner_27 : decode cX9_learner 27 = .ok (.iload 4, 2) := by decide +kernel
theorem dX9_learner_29 : decode cX9_learner 29 = .ok (.bipush 59, 2) := by decide +kernel
theorem dX9_learner_31 : decode cX9_learner 31 = .ok (.if_icmp .gt 30, 3) := by decide +kernel
theorem dX9_learner_34 : decode cX9_learner 34 = .ok (.iload_n 3, 1) := by decide +kernel
theorem dX9_learner_35 : decode cX9_learner 35 = .ok (.iload 4, 2) := by decide +kernel
theorem dX9_learner_37 : decode cX9_learner 37 = .ok (.if_icmp .gt 24, 3) := by decide +kernel
theorem dX9_learner_40 : decode cX9_learner 40 = .ok (.iload 5, 2) := by decide +kernel
theorem dX9_learner_42 : decode cX9_learner 42 = .ok (.ifCond .lt 19, 3) := by decide +kernel
theorem dX9_learner_45 : decode cX9_learner 45 = .ok (.iload 5, 2) := by decide +kernel
theorem dX9_learner_47 : decode cX9_learner 47 = .ok (.bipush 59, 2) := by decide +kernel
theorem dX9_learner_49 : decode cX9_learner 49 = .ok (.if_icmp .gt 12, 3) := by decide +kernel
theorem dX9_learner_52 : decode cX9_learner 52 = .ok (.aload_n 0, 1) := by decide +kernel
theorem dX9_learner_53 : decode cX9_learner 53 = .ok (.getfield 256, 3) := by decide +kernel
theorem dX9_learner_56 : decode cX9_learner 56 = .ok (.bipush 60, 2) := by decide +kernel
theorem dX9_learner_58 : decode cX9_learner 58 = .ok (.if_icmp .ne 5, 3) := by decide +kernel
theorem dX9_learner_61 : decode cX9_learner 61 = .ok (.iconst (-1), 1) := by decide +kernel
theorem dX9_learner_62 : decode cX9_learner 62 = .ok (.ireturn, 1) := by decide +kernel
theorem dX9_learner_63 : decode cX9_learner 63 = .ok (.aload_n 0, 1) := by decide +kernel
theorem dX9_learner_64 : decode cX9_learner 64 = .ok (.getfield 98, 3) := by decide +kernel
theorem dX9_learner_67 : decode cX9_learner 67 = .ok (.aload_n 0, 1) := by decide +kernel
theorem dX9_learner_68 : decode cX9_learner 68 = .ok (.getfield 256, 3) := by decide +kernel
theorem dX9_learner_71 : decode cX9_learner 71 = .ok (.iload_n 1, 1) := by decide +kernel
theorem dX9_learner_72 : decode cX9_learner 72 = .ok (.iastore, 1) := by decide +kernel
theorem dX9_learner_73 : decode cX9_learner 73 = .ok (.aload_n 0, 1) := by decide +kernel
theorem dX9_learner_74 : decode cX9_learner 74 = .ok (.getfield 101, 3) := by decide +kernel
theorem dX9_learner_77 : decode cX9_learner 77 = .ok (.aload_n 0, 1) := by decide +kernel
theorem dX9_learner_78 : decode cX9_learner 78 = .ok (.getfield 256, 3) := by decide +kernel
theorem dX9_learner_81 : decode cX9_learner 81 = .ok (.iload_n 2, 1) := by decide +kernel
theorem dX9_learner_82 : decode cX9_learner 82 = .ok (.iastore, 1) := by decide +kernel
theorem dX9_learner_83 : decode cX9_learner 83 = .ok (.aload_n 0, 1) := by decide +kernel
theorem dX9_learner_84 : decode cX9_learner 84 = .ok (.getfield 104, 3) := by decide +kernel
theorem dX9_learner_87 : decode cX9_learner 87 = .ok (.aload_n 0, 1) := by decide +kernel
theorem dX9_learner_88 : decode cX9_learner 88 = .ok (.getfield 256, 3) := by decide +kernel
theorem dX9_learner_91 : decode cX9_learner 91 = .ok (.iload_n 3, 1) := by decide +kernel
theorem dX9_learner_92 : decode cX9_learner 92 = .ok (.iastore, 1) := by decide +kernel
theorem dX9_learner_93 : decode cX9_learner 93 = .ok (.aload_n 0, 1) := by decide +kernel
theorem dX9_learner_94 : decode cX9_learner 94 = .ok (.getfield 107, 3) := by decide +kernel
theorem dX9_learner_97 : decode cX9_learner 97 = .ok (.aload_n 0, 1) := by decide +kernel
theorem dX9_learner_98 : decode cX9_learner 98 = .ok (.getfield 256, 3) := by decide +kernel
theorem dX9_learner_101 : decode cX9_learner 101 = .ok (.iload 4, 2) := by decide +kernel
theorem dX9_learner_103 : decode cX9_learner 103 = .ok (.iastore, 1) := by decide +kernel
theorem dX9_learner_104 : decode cX9_learner 104 = .ok (.aload_n 0, 1) := by decide +kernel
theorem dX9_learner_105 : decode cX9_learner 105 = .ok (.getfield 110, 3) := by decide +kernel
theorem dX9_learner_108 : decode cX9_learner 108 = .ok (.aload_n 0, 1) := by decide +kernel
theorem dX9_learner_109 : decode cX9_learner 109 = .ok (.getfield 256, 3) := by decide +kernel
theorem dX9_learner_112 : decode cX9_learner 112 = .ok (.iload 5, 2) := by decide +kernel
theorem dX9_learner_114 : decode cX9_learner 114 = .ok (.iastore, 1) := by decide +kernel
theorem dX9_learner_115 : decode cX9_learner 115 = .ok (.aload_n 0, 1) := by decide +kernel
theorem dX9_learner_116 : decode cX9_learner 116 = .ok (.getfield 113, 3) := by decide +kernel
theorem dX9_learner_119 : decode cX9_learner 119 = .ok (.aload_n 0, 1) := by decide +kernel
theorem dX9_learner_120 : decode cX9_learner 120 = .ok (.getfield 256, 3) := by decide +kernel
theorem dX9_learner_123 : decode cX9_learner 123 = .ok (.iload 6, 2) := by decide +kernel
theorem dX9_learner_125 : decode cX9_learner 125 = .ok (.bastore, 1) := by decide +kernel
theorem dX9_learner_126 : decode cX9_learner 126 = .ok (.aload_n 0, 1) := by decide +kernel
theorem dX9_learner_127 : decode cX9_learner 127 = .ok (.getfield 116, 3) := by decide +kernel
theorem dX9_learner_130 : decode cX9_learner 130 = .ok (.aload_n 0, 1) := by decide +kernel
theorem dX9_learner_131 : decode cX9_learner 131 = .ok (.getfield 256, 3) := by decide +kernel
theorem dX9_learner_134 : decode cX9_learner 134 = .ok (.aload_n 0, 1) := by decide +kernel
theorem dX9_learner_135 : decode cX9_learner 135 = .ok (.getfield 259, 3) := by decide +kernel
theorem dX9_learner_138 : decode cX9_learner 138 = .ok (.iastore, 1) := by decide +kernel
theorem dX9_learner_139 : decode cX9_learner 139 = .ok (.aload_n 0, 1) := by decide +kernel
theorem dX9_learner_140 : decode cX9_learner 140 = .ok (.getfield 119, 3) := by decide +kernel
theorem dX9_learner_143 : decode cX9_learner 143 = .ok (.aload_n 0, 1) := by decide +kernel
theorem dX9_learner_144 : decode cX9_learner 144 = .ok (.getfield 256, 3) := by decide +kernel
theorem dX9_learner_147 : decode cX9_learner 147 = .ok (.iconst 0, 1) := by decide +kernel
theorem dX9_learner_148 : decode cX9_learner 148 = .ok (.iastore, 1) := by decide +kernel
theorem dX9_learner_149 : decode cX9_learner 149 = .ok (.aload_n 0, 1) := by decide +kernel
theorem dX9_learner_150 : decode cX9_learner 150 = .ok (.getfield 122, 3) := by decide +kernel
theorem dX9_learner_153 : decode cX9_learner 153 = .ok (.aload_n 0, 1) := by decide +kernel
theorem dX9_learner_154 : decode cX9_learner 154 = .ok (.getfield 256, 3) := by decide +kernel
theorem dX9_learner_157 : decode cX9_learner 157 = .ok (.iconst (-1), 1) := by decide +kernel
theorem dX9_learner_158 : decode cX9_learner 158 = .ok (.iastore, 1) := by decide +kernel
theorem dX9_learner_159 : decode cX9_learner 159 = .ok (.aload_n 0, 1) := by decide +kernel
theorem dX9_learner_160 : decode cX9_learner 160 = .ok (.dup, 1) := by decide +kernel
theorem dX9_learner_161 : decode cX9_learner 161 = .ok (.getfield 256, 3) := by decide +kernel
theorem dX9_learner_164 : decode cX9_learner 164 = .ok (.iconst 1, 1) := by decide +kernel
theorem dX9_learner_165 : decode cX9_learner 165 = .ok (.iadd, 1) := by decide +kernel
theorem dX9_learner_166 : decode cX9_learner 166 = .ok (.putfield 256, 3) := by decide +kernel
theorem dX9_learner_169 : decode cX9_learner 169 = .ok (.aload_n 0, 1) := by decide +kernel
theorem dX9_learner_170 : decode cX9_learner 170 = .ok (.getfield 256, 3) := by decide +kernel
theorem dX9_learner_173 : decode cX9_learner 173 = .ok (.iconst 1, 1) := by decide +kernel
theorem dX9_learner_174 : decode cX9_learner 174 = .ok (.isub, 1) := by decide +kernel
theorem dX9_learner_175 : decode cX9_learner 175 = .ok (.ireturn, 1) := by decide +kernel
theorem dX9_isLearner_0 : decode cX9_isLearner 0 = .ok (.iload_n 1, 1) := by decide +kernel
theorem dX9_isLearner_1 : decode cX9_isLearner 1 = .ok (.ifCond .lt 15, 3) := by decide +kernel
theorem dX9_isLearner_4 : decode cX9_isLearner 4 = .ok (.iload_n 1, 1) := by decide +kernel
theorem dX9_isLearner_5 : decode cX9_isLearner 5 = .ok (.aload_n 0, 1) := by decide +kernel
theorem dX9_isLearner_6 : decode cX9_isLearner 6 = .ok (.getfield 256, 3) := by decide +kernel
theorem dX9_isLearner_9 : decode cX9_isLearner 9 = .ok (.if_icmp .ge 7, 3) := by decide +kernel
theorem dX9_isLearner_12 : decode cX9_isLearner 12 = .ok (.iconst 1, 1) := by decide +kernel
theorem dX9_isLearner_13 : decode cX9_isLearner 13 = .ok (.goto 4, 3) := by decide +kernel
theorem dX9_isLearner_16 : decode cX9_isLearner 16 = .ok (.iconst 0, 1) := by decide +kernel
theorem dX9_isLearner_17 : decode cX9_isLearner 17 = .ok (.ireturn, 1) := by decide +kernel
theorem dX9_bookedAt_0 : decode cX9_bookedAt 0 = .ok (.iconst (-1), 1) := by decide +kernel
theorem dX9_bookedAt_1 : decode cX9_bookedAt 1 = .ok (.istore_n 2, 1) := by decide +kernel
theorem dX9_bookedAt_2 : decode cX9_bookedAt 2 = .ok (.iconst 0, 1) := by decide +kernel
theorem dX9_bookedAt_3 : decode cX9_bookedAt 3 = .ok (.istore_n 3, 1) := by decide +kernel
theorem dX9_bookedAt_4 : decode cX9_bookedAt 4 = .ok (.iload_n 3, 1) := by decide +kernel
theorem dX9_bookedAt_5 : decode cX9_bookedAt 5 = .ok (.aload_n 0, 1) := by decide +kernel
theorem dX9_bookedAt_6 : decode cX9_bookedAt 6 = .ok (.getfield 256, 3) := by decide +kernel
theorem dX9_bookedAt_9 : decode cX9_bookedAt 9 = .ok (.if_icmp .ge 35, 3) := by decide +kernel
theorem dX9_bookedAt_12 : decode cX9_bookedAt 12 = .ok (.aload_n 0, 1) := by decide +kernel
theorem dX9_bookedAt_13 : decode cX9_bookedAt 13 = .ok (.getfield 119, 3) := by decide +kernel
theorem dX9_bookedAt_16 : decode cX9_bookedAt 16 = .ok (.iload_n 3, 1) := by decide +kernel
theorem dX9_bookedAt_17 : decode cX9_bookedAt 17 = .ok (.iaload, 1) := by decide +kernel
theorem dX9_bookedAt_18 : decode cX9_bookedAt 18 = .ok (.iconst 1, 1) := by decide +kernel
theorem dX9_bookedAt_19 : decode cX9_bookedAt 19 = .ok (.if_icmp .ne 17, 3) := by decide +kernel
theorem dX9_bookedAt_22 : decode cX9_bookedAt 22 = .ok (.aload_n 0, 1) := by decide +kernel
theorem dX9_bookedAt_23 : decode cX9_bookedAt 23 = .ok (.getfield 122, 3) := by decide +kernel
theorem dX9_bookedAt_26 : decode cX9_bookedAt 26 = .ok (.iload_n 3, 1) := by decide +kernel
theorem dX9_bookedAt_27 : decode cX9_bookedAt 27 = .ok (.iaload, 1) := by decide +kernel
theorem dX9_bookedAt_28 : decode cX9_bookedAt 28 = .ok (.iload_n 1, 1) := by decide +kernel
theorem dX9_bookedAt_29 : decode cX9_bookedAt 29 = .ok (.if_icmp .ne 7, 3) := by decide +kernel
theorem dX9_bookedAt_32 : decode cX9_bookedAt 32 = .ok (.iload_n 3, 1) := by decide +kernel
theorem dX9_bookedAt_33 : decode cX9_bookedAt 33 = .ok (.goto 4, 3) := by decide +kernel
theorem dX9_bookedAt_36 : decode cX9_bookedAt 36 = .ok (.iload_n 2, 1) := by decide +kernel
theorem dX9_bookedAt_37 : decode cX9_bookedAt 37 = .ok (.istore_n 2, 1) := by decide +kernel
theorem dX9_bookedAt_38 : decode cX9_bookedAt 38 = .ok (.iinc 3 1, 3) := by decide +kernel
theorem dX9_bookedAt_41 : decode cX9_bookedAt 41 = .ok (.goto (-37), 3) := by decide +kernel
theorem dX9_bookedAt_44 : decode cX9_bookedAt 44 = .ok (.iload_n 2, 1) := by decide +kernel
theorem dX9_bookedAt_45 : decode cX9_bookedAt 45 = .ok (.ireturn, 1) := by decide +kernel
set_option maxRecDepth 20000 in
theorem ggX9_isFree_X9_isThere : GoodIn wsX9_isFree wsX9_isThere := goodIn_r _ [8, 9, 10, 11, 7, 12, 13, 21, 22, 23, 24, 25, 26, 27, 28, 29, 30, 31, 32, 33, 34, 35, 36, 37, 38, 39, 40, 41, 42, 43, 44, 45, 46, 47, 48, 49, 50, 51, 52, 53, 54, 55, 56, 57, 58, 59, 60, 61, 62, 63, 64, 65, 66, 67, 68, 69, 70, 71, 72, 73, 74, 75, 76, 77, 78, 79, 80, 81, 82] (by decide +kernel) (by decide +kernel)
set_option maxRecDepth 20000 in
theorem gX9_isFree_X9_isThere : GoodIn wsX9_isFree (wsV RX9 262 RX9 yX9_isThere wsX9_isThere) := goodIn_app (goodIn_of _ (by decide +kernel)) ggX9_isFree_X9_isThere
set_option maxRecDepth 20000 in
theorem ggX9_isFree_X9_bookedAt : GoodIn wsX9_isFree wsX9_bookedAt := goodIn_r _ [17, 18, 19, 20, 21, 22, 23, 24, 25, 26, 27, 28, 29, 30, 31, 32, 33, 34, 35, 36, 37, 38, 39, 40, 41, 42, 43, 44, 45, 46, 47, 48, 49, 50, 51, 52, 53, 54, 55, 56, 57, 58, 59, 60, 61, 62, 63, 64, 65, 66, 67, 68, 69, 70, 71, 72, 73, 74, 75, 76, 77, 78, 79, 80, 81, 82] (by decide +kernel) (by decide +kernel)
set_option maxRecDepth 20000 in
theorem gX9_isFree_X9_bookedAt : GoodIn wsX9_isFree (wsV RX9 265 RX9 yX9_bookedAt wsX9_bookedAt) := goodIn_app (goodIn_of _ (by decide +kernel)) ggX9_isFree_X9_bookedAt
theorem dX9_isFree_0 : decode cX9_isFree 0 = .ok (.iload_n 1, 1) := by decide +kernel
theorem dX9_isFree_1 : decode cX9_isFree 1 = .ok (.bipush 48, 2) := by decide +kernel
theorem dX9_isFree_3 : decode cX9_isFree 3 = .ok (.idiv, 1) := by decide +kernel
theorem dX9_isFree_4 : decode cX9_isFree 4 = .ok (.aload_n 0, 1) := by decide +kernel
theorem dX9_isFree_5 : decode cX9_isFree 5 = .ok (.getfield 259, 3) := by decide +kernel
theorem dX9_isFree_8 : decode cX9_isFree 8 = .ok (.if_icmp .le 46, 3) := by decide +kernel
theorem dX9_isFree_11 : decode cX9_isFree 11 = .ok (.aload_n 0, 1) := by decide +kernel
theorem dX9_isFree_12 : decode cX9_isFree 12 = .ok (.getfield 88, 3) := by decide +kernel
theorem dX9_isFree_15 : decode cX9_isFree 15 = .ok (.iload_n 1, 1) := by decide +kernel
theorem dX9_isFree_16 : decode cX9_isFree 16 = .ok (.bipush 48, 2) := by decide +kernel
theorem dX9_isFree_18 : decode cX9_isFree 18 = .ok (.idiv, 1) := by decide +kernel
theorem dX9_isFree_19 : decode cX9_isFree 19 = .ok (.baload, 1) := by decide +kernel
theorem dX9_isFree_20 : decode cX9_isFree 20 = .ok (.ifCond .ne 34, 3) := by decide +kernel
theorem dX9_isFree_23 : decode cX9_isFree 23 = .ok (.iload_n 1, 1) := by decide +kernel
theorem dX9_isFree_24 : decode cX9_isFree 24 = .ok (.bipush 8, 2) := by decide +kernel
theorem dX9_isFree_26 : decode cX9_isFree 26 = .ok (.irem, 1) := by decide +kernel
theorem dX9_isFree_27 : decode cX9_isFree 27 = .ok (.aload_n 0, 1) := by decide +kernel
theorem dX9_isFree_28 : decode cX9_isFree 28 = .ok (.getfield 249, 3) := by decide +kernel
theorem dX9_isFree_31 : decode cX9_isFree 31 = .ok (.if_icmp .ge 23, 3) := by decide +kernel
theorem dX9_isFree_34 : decode cX9_isFree 34 = .ok (.aload_n 0, 1) := by decide +kernel
theorem dX9_isFree_35 : decode cX9_isFree 35 = .ok (.iload_n 1, 1) := by decide +kernel
theorem dX9_isFree_36 : decode cX9_isFree 36 = .ok (.invokevirtual 262, 3) := by decide +kernel
theorem dX9_isFree_39 : decode cX9_isFree 39 = .ok (.ifCond .eq 15, 3) := by decide +kernel
theorem dX9_isFree_42 : decode cX9_isFree 42 = .ok (.aload_n 0, 1) := by decide +kernel
theorem dX9_isFree_43 : decode cX9_isFree 43 = .ok (.iload_n 1, 1) := by decide +kernel
theorem dX9_isFree_44 : decode cX9_isFree 44 = .ok (.invokevirtual 265, 3) := by decide +kernel
theorem dX9_isFree_47 : decode cX9_isFree 47 = .ok (.ifCond .ge 7, 3) := by decide +kernel
theorem dX9_isFree_50 : decode cX9_isFree 50 = .ok (.iconst 1, 1) := by decide +kernel
theorem dX9_isFree_51 : decode cX9_isFree 51 = .ok (.goto 4, 3) := by decide +kernel
theorem dX9_isFree_54 : decode cX9_isFree 54 = .ok (.iconst 0, 1) := by decide +kernel
theorem dX9_isFree_55 : decode cX9_isFree 55 = .ok (.ireturn, 1) := by decide +kernel
theorem dX9_suits_0 : decode cX9_suits 0 = .ok (.iload_n 1, 1) := by decide +kernel
theorem dX9_suits_1 : decode cX9_suits 1 = .ok (.bipush 48, 2) := by decide +kernel
theorem dX9_suits_3 : decode cX9_suits 3 = .ok (.idiv, 1) := by decide +kernel
theorem dX9_suits_4 : decode cX9_suits 4 = .ok (.istore_n 3, 1) := by decide +kernel
theorem dX9_suits_5 : decode cX9_suits 5 = .ok (.aload_n 0, 1) := by decide +kernel
theorem dX9_suits_6 : decode cX9_suits 6 = .ok (.getfield 85, 3) := by decide +kernel
theorem dX9_suits_9 : decode cX9_suits 9 = .ok (.bipush 60, 2) := by decide +kernel
theorem dX9_suits_11 : decode cX9_suits 11 = .ok (.iload_n 1, 1) := by decide +kernel
theorem dX9_suits_12 : decode cX9_suits 12 = .ok (.bipush 8, 2) := by decide +kernel
theorem dX9_suits_14 : decode cX9_suits 14 = .ok (.irem, 1) := by decide +kernel
theorem dX9_suits_15 : decode cX9_suits 15 = .ok (.imul, 1) := by decide +kernel
theorem dX9_suits_16 : decode cX9_suits 16 = .ok (.iload_n 3, 1) := by decide +kernel
theorem dX9_suits_17 : decode cX9_suits 17 = .ok (.iadd, 1) := by decide +kernel
theorem dX9_suits_18 : decode cX9_suits 18 = .ok (.iaload, 1) := by decide +kernel
theorem dX9_suits_19 : decode cX9_suits 19 = .ok (.aload_n 0, 1) := by decide +kernel
theorem dX9_suits_20 : decode cX9_suits 20 = .ok (.getfield 98, 3) := by decide +kernel
theorem dX9_suits_23 : decode cX9_suits 23 = .ok (.iload_n 2, 1) := by decide +kernel
theorem dX9_suits_24 : decode cX9_suits 24 = .ok (.iaload, 1) := by decide +kernel
theorem dX9_suits_25 : decode cX9_suits 25 = .ok (.if_icmp .ne 37, 3) := by decide +kernel
theorem dX9_suits_28 : decode cX9_suits 28 = .ok (.iload_n 3, 1) := by decide +kernel
theorem dX9_suits_29 : decode cX9_suits 29 = .ok (.aload_n 0, 1) := by decide +kernel
theorem dX9_suits_30 : decode cX9_suits 30 = .ok (.getfield 110, 3) := by decide +kernel
theorem dX9_suits_33 : decode cX9_suits 33 = .ok (.iload_n 2, 1) := by decide +kernel
theorem dX9_suits_34 : decode cX9_suits 34 = .ok (.iaload, 1) := by decide +kernel
theorem dX9_suits_35 : decode cX9_suits 35 = .ok (.if_icmp .lt 27, 3) := by decide +kernel
theorem dX9_suits_38 : decode cX9_suits 38 = .ok (.iload_n 3, 1) := by decide +kernel
theorem dX9_suits_39 : decode cX9_suits 39 = .ok (.aload_n 0, 1) := by decide +kernel
theorem dX9_suits_40 : decode cX9_suits 40 = .ok (.getfield 104, 3) := by decide +kernel
theorem dX9_suits_43 : decode cX9_suits 43 = .ok (.iload_n 2, 1) := by decide +kernel
theorem dX9_suits_44 : decode cX9_suits 44 = .ok (.iaload, 1) := by decide +kernel
theorem dX9_suits_45 : decode cX9_suits 45 = .ok (.if_icmp .lt 17, 3) := by decide +kernel
theorem dX9_suits_48 : decode cX9_suits 48 = .ok (.iload_n 3, 1) := by decide +kernel
theorem dX9_suits_49 : decode cX9_suits 49 = .ok (.aload_n 0, 1) := by decide +kernel
theorem dX9_suits_50 : decode cX9_suits 50 = .ok (.getfield 107, 3) := by decide +kernel
theorem dX9_suits_53 : decode cX9_suits 53 = .ok (.iload_n 2, 1) := by decide +kernel
theorem dX9_suits_54 : decode cX9_suits 54 = .ok (.iaload, 1) := by decide +kernel
theorem dX9_suits_55 : decode cX9_suits 55 = .ok (.if_icmp .gt 7, 3) := by decide +kernel
theorem dX9_suits_58 : decode cX9_suits 58 = .ok (.iconst 1, 1) := by decide +kernel
theorem dX9_suits_59 : decode cX9_suits 59 = .ok (.goto 4, 3) := by decide +kernel
theorem dX9_suits_62 : decode cX9_suits 62 = .ok (.iconst 0, 1) := by decide +kernel
theorem dX9_suits_63 : decode cX9_suits 63 = .ok (.ireturn, 1) := by decide +kernel
set_option maxRecDepth 20000 in
theorem ggX9_rankOf_X9_worth : GoodIn wsX9_rankOf wsX9_worth := goodIn_r _ [16, 17, 18, 19, 1, 20, 21, 22, 23, 24, 25, 26, 27, 28, 29, 30, 31, 32, 33, 34, 35, 36, 37, 38, 39, 40, 41, 42, 43, 44, 45, 46, 47, 48, 49, 50, 51, 52, 53, 54, 55, 56, 57, 58, 59, 60, 61, 62, 63, 64, 65, 66, 67, 68, 69, 70, 71, 72, 73, 74, 75, 76, 77, 78, 79, 80, 81] (by decide +kernel) (by decide +kernel)
set_option maxRecDepth 20000 in
theorem gX9_rankOf_X9_worth : GoodIn wsX9_rankOf (wsV RX9 268 RX9 yX9_worth wsX9_worth) := goodIn_app (goodIn_of _ (by decide +kernel)) ggX9_rankOf_X9_worth
theorem dX9_rankOf_0 : decode cX9_rankOf 0 = .ok (.aload_n 0, 1) := by decide +kernel
theorem dX9_rankOf_1 : decode cX9_rankOf 1 = .ok (.getfield 79, 3) := by decide +kernel
theorem dX9_rankOf_4 : decode cX9_rankOf 4 = .ok (.iconst 0, 1) := by decide +kernel
theorem dX9_rankOf_5 : decode cX9_rankOf 5 = .ok (.aload_n 0, 1) := by decide +kernel
theorem dX9_rankOf_6 : decode cX9_rankOf 6 = .ok (.getfield 101, 3) := by decide +kernel
theorem dX9_rankOf_9 : decode cX9_rankOf 9 = .ok (.iload_n 1, 1) := by decide +kernel
theorem dX9_rankOf_10 : decode cX9_rankOf 10 = .ok (.iaload, 1) := by decide +kernel
theorem dX9_rankOf_11 : decode cX9_rankOf 11 = .ok (.iastore, 1) := by decide +kernel
theorem dX9_rankOf_12 : decode cX9_rankOf 12 = .ok (.aload_n 0, 1) := by decide +kernel
theorem dX9_rankOf_13 : decode cX9_rankOf 13 = .ok (.getfield 79, 3) := by decide +kernel
theorem dX9_rankOf_16 : decode cX9_rankOf 16 = .ok (.iconst 1, 1) := by decide +kernel
theorem dX9_rankOf_17 : decode cX9_rankOf 17 = .ok (.aload_n 0, 1) := by decide +kernel
theorem dX9_rankOf_18 : decode cX9_rankOf 18 = .ok (.getfield 98, 3) := by decide +kernel
theorem dX9_rankOf_21 : decode cX9_rankOf 21 = .ok (.iload_n 1, 1) := by decide +kernel
theorem dX9_rankOf_22 : decode cX9_rankOf 22 = .ok (.iaload, 1) := by decide +kernel
theorem dX9_rankOf_23 : decode cX9_rankOf 23 = .ok (.iastore, 1) := by decide +kernel
theorem dX9_rankOf_24 : decode cX9_rankOf 24 = .ok (.aload_n 0, 1) := by decide +kernel
theorem dX9_rankOf_25 : decode cX9_rankOf 25 = .ok (.getfield 79, 3) := by decide +kernel
theorem dX9_rankOf_28 : decode cX9_rankOf 28 = .ok (.iconst 2, 1) := by decide +kernel
theorem dX9_rankOf_29 : decode cX9_rankOf 29 = .ok (.aload_n 0, 1) := by decide +kernel
theorem dX9_rankOf_30 : decode cX9_rankOf 30 = .ok (.getfield 259, 3) := by decide +kernel
theorem dX9_rankOf_33 : decode cX9_rankOf 33 = .ok (.aload_n 0, 1) := by decide +kernel
theorem dX9_rankOf_34 : decode cX9_rankOf 34 = .ok (.getfield 116, 3) := by decide +kernel
theorem dX9_rankOf_37 : decode cX9_rankOf 37 = .ok (.iload_n 1, 1) := by decide +kernel
theorem dX9_rankOf_38 : decode cX9_rankOf 38 = .ok (.iaload, 1) := by decide +kernel
theorem dX9_rankOf_39 : decode cX9_rankOf 39 = .ok (.isub, 1) := by decide +kernel
theorem dX9_rankOf_40 : decode cX9_rankOf 40 = .ok (.iastore, 1) := by decide +kernel
theorem dX9_rankOf_41 : decode cX9_rankOf 41 = .ok (.aload_n 0, 1) := by decide +kernel
theorem dX9_rankOf_42 : decode cX9_rankOf 42 = .ok (.getfield 79, 3) := by decide +kernel
theorem dX9_rankOf_45 : decode cX9_rankOf 45 = .ok (.iconst 3, 1) := by decide +kernel
theorem dX9_rankOf_46 : decode cX9_rankOf 46 = .ok (.aload_n 0, 1) := by decide +kernel
theorem dX9_rankOf_47 : decode cX9_rankOf 47 = .ok (.getfield 125, 3) := by decide +kernel
theorem dX9_rankOf_50 : decode cX9_rankOf 50 = .ok (.iload_n 1, 1) := by decide +kernel
theorem dX9_rankOf_51 : decode cX9_rankOf 51 = .ok (.iaload, 1) := by decide +kernel
theorem dX9_rankOf_52 : decode cX9_rankOf 52 = .ok (.iastore, 1) := by decide +kernel
theorem dX9_rankOf_53 : decode cX9_rankOf 53 = .ok (.aload_n 0, 1) := by decide +kernel
theorem dX9_rankOf_54 : decode cX9_rankOf 54 = .ok (.getfield 79, 3) := by decide +kernel
theorem dX9_rankOf_57 : decode cX9_rankOf 57 = .ok (.iconst 4, 1) := by decide +kernel
theorem dX9_rankOf_58 : decode cX9_rankOf 58 = .ok (.aload_n 0, 1) := by decide +kernel
theorem dX9_rankOf_59 : decode cX9_rankOf 59 = .ok (.getfield 107, 3) := by decide +kernel
theorem dX9_rankOf_62 : decode cX9_rankOf 62 = .ok (.iload_n 1, 1) := by decide +kernel
theorem dX9_rankOf_63 : decode cX9_rankOf 63 = .ok (.iaload, 1) := by decide +kernel
theorem dX9_rankOf_64 : decode cX9_rankOf 64 = .ok (.aload_n 0, 1) := by decide +kernel
theorem dX9_rankOf_65 : decode cX9_rankOf 65 = .ok (.getfield 259, 3) := by decide +kernel
theorem dX9_rankOf_68 : decode cX9_rankOf 68 = .ok (.isub, 1) := by decide +kernel
theorem dX9_rankOf_69 : decode cX9_rankOf 69 = .ok (.iastore, 1) := by decide +kernel
theorem dX9_rankOf_70 : decode cX9_rankOf 70 = .ok (.aload_n 0, 1) := by decide +kernel
theorem dX9_rankOf_71 : decode cX9_rankOf 71 = .ok (.getfield 79, 3) := by decide +kernel
theorem dX9_rankOf_74 : decode cX9_rankOf 74 = .ok (.iconst 5, 1) := by decide +kernel
theorem dX9_rankOf_75 : decode cX9_rankOf 75 = .ok (.aload_n 0, 1) := by decide +kernel
theorem dX9_rankOf_76 : decode cX9_rankOf 76 = .ok (.getfield 259, 3) := by decide +kernel
theorem dX9_rankOf_79 : decode cX9_rankOf 79 = .ok (.iastore, 1) := by decide +kernel
theorem dX9_rankOf_80 : decode cX9_rankOf 80 = .ok (.bipush 16, 2) := by decide +kernel
theorem dX9_rankOf_82 : decode cX9_rankOf 82 = .ok (.aload_n 0, 1) := by decide +kernel
theorem dX9_rankOf_83 : decode cX9_rankOf 83 = .ok (.getfield 211, 3) := by decide +kernel
theorem dX9_rankOf_86 : decode cX9_rankOf 86 = .ok (.imul, 1) := by decide +kernel
theorem dX9_rankOf_87 : decode cX9_rankOf 87 = .ok (.istore_n 2, 1) := by decide +kernel
theorem dX9_rankOf_88 : decode cX9_rankOf 88 = .ok (.iload_n 2, 1) := by decide +kernel
theorem dX9_rankOf_89 : decode cX9_rankOf 89 = .ok (.bipush 16, 2) := by decide +kernel
theorem dX9_rankOf_91 : decode cX9_rankOf 91 = .ok (.aload_n 0, 1) := by decide +kernel
theorem dX9_rankOf_92 : decode cX9_rankOf 92 = .ok (.getfield 211, 3) := by decide +kernel
theorem dX9_rankOf_95 : decode cX9_rankOf 95 = .ok (.imul, 1) := by decide +kernel
theorem dX9_rankOf_96 : decode cX9_rankOf 96 = .ok (.aload_n 0, 1) := by decide +kernel
theorem dX9_rankOf_97 : decode cX9_rankOf 97 = .ok (.getfield 55, 3) := by decide +kernel
theorem dX9_rankOf_100 : decode cX9_rankOf 100 = .ok (.aload_n 0, 1) := by decide +kernel
theorem dX9_rankOf_101 : decode cX9_rankOf 101 = .ok (.getfield 211, 3) := by decide +kernel
theorem dX9_rankOf_104 : decode cX9_rankOf 104 = .ok (.iaload, 1) := by decide +kernel
theorem dX9_rankOf_105 : decode cX9_rankOf 105 = .ok (.iadd, 1) := by decide +kernel
theorem dX9_rankOf_106 : decode cX9_rankOf 106 = .ok (.if_icmp .ge 29, 3) := by decide +kernel
theorem dX9_rankOf_109 : decode cX9_rankOf 109 = .ok (.aload_n 0, 1) := by decide +kernel
theorem dX9_rankOf_110 : decode cX9_rankOf 110 = .ok (.aload_n 0, 1) := by decide +kernel
theorem dX9_rankOf_111 : decode cX9_rankOf 111 = .ok (.getfield 61, 3) := by decide +kernel
theorem dX9_rankOf_114 : decode cX9_rankOf 114 = .ok (.iload_n 2, 1) := by decide +kernel
theorem dX9_rankOf_115 : decode cX9_rankOf 115 = .ok (.iaload, 1) := by decide +kernel
theorem dX9_rankOf_116 : decode cX9_rankOf 116 = .ok (.invokevirtual 268, 3) := by decide +kernel
theorem dX9_rankOf_119 : decode cX9_rankOf 119 = .ok (.ifCond .eq 10, 3) := by decide +kernel
theorem dX9_rankOf_122 : decode cX9_rankOf 122 = .ok (.aload_n 0, 1) := by decide +kernel
theorem dX9_rankOf_123 : decode cX9_rankOf 123 = .ok (.getfield 58, 3) := by decide +kernel
theorem dX9_rankOf_126 : decode cX9_rankOf 126 = .ok (.iload_n 2, 1) := by decide +kernel
theorem dX9_rankOf_127 : decode cX9_rankOf 127 = .ok (.iaload, 1) := by decide +kernel
theorem dX9_rankOf_128 : decode cX9_rankOf 128 = .ok (.ireturn, 1) := by decide +kernel
theorem dX9_rankOf_129 : decode cX9_rankOf 129 = .ok (.iinc 2 1, 3) := by decide +kernel
theorem dX9_rankOf_132 : decode cX9_rankOf 132 = .ok (.goto (-44), 3) := by decide +kernel
theorem dX9_rankOf_135 : decode cX9_rankOf 135 = .ok (.iconst 0, 1) := by decide +kernel
theorem dX9_rankOf_136 : decode cX9_rankOf 136 = .ok (.ireturn, 1) := by decide +kernel
set_option maxRecDepth 20000 in
theorem ggX9_findRanks_X9_rankOf : GoodIn wsX9_findRanks wsX9_rankOf := goodIn_r _ [7, 8, 9, 10, 11, 12, 13, 14, 15, 16, 17, 18, 19, 20, 21, 6, 22, 23, 24, 25, 26, 27, 28, 29, 30, 31, 32, 33, 34, 35, 36, 37, 38, 39, 40, 41, 42, 43, 44, 45, 46, 47, 48, 49, 50, 51, 52, 53, 54, 55, 56, 57, 58, 59, 60, 61, 62, 63, 64, 65, 66, 67, 68, 69, 70, 71, 72, 73, 74, 75, 76, 77, 78, 79, 80, 81, 82, 83, 84, 85, 86, 87] (by decide +kernel) (by decide +kernel)
set_option maxRecDepth 20000 in
theorem gX9_findRanks_X9_rankOf : GoodIn wsX9_findRanks (wsV RX9 271 RX9 yX9_rankOf wsX9_rankOf) := goodIn_app (goodIn_of _ (by decide +kernel)) ggX9_findRanks_X9_rankOf
theorem dX9_findRanks_0 : decode cX9_findRanks 0 = .ok (.iconst 0, 1) := by decide +kernel
theorem dX9_findRanks_1 : decode cX9_findRanks 1 = .ok (.istore_n 1, 1) := by decide +kernel
theorem dX9_findRanks_2 : decode cX9_findRanks 2 = .ok (.iload_n 1, 1) := by decide +kernel
theorem dX9_findRanks_3 : decode cX9_findRanks 3 = .ok (.aload_n 0, 1) := by decide +kernel
theorem dX9_findRanks_4 : decode cX9_findRanks 4 = .ok (.getfield 256, 3) := by decide +kernel
theorem dX9_findRanks_7 : decode cX9_findRanks 7 = .ok (.if_icmp .ge 20, 3) := by decide +kernel
theorem dX9_findRanks_10 : decode cX9_findRanks 10 = .ok (.aload_n 0, 1) := by decide +kernel
theorem dX9_findRanks_11 : decode cX9_findRanks 11 = .ok (.getfield 131, 3) := by decide +kernel
theorem dX9_findRanks_14 : decode cX9_findRanks 14 = .ok (.iload_n 1, 1) := by decide +kernel
theorem dX9_findRanks_15 : decode cX9_findRanks 15 = .ok (.aload_n 0, 1) := by decide +kernel
theorem dX9_findRanks_16 : decode cX9_findRanks 16 = .ok (.iload_n 1, 1) := by decide +kernel
theorem dX9_findRanks_17 : decode cX9_findRanks 17 = .ok (.invokevirtual 271, 3) := by decide +kernel
theorem dX9_findRanks_20 : decode cX9_findRanks 20 = .ok (.iastore, 1) := by decide +kernel
theorem dX9_findRanks_21 : decode cX9_findRanks 21 = .ok (.iinc 1 1, 3) := by decide +kernel
theorem dX9_findRanks_24 : decode cX9_findRanks 24 = .ok (.goto (-22), 3) := by decide +kernel
theorem dX9_findRanks_27 : decode cX9_findRanks 27 = .ok (.return_, 1) := by decide +kernel
theorem dX9_isAhead_0 : decode cX9_isAhead 0 = .ok (.aload_n 0, 1) := by decide +kernel
theorem dX9_isAhead_1 : decode cX9_isAhead 1 = .ok (.getfield 131, 3) := by decide +kernel
theorem dX9_isAhead_4 : decode cX9_isAhead 4 = .ok (.iload_n 1, 1) := by decide +kernel
theorem dX9_isAhead_5 : decode cX9_isAhead 5 = .ok (.iaload, 1) := by decide +kernel
theorem dX9_isAhead_6 : decode cX9_isAhead 6 = .ok (.aload_n 0, 1) := by decide +kernel
theorem dX9_isAhead_7 : decode cX9_isAhead 7 = .ok (.getfield 131, 3) := by decide +kernel
theorem dX9_isAhead_10 : decode cX9_isAhead 10 = .ok (.iload_n 2, 1) := by decide +kernel
theorem dX9_isAhead_11 : decode cX9_isAhead 11 = .ok (.iaload, 1) := by decide +kernel
theorem dX9_isAhead_12 : decode cX9_isAhead 12 = .ok (.if_icmp .gt 23, 3) := by decide +kernel
theorem dX9_isAhead_15 : decode cX9_isAhead 15 = .ok (.aload_n 0, 1) := by decide +kernel
theorem dX9_isAhead_16 : decode cX9_isAhead 16 = .ok (.getfield 131, 3) := by decide +kernel
theorem dX9_isAhead_19 : decode cX9_isAhead 19 = .ok (.iload_n 1, 1) := by decide +kernel
theorem dX9_isAhead_20 : decode cX9_isAhead 20 = .ok (.iaload, 1) := by decide +kernel
theorem dX9_isAhead_21 : decode cX9_isAhead 21 = .ok (.aload_n 0, 1) := by decide +kernel
theorem dX9_isAhead_22 : decode cX9_isAhead 22 = .ok (.getfield 131, 3) := by decide +kernel
theorem dX9_isAhead_25 : decode cX9_isAhead 25 = .ok (.iload_n 2, 1) := by decide +kernel
theorem dX9_isAhead_26 : decode cX9_isAhead 26 = .ok (.iaload, 1) := by decide +kernel
theorem dX9_isAhead_27 : decode cX9_isAhead 27 = .ok (.if_icmp .ne 12, 3) := by decide +kernel
theorem dX9_isAhead_30 : decode cX9_isAhead 30 = .ok (.iload_n 1, 1) := by decide +kernel
theorem dX9_isAhead_31 : decode cX9_isAhead 31 = .ok (.iload_n 2, 1) := by decide +kernel
theorem dX9_isAhead_32 : decode cX9_isAhead 32 = .ok (.if_icmp .ge 7, 3) := by decide +kernel
theorem dX9_isAhead_35 : decode cX9_isAhead 35 = .ok (.iconst 1, 1) := by decide +kernel
theorem dX9_isAhead_36 : decode cX9_isAhead 36 = .ok (.goto 4, 3) := by decide +kernel
theorem dX9_isAhead_39 : decode cX9_isAhead 39 = .ok (.iconst 0, 1) := by decide +kernel
theorem dX9_isAhead_40 : decode cX9_isAhead 40 = .ok (.ireturn, 1) := by decide +kernel
set_option maxRecDepth 20000 in
theorem ggX9_deals_X9_findRanks : GoodIn wsX9_deals wsX9_findRanks := goodIn_r _ [8, 9, 10, 11, 12, 13, 7, 14, 15, 16, 17, 2, 18, 19, 20, 21, 22, 23, 24, 25, 26, 27, 28, 29, 30, 31, 70, 71, 72, 73, 74, 75, 76, 77, 78, 79, 80, 81, 82, 83, 84, 85, 86, 87, 88, 89, 90, 91, 92, 93, 94, 95, 96, 97, 98, 99, 100, 101, 102, 103, 104, 105, 106, 107, 108, 109, 110, 111, 112, 113, 114, 115, 116, 117, 118, 119, 120, 121, 122, 123, 124, 125, 126, 127, 128, 129, 130, 131] (by decide +kernel) (by decide +kernel)
set_option maxRecDepth 20000 in
theorem gX9_deals_X9_findRanks : GoodIn wsX9_deals (wsV RX9 274 RX9 yX9_findRanks wsX9_findRanks) := goodIn_app (goodIn_of _ (by decide +kernel)) ggX9_deals_X9_findRanks
set_option maxRecDepth 20000 in
theorem ggX9_deals_X9_firstDealt : GoodIn wsX9_deals wsX9_firstDealt := goodIn_r _ [35, 9, 1, 36, 37, 38, 7, 39, 10, 70, 71, 72, 73, 74, 75, 76, 77, 78, 79, 80, 81, 82, 83, 84, 85, 86, 87, 88, 89, 90, 91, 92, 93, 94, 95, 96, 97, 98, 99, 100, 101, 102, 103, 104, 105, 106, 107, 108, 109, 110, 111, 112, 113, 114, 115, 116, 117, 118, 119, 120, 121, 122, 123, 124, 125, 126, 127, 128, 129, 130, 131] (by decide +kernel) (by decide +kernel)
set_option maxRecDepth 20000 in
theorem gX9_deals_X9_firstDealt : GoodIn wsX9_deals (wsV RX9 277 RX9 yX9_firstDealt wsX9_firstDealt) := goodIn_app (goodIn_of _ (by decide +kernel)) ggX9_deals_X9_firstDealt
set_option maxRecDepth 20000 in
theorem ggX9_deals_X9_isFree : GoodIn wsX9_deals wsX9_isFree := goodIn_r _ [43, 2, 44, 45, 46, 47, 48, 7, 49, 50, 51, 52, 53, 54, 55, 56, 57, 58, 9, 3, 59, 70, 71, 72, 73, 74, 75, 76, 77, 78, 79, 80, 81, 82, 83, 84, 85, 86, 87, 88, 89, 90, 91, 92, 93, 94, 95, 96, 97, 98, 99, 100, 101, 102, 103, 104, 105, 106, 107, 108, 109, 110, 111, 112, 113, 114, 115, 116, 117, 118, 119, 120, 121, 122, 123, 124, 125, 126, 127, 128, 129, 130, 131] (by decide +kernel) (by decide +kernel)
set_option maxRecDepth 20000 in
theorem gX9_deals_X9_isFree : GoodIn wsX9_deals (wsV RX9 280 RX9 yX9_isFree wsX9_isFree) := goodIn_app (goodIn_of _ (by decide +kernel)) ggX9_deals_X9_isFree
set_option maxRecDepth 20000 in
theorem ggX9_deals_X9_suits : GoodIn wsX9_deals wsX9_suits := goodIn_r _ [63, 54, 17, 64, 65, 20, 70, 71, 72, 73, 74, 75, 76, 77, 78, 79, 80, 81, 82, 83, 84, 85, 86, 87, 88, 89, 90, 91, 92, 93, 94, 95, 96, 97, 98, 99, 100, 101, 102, 103, 104, 105, 106, 107, 108, 109, 110, 111, 112, 113, 114, 115, 116, 117, 118, 119, 120, 121, 122, 123, 124, 125, 126, 127, 128, 129, 130, 131] (by decide +kernel) (by decide +kernel)
set_option maxRecDepth 20000 in
theorem gX9_deals_X9_suits : GoodIn wsX9_deals (wsV RX9 283 RX9 yX9_suits wsX9_suits) := goodIn_app (goodIn_of _ (by decide +kernel)) ggX9_deals_X9_suits
set_option maxRecDepth 20000 in
theorem ggX9_deals_X9_books : GoodIn wsX9_deals wsX9_books := goodIn_r _ [69, 3, 59, 70, 71, 72, 73, 74, 75, 76, 77, 78, 79, 80, 81, 82, 83, 84, 85, 86, 87, 88, 89, 90, 91, 92, 93, 94, 95, 96, 97, 98, 99, 100, 101, 102, 103, 104, 105, 106, 107, 108, 109, 110, 111, 112, 113, 114, 115, 116, 117, 118, 119, 120, 121, 122, 123, 124, 125, 126, 127, 128, 129, 130, 131] (by decide +kernel) (by decide +kernel)
set_option maxRecDepth 20000 in
theorem gX9_deals_X9_books : GoodIn wsX9_deals (wsV RX9 287 RX9 yX9_books wsX9_books) := goodIn_app (goodIn_of _ (by decide +kernel)) ggX9_deals_X9_books
theorem dX9_deals_0 : decode cX9_deals 0 = .ok (.aload_n 0, 1) := by decide +kernel
theorem dX9_deals_1 : decode cX9_deals 1 = .ok (.invokevirtual 274, 3) := by decide +kernel
theorem dX9_deals_4 : decode cX9_deals 4 = .ok (.iconst 0, 1) := by decide +kernel
theorem dX9_deals_5 : decode cX9_deals 5 = .ok (.istore_n 1, 1) := by decide +kernel
theorem dX9_deals_6 : decode cX9_deals 6 = .ok (.aload_n 0, 1) := by decide +kernel
theorem dX9_deals_7 : decode cX9_deals 7 = .ok (.invokevirtual 277, 3) := by decide +kernel
theorem dX9_deals_10 : decode cX9_deals 10 = .ok (.istore_n 2, 1) := by decide +kernel
theorem dX9_deals_11 : decode cX9_deals 11 = .ok (.iload_n 2, 1) := by decide +kernel
theorem dX9_deals_12 : decode cX9_deals 12 = .ok (.ifCond .lt 76, 3) := by decide +kernel
theorem dX9_deals_15 : decode cX9_deals 15 = .ok (.aload_n 0, 1) := by decide +kernel
theorem dX9_deals_16 : decode cX9_deals 16 = .ok (.getfield 134, 3) := by decide +kernel
theorem dX9_deals_19 : decode cX9_deals 19 = .ok (.iload_n 2, 1) := by decide +kernel
theorem dX9_deals_20 : decode cX9_deals 20 = .ok (.iconst 0, 1) := by decide +kernel
theorem dX9_deals_21 : decode cX9_deals 21 = .ok (.bastore, 1) := by decide +kernel
theorem dX9_deals_22 : decode cX9_deals 22 = .ok (.bipush 48, 2) := by decide +kernel
theorem dX9_deals_24 : decode cX9_deals 24 = .ok (.aload_n 0, 1) := by decide +kernel
theorem dX9_deals_25 : decode cX9_deals 25 = .ok (.getfield 259, 3) := by decide +kernel
theorem dX9_deals_28 : decode cX9_deals 28 = .ok (.iconst 1, 1) := by decide +kernel
theorem dX9_deals_29 : decode cX9_deals 29 = .ok (.iadd, 1) := by decide +kernel
theorem dX9_deals_30 : decode cX9_deals 30 = .ok (.imul, 1) := by decide +kernel
theorem dX9_deals_31 : decode cX9_deals 31 = .ok (.istore_n 3, 1) := by decide +kernel
theorem dX9_deals_32 : decode cX9_deals 32 = .ok (.iload_n 3, 1) := by decide +kernel
theorem dX9_deals_33 : decode cX9_deals 33 = .ok (.sipush 2880, 3) := by decide +kernel
theorem dX9_deals_36 : decode cX9_deals 36 = .ok (.if_icmp .ge 44, 3) := by decide +kernel
theorem dX9_deals_39 : decode cX9_deals 39 = .ok (.aload_n 0, 1) := by decide +kernel
theorem dX9_deals_40 : decode cX9_deals 40 = .ok (.getfield 119, 3) := by decide +kernel
theorem dX9_deals_43 : decode cX9_deals 43 = .ok (.iload_n 2, 1) := by decide +kernel
theorem dX9_deals_44 : decode cX9_deals 44 = .ok (.iaload, 1) := by decide +kernel
theorem dX9_deals_45 : decode cX9_deals 45 = .ok (.ifCond .ne 35, 3) := by decide +kernel
theorem dX9_deals_48 : decode cX9_deals 48 = .ok (.aload_n 0, 1) := by decide +kernel
theorem dX9_deals_49 : decode cX9_deals 49 = .ok (.iload_n 3, 1) := by decide +kernel
theorem dX9_deals_50 : decode cX9_deals 50 = .ok (.invokevirtual 280, 3) := by decide +kernel
theorem dX9_deals_53 : decode cX9_deals 53 = .ok (.ifCond .eq 21, 3) := by decide +kernel
theorem dX9_deals_56 : decode cX9_deals 56 = .ok (.aload_n 0, 1) := by decide +kernel
theorem dX9_deals_57 : decode cX9_deals 57 = .ok (.iload_n 3, 1) := by decide +kernel
theorem dX9_deals_58 : decode cX9_deals 58 = .ok (.iload_n 2, 1) := by decide +kernel
theorem dX9_deals_59 : decode cX9_deals 59 = .ok (.invokevirtual 283, 3) := by decide +kernel
theorem dX9_deals_62 : decode cX9_deals 62 = .ok (.ifCond .eq 12, 3) := by decide +kernel
theorem dX9_deals_65 : decode cX9_deals 65 = .ok (.aload_n 0, 1) := by decide +kernel
theorem dX9_deals_66 : decode cX9_deals 66 = .ok (.iload_n 2, 1) := by decide +kernel
theorem dX9_deals_67 : decode cX9_deals 67 = .ok (.iload_n 3, 1) := by decide +kernel
