theorem dX11_init_0 : decode cX11_init 0 = .ok (.aload_n 0, 1) := by decide +kernel
theorem dX11_init_1 : decode cX11_init 1 = .ok (.invokespecial 1, 3) := by decide +kernel
theorem dX11_init_4 : decode cX11_init 4 = .ok (.aload_n 0, 1) := by decide +kernel
theorem dX11_init_5 : decode cX11_init 5 = .ok (.sipush 700, 3) := by decide +kernel
theorem dX11_init_8 : decode cX11_init 8 = .ok (.newarray .int, 2) := by decide +kernel
theorem dX11_init_10 : decode cX11_init 10 = .ok (.putfield 7, 3) := by decide +kernel
theorem dX11_init_13 : decode cX11_init 13 = .ok (.aload_n 0, 1) := by decide +kernel
theorem dX11_init_14 : decode cX11_init 14 = .ok (.bipush 14, 2) := by decide +kernel
theorem dX11_init_16 : decode cX11_init 16 = .ok (.newarray .int, 2) := by decide +kernel
theorem dX11_init_18 : decode cX11_init 18 = .ok (.putfield 13, 3) := by decide +kernel
theorem dX11_init_21 : decode cX11_init 21 = .ok (.aload_n 0, 1) := by decide +kernel
theorem dX11_init_22 : decode cX11_init 22 = .ok (.bipush 12, 2) := by decide +kernel
theorem dX11_init_24 : decode cX11_init 24 = .ok (.newarray .int, 2) := by decide +kernel
theorem dX11_init_26 : decode cX11_init 26 = .ok (.putfield 16, 3) := by decide +kernel
theorem dX11_init_29 : decode cX11_init 29 = .ok (.aload_n 0, 1) := by decide +kernel
theorem dX11_init_30 : decode cX11_init 30 = .ok (.bipush 18, 2) := by decide +kernel
theorem dX11_init_32 : decode cX11_init 32 = .ok (.newarray .int, 2) := by decide +kernel
theorem dX11_init_34 : decode cX11_init 34 = .ok (.putfield 19, 3) := by decide +kernel
theorem dX11_init_37 : decode cX11_init 37 = .ok (.aload_n 0, 1) := by decide +kernel
theorem dX11_init_38 : decode cX11_init 38 = .ok (.bipush 18, 2) := by decide +kernel
theorem dX11_init_40 : decode cX11_init 40 = .ok (.newarray .int, 2) := by decide +kernel
theorem dX11_init_42 : decode cX11_init 42 = .ok (.putfield 22, 3) := by decide +kernel
theorem dX11_init_45 : decode cX11_init 45 = .ok (.aload_n 0, 1) := by decide +kernel
theorem dX11_init_46 : decode cX11_init 46 = .ok (.bipush 16, 2) := by decide +kernel
theorem dX11_init_48 : decode cX11_init 48 = .ok (.newarray .int, 2) := by decide +kernel
theorem dX11_init_50 : decode cX11_init 50 = .ok (.putfield 25, 3) := by decide +kernel
theorem dX11_init_53 : decode cX11_init 53 = .ok (.aload_n 0, 1) := by decide +kernel
theorem dX11_init_54 : decode cX11_init 54 = .ok (.bipush 16, 2) := by decide +kernel
theorem dX11_init_56 : decode cX11_init 56 = .ok (.newarray .int, 2) := by decide +kernel
theorem dX11_init_58 : decode cX11_init 58 = .ok (.putfield 28, 3) := by decide +kernel
theorem dX11_init_61 : decode cX11_init 61 = .ok (.aload_n 0, 1) := by decide +kernel
theorem dX11_init_62 : decode cX11_init 62 = .ok (.bipush 16, 2) := by decide +kernel
theorem dX11_init_64 : decode cX11_init 64 = .ok (.newarray .int, 2) := by decide +kernel
theorem dX11_init_66 : decode cX11_init 66 = .ok (.putfield 31, 3) := by decide +kernel
theorem dX11_init_69 : decode cX11_init 69 = .ok (.aload_n 0, 1) := by decide +kernel
theorem dX11_init_70 : decode cX11_init 70 = .ok (.bipush 16, 2) := by decide +kernel
theorem dX11_init_72 : decode cX11_init 72 = .ok (.newarray .int, 2) := by decide +kernel
theorem dX11_init_74 : decode cX11_init 74 = .ok (.putfield 34, 3) := by decide +kernel
theorem dX11_init_77 : decode cX11_init 77 = .ok (.aload_n 0, 1) := by decide +kernel
theorem dX11_init_78 : decode cX11_init 78 = .ok (.bipush 12, 2) := by decide +kernel
theorem dX11_init_80 : decode cX11_init 80 = .ok (.newarray .int, 2) := by decide +kernel
theorem dX11_init_82 : decode cX11_init 82 = .ok (.putfield 37, 3) := by decide +kernel
theorem dX11_init_85 : decode cX11_init 85 = .ok (.aload_n 0, 1) := by decide +kernel
theorem dX11_init_86 : decode cX11_init 86 = .ok (.bipush 12, 2) := by decide +kernel
theorem dX11_init_88 : decode cX11_init 88 = .ok (.newarray .int, 2) := by decide +kernel
theorem dX11_init_90 : decode cX11_init 90 = .ok (.putfield 40, 3) := by decide +kernel
theorem dX11_init_93 : decode cX11_init 93 = .ok (.aload_n 0, 1) := by decide +kernel
theorem dX11_init_94 : decode cX11_init 94 = .ok (.bipush 12, 2) := by decide +kernel
theorem dX11_init_96 : decode cX11_init 96 = .ok (.newarray .int, 2) := by decide +kernel
theorem dX11_init_98 : decode cX11_init 98 = .ok (.putfield 43, 3) := by decide +kernel
theorem dX11_init_101 : decode cX11_init 101 = .ok (.aload_n 0, 1) := by decide +kernel
theorem dX11_init_102 : decode cX11_init 102 = .ok (.bipush 12, 2) := by decide +kernel
theorem dX11_init_104 : decode cX11_init 104 = .ok (.newarray .int, 2) := by decide +kernel
theorem dX11_init_106 : decode cX11_init 106 = .ok (.putfield 46, 3) := by decide +kernel
theorem dX11_init_109 : decode cX11_init 109 = .ok (.aload_n 0, 1) := by decide +kernel
theorem dX11_init_110 : decode cX11_init 110 = .ok (.bipush 12, 2) := by decide +kernel
theorem dX11_init_112 : decode cX11_init 112 = .ok (.newarray .int, 2) := by decide +kernel
theorem dX11_init_114 : decode cX11_init 114 = .ok (.putfield 49, 3) := by decide +kernel
theorem dX11_init_117 : decode cX11_init 117 = .ok (.aload_n 0, 1) := by decide +kernel
theorem dX11_init_118 : decode cX11_init 118 = .ok (.bipush 18, 2) := by decide +kernel
theorem dX11_init_120 : decode cX11_init 120 = .ok (.newarray .int, 2) := by decide +kernel
theorem dX11_init_122 : decode cX11_init 122 = .ok (.putfield 52, 3) := by decide +kernel
theorem dX11_init_125 : decode cX11_init 125 = .ok (.aload_n 0, 1) := by decide +kernel
theorem dX11_init_126 : decode cX11_init 126 = .ok (.bipush 6, 2) := by decide +kernel
theorem dX11_init_128 : decode cX11_init 128 = .ok (.newarray .int, 2) := by decide +kernel
theorem dX11_init_130 : decode cX11_init 130 = .ok (.putfield 55, 3) := by decide +kernel
theorem dX11_init_133 : decode cX11_init 133 = .ok (.aload_n 0, 1) := by decide +kernel
theorem dX11_init_134 : decode cX11_init 134 = .ok (.bipush 6, 2) := by decide +kernel
theorem dX11_init_136 : decode cX11_init 136 = .ok (.newarray .int, 2) := by decide +kernel
theorem dX11_init_138 : decode cX11_init 138 = .ok (.putfield 58, 3) := by decide +kernel
theorem dX11_init_141 : decode cX11_init 141 = .ok (.aload_n 0, 1) := by decide +kernel
theorem dX11_init_142 : decode cX11_init 142 = .ok (.sipush 128, 3) := by decide +kernel
theorem dX11_init_145 : decode cX11_init 145 = .ok (.newarray .int, 2) := by decide +kernel
theorem dX11_init_147 : decode cX11_init 147 = .ok (.putfield 61, 3) := by decide +kernel
theorem dX11_init_150 : decode cX11_init 150 = .ok (.aload_n 0, 1) := by decide +kernel
theorem dX11_init_151 : decode cX11_init 151 = .ok (.sipush 128, 3) := by decide +kernel
theorem dX11_init_154 : decode cX11_init 154 = .ok (.newarray .int, 2) := by decide +kernel
theorem dX11_init_156 : decode cX11_init 156 = .ok (.putfield 64, 3) := by decide +kernel
theorem dX11_init_159 : decode cX11_init 159 = .ok (.aload_n 0, 1) := by decide +kernel
theorem dX11_init_160 : decode cX11_init 160 = .ok (.iconst (-1), 1) := by decide +kernel
theorem dX11_init_161 : decode cX11_init 161 = .ok (.putfield 67, 3) := by decide +kernel
theorem dX11_init_164 : decode cX11_init 164 = .ok (.aload_n 0, 1) := by decide +kernel
theorem dX11_init_165 : decode cX11_init 165 = .ok (.bipush 7, 2) := by decide +kernel
theorem dX11_init_167 : decode cX11_init 167 = .ok (.newarray .long, 2) := by decide +kernel
theorem dX11_init_169 : decode cX11_init 169 = .ok (.putfield 71, 3) := by decide +kernel
theorem dX11_init_172 : decode cX11_init 172 = .ok (.aload_n 0, 1) := by decide +kernel
theorem dX11_init_173 : decode cX11_init 173 = .ok (.bipush 64, 2) := by decide +kernel
theorem dX11_init_175 : decode cX11_init 175 = .ok (.newarray .long, 2) := by decide +kernel
theorem dX11_init_177 : decode cX11_init 177 = .ok (.putfield 75, 3) := by decide +kernel
theorem dX11_init_180 : decode cX11_init 180 = .ok (.aload_n 0, 1) := by decide +kernel
theorem dX11_init_181 : decode cX11_init 181 = .ok (.bipush 23, 2) := by decide +kernel
theorem dX11_init_183 : decode cX11_init 183 = .ok (.newarray .int, 2) := by decide +kernel
theorem dX11_init_185 : decode cX11_init 185 = .ok (.putfield 78, 3) := by decide +kernel
theorem dX11_init_188 : decode cX11_init 188 = .ok (.aload_n 0, 1) := by decide +kernel
theorem dX11_init_189 : decode cX11_init 189 = .ok (.bipush 23, 2) := by decide +kernel
theorem dX11_init_191 : decode cX11_init 191 = .ok (.newarray .int, 2) := by decide +kernel
theorem dX11_init_193 : decode cX11_init 193 = .ok (.putfield 81, 3) := by decide +kernel
theorem dX11_init_196 : decode cX11_init 196 = .ok (.aload_n 0, 1) := by decide +kernel
theorem dX11_init_197 : decode cX11_init 197 = .ok (.bipush 23, 2) := by decide +kernel
theorem dX11_init_199 : decode cX11_init 199 = .ok (.newarray .int, 2) := by decide +kernel
theorem dX11_init_201 : decode cX11_init 201 = .ok (.putfield 84, 3) := by decide +kernel
theorem dX11_init_204 : decode cX11_init 204 = .ok (.aload_n 0, 1) := by decide +kernel
theorem dX11_init_205 : decode cX11_init 205 = .ok (.sipush 184, 3) := by decide +kernel
theorem dX11_init_208 : decode cX11_init 208 = .ok (.newarray .int, 2) := by decide +kernel
theorem dX11_init_210 : decode cX11_init 210 = .ok (.putfield 87, 3) := by decide +kernel
theorem dX11_init_213 : decode cX11_init 213 = .ok (.aload_n 0, 1) := by decide +kernel
theorem dX11_init_214 : decode cX11_init 214 = .ok (.sipush 184, 3) := by decide +kernel
theorem dX11_init_217 : decode cX11_init 217 = .ok (.newarray .int, 2) := by decide +kernel
theorem dX11_init_219 : decode cX11_init 219 = .ok (.putfield 90, 3) := by decide +kernel
theorem dX11_init_222 : decode cX11_init 222 = .ok (.aload_n 0, 1) := by decide +kernel
theorem dX11_init_223 : decode cX11_init 223 = .ok (.sipush 184, 3) := by decide +kernel
theorem dX11_init_226 : decode cX11_init 226 = .ok (.newarray .int, 2) := by decide +kernel
theorem dX11_init_228 : decode cX11_init 228 = .ok (.putfield 93, 3) := by decide +kernel
theorem dX11_init_231 : decode cX11_init 231 = .ok (.aload_n 0, 1) := by decide +kernel
theorem dX11_init_232 : decode cX11_init 232 = .ok (.sipush 138, 3) := by decide +kernel
theorem dX11_init_235 : decode cX11_init 235 = .ok (.newarray .int, 2) := by decide +kernel
theorem dX11_init_237 : decode cX11_init 237 = .ok (.putfield 96, 3) := by decide +kernel
theorem dX11_init_240 : decode cX11_init 240 = .ok (.aload_n 0, 1) := by decide +kernel
theorem dX11_init_241 : decode cX11_init 241 = .ok (.sipush 138, 3) := by decide +kernel
theorem dX11_init_244 : decode cX11_init 244 = .ok (.newarray .int, 2) := by decide +kernel
theorem dX11_init_246 : decode cX11_init 246 = .ok (.putfield 99, 3) := by decide +kernel
theorem dX11_init_249 : decode cX11_init 249 = .ok (.aload_n 0, 1) := by decide +kernel
theorem dX11_init_250 : decode cX11_init 250 = .ok (.iconst (-1), 1) := by decide +kernel
theorem dX11_init_251 : decode cX11_init 251 = .ok (.putfield 102, 3) := by decide +kernel
theorem dX11_init_254 : decode cX11_init 254 = .ok (.aload_n 0, 1) := by decide +kernel
theorem dX11_init_255 : decode cX11_init 255 = .ok (.iconst (-1), 1) := by decide +kernel
theorem dX11_init_256 : decode cX11_init 256 = .ok (.putfield 105, 3) := by decide +kernel
theorem dX11_init_259 : decode cX11_init 259 = .ok (.aload_n 0, 1) := by decide +kernel
theorem dX11_init_260 : decode cX11_init 260 = .ok (.iconst (-1), 1) := by decide +kernel
theorem dX11_init_261 : decode cX11_init 261 = .ok (.putfield 108, 3) := by decide +kernel
theorem dX11_init_264 : decode cX11_init 264 = .ok (.aload_n 0, 1) := by decide +kernel
theorem dX11_init_265 : decode cX11_init 265 = .ok (.iconst 4, 1) := by decide +kernel
theorem dX11_init_266 : decode cX11_init 266 = .ok (.newarray .int, 2) := by decide +kernel
theorem dX11_init_268 : decode cX11_init 268 = .ok (.putfield 111, 3) := by decide +kernel
theorem dX11_init_271 : decode cX11_init 271 = .ok (.aload_n 0, 1) := by decide +kernel
theorem dX11_init_272 : decode cX11_init 272 = .ok (.bipush 12, 2) := by decide +kernel
theorem dX11_init_274 : decode cX11_init 274 = .ok (.newarray .int, 2) := by decide +kernel
theorem dX11_init_276 : decode cX11_init 276 = .ok (.putfield 114, 3) := by decide +kernel
theorem dX11_init_279 : decode cX11_init 279 = .ok (.aload_n 0, 1) := by decide +kernel
theorem dX11_init_280 : decode cX11_init 280 = .ok (.bipush 6, 2) := by decide +kernel
theorem dX11_init_282 : decode cX11_init 282 = .ok (.newarray .int, 2) := by decide +kernel
theorem dX11_init_284 : decode cX11_init 284 = .ok (.putfield 117, 3) := by decide +kernel
theorem dX11_init_287 : decode cX11_init 287 = .ok (.aload_n 0, 1) := by decide +kernel
theorem dX11_init_288 : decode cX11_init 288 = .ok (.bipush 6, 2) := by decide +kernel
theorem dX11_init_290 : decode cX11_init 290 = .ok (.newarray .int, 2) := by decide +kernel
theorem dX11_init_292 : decode cX11_init 292 = .ok (.putfield 120, 3) := by decide +kernel
theorem dX11_init_295 : decode cX11_init 295 = .ok (.aload_n 0, 1) := by decide +kernel
theorem dX11_init_296 : decode cX11_init 296 = .ok (.iconst (-1), 1) := by decide +kernel
theorem dX11_init_297 : decode cX11_init 297 = .ok (.putfield 123, 3) := by decide +kernel
theorem dX11_init_300 : decode cX11_init 300 = .ok (.aload_n 0, 1) := by decide +kernel
theorem dX11_init_301 : decode cX11_init 301 = .ok (.bipush 24, 2) := by decide +kernel
theorem dX11_init_303 : decode cX11_init 303 = .ok (.newarray .int, 2) := by decide +kernel
theorem dX11_init_305 : decode cX11_init 305 = .ok (.putfield 126, 3) := by decide +kernel
theorem dX11_init_308 : decode cX11_init 308 = .ok (.aload_n 0, 1) := by decide +kernel
theorem dX11_init_309 : decode cX11_init 309 = .ok (.bipush 24, 2) := by decide +kernel
theorem dX11_init_311 : decode cX11_init 311 = .ok (.newarray .int, 2) := by decide +kernel
theorem dX11_init_313 : decode cX11_init 313 = .ok (.putfield 129, 3) := by decide +kernel
theorem dX11_init_316 : decode cX11_init 316 = .ok (.aload_n 0, 1) := by decide +kernel
theorem dX11_init_317 : decode cX11_init 317 = .ok (.bipush 24, 2) := by decide +kernel
theorem dX11_init_319 : decode cX11_init 319 = .ok (.newarray .int, 2) := by decide +kernel
theorem dX11_init_321 : decode cX11_init 321 = .ok (.putfield 132, 3) := by decide +kernel
theorem dX11_init_324 : decode cX11_init 324 = .ok (.aload_n 0, 1) := by decide +kernel
theorem dX11_init_325 : decode cX11_init 325 = .ok (.bipush 24, 2) := by decide +kernel
theorem dX11_init_327 : decode cX11_init 327 = .ok (.newarray .boolean, 2) := by decide +kernel
theorem dX11_init_329 : decode cX11_init 329 = .ok (.putfield 135, 3) := by decide +kernel
theorem dX11_init_332 : decode cX11_init 332 = .ok (.aload_n 0, 1) := by decide +kernel
theorem dX11_init_333 : decode cX11_init 333 = .ok (.bipush 24, 2) := by decide +kernel
theorem dX11_init_335 : decode cX11_init 335 = .ok (.newarray .int, 2) := by decide +kernel
theorem dX11_init_337 : decode cX11_init 337 = .ok (.putfield 139, 3) := by decide +kernel
theorem dX11_init_340 : decode cX11_init 340 = .ok (.aload_n 0, 1) := by decide +kernel
theorem dX11_init_341 : decode cX11_init 341 = .ok (.bipush 24, 2) := by decide +kernel
theorem dX11_init_343 : decode cX11_init 343 = .ok (.newarray .boolean, 2) := by decide +kernel
theorem dX11_init_345 : decode cX11_init 345 = .ok (.putfield 142, 3) := by decide +kernel
theorem dX11_init_348 : decode cX11_init 348 = .ok (.aload_n 0, 1) := by decide +kernel
theorem dX11_init_349 : decode cX11_init 349 = .ok (.invokevirtual 145, 3) := by decide +kernel
theorem dX11_init_352 : decode cX11_init 352 = .ok (.return_, 1) := by decide +kernel
theorem dX11_thrown_0 : decode cX11_thrown 0 = .ok (.aload_n 0, 1) := by decide +kernel
theorem dX11_thrown_1 : decode cX11_thrown 1 = .ok (.getfield 148, 3) := by decide +kernel
theorem dX11_thrown_4 : decode cX11_thrown 4 = .ok (.ireturn, 1) := by decide +kernel
theorem dX11_feed_0 : decode cX11_feed 0 = .ok (.aload_n 0, 1) := by decide +kernel
theorem dX11_feed_1 : decode cX11_feed 1 = .ok (.iconst 0, 1) := by decide +kernel
theorem dX11_feed_2 : decode cX11_feed 2 = .ok (.putfield 148, 3) := by decide +kernel
theorem dX11_feed_5 : decode cX11_feed 5 = .ok (.aload_n 0, 1) := by decide +kernel
theorem dX11_feed_6 : decode cX11_feed 6 = .ok (.getfield 151, 3) := by decide +kernel
theorem dX11_feed_9 : decode cX11_feed 9 = .ok (.sipush 680, 3) := by decide +kernel
theorem dX11_feed_12 : decode cX11_feed 12 = .ok (.if_icmp .le 5, 3) := by decide +kernel
theorem dX11_feed_15 : decode cX11_feed 15 = .ok (.iconst (-1), 1) := by decide +kernel
theorem dX11_feed_16 : decode cX11_feed 16 = .ok (.ireturn, 1) := by decide +kernel
theorem dX11_feed_17 : decode cX11_feed 17 = .ok (.iconst 0, 1) := by decide +kernel
theorem dX11_feed_18 : decode cX11_feed 18 = .ok (.istore 6, 2) := by decide +kernel
theorem dX11_feed_20 : decode cX11_feed 20 = .ok (.iload 6, 2) := by decide +kernel
theorem dX11_feed_22 : decode cX11_feed 22 = .ok (.bipush 20, 2) := by decide +kernel
theorem dX11_feed_24 : decode cX11_feed 24 = .ok (.if_icmp .ge 86, 3) := by decide +kernel
theorem dX11_feed_27 : decode cX11_feed 27 = .ok (.iload 6, 2) := by decide +kernel
theorem dX11_feed_29 : decode cX11_feed 29 = .ok (.iconst 4, 1) := by decide +kernel
theorem dX11_feed_30 : decode cX11_feed 30 = .ok (.if_icmp .ge 7, 3) := by decide +kernel
theorem dX11_feed_33 : decode cX11_feed 33 = .ok (.iload_n 1, 1) := by decide +kernel
theorem dX11_feed_34 : decode cX11_feed 34 = .ok (.goto 39, 3) := by decide +kernel
theorem dX11_feed_37 : decode cX11_feed 37 = .ok (.iload 6, 2) := by decide +kernel
theorem dX11_feed_39 : decode cX11_feed 39 = .ok (.bipush 8, 2) := by decide +kernel
theorem dX11_feed_41 : decode cX11_feed 41 = .ok (.if_icmp .ge 7, 3) := by decide +kernel
theorem dX11_feed_44 : decode cX11_feed 44 = .ok (.iload_n 2, 1) := by decide +kernel
theorem dX11_feed_45 : decode cX11_feed 45 = .ok (.goto 28, 3) := by decide +kernel
theorem dX11_feed_48 : decode cX11_feed 48 = .ok (.iload 6, 2) := by decide +kernel
theorem dX11_feed_50 : decode cX11_feed 50 = .ok (.bipush 12, 2) := by decide +kernel
theorem dX11_feed_52 : decode cX11_feed 52 = .ok (.if_icmp .ge 7, 3) := by decide +kernel
theorem dX11_feed_55 : decode cX11_feed 55 = .ok (.iload_n 3, 1) := by decide +kernel
theorem dX11_feed_56 : decode cX11_feed 56 = .ok (.goto 17, 3) := by decide +kernel
theorem dX11_feed_59 : decode cX11_feed 59 = .ok (.iload 6, 2) := by decide +kernel
theorem dX11_feed_61 : decode cX11_feed 61 = .ok (.bipush 16, 2) := by decide +kernel
theorem dX11_feed_63 : decode cX11_feed 63 = .ok (.if_icmp .ge 8, 3) := by decide +kernel
theorem dX11_feed_66 : decode cX11_feed 66 = .ok (.iload 4, 2) := by decide +kernel
theorem dX11_feed_68 : decode cX11_feed 68 = .ok (.goto 5, 3) := by decide +kernel
theorem dX11_feed_71 : decode cX11_feed 71 = .ok (.iload 5, 2) := by decide +kernel
theorem dX11_feed_73 : decode cX11_feed 73 = .ok (.istore 7, 2) := by decide +kernel
theorem dX11_feed_75 : decode cX11_feed 75 = .ok (.aload_n 0, 1) := by decide +kernel
theorem dX11_feed_76 : decode cX11_feed 76 = .ok (.getfield 7, 3) := by decide +kernel
theorem dX11_feed_79 : decode cX11_feed 79 = .ok (.aload_n 0, 1) := by decide +kernel
theorem dX11_feed_80 : decode cX11_feed 80 = .ok (.getfield 151, 3) := by decide +kernel
theorem dX11_feed_83 : decode cX11_feed 83 = .ok (.iload 6, 2) := by decide +kernel
theorem dX11_feed_85 : decode cX11_feed 85 = .ok (.iadd, 1) := by decide +kernel
theorem dX11_feed_86 : decode cX11_feed 86 = .ok (.iload 7, 2) := by decide +kernel
theorem dX11_feed_88 : decode cX11_feed 88 = .ok (.bipush 24, 2) := by decide +kernel
theorem dX11_feed_90 : decode cX11_feed 90 = .ok (.bipush 8, 2) := by decide +kernel
theorem dX11_feed_92 : decode cX11_feed 92 = .ok (.iload 6, 2) := by decide +kernel
theorem dX11_feed_94 : decode cX11_feed 94 = .ok (.iconst 4, 1) := by decide +kernel
theorem dX11_feed_95 : decode cX11_feed 95 = .ok (.irem, 1) := by decide +kernel
theorem dX11_feed_96 : decode cX11_feed 96 = .ok (.imul, 1) := by decide +kernel
theorem dX11_feed_97 : decode cX11_feed 97 = .ok (.isub, 1) := by decide +kernel
theorem dX11_feed_98 : decode cX11_feed 98 = .ok (.ishr, 1) := by decide +kernel
theorem dX11_feed_99 : decode cX11_feed 99 = .ok (.sipush 255, 3) := by decide +kernel
theorem dX11_feed_102 : decode cX11_feed 102 = .ok (.iand, 1) := by decide +kernel
theorem dX11_feed_103 : decode cX11_feed 103 = .ok (.iastore, 1) := by decide +kernel
theorem dX11_feed_104 : decode cX11_feed 104 = .ok (.iinc 6 1, 3) := by decide +kernel
theorem dX11_feed_107 : decode cX11_feed 107 = .ok (.goto (-87), 3) := by decide +kernel
theorem dX11_feed_110 : decode cX11_feed 110 = .ok (.aload_n 0, 1) := by decide +kernel
theorem dX11_feed_111 : decode cX11_feed 111 = .ok (.dup, 1) := by decide +kernel
theorem dX11_feed_112 : decode cX11_feed 112 = .ok (.getfield 151, 3) := by decide +kernel
theorem dX11_feed_115 : decode cX11_feed 115 = .ok (.bipush 20, 2) := by decide +kernel
theorem dX11_feed_117 : decode cX11_feed 117 = .ok (.iadd, 1) := by decide +kernel
theorem dX11_feed_118 : decode cX11_feed 118 = .ok (.putfield 151, 3) := by decide +kernel
theorem dX11_feed_121 : decode cX11_feed 121 = .ok (.aload_n 0, 1) := by decide +kernel
theorem dX11_feed_122 : decode cX11_feed 122 = .ok (.getfield 151, 3) := by decide +kernel
theorem dX11_feed_125 : decode cX11_feed 125 = .ok (.ireturn, 1) := by decide +kernel
theorem dX11_here_0 : decode cX11_here 0 = .ok (.aload_n 0, 1) := by decide +kernel
theorem dX11_here_1 : decode cX11_here 1 = .ok (.getfield 154, 3) := by decide +kernel
theorem dX11_here_4 : decode cX11_here 4 = .ok (.aload_n 0, 1) := by decide +kernel
theorem dX11_here_5 : decode cX11_here 5 = .ok (.getfield 157, 3) := by decide +kernel
theorem dX11_here_8 : decode cX11_here 8 = .ok (.if_icmp .ge 15, 3) := by decide +kernel
theorem dX11_here_11 : decode cX11_here 11 = .ok (.aload_n 0, 1) := by decide +kernel
theorem dX11_here_12 : decode cX11_here 12 = .ok (.getfield 7, 3) := by decide +kernel
theorem dX11_here_15 : decode cX11_here 15 = .ok (.aload_n 0, 1) := by decide +kernel
theorem dX11_here_16 : decode cX11_here 16 = .ok (.getfield 154, 3) := by decide +kernel
theorem dX11_here_19 : decode cX11_here 19 = .ok (.iaload, 1) := by decide +kernel
theorem dX11_here_20 : decode cX11_here 20 = .ok (.goto 4, 3) := by decide +kernel
theorem dX11_here_23 : decode cX11_here 23 = .ok (.iconst (-1), 1) := by decide +kernel
theorem dX11_here_24 : decode cX11_here 24 = .ok (.ireturn, 1) := by decide +kernel
theorem dX11_isSmall_0 : decode cX11_isSmall 0 = .ok (.iload_n 0, 1) := by decide +kernel
theorem dX11_isSmall_1 : decode cX11_isSmall 1 = .ok (.bipush 97, 2) := by decide +kernel
theorem dX11_isSmall_3 : decode cX11_isSmall 3 = .ok (.if_icmp .lt 13, 3) := by decide +kernel
theorem dX11_isSmall_6 : decode cX11_isSmall 6 = .ok (.iload_n 0, 1) := by decide +kernel
theorem dX11_isSmall_7 : decode cX11_isSmall 7 = .ok (.bipush 122, 2) := by decide +kernel
theorem dX11_isSmall_9 : decode cX11_isSmall 9 = .ok (.if_icmp .gt 7, 3) := by decide +kernel
theorem dX11_isSmall_12 : decode cX11_isSmall 12 = .ok (.iconst 1, 1) := by decide +kernel
theorem dX11_isSmall_13 : decode cX11_isSmall 13 = .ok (.goto 4, 3) := by decide +kernel
theorem dX11_isSmall_16 : decode cX11_isSmall 16 = .ok (.iconst 0, 1) := by decide +kernel
theorem dX11_isSmall_17 : decode cX11_isSmall 17 = .ok (.ireturn, 1) := by decide +kernel
theorem dX11_isDigit_0 : decode cX11_isDigit 0 = .ok (.iload_n 0, 1) := by decide +kernel
theorem dX11_isDigit_1 : decode cX11_isDigit 1 = .ok (.bipush 48, 2) := by decide +kernel
theorem dX11_isDigit_3 : decode cX11_isDigit 3 = .ok (.if_icmp .lt 13, 3) := by decide +kernel
theorem dX11_isDigit_6 : decode cX11_isDigit 6 = .ok (.iload_n 0, 1) := by decide +kernel
theorem dX11_isDigit_7 : decode cX11_isDigit 7 = .ok (.bipush 57, 2) := by decide +kernel
theorem dX11_isDigit_9 : decode cX11_isDigit 9 = .ok (.if_icmp .gt 7, 3) := by decide +kernel
theorem dX11_isDigit_12 : decode cX11_isDigit 12 = .ok (.iconst 1, 1) := by decide +kernel
theorem dX11_isDigit_13 : decode cX11_isDigit 13 = .ok (.goto 4, 3) := by decide +kernel
theorem dX11_isDigit_16 : decode cX11_isDigit 16 = .ok (.iconst 0, 1) := by decide +kernel
theorem dX11_isDigit_17 : decode cX11_isDigit 17 = .ok (.ireturn, 1) := by decide +kernel
theorem dX11_token_0 : decode cX11_token 0 = .ok (.aload_n 0, 1) := by decide +kernel
theorem dX11_token_1 : decode cX11_token 1 = .ok (.invokevirtual 160, 3) := by decide +kernel
theorem dX11_token_4 : decode cX11_token 4 = .ok (.bipush 10, 2) := by decide +kernel
theorem dX11_token_6 : decode cX11_token 6 = .ok (.if_icmp .eq 12, 3) := by decide +kernel
theorem dX11_token_9 : decode cX11_token 9 = .ok (.aload_n 0, 1) := by decide +kernel
theorem dX11_token_10 : decode cX11_token 10 = .ok (.invokevirtual 160, 3) := by decide +kernel
theorem dX11_token_13 : decode cX11_token 13 = .ok (.bipush 32, 2) := by decide +kernel
theorem dX11_token_15 : decode cX11_token 15 = .ok (.if_icmp .ne 16, 3) := by decide +kernel
theorem dX11_token_18 : decode cX11_token 18 = .ok (.aload_n 0, 1) := by decide +kernel
theorem dX11_token_19 : decode cX11_token 19 = .ok (.dup, 1) := by decide +kernel
theorem dX11_token_20 : decode cX11_token 20 = .ok (.getfield 154, 3) := by decide +kernel
theorem dX11_token_23 : decode cX11_token 23 = .ok (.iconst 1, 1) := by decide +kernel
theorem dX11_token_24 : decode cX11_token 24 = .ok (.iadd, 1) := by decide +kernel
theorem dX11_token_25 : decode cX11_token 25 = .ok (.putfield 154, 3) := by decide +kernel
theorem dX11_token_28 : decode cX11_token 28 = .ok (.goto (-28), 3) := by decide +kernel
theorem dX11_token_31 : decode cX11_token 31 = .ok (.aload_n 0, 1) := by decide +kernel
theorem dX11_token_32 : decode cX11_token 32 = .ok (.aload_n 0, 1) := by decide +kernel
theorem dX11_token_33 : decode cX11_token 33 = .ok (.getfield 154, 3) := by decide +kernel
theorem dX11_token_36 : decode cX11_token 36 = .ok (.putfield 164, 3) := by decide +kernel
theorem dX11_token_39 : decode cX11_token 39 = .ok (.aload_n 0, 1) := by decide +kernel
theorem dX11_token_40 : decode cX11_token 40 = .ok (.invokevirtual 160, 3) := by decide +kernel
theorem dX11_token_43 : decode cX11_token 43 = .ok (.istore_n 1, 1) := by decide +kernel
theorem dX11_token_44 : decode cX11_token 44 = .ok (.iload_n 1, 1) := by decide +kernel
theorem dX11_token_45 : decode cX11_token 45 = .ok (.iconst (-1), 1) := by decide +kernel
theorem dX11_token_46 : decode cX11_token 46 = .ok (.if_icmp .ne 11, 3) := by decide +kernel
theorem dX11_token_49 : decode cX11_token 49 = .ok (.aload_n 0, 1) := by decide +kernel
theorem dX11_token_50 : decode cX11_token 50 = .ok (.iconst 4, 1) := by decide +kernel
theorem dX11_token_51 : decode cX11_token 51 = .ok (.putfield 167, 3) := by decide +kernel
theorem dX11_token_54 : decode cX11_token 54 = .ok (.goto 171, 3) := by decide +kernel
theorem dX11_token_57 : decode cX11_token 57 = .ok (.iload_n 1, 1) := by decide +kernel
theorem dX11_token_58 : decode cX11_token 58 = .ok (.invokestatic 170, 3) := by decide +kernel
theorem dX11_token_61 : decode cX11_token 61 = .ok (.ifCond .eq 84, 3) := by decide +kernel
theorem dX11_token_64 : decode cX11_token 64 = .ok (.aload_n 0, 1) := by decide +kernel
theorem dX11_token_65 : decode cX11_token 65 = .ok (.invokevirtual 160, 3) := by decide +kernel
theorem dX11_token_68 : decode cX11_token 68 = .ok (.invokestatic 170, 3) := by decide +kernel
theorem dX11_token_71 : decode cX11_token 71 = .ok (.ifCond .eq 16, 3) := by decide +kernel
theorem dX11_token_74 : decode cX11_token 74 = .ok (.aload_n 0, 1) := by decide +kernel
theorem dX11_token_75 : decode cX11_token 75 = .ok (.dup, 1) := by decide +kernel
theorem dX11_token_76 : decode cX11_token 76 = .ok (.getfield 154, 3) := by decide +kernel
theorem dX11_token_79 : decode cX11_token 79 = .ok (.iconst 1, 1) := by decide +kernel
theorem dX11_token_80 : decode cX11_token 80 = .ok (.iadd, 1) := by decide +kernel
theorem dX11_token_81 : decode cX11_token 81 = .ok (.putfield 154, 3) := by decide +kernel
theorem dX11_token_84 : decode cX11_token 84 = .ok (.goto (-20), 3) := by decide +kernel
theorem dX11_token_87 : decode cX11_token 87 = .ok (.aload_n 0, 1) := by decide +kernel
theorem dX11_token_88 : decode cX11_token 88 = .ok (.aload_n 0, 1) := by decide +kernel
theorem dX11_token_89 : decode cX11_token 89 = .ok (.invokevirtual 174, 3) := by decide +kernel
theorem dX11_token_92 : decode cX11_token 92 = .ok (.putfield 177, 3) := by decide +kernel
theorem dX11_token_95 : decode cX11_token 95 = .ok (.aload_n 0, 1) := by decide +kernel
theorem dX11_token_96 : decode cX11_token 96 = .ok (.aload_n 0, 1) := by decide +kernel
theorem dX11_token_97 : decode cX11_token 97 = .ok (.getfield 177, 3) := by decide +kernel
theorem dX11_token_100 : decode cX11_token 100 = .ok (.iconst (-1), 1) := by decide +kernel
theorem dX11_token_101 : decode cX11_token 101 = .ok (.if_icmp .eq 7, 3) := by decide +kernel
theorem dX11_token_104 : decode cX11_token 104 = .ok (.iconst 0, 1) := by decide +kernel
theorem dX11_token_105 : decode cX11_token 105 = .ok (.goto 22, 3) := by decide +kernel
theorem dX11_token_108 : decode cX11_token 108 = .ok (.aload_n 0, 1) := by decide +kernel
theorem dX11_token_109 : decode cX11_token 109 = .ok (.getfield 154, 3) := by decide +kernel
theorem dX11_token_112 : decode cX11_token 112 = .ok (.aload_n 0, 1) := by decide +kernel
theorem dX11_token_113 : decode cX11_token 113 = .ok (.getfield 164, 3) := by decide +kernel
theorem dX11_token_116 : decode cX11_token 116 = .ok (.isub, 1) := by decide +kernel
theorem dX11_token_117 : decode cX11_token 117 = .ok (.bipush 6, 2) := by decide +kernel
theorem dX11_token_119 : decode cX11_token 119 = .ok (.if_icmp .le 7, 3) := by decide +kernel
theorem dX11_token_122 : decode cX11_token 122 = .ok (.iconst 5, 1) := by decide +kernel
theorem dX11_token_123 : decode cX11_token 123 = .ok (.goto 4, 3) := by decide +kernel
theorem dX11_token_126 : decode cX11_token 126 = .ok (.iconst 1, 1) := by decide +kernel
theorem dX11_token_127 : decode cX11_token 127 = .ok (.putfield 167, 3) := by decide +kernel
theorem dX11_token_130 : decode cX11_token 130 = .ok (.aload_n 0, 1) := by decide +kernel
theorem dX11_token_131 : decode cX11_token 131 = .ok (.getfield 167, 3) := by decide +kernel
theorem dX11_token_134 : decode cX11_token 134 = .ok (.iconst 1, 1) := by decide +kernel
theorem dX11_token_135 : decode cX11_token 135 = .ok (.if_icmp .ne 90, 3) := by decide +kernel
theorem dX11_token_138 : decode cX11_token 138 = .ok (.aload_n 0, 1) := by decide +kernel
theorem dX11_token_139 : decode cX11_token 139 = .ok (.invokevirtual 180, 3) := by decide +kernel
theorem dX11_token_142 : decode cX11_token 142 = .ok (.goto 83, 3) := by decide +kernel
theorem dX11_token_145 : decode cX11_token 145 = .ok (.iload_n 1, 1) := by decide +kernel
theorem dX11_token_146 : decode cX11_token 146 = .ok (.invokestatic 183, 3) := by decide +kernel
theorem dX11_token_149 : decode cX11_token 149 = .ok (.ifCond .eq 71, 3) := by decide +kernel
theorem dX11_token_152 : decode cX11_token 152 = .ok (.aload_n 0, 1) := by decide +kernel
theorem dX11_token_153 : decode cX11_token 153 = .ok (.iconst 2, 1) := by decide +kernel
theorem dX11_token_154 : decode cX11_token 154 = .ok (.putfield 167, 3) := by decide +kernel
theorem dX11_token_157 : decode cX11_token 157 = .ok (.aload_n 0, 1) := by decide +kernel
theorem dX11_token_158 : decode cX11_token 158 = .ok (.iconst 0, 1) := by decide +kernel
theorem dX11_token_159 : decode cX11_token 159 = .ok (.putfield 177, 3) := by decide +kernel
theorem dX11_token_162 : decode cX11_token 162 = .ok (.aload_n 0, 1) := by decide +kernel
theorem dX11_token_163 : decode cX11_token 163 = .ok (.invokevirtual 160, 3) := by decide +kernel
theorem dX11_token_166 : decode cX11_token 166 = .ok (.invokestatic 183, 3) := by decide +kernel
theorem dX11_token_169 : decode cX11_token 169 = .ok (.ifCond .eq 56, 3) := by decide +kernel
theorem dX11_token_172 : decode cX11_token 172 = .ok (.aload_n 0, 1) := by decide +kernel
theorem dX11_token_173 : decode cX11_token 173 = .ok (.aload_n 0, 1) := by decide +kernel
theorem dX11_token_174 : decode cX11_token 174 = .ok (.getfield 177, 3) := by decide +kernel
theorem dX11_token_177 : decode cX11_token 177 = .ok (.ldc 186, 2) := by decide +kernel
theorem dX11_token_179 : decode cX11_token 179 = .ok (.if_icmp .le 10, 3) := by decide +kernel
theorem dX11_token_182 : decode cX11_token 182 = .ok (.aload_n 0, 1) := by decide +kernel
theorem dX11_token_183 : decode cX11_token 183 = .ok (.getfield 177, 3) := by decide +kernel
theorem dX11_token_186 : decode cX11_token 186 = .ok (.goto 18, 3) := by decide +kernel
theorem dX11_token_189 : decode cX11_token 189 = .ok (.bipush 10, 2) := by decide +kernel
theorem dX11_token_191 : decode cX11_token 191 = .ok (.aload_n 0, 1) := by decide +kernel
theorem dX11_token_192 : decode cX11_token 192 = .ok (.getfield 177, 3) := by decide +kernel
theorem dX11_token_195 : decode cX11_token 195 = .ok (.imul, 1) := by decide +kernel
theorem dX11_token_196 : decode cX11_token 196 = .ok (.aload_n 0, 1) := by decide +kernel
theorem dX11_token_197 : decode cX11_token 197 = .ok (.invokevirtual 160, 3) := by decide +kernel
theorem dX11_token_200 : decode cX11_token 200 = .ok (.iadd, 1) := by decide +kernel
theorem dX11_token_201 : decode cX11_token 201 = .ok (.bipush 48, 2) := by decide +kernel
theorem dX11_token_203 : decode cX11_token 203 = .ok (.isub, 1) := by decide +kernel
theorem dX11_token_204 : decode cX11_token 204 = .ok (.putfield 177, 3) := by decide +kernel
theorem dX11_token_207 : decode cX11_token 207 = .ok (.aload_n 0, 1) := by decide +kernel
theorem dX11_token_208 : decode cX11_token 208 = .ok (.dup, 1) := by decide +kernel
theorem dX11_token_209 : decode cX11_token 209 = .ok (.getfield 154, 3) := by decide +kernel
theorem dX11_token_212 : decode cX11_token 212 = .ok (.iconst 1, 1) := by decide +kernel
theorem dX11_token_213 : decode cX11_token 213 = .ok (.iadd, 1) := by decide +kernel
theorem dX11_token_214 : decode cX11_token 214 = .ok (.putfield 154, 3) := by decide +kernel
theorem dX11_token_217 : decode cX11_token 217 = .ok (.goto (-55), 3) := by decide +kernel
theorem dX11_token_220 : decode cX11_token 220 = .ok (.aload_n 0, 1) := by decide +kernel
theorem dX11_token_221 : decode cX11_token 221 = .ok (.iload_n 1, 1) := by decide +kernel
theorem dX11_token_222 : decode cX11_token 222 = .ok (.invokevirtual 187, 3) := by decide +kernel
theorem dX11_token_225 : decode cX11_token 225 = .ok (.return_, 1) := by decide +kernel
theorem dX11_sign_0 : decode cX11_sign 0 = .ok (.aload_n 0, 1) := by decide +kernel
theorem dX11_sign_1 : decode cX11_sign 1 = .ok (.dup, 1) := by decide +kernel
theorem dX11_sign_2 : decode cX11_sign 2 = .ok (.getfield 154, 3) := by decide +kernel
theorem dX11_sign_5 : decode cX11_sign 5 = .ok (.iconst 1, 1) := by decide +kernel
theorem dX11_sign_6 : decode cX11_sign 6 = .ok (.iadd, 1) := by decide +kernel
theorem dX11_sign_7 : decode cX11_sign 7 = .ok (.putfield 154, 3) := by decide +kernel
theorem dX11_sign_10 : decode cX11_sign 10 = .ok (.aload_n 0, 1) := by decide +kernel
theorem dX11_sign_11 : decode cX11_sign 11 = .ok (.iload_n 1, 1) := by decide +kernel
theorem dX11_sign_12 : decode cX11_sign 12 = .ok (.bipush 59, 2) := by decide +kernel
theorem dX11_sign_14 : decode cX11_sign 14 = .ok (.if_icmp .eq 57, 3) := by decide +kernel
theorem dX11_sign_17 : decode cX11_sign 17 = .ok (.iload_n 1, 1) := by decide +kernel
theorem dX11_sign_18 : decode cX11_sign 18 = .ok (.bipush 40, 2) := by decide +kernel
theorem dX11_sign_20 : decode cX11_sign 20 = .ok (.if_icmp .eq 51, 3) := by decide +kernel
theorem dX11_sign_23 : decode cX11_sign 23 = .ok (.iload_n 1, 1) := by decide +kernel
theorem dX11_sign_24 : decode cX11_sign 24 = .ok (.bipush 41, 2) := by decide +kernel
theorem dX11_sign_26 : decode cX11_sign 26 = .ok (.if_icmp .eq 45, 3) := by decide +kernel
theorem dX11_sign_29 : decode cX11_sign 29 = .ok (.iload_n 1, 1) := by decide +kernel
theorem dX11_sign_30 : decode cX11_sign 30 = .ok (.bipush 43, 2) := by decide +kernel
theorem dX11_sign_32 : decode cX11_sign 32 = .ok (.if_icmp .eq 39, 3) := by decide +kernel
theorem dX11_sign_35 : decode cX11_sign 35 = .ok (.iload_n 1, 1) := by decide +kernel
theorem dX11_sign_36 : decode cX11_sign 36 = .ok (.bipush 45, 2) := by decide +kernel
theorem dX11_sign_38 : decode cX11_sign 38 = .ok (.if_icmp .eq 33, 3) := by decide +kernel
theorem dX11_sign_41 : decode cX11_sign 41 = .ok (.iload_n 1, 1) := by decide +kernel
theorem dX11_sign_42 : decode cX11_sign 42 = .ok (.bipush 42, 2) := by decide +kernel
theorem dX11_sign_44 : decode cX11_sign 44 = .ok (.if_icmp .eq 27, 3) := by decide +kernel
theorem dX11_sign_47 : decode cX11_sign 47 = .ok (.iload_n 1, 1) := by decide +kernel
theorem dX11_sign_48 : decode cX11_sign 48 = .ok (.bipush 47, 2) := by decide +kernel
theorem dX11_sign_50 : decode cX11_sign 50 = .ok (.if_icmp .eq 21, 3) := by decide +kernel
theorem dX11_sign_53 : decode cX11_sign 53 = .ok (.iload_n 1, 1) := by decide +kernel
theorem dX11_sign_54 : decode cX11_sign 54 = .ok (.bipush 60, 2) := by decide +kernel
theorem dX11_sign_56 : decode cX11_sign 56 = .ok (.if_icmp .eq 15, 3) := by decide +kernel
theorem dX11_sign_59 : decode cX11_sign 59 = .ok (.iload_n 1, 1) := by decide +kernel
theorem dX11_sign_60 : decode cX11_sign 60 = .ok (.bipush 61, 2) := by decide +kernel
theorem dX11_sign_62 : decode cX11_sign 62 = .ok (.if_icmp .eq 9, 3) := by decide +kernel
theorem dX11_sign_65 : decode cX11_sign 65 = .ok (.iload_n 1, 1) := by decide +kernel
theorem dX11_sign_66 : decode cX11_sign 66 = .ok (.bipush 62, 2) := by decide +kernel
theorem dX11_sign_68 : decode cX11_sign 68 = .ok (.if_icmp .ne 7, 3) := by decide +kernel
theorem dX11_sign_71 : decode cX11_sign 71 = .ok (.iconst 3, 1) := by decide +kernel
theorem dX11_sign_72 : decode cX11_sign 72 = .ok (.goto 4, 3) := by decide +kernel
theorem dX11_sign_75 : decode cX11_sign 75 = .ok (.iconst 5, 1) := by decide +kernel
theorem dX11_sign_76 : decode cX11_sign 76 = .ok (.putfield 167, 3) := by decide +kernel
theorem dX11_sign_79 : decode cX11_sign 79 = .ok (.aload_n 0, 1) := by decide +kernel
theorem dX11_sign_80 : decode cX11_sign 80 = .ok (.iload_n 1, 1) := by decide +kernel
theorem dX11_sign_81 : decode cX11_sign 81 = .ok (.putfield 177, 3) := by decide +kernel
theorem dX11_sign_84 : decode cX11_sign 84 = .ok (.iload_n 1, 1) := by decide +kernel
theorem dX11_sign_85 : decode cX11_sign 85 = .ok (.bipush 60, 2) := by decide +kernel
theorem dX11_sign_87 : decode cX11_sign 87 = .ok (.if_icmp .ne 19, 3) := by decide +kernel
theorem dX11_sign_90 : decode cX11_sign 90 = .ok (.aload_n 0, 1) := by decide +kernel
theorem dX11_sign_91 : decode cX11_sign 91 = .ok (.invokevirtual 160, 3) := by decide +kernel
theorem dX11_sign_94 : decode cX11_sign 94 = .ok (.bipush 61, 2) := by decide +kernel
theorem dX11_sign_96 : decode cX11_sign 96 = .ok (.if_icmp .ne 10, 3) := by decide +kernel
theorem dX11_sign_99 : decode cX11_sign 99 = .ok (.aload_n 0, 1) := by decide +kernel
theorem dX11_sign_100 : decode cX11_sign 100 = .ok (.sipush 256, 3) := by decide +kernel
theorem dX11_sign_103 : decode cX11_sign 103 = .ok (.putfield 177, 3) := by decide +kernel
theorem dX11_sign_106 : decode cX11_sign 106 = .ok (.iload_n 1, 1) := by decide +kernel
theorem dX11_sign_107 : decode cX11_sign 107 = .ok (.bipush 60, 2) := by decide +kernel
theorem dX11_sign_109 : decode cX11_sign 109 = .ok (.if_icmp .ne 19, 3) := by decide +kernel
theorem dX11_sign_112 : decode cX11_sign 112 = .ok (.aload_n 0, 1) := by decide +kernel
theorem dX11_sign_113 : decode cX11_sign 113 = .ok (.invokevirtual 160, 3) := by decide +kernel
theorem dX11_sign_116 : decode cX11_sign 116 = .ok (.bipush 62, 2) := by decide +kernel
theorem dX11_sign_118 : decode cX11_sign 118 = .ok (.if_icmp .ne 10, 3) := by decide +kernel
theorem dX11_sign_121 : decode cX11_sign 121 = .ok (.aload_n 0, 1) := by decide +kernel
theorem dX11_sign_122 : decode cX11_sign 122 = .ok (.sipush 257, 3) := by decide +kernel
theorem dX11_sign_125 : decode cX11_sign 125 = .ok (.putfield 177, 3) := by decide +kernel
theorem dX11_sign_128 : decode cX11_sign 128 = .ok (.iload_n 1, 1) := by decide +kernel
theorem dX11_sign_129 : decode cX11_sign 129 = .ok (.bipush 62, 2) := by decide +kernel
theorem dX11_sign_131 : decode cX11_sign 131 = .ok (.if_icmp .ne 19, 3) := by decide +kernel
theorem dX11_sign_134 : decode cX11_sign 134 = .ok (.aload_n 0, 1) := by decide +kernel
theorem dX11_sign_135 : decode cX11_sign 135 = .ok (.invokevirtual 160, 3) := by decide +kernel
theorem dX11_sign_138 : decode cX11_sign 138 = .ok (.bipush 61, 2) := by decide +kernel
theorem dX11_sign_140 : decode cX11_sign 140 = .ok (.if_icmp .ne 10, 3) := by decide +kernel
theorem dX11_sign_143 : decode cX11_sign 143 = .ok (.aload_n 0, 1) := by decide +kernel
theorem dX11_sign_144 : decode cX11_sign 144 = .ok (.sipush 258, 3) := by decide +kernel
theorem dX11_sign_147 : decode cX11_sign 147 = .ok (.putfield 177, 3) := by decide +kernel
theorem dX11_sign_150 : decode cX11_sign 150 = .ok (.aload_n 0, 1) := by decide +kernel
theorem dX11_sign_151 : decode cX11_sign 151 = .ok (.getfield 177, 3) := by decide +kernel
theorem dX11_sign_154 : decode cX11_sign 154 = .ok (.sipush 256, 3) := by decide +kernel
theorem dX11_sign_157 : decode cX11_sign 157 = .ok (.if_icmp .lt 13, 3) := by decide +kernel
theorem dX11_sign_160 : decode cX11_sign 160 = .ok (.aload_n 0, 1) := by decide +kernel
theorem dX11_sign_161 : decode cX11_sign 161 = .ok (.dup, 1) := by decide +kernel
theorem dX11_sign_162 : decode cX11_sign 162 = .ok (.getfield 154, 3) := by decide +kernel
theorem dX11_sign_165 : decode cX11_sign 165 = .ok (.iconst 1, 1) := by decide +kernel
theorem dX11_sign_166 : decode cX11_sign 166 = .ok (.iadd, 1) := by decide +kernel
theorem dX11_sign_167 : decode cX11_sign 167 = .ok (.putfield 154, 3) := by decide +kernel
theorem dX11_sign_170 : decode cX11_sign 170 = .ok (.return_, 1) := by decide +kernel
theorem dX11_word_0 : decode cX11_word 0 = .ok (.iconst 0, 1) := by decide +kernel
theorem dX11_word_1 : decode cX11_word 1 = .ok (.istore_n 1, 1) := by decide +kernel
theorem dX11_word_2 : decode cX11_word 2 = .ok (.iconst 0, 1) := by decide +kernel
theorem dX11_word_3 : decode cX11_word 3 = .ok (.istore_n 2, 1) := by decide +kernel
theorem dX11_word_4 : decode cX11_word 4 = .ok (.iload_n 2, 1) := by decide +kernel
theorem dX11_word_5 : decode cX11_word 5 = .ok (.ldc 191, 2) := by decide +kernel
theorem dX11_word_7 : decode cX11_word 7 = .ok (.invokevirtual 193, 3) := by decide +kernel
theorem dX11_word_10 : decode cX11_word 10 = .ok (.if_icmp .ge 113, 3) := by decide +kernel
theorem dX11_word_13 : decode cX11_word 13 = .ok (.iconst 0, 1) := by decide +kernel
theorem dX11_word_14 : decode cX11_word 14 = .ok (.istore_n 3, 1) := by decide +kernel
theorem dX11_word_15 : decode cX11_word 15 = .ok (.ldc 191, 2) := by decide +kernel
theorem dX11_word_17 : decode cX11_word 17 = .ok (.iload_n 2, 1) := by decide +kernel
theorem dX11_word_18 : decode cX11_word 18 = .ok (.iload_n 3, 1) := by decide +kernel
theorem dX11_word_19 : decode cX11_word 19 = .ok (.iadd, 1) := by decide +kernel
theorem dX11_word_20 : decode cX11_word 20 = .ok (.invokevirtual 198, 3) := by decide +kernel
theorem dX11_word_23 : decode cX11_word 23 = .ok (.bipush 32, 2) := by decide +kernel
theorem dX11_word_25 : decode cX11_word 25 = .ok (.if_icmp .eq 44, 3) := by decide +kernel
theorem dX11_word_28 : decode cX11_word 28 = .ok (.aload_n 0, 1) := by decide +kernel
theorem dX11_word_29 : decode cX11_word 29 = .ok (.getfield 164, 3) := by decide +kernel
theorem dX11_word_32 : decode cX11_word 32 = .ok (.iload_n 3, 1) := by decide +kernel
theorem dX11_word_33 : decode cX11_word 33 = .ok (.iadd, 1) := by decide +kernel
theorem dX11_word_34 : decode cX11_word 34 = .ok (.aload_n 0, 1) := by decide +kernel
theorem dX11_word_35 : decode cX11_word 35 = .ok (.getfield 154, 3) := by decide +kernel
theorem dX11_word_38 : decode cX11_word 38 = .ok (.if_icmp .ge 31, 3) := by decide +kernel
theorem dX11_word_41 : decode cX11_word 41 = .ok (.aload_n 0, 1) := by decide +kernel
theorem dX11_word_42 : decode cX11_word 42 = .ok (.getfield 7, 3) := by decide +kernel
theorem dX11_word_45 : decode cX11_word 45 = .ok (.aload_n 0, 1) := by decide +kernel
theorem dX11_word_46 : decode cX11_word 46 = .ok (.getfield 164, 3) := by decide +kernel
theorem dX11_word_49 : decode cX11_word 49 = .ok (.iload_n 3, 1) := by decide +kernel
theorem dX11_word_50 : decode cX11_word 50 = .ok (.iadd, 1) := by decide +kernel
theorem dX11_word_51 : decode cX11_word 51 = .ok (.iaload, 1) := by decide +kernel
theorem dX11_word_52 : decode cX11_word 52 = .ok (.ldc 191, 2) := by decide +kernel
theorem dX11_word_54 : decode cX11_word 54 = .ok (.iload_n 2, 1) := by decide +kernel
theorem dX11_word_55 : decode cX11_word 55 = .ok (.iload_n 3, 1) := by decide +kernel
theorem dX11_word_56 : decode cX11_word 56 = .ok (.iadd, 1) := by decide +kernel
theorem dX11_word_57 : decode cX11_word 57 = .ok (.invokevirtual 198, 3) := by decide +kernel
theorem dX11_word_60 : decode cX11_word 60 = .ok (.if_icmp .ne 9, 3) := by decide +kernel
theorem dX11_word_63 : decode cX11_word 63 = .ok (.iinc 3 1, 3) := by decide +kernel
theorem dX11_word_66 : decode cX11_word 66 = .ok (.goto (-51), 3) := by decide +kernel
theorem dX11_word_69 : decode cX11_word 69 = .ok (.ldc 191, 2) := by decide +kernel
theorem dX11_word_71 : decode cX11_word 71 = .ok (.iload_n 2, 1) := by decide +kernel
theorem dX11_word_72 : decode cX11_word 72 = .ok (.iload_n 3, 1) := by decide +kernel
theorem dX11_word_73 : decode cX11_word 73 = .ok (.iadd, 1) := by decide +kernel
theorem dX11_word_74 : decode cX11_word 74 = .ok (.invokevirtual 198, 3) := by decide +kernel
theorem dX11_word_77 : decode cX11_word 77 = .ok (.bipush 32, 2) := by decide +kernel
theorem dX11_word_79 : decode cX11_word 79 = .ok (.if_icmp .ne 18, 3) := by decide +kernel
theorem dX11_word_82 : decode cX11_word 82 = .ok (.aload_n 0, 1) := by decide +kernel
theorem dX11_word_83 : decode cX11_word 83 = .ok (.getfield 164, 3) := by decide +kernel
theorem dX11_word_86 : decode cX11_word 86 = .ok (.iload_n 3, 1) := by decide +kernel
theorem dX11_word_87 : decode cX11_word 87 = .ok (.iadd, 1) := by decide +kernel
theorem dX11_word_88 : decode cX11_word 88 = .ok (.aload_n 0, 1) := by decide +kernel
theorem dX11_word_89 : decode cX11_word 89 = .ok (.getfield 154, 3) := by decide +kernel
theorem dX11_word_92 : decode cX11_word 92 = .ok (.if_icmp .ne 5, 3) := by decide +kernel
theorem dX11_word_95 : decode cX11_word 95 = .ok (.iload_n 1, 1) := by decide +kernel
theorem dX11_word_96 : decode cX11_word 96 = .ok (.ireturn, 1) := by decide +kernel
theorem dX11_word_97 : decode cX11_word 97 = .ok (.ldc 191, 2) := by decide +kernel
theorem dX11_word_99 : decode cX11_word 99 = .ok (.iload_n 2, 1) := by decide +kernel
theorem dX11_word_100 : decode cX11_word 100 = .ok (.invokevirtual 198, 3) := by decide +kernel
theorem dX11_word_103 : decode cX11_word 103 = .ok (.bipush 32, 2) := by decide +kernel
theorem dX11_word_105 : decode cX11_word 105 = .ok (.if_icmp .eq 9, 3) := by decide +kernel
theorem dX11_word_108 : decode cX11_word 108 = .ok (.iinc 2 1, 3) := by decide +kernel
theorem dX11_word_111 : decode cX11_word 111 = .ok (.goto (-14), 3) := by decide +kernel
theorem dX11_word_114 : decode cX11_word 114 = .ok (.iinc 2 1, 3) := by decide +kernel
theorem dX11_word_117 : decode cX11_word 117 = .ok (.iinc 1 1, 3) := by decide +kernel
theorem dX11_word_120 : decode cX11_word 120 = .ok (.goto (-116), 3) := by decide +kernel
theorem dX11_word_123 : decode cX11_word 123 = .ok (.iconst (-1), 1) := by decide +kernel
theorem dX11_word_124 : decode cX11_word 124 = .ok (.ireturn, 1) := by decide +kernel
theorem dX11_name_0 : decode cX11_name 0 = .ok (.aload_n 0, 1) := by decide +kernel
theorem dX11_name_1 : decode cX11_name 1 = .ok (.iconst 0, 1) := by decide +kernel
theorem dX11_name_2 : decode cX11_name 2 = .ok (.putfield 177, 3) := by decide +kernel
theorem dX11_name_5 : decode cX11_name 5 = .ok (.iconst 0, 1) := by decide +kernel
theorem dX11_name_6 : decode cX11_name 6 = .ok (.istore_n 1, 1) := by decide +kernel
theorem dX11_name_7 : decode cX11_name 7 = .ok (.iload_n 1, 1) := by decide +kernel
theorem dX11_name_8 : decode cX11_name 8 = .ok (.bipush 6, 2) := by decide +kernel
theorem dX11_name_10 : decode cX11_name 10 = .ok (.if_icmp .ge 53, 3) := by decide +kernel
theorem dX11_name_13 : decode cX11_name 13 = .ok (.aload_n 0, 1) := by decide +kernel
theorem dX11_name_14 : decode cX11_name 14 = .ok (.aload_n 0, 1) := by decide +kernel
theorem dX11_name_15 : decode cX11_name 15 = .ok (.getfield 177, 3) := by decide +kernel
theorem dX11_name_18 : decode cX11_name 18 = .ok (.iconst 5, 1) := by decide +kernel
theorem dX11_name_19 : decode cX11_name 19 = .ok (.ishl, 1) := by decide +kernel
theorem dX11_name_20 : decode cX11_name 20 = .ok (.aload_n 0, 1) := by decide +kernel
theorem dX11_name_21 : decode cX11_name 21 = .ok (.getfield 164, 3) := by decide +kernel
theorem dX11_name_24 : decode cX11_name 24 = .ok (.iload_n 1, 1) := by decide +kernel
theorem dX11_name_25 : decode cX11_name 25 = .ok (.iadd, 1) := by decide +kernel
theorem dX11_name_26 : decode cX11_name 26 = .ok (.aload_n 0, 1) := by decide +kernel
theorem dX11_name_27 : decode cX11_name 27 = .ok (.getfield 154, 3) := by decide +kernel
theorem dX11_name_30 : decode cX11_name 30 = .ok (.if_icmp .ge 22, 3) := by decide +kernel
theorem dX11_name_33 : decode cX11_name 33 = .ok (.aload_n 0, 1) := by decide +kernel
theorem dX11_name_34 : decode cX11_name 34 = .ok (.getfield 7, 3) := by decide +kernel
theorem dX11_name_37 : decode cX11_name 37 = .ok (.aload_n 0, 1) := by decide +kernel
theorem dX11_name_38 : decode cX11_name 38 = .ok (.getfield 164, 3) := by decide +kernel
theorem dX11_name_41 : decode cX11_name 41 = .ok (.iload_n 1, 1) := by decide +kernel
theorem dX11_name_42 : decode cX11_name 42 = .ok (.iadd, 1) := by decide +kernel
theorem dX11_name_43 : decode cX11_name 43 = .ok (.iaload, 1) := by decide +kernel
theorem dX11_name_44 : decode cX11_name 44 = .ok (.bipush 97, 2) := by decide +kernel
theorem dX11_name_46 : decode cX11_name 46 = .ok (.isub, 1) := by decide +kernel
theorem dX11_name_47 : decode cX11_name 47 = .ok (.iconst 1, 1) := by decide +kernel
theorem dX11_name_48 : decode cX11_name 48 = .ok (.iadd, 1) := by decide +kernel
theorem dX11_name_49 : decode cX11_name 49 = .ok (.goto 4, 3) := by decide +kernel
theorem dX11_name_52 : decode cX11_name 52 = .ok (.iconst 0, 1) := by decide +kernel
theorem dX11_name_53 : decode cX11_name 53 = .ok (.ior, 1) := by decide +kernel
theorem dX11_name_54 : decode cX11_name 54 = .ok (.putfield 177, 3) := by decide +kernel
theorem dX11_name_57 : decode cX11_name 57 = .ok (.iinc 1 1, 3) := by decide +kernel
theorem dX11_name_60 : decode cX11_name 60 = .ok (.goto (-53), 3) := by decide +kernel
theorem dX11_name_63 : decode cX11_name 63 = .ok (.return_, 1) := by decide +kernel
theorem dX11_wrong_0 : decode cX11_wrong 0 = .ok (.aload_n 0, 1) := by decide +kernel
theorem dX11_wrong_1 : decode cX11_wrong 1 = .ok (.getfield 202, 3) := by decide +kernel
theorem dX11_wrong_4 : decode cX11_wrong 4 = .ok (.ifCond .eq 4, 3) := by decide +kernel
theorem dX11_wrong_7 : decode cX11_wrong 7 = .ok (.return_, 1) := by decide +kernel
theorem dX11_wrong_8 : decode cX11_wrong 8 = .ok (.aload_n 0, 1) := by decide +kernel
theorem dX11_wrong_9 : decode cX11_wrong 9 = .ok (.iload_n 1, 1) := by decide +kernel
theorem dX11_wrong_10 : decode cX11_wrong 10 = .ok (.putfield 202, 3) := by decide +kernel
theorem dX11_wrong_13 : decode cX11_wrong 13 = .ok (.aload_n 0, 1) := by decide +kernel
theorem dX11_wrong_14 : decode cX11_wrong 14 = .ok (.aload_n 0, 1) := by decide +kernel
theorem dX11_wrong_15 : decode cX11_wrong 15 = .ok (.getfield 164, 3) := by decide +kernel
theorem dX11_wrong_18 : decode cX11_wrong 18 = .ok (.putfield 205, 3) := by decide +kernel
theorem dX11_wrong_21 : decode cX11_wrong 21 = .ok (.return_, 1) := by decide +kernel
theorem dX11_isWord_0 : decode cX11_isWord 0 = .ok (.aload_n 0, 1) := by decide +kernel
theorem dX11_isWord_1 : decode cX11_isWord 1 = .ok (.getfield 202, 3) := by decide +kernel
theorem dX11_isWord_4 : decode cX11_isWord 4 = .ok (.ifCond .ne 22, 3) := by decide +kernel
theorem dX11_isWord_7 : decode cX11_isWord 7 = .ok (.aload_n 0, 1) := by decide +kernel
theorem dX11_isWord_8 : decode cX11_isWord 8 = .ok (.getfield 167, 3) := by decide +kernel
theorem dX11_isWord_11 : decode cX11_isWord 11 = .ok (.ifCond .ne 15, 3) := by decide +kernel
theorem dX11_isWord_14 : decode cX11_isWord 14 = .ok (.aload_n 0, 1) := by decide +kernel
theorem dX11_isWord_15 : decode cX11_isWord 15 = .ok (.getfield 177, 3) := by decide +kernel
theorem dX11_isWord_18 : decode cX11_isWord 18 = .ok (.iload_n 1, 1) := by decide +kernel
theorem dX11_isWord_19 : decode cX11_isWord 19 = .ok (.if_icmp .ne 7, 3) := by decide +kernel
theorem dX11_isWord_22 : decode cX11_isWord 22 = .ok (.iconst 1, 1) := by decide +kernel
theorem dX11_isWord_23 : decode cX11_isWord 23 = .ok (.goto 4, 3) := by decide +kernel
theorem dX11_isWord_26 : decode cX11_isWord 26 = .ok (.iconst 0, 1) := by decide +kernel
theorem dX11_isWord_27 : decode cX11_isWord 27 = .ok (.ireturn, 1) := by decide +kernel
theorem dX11_isSign_0 : decode cX11_isSign 0 = .ok (.aload_n 0, 1) := by decide +kernel
theorem dX11_isSign_1 : decode cX11_isSign 1 = .ok (.getfield 202, 3) := by decide +kernel
theorem dX11_isSign_4 : decode cX11_isSign 4 = .ok (.ifCond .ne 23, 3) := by decide +kernel
theorem dX11_isSign_7 : decode cX11_isSign 7 = .ok (.aload_n 0, 1) := by decide +kernel
theorem dX11_isSign_8 : decode cX11_isSign 8 = .ok (.getfield 167, 3) := by decide +kernel
theorem dX11_isSign_11 : decode cX11_isSign 11 = .ok (.iconst 3, 1) := by decide +kernel
theorem dX11_isSign_12 : decode cX11_isSign 12 = .ok (.if_icmp .ne 15, 3) := by decide +kernel
theorem dX11_isSign_15 : decode cX11_isSign 15 = .ok (.aload_n 0, 1) := by decide +kernel
theorem dX11_isSign_16 : decode cX11_isSign 16 = .ok (.getfield 177, 3) := by decide +kernel
theorem dX11_isSign_19 : decode cX11_isSign 19 = .ok (.iload_n 1, 1) := by decide +kernel
theorem dX11_isSign_20 : decode cX11_isSign 20 = .ok (.if_icmp .ne 7, 3) := by decide +kernel
theorem dX11_isSign_23 : decode cX11_isSign 23 = .ok (.iconst 1, 1) := by decide +kernel
theorem dX11_isSign_24 : decode cX11_isSign 24 = .ok (.goto 4, 3) := by decide +kernel
theorem dX11_isSign_27 : decode cX11_isSign 27 = .ok (.iconst 0, 1) := by decide +kernel
theorem dX11_isSign_28 : decode cX11_isSign 28 = .ok (.ireturn, 1) := by decide +kernel
theorem dX11_goOn_0 : decode cX11_goOn 0 = .ok (.aload_n 0, 1) := by decide +kernel
theorem dX11_goOn_1 : decode cX11_goOn 1 = .ok (.getfield 202, 3) := by decide +kernel
theorem dX11_goOn_4 : decode cX11_goOn 4 = .ok (.ifCond .ne 7, 3) := by decide +kernel
theorem dX11_goOn_7 : decode cX11_goOn 7 = .ok (.aload_n 0, 1) := by decide +kernel
theorem dX11_goOn_8 : decode cX11_goOn 8 = .ok (.invokevirtual 208, 3) := by decide +kernel
theorem dX11_goOn_11 : decode cX11_goOn 11 = .ok (.return_, 1) := by decide +kernel
theorem dX11_numeral_0 : decode cX11_numeral 0 = .ok (.aload_n 0, 1) := by decide +kernel
theorem dX11_numeral_1 : decode cX11_numeral 1 = .ok (.getfield 202, 3) := by decide +kernel
theorem dX11_numeral_4 : decode cX11_numeral 4 = .ok (.ifCond .eq 5, 3) := by decide +kernel
theorem dX11_numeral_7 : decode cX11_numeral 7 = .ok (.iload_n 1, 1) := by decide +kernel
theorem dX11_numeral_8 : decode cX11_numeral 8 = .ok (.ireturn, 1) := by decide +kernel
theorem dX11_numeral_9 : decode cX11_numeral 9 = .ok (.aload_n 0, 1) := by decide +kernel
theorem dX11_numeral_10 : decode cX11_numeral 10 = .ok (.getfield 167, 3) := by decide +kernel
theorem dX11_numeral_13 : decode cX11_numeral 13 = .ok (.iconst 2, 1) := by decide +kernel
theorem dX11_numeral_14 : decode cX11_numeral 14 = .ok (.if_icmp .eq 11, 3) := by decide +kernel
theorem dX11_numeral_17 : decode cX11_numeral 17 = .ok (.aload_n 0, 1) := by decide +kernel
theorem dX11_numeral_18 : decode cX11_numeral 18 = .ok (.iconst 1, 1) := by decide +kernel
theorem dX11_numeral_19 : decode cX11_numeral 19 = .ok (.invokevirtual 211, 3) := by decide +kernel
theorem dX11_numeral_22 : decode cX11_numeral 22 = .ok (.goto 24, 3) := by decide +kernel
theorem dX11_numeral_25 : decode cX11_numeral 25 = .ok (.aload_n 0, 1) := by decide +kernel
theorem dX11_numeral_26 : decode cX11_numeral 26 = .ok (.getfield 177, 3) := by decide +kernel
theorem dX11_numeral_29 : decode cX11_numeral 29 = .ok (.iload_n 1, 1) := by decide +kernel
theorem dX11_numeral_30 : decode cX11_numeral 30 = .ok (.if_icmp .lt 11, 3) := by decide +kernel
theorem dX11_numeral_33 : decode cX11_numeral 33 = .ok (.aload_n 0, 1) := by decide +kernel
theorem dX11_numeral_34 : decode cX11_numeral 34 = .ok (.getfield 177, 3) := by decide +kernel
theorem dX11_numeral_37 : decode cX11_numeral 37 = .ok (.iload_n 2, 1) := by decide +kernel
theorem dX11_numeral_38 : decode cX11_numeral 38 = .ok (.if_icmp .le 8, 3) := by decide +kernel
theorem dX11_numeral_41 : decode cX11_numeral 41 = .ok (.aload_n 0, 1) := by decide +kernel
theorem dX11_numeral_42 : decode cX11_numeral 42 = .ok (.iconst 2, 1) := by decide +kernel
theorem dX11_numeral_43 : decode cX11_numeral 43 = .ok (.invokevirtual 211, 3) := by decide +kernel
theorem dX11_numeral_46 : decode cX11_numeral 46 = .ok (.aload_n 0, 1) := by decide +kernel
theorem dX11_numeral_47 : decode cX11_numeral 47 = .ok (.getfield 202, 3) := by decide +kernel
theorem dX11_numeral_50 : decode cX11_numeral 50 = .ok (.ifCond .eq 5, 3) := by decide +kernel
theorem dX11_numeral_53 : decode cX11_numeral 53 = .ok (.iload_n 1, 1) := by decide +kernel
theorem dX11_numeral_54 : decode cX11_numeral 54 = .ok (.ireturn, 1) := by decide +kernel
theorem dX11_numeral_55 : decode cX11_numeral 55 = .ok (.aload_n 0, 1) := by decide +kernel
theorem dX11_numeral_56 : decode cX11_numeral 56 = .ok (.getfield 177, 3) := by decide +kernel
theorem dX11_numeral_59 : decode cX11_numeral 59 = .ok (.istore_n 3, 1) := by decide +kernel
theorem dX11_numeral_60 : decode cX11_numeral 60 = .ok (.aload_n 0, 1) := by decide +kernel
theorem dX11_numeral_61 : decode cX11_numeral 61 = .ok (.invokevirtual 208, 3) := by decide +kernel
theorem dX11_numeral_64 : decode cX11_numeral 64 = .ok (.iload_n 3, 1) := by decide +kernel
theorem dX11_numeral_65 : decode cX11_numeral 65 = .ok (.ireturn, 1) := by decide +kernel
theorem dX11_found_0 : decode cX11_found 0 = .ok (.iconst 0, 1) := by decide +kernel
theorem dX11_found_1 : decode cX11_found 1 = .ok (.istore 4, 2) := by decide +kernel
theorem dX11_found_3 : decode cX11_found 3 = .ok (.iload 4, 2) := by decide +kernel
theorem dX11_found_5 : decode cX11_found 5 = .ok (.iload_n 2, 1) := by decide +kernel
theorem dX11_found_6 : decode cX11_found 6 = .ok (.if_icmp .ge 22, 3) := by decide +kernel
theorem dX11_found_9 : decode cX11_found 9 = .ok (.aload_n 0, 1) := by decide +kernel
theorem dX11_found_10 : decode cX11_found 10 = .ok (.iload_n 1, 1) := by decide +kernel
theorem dX11_found_11 : decode cX11_found 11 = .ok (.iload 4, 2) := by decide +kernel
theorem dX11_found_13 : decode cX11_found 13 = .ok (.iadd, 1) := by decide +kernel
theorem dX11_found_14 : decode cX11_found 14 = .ok (.iaload, 1) := by decide +kernel
theorem dX11_found_15 : decode cX11_found 15 = .ok (.iload_n 3, 1) := by decide +kernel
theorem dX11_found_16 : decode cX11_found 16 = .ok (.if_icmp .ne 6, 3) := by decide +kernel
theorem dX11_found_19 : decode cX11_found 19 = .ok (.iload 4, 2) := by decide +kernel
theorem dX11_found_21 : decode cX11_found 21 = .ok (.ireturn, 1) := by decide +kernel
theorem dX11_found_22 : decode cX11_found 22 = .ok (.iinc 4 1, 3) := by decide +kernel
theorem dX11_found_25 : decode cX11_found 25 = .ok (.goto (-22), 3) := by decide +kernel
theorem dX11_found_28 : decode cX11_found 28 = .ok (.iconst (-1), 1) := by decide +kernel
theorem dX11_found_29 : decode cX11_found 29 = .ok (.ireturn, 1) := by decide +kernel
theorem dX11_fresh_0 : decode cX11_fresh 0 = .ok (.aload_n 0, 1) := by decide +kernel
theorem dX11_fresh_1 : decode cX11_fresh 1 = .ok (.getfield 202, 3) := by decide +kernel
theorem dX11_fresh_4 : decode cX11_fresh 4 = .ok (.ifCond .eq 5, 3) := by decide +kernel
theorem dX11_fresh_7 : decode cX11_fresh 7 = .ok (.iconst 0, 1) := by decide +kernel
theorem dX11_fresh_8 : decode cX11_fresh 8 = .ok (.ireturn, 1) := by decide +kernel
theorem dX11_fresh_9 : decode cX11_fresh 9 = .ok (.aload_n 0, 1) := by decide +kernel
theorem dX11_fresh_10 : decode cX11_fresh 10 = .ok (.getfield 167, 3) := by decide +kernel
theorem dX11_fresh_13 : decode cX11_fresh 13 = .ok (.iconst 1, 1) := by decide +kernel
theorem dX11_fresh_14 : decode cX11_fresh 14 = .ok (.if_icmp .eq 11, 3) := by decide +kernel
theorem dX11_fresh_17 : decode cX11_fresh 17 = .ok (.aload_n 0, 1) := by decide +kernel
theorem dX11_fresh_18 : decode cX11_fresh 18 = .ok (.iconst 1, 1) := by decide +kernel
theorem dX11_fresh_19 : decode cX11_fresh 19 = .ok (.invokevirtual 211, 3) := by decide +kernel
theorem dX11_fresh_22 : decode cX11_fresh 22 = .ok (.goto 22, 3) := by decide +kernel
theorem dX11_fresh_25 : decode cX11_fresh 25 = .ok (.aload_n 1, 1) := by decide +kernel
theorem dX11_fresh_26 : decode cX11_fresh 26 = .ok (.iload_n 2, 1) := by decide +kernel
theorem dX11_fresh_27 : decode cX11_fresh 27 = .ok (.iload_n 3, 1) := by decide +kernel
theorem dX11_fresh_28 : decode cX11_fresh 28 = .ok (.aload_n 0, 1) := by decide +kernel
theorem dX11_fresh_29 : decode cX11_fresh 29 = .ok (.getfield 177, 3) := by decide +kernel
theorem dX11_fresh_32 : decode cX11_fresh 32 = .ok (.invokestatic 214, 3) := by decide +kernel
theorem dX11_fresh_35 : decode cX11_fresh 35 = .ok (.iconst (-1), 1) := by decide +kernel
theorem dX11_fresh_36 : decode cX11_fresh 36 = .ok (.if_icmp .eq 8, 3) := by decide +kernel
theorem dX11_fresh_39 : decode cX11_fresh 39 = .ok (.aload_n 0, 1) := by decide +kernel
theorem dX11_fresh_40 : decode cX11_fresh 40 = .ok (.iconst 3, 1) := by decide +kernel
theorem dX11_fresh_41 : decode cX11_fresh 41 = .ok (.invokevirtual 211, 3) := by decide +kernel
theorem dX11_fresh_44 : decode cX11_fresh 44 = .ok (.aload_n 0, 1) := by decide +kernel
theorem dX11_fresh_45 : decode cX11_fresh 45 = .ok (.getfield 202, 3) := by decide +kernel
theorem dX11_fresh_48 : decode cX11_fresh 48 = .ok (.ifCond .eq 5, 3) := by decide +kernel
theorem dX11_fresh_51 : decode cX11_fresh 51 = .ok (.iconst 0, 1) := by decide +kernel
theorem dX11_fresh_52 : decode cX11_fresh 52 = .ok (.ireturn, 1) := by decide +kernel
theorem dX11_fresh_53 : decode cX11_fresh 53 = .ok (.aload_n 0, 1) := by decide +kernel
theorem dX11_fresh_54 : decode cX11_fresh 54 = .ok (.getfield 177, 3) := by decide +kernel
theorem dX11_fresh_57 : decode cX11_fresh 57 = .ok (.istore 4, 2) := by decide +kernel
theorem dX11_fresh_59 : decode cX11_fresh 59 = .ok (.aload_n 0, 1) := by decide +kernel
theorem dX11_fresh_60 : decode cX11_fresh 60 = .ok (.invokevirtual 208, 3) := by decide +kernel
theorem dX11_fresh_63 : decode cX11_fresh 63 = .ok (.iload 4, 2) := by decide +kernel
theorem dX11_fresh_65 : decode cX11_fresh 65 = .ok (.ireturn, 1) := by decide +kernel
theorem dX11_fresher_0 : decode cX11_fresher 0 = .ok (.aload_n 0, 1) := by decide +kernel
theorem dX11_fresher_1 : decode cX11_fresher 1 = .ok (.getfield 13, 3) := by decide +kernel
theorem dX11_fresher_4 : decode cX11_fresher 4 = .ok (.bipush 7, 2) := by decide +kernel
theorem dX11_fresher_6 : decode cX11_fresher 6 = .ok (.iload_n 1, 1) := by decide +kernel
theorem dX11_fresher_7 : decode cX11_fresher 7 = .ok (.iadd, 1) := by decide +kernel
theorem dX11_fresher_8 : decode cX11_fresher 8 = .ok (.iaload, 1) := by decide +kernel
theorem dX11_fresher_9 : decode cX11_fresher 9 = .ok (.ireturn, 1) := by decide +kernel
theorem dX11_reads_0 : decode cX11_reads 0 = .ok (.aload_n 0, 1) := by decide +kernel
theorem dX11_reads_1 : decode cX11_reads 1 = .ok (.getfield 13, 3) := by decide +kernel
theorem dX11_reads_4 : decode cX11_reads 4 = .ok (.bipush 7, 2) := by decide +kernel
theorem dX11_reads_6 : decode cX11_reads 6 = .ok (.iload_n 1, 1) := by decide +kernel
theorem dX11_reads_7 : decode cX11_reads 7 = .ok (.iadd, 1) := by decide +kernel
theorem dX11_reads_8 : decode cX11_reads 8 = .ok (.iload_n 2, 1) := by decide +kernel
theorem dX11_reads_9 : decode cX11_reads 9 = .ok (.iastore, 1) := by decide +kernel
theorem dX11_reads_10 : decode cX11_reads 10 = .ok (.return_, 1) := by decide +kernel
theorem dX11_roomAtHand_0 : decode cX11_roomAtHand 0 = .ok (.aload_n 0, 1) := by decide +kernel
theorem dX11_roomAtHand_1 : decode cX11_roomAtHand 1 = .ok (.getfield 202, 3) := by decide +kernel
theorem dX11_roomAtHand_4 : decode cX11_roomAtHand 4 = .ok (.ifCond .eq 5, 3) := by decide +kernel
theorem dX11_roomAtHand_7 : decode cX11_roomAtHand 7 = .ok (.iconst 0, 1) := by decide +kernel
theorem dX11_roomAtHand_8 : decode cX11_roomAtHand 8 = .ok (.ireturn, 1) := by decide +kernel
theorem dX11_roomAtHand_9 : decode cX11_roomAtHand 9 = .ok (.aload_n 0, 1) := by decide +kernel
theorem dX11_roomAtHand_10 : decode cX11_roomAtHand 10 = .ok (.getfield 167, 3) := by decide +kernel
theorem dX11_roomAtHand_13 : decode cX11_roomAtHand 13 = .ok (.iconst 1, 1) := by decide +kernel
theorem dX11_roomAtHand_14 : decode cX11_roomAtHand 14 = .ok (.if_icmp .eq 11, 3) := by decide +kernel
theorem dX11_roomAtHand_17 : decode cX11_roomAtHand 17 = .ok (.aload_n 0, 1) := by decide +kernel
theorem dX11_roomAtHand_18 : decode cX11_roomAtHand 18 = .ok (.iconst 1, 1) := by decide +kernel
theorem dX11_roomAtHand_19 : decode cX11_roomAtHand 19 = .ok (.invokevirtual 211, 3) := by decide +kernel
theorem dX11_roomAtHand_22 : decode cX11_roomAtHand 22 = .ok (.goto 30, 3) := by decide +kernel
theorem dX11_roomAtHand_25 : decode cX11_roomAtHand 25 = .ok (.aload_n 0, 1) := by decide +kernel
theorem dX11_roomAtHand_26 : decode cX11_roomAtHand 26 = .ok (.getfield 16, 3) := by decide +kernel
theorem dX11_roomAtHand_29 : decode cX11_roomAtHand 29 = .ok (.bipush 6, 2) := by decide +kernel
theorem dX11_roomAtHand_31 : decode cX11_roomAtHand 31 = .ok (.aload_n 0, 1) := by decide +kernel
theorem dX11_roomAtHand_32 : decode cX11_roomAtHand 32 = .ok (.iconst 0, 1) := by decide +kernel
theorem dX11_roomAtHand_33 : decode cX11_roomAtHand 33 = .ok (.invokevirtual 218, 3) := by decide +kernel
theorem dX11_roomAtHand_36 : decode cX11_roomAtHand 36 = .ok (.aload_n 0, 1) := by decide +kernel
theorem dX11_roomAtHand_37 : decode cX11_roomAtHand 37 = .ok (.getfield 177, 3) := by decide +kernel
theorem dX11_roomAtHand_40 : decode cX11_roomAtHand 40 = .ok (.invokestatic 214, 3) := by decide +kernel
theorem dX11_roomAtHand_43 : decode cX11_roomAtHand 43 = .ok (.iconst (-1), 1) := by decide +kernel
theorem dX11_roomAtHand_44 : decode cX11_roomAtHand 44 = .ok (.if_icmp .ne 8, 3) := by decide +kernel
theorem dX11_roomAtHand_47 : decode cX11_roomAtHand 47 = .ok (.aload_n 0, 1) := by decide +kernel
theorem dX11_roomAtHand_48 : decode cX11_roomAtHand 48 = .ok (.iconst 4, 1) := by decide +kernel
theorem dX11_roomAtHand_49 : decode cX11_roomAtHand 49 = .ok (.invokevirtual 211, 3) := by decide +kernel
theorem dX11_roomAtHand_52 : decode cX11_roomAtHand 52 = .ok (.aload_n 0, 1) := by decide +kernel
theorem dX11_roomAtHand_53 : decode cX11_roomAtHand 53 = .ok (.getfield 202, 3) := by decide +kernel
theorem dX11_roomAtHand_56 : decode cX11_roomAtHand 56 = .ok (.ifCond .eq 7, 3) := by decide +kernel
theorem dX11_roomAtHand_59 : decode cX11_roomAtHand 59 = .ok (.iconst 0, 1) := by decide +kernel
theorem dX11_roomAtHand_60 : decode cX11_roomAtHand 60 = .ok (.goto 21, 3) := by decide +kernel
theorem dX11_roomAtHand_63 : decode cX11_roomAtHand 63 = .ok (.aload_n 0, 1) := by decide +kernel
theorem dX11_roomAtHand_64 : decode cX11_roomAtHand 64 = .ok (.getfield 16, 3) := by decide +kernel
theorem dX11_roomAtHand_67 : decode cX11_roomAtHand 67 = .ok (.bipush 6, 2) := by decide +kernel
theorem dX11_roomAtHand_69 : decode cX11_roomAtHand 69 = .ok (.aload_n 0, 1) := by decide +kernel
theorem dX11_roomAtHand_70 : decode cX11_roomAtHand 70 = .ok (.iconst 0, 1) := by decide +kernel
theorem dX11_roomAtHand_71 : decode cX11_roomAtHand 71 = .ok (.invokevirtual 218, 3) := by decide +kernel
theorem dX11_roomAtHand_74 : decode cX11_roomAtHand 74 = .ok (.aload_n 0, 1) := by decide +kernel
theorem dX11_roomAtHand_75 : decode cX11_roomAtHand 75 = .ok (.getfield 177, 3) := by decide +kernel
theorem dX11_roomAtHand_78 : decode cX11_roomAtHand 78 = .ok (.invokestatic 214, 3) := by decide +kernel
theorem dX11_roomAtHand_81 : decode cX11_roomAtHand 81 = .ok (.ireturn, 1) := by decide +kernel
theorem dX11_roomAhead_0 : decode cX11_roomAhead 0 = .ok (.aload_n 0, 1) := by decide +kernel
theorem dX11_roomAhead_1 : decode cX11_roomAhead 1 = .ok (.invokevirtual 222, 3) := by decide +kernel
theorem dX11_roomAhead_4 : decode cX11_roomAhead 4 = .ok (.istore_n 1, 1) := by decide +kernel
theorem dX11_roomAhead_5 : decode cX11_roomAhead 5 = .ok (.aload_n 0, 1) := by decide +kernel
theorem dX11_roomAhead_6 : decode cX11_roomAhead 6 = .ok (.invokevirtual 225, 3) := by decide +kernel
theorem dX11_roomAhead_9 : decode cX11_roomAhead 9 = .ok (.iload_n 1, 1) := by decide +kernel
theorem dX11_roomAhead_10 : decode cX11_roomAhead 10 = .ok (.ireturn, 1) := by decide +kernel
theorem dX11_isFull_0 : decode cX11_isFull 0 = .ok (.iload_n 1, 1) := by decide +kernel
theorem dX11_isFull_1 : decode cX11_isFull 1 = .ok (.ifCond .ne 13, 3) := by decide +kernel
theorem dX11_isFull_4 : decode cX11_isFull 4 = .ok (.aload_n 0, 1) := by decide +kernel
theorem dX11_isFull_5 : decode cX11_isFull 5 = .ok (.iconst 0, 1) := by decide +kernel
theorem dX11_isFull_6 : decode cX11_isFull 6 = .ok (.invokevirtual 218, 3) := by decide +kernel
theorem dX11_isFull_9 : decode cX11_isFull 9 = .ok (.bipush 6, 2) := by decide +kernel
theorem dX11_isFull_11 : decode cX11_isFull 11 = .ok (.if_icmp .eq 63, 3) := by decide +kernel
theorem dX11_isFull_14 : decode cX11_isFull 14 = .ok (.iload_n 1, 1) := by decide +kernel
theorem dX11_isFull_15 : decode cX11_isFull 15 = .ok (.iconst 1, 1) := by decide +kernel
theorem dX11_isFull_16 : decode cX11_isFull 16 = .ok (.if_icmp .ne 13, 3) := by decide +kernel
theorem dX11_isFull_19 : decode cX11_isFull 19 = .ok (.aload_n 0, 1) := by decide +kernel
theorem dX11_isFull_20 : decode cX11_isFull 20 = .ok (.iconst 1, 1) := by decide +kernel
theorem dX11_isFull_21 : decode cX11_isFull 21 = .ok (.invokevirtual 218, 3) := by decide +kernel
theorem dX11_isFull_24 : decode cX11_isFull 24 = .ok (.bipush 9, 2) := by decide +kernel
theorem dX11_isFull_26 : decode cX11_isFull 26 = .ok (.if_icmp .eq 48, 3) := by decide +kernel
theorem dX11_isFull_29 : decode cX11_isFull 29 = .ok (.iload_n 1, 1) := by decide +kernel
theorem dX11_isFull_30 : decode cX11_isFull 30 = .ok (.iconst 2, 1) := by decide +kernel
theorem dX11_isFull_31 : decode cX11_isFull 31 = .ok (.if_icmp .ne 13, 3) := by decide +kernel
theorem dX11_isFull_34 : decode cX11_isFull 34 = .ok (.aload_n 0, 1) := by decide +kernel
theorem dX11_isFull_35 : decode cX11_isFull 35 = .ok (.iconst 2, 1) := by decide +kernel
theorem dX11_isFull_36 : decode cX11_isFull 36 = .ok (.invokevirtual 218, 3) := by decide +kernel
theorem dX11_isFull_39 : decode cX11_isFull 39 = .ok (.bipush 8, 2) := by decide +kernel
theorem dX11_isFull_41 : decode cX11_isFull 41 = .ok (.if_icmp .eq 33, 3) := by decide +kernel
theorem dX11_isFull_44 : decode cX11_isFull 44 = .ok (.iload_n 1, 1) := by decide +kernel
theorem dX11_isFull_45 : decode cX11_isFull 45 = .ok (.iconst 3, 1) := by decide +kernel
theorem dX11_isFull_46 : decode cX11_isFull 46 = .ok (.if_icmp .ne 13, 3) := by decide +kernel
theorem dX11_isFull_49 : decode cX11_isFull 49 = .ok (.aload_n 0, 1) := by decide +kernel
theorem dX11_isFull_50 : decode cX11_isFull 50 = .ok (.iconst 3, 1) := by decide +kernel
theorem dX11_isFull_51 : decode cX11_isFull 51 = .ok (.invokevirtual 218, 3) := by decide +kernel
theorem dX11_isFull_54 : decode cX11_isFull 54 = .ok (.bipush 6, 2) := by decide +kernel
theorem dX11_isFull_56 : decode cX11_isFull 56 = .ok (.if_icmp .eq 18, 3) := by decide +kernel
theorem dX11_isFull_59 : decode cX11_isFull 59 = .ok (.iload_n 1, 1) := by decide +kernel
theorem dX11_isFull_60 : decode cX11_isFull 60 = .ok (.iconst 4, 1) := by decide +kernel
theorem dX11_isFull_61 : decode cX11_isFull 61 = .ok (.if_icmp .ne 17, 3) := by decide +kernel
theorem dX11_isFull_64 : decode cX11_isFull 64 = .ok (.aload_n 0, 1) := by decide +kernel
theorem dX11_isFull_65 : decode cX11_isFull 65 = .ok (.iconst 4, 1) := by decide +kernel
theorem dX11_isFull_66 : decode cX11_isFull 66 = .ok (.invokevirtual 218, 3) := by decide +kernel
theorem dX11_isFull_69 : decode cX11_isFull 69 = .ok (.bipush 9, 2) := by decide +kernel
theorem dX11_isFull_71 : decode cX11_isFull 71 = .ok (.if_icmp .ne 7, 3) := by decide +kernel
theorem dX11_isFull_74 : decode cX11_isFull 74 = .ok (.iconst 1, 1) := by decide +kernel
theorem dX11_isFull_75 : decode cX11_isFull 75 = .ok (.goto 4, 3) := by decide +kernel
theorem dX11_isFull_78 : decode cX11_isFull 78 = .ok (.iconst 0, 1) := by decide +kernel
theorem dX11_isFull_79 : decode cX11_isFull 79 = .ok (.ireturn, 1) := by decide +kernel
theorem dX11_line_0 : decode cX11_line 0 = .ok (.aload_n 0, 1) := by decide +kernel
theorem dX11_line_1 : decode cX11_line 1 = .ok (.getfield 167, 3) := by decide +kernel
theorem dX11_line_4 : decode cX11_line 4 = .ok (.ifCond .ne 12, 3) := by decide +kernel
theorem dX11_line_7 : decode cX11_line 7 = .ok (.aload_n 0, 1) := by decide +kernel
theorem dX11_line_8 : decode cX11_line 8 = .ok (.getfield 177, 3) := by decide +kernel
theorem dX11_line_11 : decode cX11_line 11 = .ok (.bipush 6, 2) := by decide +kernel
theorem dX11_line_13 : decode cX11_line 13 = .ok (.if_icmp .le 9, 3) := by decide +kernel
theorem dX11_line_16 : decode cX11_line 16 = .ok (.aload_n 0, 1) := by decide +kernel
theorem dX11_line_17 : decode cX11_line 17 = .ok (.iconst 1, 1) := by decide +kernel
theorem dX11_line_18 : decode cX11_line 18 = .ok (.invokevirtual 211, 3) := by decide +kernel
theorem dX11_line_21 : decode cX11_line 21 = .ok (.return_, 1) := by decide +kernel
theorem dX11_line_22 : decode cX11_line 22 = .ok (.aload_n 0, 1) := by decide +kernel
theorem dX11_line_23 : decode cX11_line 23 = .ok (.getfield 177, 3) := by decide +kernel
theorem dX11_line_26 : decode cX11_line 26 = .ok (.istore_n 1, 1) := by decide +kernel
theorem dX11_line_27 : decode cX11_line 27 = .ok (.aload_n 0, 1) := by decide +kernel
theorem dX11_line_28 : decode cX11_line 28 = .ok (.iload_n 1, 1) := by decide +kernel
theorem dX11_line_29 : decode cX11_line 29 = .ok (.invokevirtual 228, 3) := by decide +kernel
theorem dX11_line_32 : decode cX11_line 32 = .ok (.ifCond .eq 11, 3) := by decide +kernel
theorem dX11_line_35 : decode cX11_line 35 = .ok (.aload_n 0, 1) := by decide +kernel
theorem dX11_line_36 : decode cX11_line 36 = .ok (.iconst 2, 1) := by decide +kernel
theorem dX11_line_37 : decode cX11_line 37 = .ok (.invokevirtual 211, 3) := by decide +kernel
theorem dX11_line_40 : decode cX11_line 40 = .ok (.goto 25, 3) := by decide +kernel
theorem dX11_line_43 : decode cX11_line 43 = .ok (.iload_n 1, 1) := by decide +kernel
theorem dX11_line_44 : decode cX11_line 44 = .ok (.iconst 5, 1) := by decide +kernel
theorem dX11_line_45 : decode cX11_line 45 = .ok (.if_icmp .ne 20, 3) := by decide +kernel
theorem dX11_line_48 : decode cX11_line 48 = .ok (.aload_n 0, 1) := by decide +kernel
theorem dX11_line_49 : decode cX11_line 49 = .ok (.getfield 231, 3) := by decide +kernel
theorem dX11_line_52 : decode cX11_line 52 = .ok (.iload_n 1, 1) := by decide +kernel
theorem dX11_line_53 : decode cX11_line 53 = .ok (.ishr, 1) := by decide +kernel
theorem dX11_line_54 : decode cX11_line 54 = .ok (.iconst 1, 1) := by decide +kernel
theorem dX11_line_55 : decode cX11_line 55 = .ok (.iand, 1) := by decide +kernel
theorem dX11_line_56 : decode cX11_line 56 = .ok (.iconst 1, 1) := by decide +kernel
theorem dX11_line_57 : decode cX11_line 57 = .ok (.if_icmp .ne 8, 3) := by decide +kernel
theorem dX11_line_60 : decode cX11_line 60 = .ok (.aload_n 0, 1) := by decide +kernel
theorem dX11_line_61 : decode cX11_line 61 = .ok (.iconst 3, 1) := by decide +kernel
theorem dX11_line_62 : decode cX11_line 62 = .ok (.invokevirtual 211, 3) := by decide +kernel
theorem dX11_line_65 : decode cX11_line 65 = .ok (.aload_n 0, 1) := by decide +kernel
theorem dX11_line_66 : decode cX11_line 66 = .ok (.getfield 202, 3) := by decide +kernel
theorem dX11_line_69 : decode cX11_line 69 = .ok (.ifCond .eq 4, 3) := by decide +kernel
theorem dX11_line_72 : decode cX11_line 72 = .ok (.return_, 1) := by decide +kernel
theorem dX11_line_73 : decode cX11_line 73 = .ok (.aload_n 0, 1) := by decide +kernel
theorem dX11_line_74 : decode cX11_line 74 = .ok (.dup, 1) := by decide +kernel
theorem dX11_line_75 : decode cX11_line 75 = .ok (.getfield 231, 3) := by decide +kernel
theorem dX11_line_78 : decode cX11_line 78 = .ok (.iconst 1, 1) := by decide +kernel
theorem dX11_line_79 : decode cX11_line 79 = .ok (.iload_n 1, 1) := by decide +kernel
theorem dX11_line_80 : decode cX11_line 80 = .ok (.ishl, 1) := by decide +kernel
theorem dX11_line_81 : decode cX11_line 81 = .ok (.ior, 1) := by decide +kernel
theorem dX11_line_82 : decode cX11_line 82 = .ok (.putfield 231, 3) := by decide +kernel
theorem dX11_line_85 : decode cX11_line 85 = .ok (.aload_n 0, 1) := by decide +kernel
theorem dX11_line_86 : decode cX11_line 86 = .ok (.invokevirtual 208, 3) := by decide +kernel
theorem dX11_line_89 : decode cX11_line 89 = .ok (.iload_n 1, 1) := by decide +kernel
theorem dX11_line_90 : decode cX11_line 90 = .ok (.tableswitch 321 0 5 #[38, 81, 96, 176, 271, 306], 38) := by decide +kernel
theorem dX11_line_128 : decode cX11_line 128 = .ok (.aload_n 0, 1) := by decide +kernel
theorem dX11_line_129 : decode cX11_line 129 = .ok (.getfield 16, 3) := by decide +kernel
theorem dX11_line_132 : decode cX11_line 132 = .ok (.bipush 6, 2) := by decide +kernel
theorem dX11_line_134 : decode cX11_line 134 = .ok (.aload_n 0, 1) := by decide +kernel
theorem dX11_line_135 : decode cX11_line 135 = .ok (.iconst 0, 1) := by decide +kernel
theorem dX11_line_136 : decode cX11_line 136 = .ok (.invokevirtual 218, 3) := by decide +kernel
theorem dX11_line_139 : decode cX11_line 139 = .ok (.iadd, 1) := by decide +kernel
theorem dX11_line_140 : decode cX11_line 140 = .ok (.aload_n 0, 1) := by decide +kernel
theorem dX11_line_141 : decode cX11_line 141 = .ok (.aload_n 0, 1) := by decide +kernel
theorem dX11_line_142 : decode cX11_line 142 = .ok (.getfield 16, 3) := by decide +kernel
theorem dX11_line_145 : decode cX11_line 145 = .ok (.bipush 6, 2) := by decide +kernel
theorem dX11_line_147 : decode cX11_line 147 = .ok (.aload_n 0, 1) := by decide +kernel
theorem dX11_line_148 : decode cX11_line 148 = .ok (.iconst 0, 1) := by decide +kernel
theorem dX11_line_149 : decode cX11_line 149 = .ok (.invokevirtual 218, 3) := by decide +kernel
theorem dX11_line_152 : decode cX11_line 152 = .ok (.invokevirtual 234, 3) := by decide +kernel
theorem dX11_line_155 : decode cX11_line 155 = .ok (.iastore, 1) := by decide +kernel
theorem dX11_line_156 : decode cX11_line 156 = .ok (.aload_n 0, 1) := by decide +kernel
theorem dX11_line_157 : decode cX11_line 157 = .ok (.iconst 0, 1) := by decide +kernel
theorem dX11_line_158 : decode cX11_line 158 = .ok (.aload_n 0, 1) := by decide +kernel
theorem dX11_line_159 : decode cX11_line 159 = .ok (.iconst 0, 1) := by decide +kernel
theorem dX11_line_160 : decode cX11_line 160 = .ok (.invokevirtual 218, 3) := by decide +kernel
theorem dX11_line_163 : decode cX11_line 163 = .ok (.iconst 1, 1) := by decide +kernel
theorem dX11_line_164 : decode cX11_line 164 = .ok (.iadd, 1) := by decide +kernel
theorem dX11_line_165 : decode cX11_line 165 = .ok (.invokevirtual 238, 3) := by decide +kernel
theorem dX11_line_168 : decode cX11_line 168 = .ok (.goto 247, 3) := by decide +kernel
theorem dX11_line_171 : decode cX11_line 171 = .ok (.aload_n 0, 1) := by decide +kernel
theorem dX11_line_172 : decode cX11_line 172 = .ok (.bipush 9, 2) := by decide +kernel
theorem dX11_line_174 : decode cX11_line 174 = .ok (.aload_n 0, 1) := by decide +kernel
theorem dX11_line_175 : decode cX11_line 175 = .ok (.iconst 1, 1) := by decide +kernel
theorem dX11_line_176 : decode cX11_line 176 = .ok (.invokevirtual 218, 3) := by decide +kernel
theorem dX11_line_179 : decode cX11_line 179 = .ok (.iadd, 1) := by decide +kernel
theorem dX11_line_180 : decode cX11_line 180 = .ok (.invokevirtual 242, 3) := by decide +kernel
theorem dX11_line_183 : decode cX11_line 183 = .ok (.goto 232, 3) := by decide +kernel
theorem dX11_line_186 : decode cX11_line 186 = .ok (.bipush 8, 2) := by decide +kernel
theorem dX11_line_188 : decode cX11_line 188 = .ok (.aload_n 0, 1) := by decide +kernel
theorem dX11_line_189 : decode cX11_line 189 = .ok (.iconst 2, 1) := by decide +kernel
theorem dX11_line_190 : decode cX11_line 190 = .ok (.invokevirtual 218, 3) := by decide +kernel
theorem dX11_line_193 : decode cX11_line 193 = .ok (.iadd, 1) := by decide +kernel
theorem dX11_line_194 : decode cX11_line 194 = .ok (.istore_n 2, 1) := by decide +kernel
theorem dX11_line_195 : decode cX11_line 195 = .ok (.aload_n 0, 1) := by decide +kernel
theorem dX11_line_196 : decode cX11_line 196 = .ok (.getfield 25, 3) := by decide +kernel
theorem dX11_line_199 : decode cX11_line 199 = .ok (.iload_n 2, 1) := by decide +kernel
theorem dX11_line_200 : decode cX11_line 200 = .ok (.aload_n 0, 1) := by decide +kernel
theorem dX11_line_201 : decode cX11_line 201 = .ok (.aload_n 0, 1) := by decide +kernel
theorem dX11_line_202 : decode cX11_line 202 = .ok (.getfield 25, 3) := by decide +kernel
theorem dX11_line_205 : decode cX11_line 205 = .ok (.bipush 8, 2) := by decide +kernel
theorem dX11_line_207 : decode cX11_line 207 = .ok (.aload_n 0, 1) := by decide +kernel
theorem dX11_line_208 : decode cX11_line 208 = .ok (.iconst 2, 1) := by decide +kernel
theorem dX11_line_209 : decode cX11_line 209 = .ok (.invokevirtual 218, 3) := by decide +kernel
theorem dX11_line_212 : decode cX11_line 212 = .ok (.invokevirtual 234, 3) := by decide +kernel
theorem dX11_line_215 : decode cX11_line 215 = .ok (.iastore, 1) := by decide +kernel
theorem dX11_line_216 : decode cX11_line 216 = .ok (.aload_n 0, 1) := by decide +kernel
theorem dX11_line_217 : decode cX11_line 217 = .ok (.getfield 28, 3) := by decide +kernel
theorem dX11_line_220 : decode cX11_line 220 = .ok (.iload_n 2, 1) := by decide +kernel
theorem dX11_line_221 : decode cX11_line 221 = .ok (.aload_n 0, 1) := by decide +kernel
theorem dX11_line_222 : decode cX11_line 222 = .ok (.invokevirtual 245, 3) := by decide +kernel
theorem dX11_line_225 : decode cX11_line 225 = .ok (.iastore, 1) := by decide +kernel
theorem dX11_line_226 : decode cX11_line 226 = .ok (.aload_n 0, 1) := by decide +kernel
theorem dX11_line_227 : decode cX11_line 227 = .ok (.getfield 31, 3) := by decide +kernel
theorem dX11_line_230 : decode cX11_line 230 = .ok (.iload_n 2, 1) := by decide +kernel
theorem dX11_line_231 : decode cX11_line 231 = .ok (.aload_n 0, 1) := by decide +kernel
theorem dX11_line_232 : decode cX11_line 232 = .ok (.iconst 0, 1) := by decide +kernel
theorem dX11_line_233 : decode cX11_line 233 = .ok (.iconst 5, 1) := by decide +kernel
theorem dX11_line_234 : decode cX11_line 234 = .ok (.invokevirtual 248, 3) := by decide +kernel
theorem dX11_line_237 : decode cX11_line 237 = .ok (.iastore, 1) := by decide +kernel
theorem dX11_line_238 : decode cX11_line 238 = .ok (.aload_n 0, 1) := by decide +kernel
theorem dX11_line_239 : decode cX11_line 239 = .ok (.getfield 34, 3) := by decide +kernel
theorem dX11_line_242 : decode cX11_line 242 = .ok (.iload_n 2, 1) := by decide +kernel
theorem dX11_line_243 : decode cX11_line 243 = .ok (.aload_n 0, 1) := by decide +kernel
theorem dX11_line_244 : decode cX11_line 244 = .ok (.iconst 0, 1) := by decide +kernel
theorem dX11_line_245 : decode cX11_line 245 = .ok (.bipush 9, 2) := by decide +kernel
theorem dX11_line_247 : decode cX11_line 247 = .ok (.invokevirtual 248, 3) := by decide +kernel
theorem dX11_line_250 : decode cX11_line 250 = .ok (.iastore, 1) := by decide +kernel
theorem dX11_line_251 : decode cX11_line 251 = .ok (.aload_n 0, 1) := by decide +kernel
theorem dX11_line_252 : decode cX11_line 252 = .ok (.iconst 2, 1) := by decide +kernel
theorem dX11_line_253 : decode cX11_line 253 = .ok (.aload_n 0, 1) := by decide +kernel
theorem dX11_line_254 : decode cX11_line 254 = .ok (.iconst 2, 1) := by decide +kernel
theorem dX11_line_255 : decode cX11_line 255 = .ok (.invokevirtual 218, 3) := by decide +kernel
theorem dX11_line_258 : decode cX11_line 258 = .ok (.iconst 1, 1) := by decide +kernel
theorem dX11_line_259 : decode cX11_line 259 = .ok (.iadd, 1) := by decide +kernel
theorem dX11_line_260 : decode cX11_line 260 = .ok (.invokevirtual 238, 3) := by decide +kernel
theorem dX11_line_263 : decode cX11_line 263 = .ok (.goto 152, 3) := by decide +kernel
theorem dX11_line_266 : decode cX11_line 266 = .ok (.bipush 6, 2) := by decide +kernel
theorem dX11_line_268 : decode cX11_line 268 = .ok (.aload_n 0, 1) := by decide +kernel
theorem dX11_line_269 : decode cX11_line 269 = .ok (.iconst 3, 1) := by decide +kernel
theorem dX11_line_270 : decode cX11_line 270 = .ok (.invokevirtual 218, 3) := by decide +kernel
theorem dX11_line_273 : decode cX11_line 273 = .ok (.iadd, 1) := by decide +kernel
theorem dX11_line_274 : decode cX11_line 274 = .ok (.istore_n 3, 1) := by decide +kernel
theorem dX11_line_275 : decode cX11_line 275 = .ok (.aload_n 0, 1) := by decide +kernel
theorem dX11_line_276 : decode cX11_line 276 = .ok (.getfield 37, 3) := by decide +kernel
theorem dX11_line_279 : decode cX11_line 279 = .ok (.iload_n 3, 1) := by decide +kernel
theorem dX11_line_280 : decode cX11_line 280 = .ok (.aload_n 0, 1) := by decide +kernel
theorem dX11_line_281 : decode cX11_line 281 = .ok (.aload_n 0, 1) := by decide +kernel
theorem dX11_line_282 : decode cX11_line 282 = .ok (.getfield 37, 3) := by decide +kernel
theorem dX11_line_285 : decode cX11_line 285 = .ok (.bipush 6, 2) := by decide +kernel
theorem dX11_line_287 : decode cX11_line 287 = .ok (.aload_n 0, 1) := by decide +kernel
theorem dX11_line_288 : decode cX11_line 288 = .ok (.iconst 3, 1) := by decide +kernel
theorem dX11_line_289 : decode cX11_line 289 = .ok (.invokevirtual 218, 3) := by decide +kernel
theorem dX11_line_292 : decode cX11_line 292 = .ok (.invokevirtual 234, 3) := by decide +kernel
theorem dX11_line_295 : decode cX11_line 295 = .ok (.iastore, 1) := by decide +kernel
theorem dX11_line_296 : decode cX11_line 296 = .ok (.aload_n 0, 1) := by decide +kernel
theorem dX11_line_297 : decode cX11_line 297 = .ok (.getfield 40, 3) := by decide +kernel
theorem dX11_line_300 : decode cX11_line 300 = .ok (.iload_n 3, 1) := by decide +kernel
theorem dX11_line_301 : decode cX11_line 301 = .ok (.aload_n 0, 1) := by decide +kernel
theorem dX11_line_302 : decode cX11_line 302 = .ok (.iconst 0, 1) := by decide +kernel
theorem dX11_line_303 : decode cX11_line 303 = .ok (.bipush 9, 2) := by decide +kernel
theorem dX11_line_305 : decode cX11_line 305 = .ok (.invokevirtual 248, 3) := by decide +kernel
theorem dX11_line_308 : decode cX11_line 308 = .ok (.iastore, 1) := by decide +kernel
theorem dX11_line_309 : decode cX11_line 309 = .ok (.aload_n 0, 1) := by decide +kernel
theorem dX11_line_310 : decode cX11_line 310 = .ok (.getfield 43, 3) := by decide +kernel
theorem dX11_line_313 : decode cX11_line 313 = .ok (.iload_n 3, 1) := by decide +kernel
theorem dX11_line_314 : decode cX11_line 314 = .ok (.aload_n 0, 1) := by decide +kernel
theorem dX11_line_315 : decode cX11_line 315 = .ok (.iconst 0, 1) := by decide +kernel
theorem dX11_line_316 : decode cX11_line 316 = .ok (.iconst 5, 1) := by decide +kernel
theorem dX11_line_317 : decode cX11_line 317 = .ok (.invokevirtual 248, 3) := by decide +kernel
theorem dX11_line_320 : decode cX11_line 320 = .ok (.iastore, 1) := by decide +kernel
theorem dX11_line_321 : decode cX11_line 321 = .ok (.aload_n 0, 1) := by decide +kernel
theorem dX11_line_322 : decode cX11_line 322 = .ok (.getfield 46, 3) := by decide +kernel
theorem dX11_line_325 : decode cX11_line 325 = .ok (.iload_n 3, 1) := by decide +kernel
theorem dX11_line_326 : decode cX11_line 326 = .ok (.aload_n 0, 1) := by decide +kernel
theorem dX11_line_327 : decode cX11_line 327 = .ok (.iconst 0, 1) := by decide +kernel
theorem dX11_line_328 : decode cX11_line 328 = .ok (.iconst 1, 1) := by decide +kernel
theorem dX11_line_329 : decode cX11_line 329 = .ok (.invokevirtual 248, 3) := by decide +kernel
theorem dX11_line_332 : decode cX11_line 332 = .ok (.iastore, 1) := by decide +kernel
theorem dX11_line_333 : decode cX11_line 333 = .ok (.aload_n 0, 1) := by decide +kernel
theorem dX11_line_334 : decode cX11_line 334 = .ok (.getfield 49, 3) := by decide +kernel
theorem dX11_line_337 : decode cX11_line 337 = .ok (.iload_n 3, 1) := by decide +kernel
theorem dX11_line_338 : decode cX11_line 338 = .ok (.aload_n 0, 1) := by decide +kernel
theorem dX11_line_339 : decode cX11_line 339 = .ok (.iconst 0, 1) := by decide +kernel
theorem dX11_line_340 : decode cX11_line 340 = .ok (.bipush 100, 2) := by decide +kernel
theorem dX11_line_342 : decode cX11_line 342 = .ok (.invokevirtual 248, 3) := by decide +kernel
theorem dX11_line_345 : decode cX11_line 345 = .ok (.iastore, 1) := by decide +kernel
theorem dX11_line_346 : decode cX11_line 346 = .ok (.aload_n 0, 1) := by decide +kernel
theorem dX11_line_347 : decode cX11_line 347 = .ok (.iconst 3, 1) := by decide +kernel
theorem dX11_line_348 : decode cX11_line 348 = .ok (.aload_n 0, 1) := by decide +kernel
theorem dX11_line_349 : decode cX11_line 349 = .ok (.iconst 3, 1) := by decide +kernel
theorem dX11_line_350 : decode cX11_line 350 = .ok (.invokevirtual 218, 3) := by decide +kernel
theorem dX11_line_353 : decode cX11_line 353 = .ok (.iconst 1, 1) := by decide +kernel
theorem dX11_line_354 : decode cX11_line 354 = .ok (.iadd, 1) := by decide +kernel
theorem dX11_line_355 : decode cX11_line 355 = .ok (.invokevirtual 238, 3) := by decide +kernel
theorem dX11_line_358 : decode cX11_line 358 = .ok (.goto 57, 3) := by decide +kernel
theorem dX11_line_361 : decode cX11_line 361 = .ok (.aload_n 0, 1) := by decide +kernel
theorem dX11_line_362 : decode cX11_line 362 = .ok (.getfield 52, 3) := by decide +kernel
theorem dX11_line_365 : decode cX11_line 365 = .ok (.bipush 9, 2) := by decide +kernel
theorem dX11_line_367 : decode cX11_line 367 = .ok (.aload_n 0, 1) := by decide +kernel
theorem dX11_line_368 : decode cX11_line 368 = .ok (.iconst 4, 1) := by decide +kernel
theorem dX11_line_369 : decode cX11_line 369 = .ok (.invokevirtual 218, 3) := by decide +kernel
theorem dX11_line_372 : decode cX11_line 372 = .ok (.iadd, 1) := by decide +kernel
theorem dX11_line_373 : decode cX11_line 373 = .ok (.aload_n 0, 1) := by decide +kernel
theorem dX11_line_374 : decode cX11_line 374 = .ok (.iconst 0, 1) := by decide +kernel
theorem dX11_line_375 : decode cX11_line 375 = .ok (.bipush 99, 2) := by decide +kernel
theorem dX11_line_377 : decode cX11_line 377 = .ok (.invokevirtual 248, 3) := by decide +kernel
theorem dX11_line_380 : decode cX11_line 380 = .ok (.iastore, 1) := by decide +kernel
theorem dX11_line_381 : decode cX11_line 381 = .ok (.aload_n 0, 1) := by decide +kernel
theorem dX11_line_382 : decode cX11_line 382 = .ok (.iconst 4, 1) := by decide +kernel
theorem dX11_line_383 : decode cX11_line 383 = .ok (.aload_n 0, 1) := by decide +kernel
theorem dX11_line_384 : decode cX11_line 384 = .ok (.iconst 4, 1) := by decide +kernel
theorem dX11_line_385 : decode cX11_line 385 = .ok (.invokevirtual 218, 3) := by decide +kernel
theorem dX11_line_388 : decode cX11_line 388 = .ok (.iconst 1, 1) := by decide +kernel
theorem dX11_line_389 : decode cX11_line 389 = .ok (.iadd, 1) := by decide +kernel
theorem dX11_line_390 : decode cX11_line 390 = .ok (.invokevirtual 238, 3) := by decide +kernel
theorem dX11_line_393 : decode cX11_line 393 = .ok (.goto 22, 3) := by decide +kernel
theorem dX11_line_396 : decode cX11_line 396 = .ok (.aload_n 0, 1) := by decide +kernel
theorem dX11_line_397 : decode cX11_line 397 = .ok (.iconst 5, 1) := by decide +kernel
theorem dX11_line_398 : decode cX11_line 398 = .ok (.aload_n 0, 1) := by decide +kernel
theorem dX11_line_399 : decode cX11_line 399 = .ok (.iconst 0, 1) := by decide +kernel
theorem dX11_line_400 : decode cX11_line 400 = .ok (.ldc 186, 2) := by decide +kernel
theorem dX11_line_402 : decode cX11_line 402 = .ok (.invokevirtual 248, 3) := by decide +kernel
theorem dX11_line_405 : decode cX11_line 405 = .ok (.invokevirtual 238, 3) := by decide +kernel
theorem dX11_line_408 : decode cX11_line 408 = .ok (.goto 7, 3) := by decide +kernel
theorem dX11_line_411 : decode cX11_line 411 = .ok (.aload_n 0, 1) := by decide +kernel
theorem dX11_line_412 : decode cX11_line 412 = .ok (.invokevirtual 252, 3) := by decide +kernel
theorem dX11_line_415 : decode cX11_line 415 = .ok (.aload_n 0, 1) := by decide +kernel
theorem dX11_line_416 : decode cX11_line 416 = .ok (.getfield 202, 3) := by decide +kernel
theorem dX11_line_419 : decode cX11_line 419 = .ok (.ifCond .eq 4, 3) := by decide +kernel
theorem dX11_line_422 : decode cX11_line 422 = .ok (.return_, 1) := by decide +kernel
theorem dX11_line_423 : decode cX11_line 423 = .ok (.aload_n 0, 1) := by decide +kernel
theorem dX11_line_424 : decode cX11_line 424 = .ok (.bipush 59, 2) := by decide +kernel
theorem dX11_line_426 : decode cX11_line 426 = .ok (.invokevirtual 255, 3) := by decide +kernel
theorem dX11_line_429 : decode cX11_line 429 = .ok (.ifCond .ne 11, 3) := by decide +kernel
theorem dX11_line_432 : decode cX11_line 432 = .ok (.aload_n 0, 1) := by decide +kernel
theorem dX11_line_433 : decode cX11_line 433 = .ok (.iconst 1, 1) := by decide +kernel
theorem dX11_line_434 : decode cX11_line 434 = .ok (.invokevirtual 211, 3) := by decide +kernel
theorem dX11_line_437 : decode cX11_line 437 = .ok (.goto 7, 3) := by decide +kernel
theorem dX11_line_440 : decode cX11_line 440 = .ok (.aload_n 0, 1) := by decide +kernel
theorem dX11_line_441 : decode cX11_line 441 = .ok (.invokevirtual 208, 3) := by decide +kernel
theorem dX11_line_444 : decode cX11_line 444 = .ok (.aload_n 0, 1) := by decide +kernel
theorem dX11_line_445 : decode cX11_line 445 = .ok (.dup, 1) := by decide +kernel
theorem dX11_line_446 : decode cX11_line 446 = .ok (.getfield 258, 3) := by decide +kernel
theorem dX11_line_449 : decode cX11_line 449 = .ok (.iconst 1, 1) := by decide +kernel
theorem dX11_line_450 : decode cX11_line 450 = .ok (.iadd, 1) := by decide +kernel
theorem dX11_line_451 : decode cX11_line 451 = .ok (.putfield 258, 3) := by decide +kernel
theorem dX11_line_454 : decode cX11_line 454 = .ok (.return_, 1) := by decide +kernel
theorem dX11_doorLine_0 : decode cX11_doorLine 0 = .ok (.aload_n 0, 1) := by decide +kernel
theorem dX11_doorLine_1 : decode cX11_doorLine 1 = .ok (.invokevirtual 245, 3) := by decide +kernel
theorem dX11_doorLine_4 : decode cX11_doorLine 4 = .ok (.istore_n 2, 1) := by decide +kernel
theorem dX11_doorLine_5 : decode cX11_doorLine 5 = .ok (.aload_n 0, 1) := by decide +kernel
theorem dX11_doorLine_6 : decode cX11_doorLine 6 = .ok (.invokevirtual 222, 3) := by decide +kernel
theorem dX11_doorLine_9 : decode cX11_doorLine 9 = .ok (.istore_n 3, 1) := by decide +kernel
theorem dX11_doorLine_10 : decode cX11_doorLine 10 = .ok (.bipush 9, 2) := by decide +kernel
theorem dX11_doorLine_12 : decode cX11_doorLine 12 = .ok (.istore 4, 2) := by decide +kernel
theorem dX11_doorLine_14 : decode cX11_doorLine 14 = .ok (.iload 4, 2) := by decide +kernel
theorem dX11_doorLine_16 : decode cX11_doorLine 16 = .ok (.iload_n 1, 1) := by decide +kernel
theorem dX11_doorLine_17 : decode cX11_doorLine 17 = .ok (.if_icmp .ge 65, 3) := by decide +kernel
theorem dX11_doorLine_20 : decode cX11_doorLine 20 = .ok (.aload_n 0, 1) := by decide +kernel
theorem dX11_doorLine_21 : decode cX11_doorLine 21 = .ok (.getfield 202, 3) := by decide +kernel
theorem dX11_doorLine_24 : decode cX11_doorLine 24 = .ok (.ifCond .ne 58, 3) := by decide +kernel
theorem dX11_doorLine_27 : decode cX11_doorLine 27 = .ok (.aload_n 0, 1) := by decide +kernel
theorem dX11_doorLine_28 : decode cX11_doorLine 28 = .ok (.getfield 19, 3) := by decide +kernel
theorem dX11_doorLine_31 : decode cX11_doorLine 31 = .ok (.iload 4, 2) := by decide +kernel
theorem dX11_doorLine_33 : decode cX11_doorLine 33 = .ok (.iaload, 1) := by decide +kernel
theorem dX11_doorLine_34 : decode cX11_doorLine 34 = .ok (.iload_n 2, 1) := by decide +kernel
theorem dX11_doorLine_35 : decode cX11_doorLine 35 = .ok (.if_icmp .ne 14, 3) := by decide +kernel
theorem dX11_doorLine_38 : decode cX11_doorLine 38 = .ok (.aload_n 0, 1) := by decide +kernel
theorem dX11_doorLine_39 : decode cX11_doorLine 39 = .ok (.getfield 22, 3) := by decide +kernel
theorem dX11_doorLine_42 : decode cX11_doorLine 42 = .ok (.iload 4, 2) := by decide +kernel
theorem dX11_doorLine_44 : decode cX11_doorLine 44 = .ok (.iaload, 1) := by decide +kernel
theorem dX11_doorLine_45 : decode cX11_doorLine 45 = .ok (.iload_n 3, 1) := by decide +kernel
theorem dX11_doorLine_46 : decode cX11_doorLine 46 = .ok (.if_icmp .eq 25, 3) := by decide +kernel
theorem dX11_doorLine_49 : decode cX11_doorLine 49 = .ok (.aload_n 0, 1) := by decide +kernel
theorem dX11_doorLine_50 : decode cX11_doorLine 50 = .ok (.getfield 19, 3) := by decide +kernel
theorem dX11_doorLine_53 : decode cX11_doorLine 53 = .ok (.iload 4, 2) := by decide +kernel
theorem dX11_doorLine_55 : decode cX11_doorLine 55 = .ok (.iaload, 1) := by decide +kernel
theorem dX11_doorLine_56 : decode cX11_doorLine 56 = .ok (.iload_n 3, 1) := by decide +kernel
theorem dX11_doorLine_57 : decode cX11_doorLine 57 = .ok (.if_icmp .ne 19, 3) := by decide +kernel
theorem dX11_doorLine_60 : decode cX11_doorLine 60 = .ok (.aload_n 0, 1) := by decide +kernel
theorem dX11_doorLine_61 : decode cX11_doorLine 61 = .ok (.getfield 22, 3) := by decide +kernel
theorem dX11_doorLine_64 : decode cX11_doorLine 64 = .ok (.iload 4, 2) := by decide +kernel
theorem dX11_doorLine_66 : decode cX11_doorLine 66 = .ok (.iaload, 1) := by decide +kernel
theorem dX11_doorLine_67 : decode cX11_doorLine 67 = .ok (.iload_n 2, 1) := by decide +kernel
theorem dX11_doorLine_68 : decode cX11_doorLine 68 = .ok (.if_icmp .ne 8, 3) := by decide +kernel
theorem dX11_doorLine_71 : decode cX11_doorLine 71 = .ok (.aload_n 0, 1) := by decide +kernel
theorem dX11_doorLine_72 : decode cX11_doorLine 72 = .ok (.iconst 3, 1) := by decide +kernel
theorem dX11_doorLine_73 : decode cX11_doorLine 73 = .ok (.invokevirtual 211, 3) := by decide +kernel
theorem dX11_doorLine_76 : decode cX11_doorLine 76 = .ok (.iinc 4 1, 3) := by decide +kernel
theorem dX11_doorLine_79 : decode cX11_doorLine 79 = .ok (.goto (-65), 3) := by decide +kernel
theorem dX11_doorLine_82 : decode cX11_doorLine 82 = .ok (.aload_n 0, 1) := by decide +kernel
theorem dX11_doorLine_83 : decode cX11_doorLine 83 = .ok (.getfield 202, 3) := by decide +kernel
theorem dX11_doorLine_86 : decode cX11_doorLine 86 = .ok (.ifCond .ne 13, 3) := by decide +kernel
theorem dX11_doorLine_89 : decode cX11_doorLine 89 = .ok (.iload_n 2, 1) := by decide +kernel
theorem dX11_doorLine_90 : decode cX11_doorLine 90 = .ok (.iload_n 3, 1) := by decide +kernel
theorem dX11_doorLine_91 : decode cX11_doorLine 91 = .ok (.if_icmp .ne 8, 3) := by decide +kernel
theorem dX11_doorLine_94 : decode cX11_doorLine 94 = .ok (.aload_n 0, 1) := by decide +kernel
theorem dX11_doorLine_95 : decode cX11_doorLine 95 = .ok (.iconst 5, 1) := by decide +kernel
theorem dX11_doorLine_96 : decode cX11_doorLine 96 = .ok (.invokevirtual 211, 3) := by decide +kernel
theorem dX11_doorLine_99 : decode cX11_doorLine 99 = .ok (.aload_n 0, 1) := by decide +kernel
theorem dX11_doorLine_100 : decode cX11_doorLine 100 = .ok (.invokevirtual 225, 3) := by decide +kernel
theorem dX11_doorLine_103 : decode cX11_doorLine 103 = .ok (.aload_n 0, 1) := by decide +kernel
theorem dX11_doorLine_104 : decode cX11_doorLine 104 = .ok (.getfield 202, 3) := by decide +kernel
theorem dX11_doorLine_107 : decode cX11_doorLine 107 = .ok (.ifCond .eq 4, 3) := by decide +kernel
theorem dX11_doorLine_110 : decode cX11_doorLine 110 = .ok (.return_, 1) := by decide +kernel
theorem dX11_doorLine_111 : decode cX11_doorLine 111 = .ok (.aload_n 0, 1) := by decide +kernel
theorem dX11_doorLine_112 : decode cX11_doorLine 112 = .ok (.getfield 19, 3) := by decide +kernel
theorem dX11_doorLine_115 : decode cX11_doorLine 115 = .ok (.iload_n 1, 1) := by decide +kernel
theorem dX11_doorLine_116 : decode cX11_doorLine 116 = .ok (.iload_n 2, 1) := by decide +kernel
theorem dX11_doorLine_117 : decode cX11_doorLine 117 = .ok (.iastore, 1) := by decide +kernel
theorem dX11_doorLine_118 : decode cX11_doorLine 118 = .ok (.aload_n 0, 1) := by decide +kernel
theorem dX11_doorLine_119 : decode cX11_doorLine 119 = .ok (.getfield 22, 3) := by decide +kernel
theorem dX11_doorLine_122 : decode cX11_doorLine 122 = .ok (.iload_n 1, 1) := by decide +kernel
theorem dX11_doorLine_123 : decode cX11_doorLine 123 = .ok (.iload_n 3, 1) := by decide +kernel
theorem dX11_doorLine_124 : decode cX11_doorLine 124 = .ok (.iastore, 1) := by decide +kernel
theorem dX11_doorLine_125 : decode cX11_doorLine 125 = .ok (.aload_n 0, 1) := by decide +kernel
theorem dX11_doorLine_126 : decode cX11_doorLine 126 = .ok (.iconst 1, 1) := by decide +kernel
theorem dX11_doorLine_127 : decode cX11_doorLine 127 = .ok (.aload_n 0, 1) := by decide +kernel
theorem dX11_doorLine_128 : decode cX11_doorLine 128 = .ok (.iconst 1, 1) := by decide +kernel
theorem dX11_doorLine_129 : decode cX11_doorLine 129 = .ok (.invokevirtual 218, 3) := by decide +kernel
theorem dX11_doorLine_132 : decode cX11_doorLine 132 = .ok (.iconst 1, 1) := by decide +kernel
theorem dX11_doorLine_133 : decode cX11_doorLine 133 = .ok (.iadd, 1) := by decide +kernel
theorem dX11_doorLine_134 : decode cX11_doorLine 134 = .ok (.invokevirtual 238, 3) := by decide +kernel
theorem dX11_doorLine_137 : decode cX11_doorLine 137 = .ok (.return_, 1) := by decide +kernel
theorem dX11_lawLine_0 : decode cX11_lawLine 0 = .ok (.aload_n 0, 1) := by decide +kernel
theorem dX11_lawLine_1 : decode cX11_lawLine 1 = .ok (.getfield 167, 3) := by decide +kernel
theorem dX11_lawLine_4 : decode cX11_lawLine 4 = .ok (.ifCond .ne 21, 3) := by decide +kernel
theorem dX11_lawLine_7 : decode cX11_lawLine 7 = .ok (.aload_n 0, 1) := by decide +kernel
theorem dX11_lawLine_8 : decode cX11_lawLine 8 = .ok (.getfield 177, 3) := by decide +kernel
theorem dX11_lawLine_11 : decode cX11_lawLine 11 = .ok (.bipush 7, 2) := by decide +kernel
theorem dX11_lawLine_13 : decode cX11_lawLine 13 = .ok (.if_icmp .lt 12, 3) := by decide +kernel
theorem dX11_lawLine_16 : decode cX11_lawLine 16 = .ok (.aload_n 0, 1) := by decide +kernel
theorem dX11_lawLine_17 : decode cX11_lawLine 17 = .ok (.getfield 177, 3) := by decide +kernel
theorem dX11_lawLine_20 : decode cX11_lawLine 20 = .ok (.bipush 9, 2) := by decide +kernel
theorem dX11_lawLine_22 : decode cX11_lawLine 22 = .ok (.if_icmp .le 8, 3) := by decide +kernel
theorem dX11_lawLine_25 : decode cX11_lawLine 25 = .ok (.aload_n 0, 1) := by decide +kernel
theorem dX11_lawLine_26 : decode cX11_lawLine 26 = .ok (.iconst 1, 1) := by decide +kernel
theorem dX11_lawLine_27 : decode cX11_lawLine 27 = .ok (.invokevirtual 211, 3) := by decide +kernel
theorem dX11_lawLine_30 : decode cX11_lawLine 30 = .ok (.aload_n 0, 1) := by decide +kernel
theorem dX11_lawLine_31 : decode cX11_lawLine 31 = .ok (.getfield 177, 3) := by decide +kernel
theorem dX11_lawLine_34 : decode cX11_lawLine 34 = .ok (.bipush 7, 2) := by decide +kernel
theorem dX11_lawLine_36 : decode cX11_lawLine 36 = .ok (.isub, 1) := by decide +kernel
theorem dX11_lawLine_37 : decode cX11_lawLine 37 = .ok (.istore_n 1, 1) := by decide +kernel
theorem dX11_lawLine_38 : decode cX11_lawLine 38 = .ok (.aload_n 0, 1) := by decide +kernel
theorem dX11_lawLine_39 : decode cX11_lawLine 39 = .ok (.getfield 202, 3) := by decide +kernel
theorem dX11_lawLine_42 : decode cX11_lawLine 42 = .ok (.ifCond .ne 23, 3) := by decide +kernel
theorem dX11_lawLine_45 : decode cX11_lawLine 45 = .ok (.aload_n 0, 1) := by decide +kernel
theorem dX11_lawLine_46 : decode cX11_lawLine 46 = .ok (.getfield 231, 3) := by decide +kernel
theorem dX11_lawLine_49 : decode cX11_lawLine 49 = .ok (.bipush 16, 2) := by decide +kernel
theorem dX11_lawLine_51 : decode cX11_lawLine 51 = .ok (.iload_n 1, 1) := by decide +kernel
theorem dX11_lawLine_52 : decode cX11_lawLine 52 = .ok (.iadd, 1) := by decide +kernel
theorem dX11_lawLine_53 : decode cX11_lawLine 53 = .ok (.ishr, 1) := by decide +kernel
theorem dX11_lawLine_54 : decode cX11_lawLine 54 = .ok (.iconst 1, 1) := by decide +kernel
theorem dX11_lawLine_55 : decode cX11_lawLine 55 = .ok (.iand, 1) := by decide +kernel
theorem dX11_lawLine_56 : decode cX11_lawLine 56 = .ok (.iconst 1, 1) := by decide +kernel
theorem dX11_lawLine_57 : decode cX11_lawLine 57 = .ok (.if_icmp .ne 8, 3) := by decide +kernel
theorem dX11_lawLine_60 : decode cX11_lawLine 60 = .ok (.aload_n 0, 1) := by decide +kernel
theorem dX11_lawLine_61 : decode cX11_lawLine 61 = .ok (.iconst 3, 1) := by decide +kernel
theorem dX11_lawLine_62 : decode cX11_lawLine 62 = .ok (.invokevirtual 211, 3) := by decide +kernel
theorem dX11_lawLine_65 : decode cX11_lawLine 65 = .ok (.aload_n 0, 1) := by decide +kernel
theorem dX11_lawLine_66 : decode cX11_lawLine 66 = .ok (.getfield 202, 3) := by decide +kernel
theorem dX11_lawLine_69 : decode cX11_lawLine 69 = .ok (.ifCond .eq 4, 3) := by decide +kernel
theorem dX11_lawLine_72 : decode cX11_lawLine 72 = .ok (.return_, 1) := by decide +kernel
theorem dX11_lawLine_73 : decode cX11_lawLine 73 = .ok (.aload_n 0, 1) := by decide +kernel
theorem dX11_lawLine_74 : decode cX11_lawLine 74 = .ok (.dup, 1) := by decide +kernel
theorem dX11_lawLine_75 : decode cX11_lawLine 75 = .ok (.getfield 231, 3) := by decide +kernel
theorem dX11_lawLine_78 : decode cX11_lawLine 78 = .ok (.iconst 1, 1) := by decide +kernel
theorem dX11_lawLine_79 : decode cX11_lawLine 79 = .ok (.bipush 16, 2) := by decide +kernel
theorem dX11_lawLine_81 : decode cX11_lawLine 81 = .ok (.iload_n 1, 1) := by decide +kernel
theorem dX11_lawLine_82 : decode cX11_lawLine 82 = .ok (.iadd, 1) := by decide +kernel
theorem dX11_lawLine_83 : decode cX11_lawLine 83 = .ok (.ishl, 1) := by decide +kernel
theorem dX11_lawLine_84 : decode cX11_lawLine 84 = .ok (.ior, 1) := by decide +kernel
theorem dX11_lawLine_85 : decode cX11_lawLine 85 = .ok (.putfield 231, 3) := by decide +kernel
theorem dX11_lawLine_88 : decode cX11_lawLine 88 = .ok (.aload_n 0, 1) := by decide +kernel
theorem dX11_lawLine_89 : decode cX11_lawLine 89 = .ok (.invokevirtual 208, 3) := by decide +kernel
theorem dX11_lawLine_92 : decode cX11_lawLine 92 = .ok (.aload_n 0, 1) := by decide +kernel
theorem dX11_lawLine_93 : decode cX11_lawLine 93 = .ok (.getfield 55, 3) := by decide +kernel
theorem dX11_lawLine_96 : decode cX11_lawLine 96 = .ok (.iconst 3, 1) := by decide +kernel
theorem dX11_lawLine_97 : decode cX11_lawLine 97 = .ok (.iload_n 1, 1) := by decide +kernel
theorem dX11_lawLine_98 : decode cX11_lawLine 98 = .ok (.iadd, 1) := by decide +kernel
theorem dX11_lawLine_99 : decode cX11_lawLine 99 = .ok (.aload_n 0, 1) := by decide +kernel
theorem dX11_lawLine_100 : decode cX11_lawLine 100 = .ok (.bipush 6, 2) := by decide +kernel
theorem dX11_lawLine_102 : decode cX11_lawLine 102 = .ok (.invokevirtual 218, 3) := by decide +kernel
theorem dX11_lawLine_105 : decode cX11_lawLine 105 = .ok (.iastore, 1) := by decide +kernel
theorem dX11_lawLine_106 : decode cX11_lawLine 106 = .ok (.aload_n 0, 1) := by decide +kernel
theorem dX11_lawLine_107 : decode cX11_lawLine 107 = .ok (.invokevirtual 261, 3) := by decide +kernel
theorem dX11_lawLine_110 : decode cX11_lawLine 110 = .ok (.aload_n 0, 1) := by decide +kernel
theorem dX11_lawLine_111 : decode cX11_lawLine 111 = .ok (.getfield 58, 3) := by decide +kernel
theorem dX11_lawLine_114 : decode cX11_lawLine 114 = .ok (.iconst 3, 1) := by decide +kernel
theorem dX11_lawLine_115 : decode cX11_lawLine 115 = .ok (.iload_n 1, 1) := by decide +kernel
theorem dX11_lawLine_116 : decode cX11_lawLine 116 = .ok (.iadd, 1) := by decide +kernel
theorem dX11_lawLine_117 : decode cX11_lawLine 117 = .ok (.aload_n 0, 1) := by decide +kernel
theorem dX11_lawLine_118 : decode cX11_lawLine 118 = .ok (.bipush 6, 2) := by decide +kernel
theorem dX11_lawLine_120 : decode cX11_lawLine 120 = .ok (.invokevirtual 218, 3) := by decide +kernel
theorem dX11_lawLine_123 : decode cX11_lawLine 123 = .ok (.iastore, 1) := by decide +kernel
theorem dX11_lawLine_124 : decode cX11_lawLine 124 = .ok (.return_, 1) := by decide +kernel
theorem dX11_puts_0 : decode cX11_puts 0 = .ok (.aload_n 0, 1) := by decide +kernel
theorem dX11_puts_1 : decode cX11_puts 1 = .ok (.getfield 202, 3) := by decide +kernel
theorem dX11_puts_4 : decode cX11_puts 4 = .ok (.ifCond .eq 4, 3) := by decide +kernel
theorem dX11_puts_7 : decode cX11_puts 7 = .ok (.return_, 1) := by decide +kernel
theorem dX11_puts_8 : decode cX11_puts 8 = .ok (.aload_n 0, 1) := by decide +kernel
theorem dX11_puts_9 : decode cX11_puts 9 = .ok (.getfield 61, 3) := by decide +kernel
theorem dX11_puts_12 : decode cX11_puts 12 = .ok (.bipush 64, 2) := by decide +kernel
theorem dX11_puts_14 : decode cX11_puts 14 = .ok (.aload_n 0, 1) := by decide +kernel
theorem dX11_puts_15 : decode cX11_puts 15 = .ok (.bipush 6, 2) := by decide +kernel
theorem dX11_puts_17 : decode cX11_puts 17 = .ok (.invokevirtual 218, 3) := by decide +kernel
theorem dX11_puts_20 : decode cX11_puts 20 = .ok (.iadd, 1) := by decide +kernel
theorem dX11_puts_21 : decode cX11_puts 21 = .ok (.iload_n 1, 1) := by decide +kernel
theorem dX11_puts_22 : decode cX11_puts 22 = .ok (.iastore, 1) := by decide +kernel
theorem dX11_puts_23 : decode cX11_puts 23 = .ok (.aload_n 0, 1) := by decide +kernel
theorem dX11_puts_24 : decode cX11_puts 24 = .ok (.getfield 64, 3) := by decide +kernel
theorem dX11_puts_27 : decode cX11_puts 27 = .ok (.bipush 64, 2) := by decide +kernel
theorem dX11_puts_29 : decode cX11_puts 29 = .ok (.aload_n 0, 1) := by decide +kernel
theorem dX11_puts_30 : decode cX11_puts 30 = .ok (.bipush 6, 2) := by decide +kernel
theorem dX11_puts_32 : decode cX11_puts 32 = .ok (.invokevirtual 218, 3) := by decide +kernel
theorem dX11_puts_35 : decode cX11_puts 35 = .ok (.iadd, 1) := by decide +kernel
theorem dX11_puts_36 : decode cX11_puts 36 = .ok (.iload_n 2, 1) := by decide +kernel
theorem dX11_puts_37 : decode cX11_puts 37 = .ok (.iastore, 1) := by decide +kernel
theorem dX11_puts_38 : decode cX11_puts 38 = .ok (.aload_n 0, 1) := by decide +kernel
theorem dX11_puts_39 : decode cX11_puts 39 = .ok (.bipush 6, 2) := by decide +kernel
theorem dX11_puts_41 : decode cX11_puts 41 = .ok (.aload_n 0, 1) := by decide +kernel
theorem dX11_puts_42 : decode cX11_puts 42 = .ok (.bipush 6, 2) := by decide +kernel
theorem dX11_puts_44 : decode cX11_puts 44 = .ok (.invokevirtual 218, 3) := by decide +kernel
theorem dX11_puts_47 : decode cX11_puts 47 = .ok (.iconst 1, 1) := by decide +kernel
theorem dX11_puts_48 : decode cX11_puts 48 = .ok (.iadd, 1) := by decide +kernel
theorem dX11_puts_49 : decode cX11_puts 49 = .ok (.invokevirtual 238, 3) := by decide +kernel
theorem dX11_puts_52 : decode cX11_puts 52 = .ok (.return_, 1) := by decide +kernel
theorem dX11_knot_0 : decode cX11_knot 0 = .ok (.aload_n 0, 1) := by decide +kernel
theorem dX11_knot_1 : decode cX11_knot 1 = .ok (.getfield 202, 3) := by decide +kernel
theorem dX11_knot_4 : decode cX11_knot 4 = .ok (.ifCond .eq 4, 3) := by decide +kernel
theorem dX11_knot_7 : decode cX11_knot 7 = .ok (.return_, 1) := by decide +kernel
theorem dX11_knot_8 : decode cX11_knot 8 = .ok (.aload_n 0, 1) := by decide +kernel
theorem dX11_knot_9 : decode cX11_knot 9 = .ok (.getfield 264, 3) := by decide +kernel
theorem dX11_knot_12 : decode cX11_knot 12 = .ok (.bipush 64, 2) := by decide +kernel
theorem dX11_knot_14 : decode cX11_knot 14 = .ok (.if_icmp .ne 11, 3) := by decide +kernel
theorem dX11_knot_17 : decode cX11_knot 17 = .ok (.aload_n 0, 1) := by decide +kernel
theorem dX11_knot_18 : decode cX11_knot 18 = .ok (.iconst 2, 1) := by decide +kernel
theorem dX11_knot_19 : decode cX11_knot 19 = .ok (.invokevirtual 211, 3) := by decide +kernel
theorem dX11_knot_22 : decode cX11_knot 22 = .ok (.goto 13, 3) := by decide +kernel
theorem dX11_knot_25 : decode cX11_knot 25 = .ok (.aload_n 0, 1) := by decide +kernel
theorem dX11_knot_26 : decode cX11_knot 26 = .ok (.dup, 1) := by decide +kernel
theorem dX11_knot_27 : decode cX11_knot 27 = .ok (.getfield 264, 3) := by decide +kernel
theorem dX11_knot_30 : decode cX11_knot 30 = .ok (.iconst 1, 1) := by decide +kernel
theorem dX11_knot_31 : decode cX11_knot 31 = .ok (.iadd, 1) := by decide +kernel
theorem dX11_knot_32 : decode cX11_knot 32 = .ok (.putfield 264, 3) := by decide +kernel
theorem dX11_knot_35 : decode cX11_knot 35 = .ok (.return_, 1) := by decide +kernel
theorem dX11_expression_0 : decode cX11_expression 0 = .ok (.aload_n 0, 1) := by decide +kernel
theorem dX11_expression_1 : decode cX11_expression 1 = .ok (.invokevirtual 267, 3) := by decide +kernel
theorem dX11_expression_4 : decode cX11_expression 4 = .ok (.aload_n 0, 1) := by decide +kernel
theorem dX11_expression_5 : decode cX11_expression 5 = .ok (.bipush 10, 2) := by decide +kernel
theorem dX11_expression_7 : decode cX11_expression 7 = .ok (.invokevirtual 270, 3) := by decide +kernel
theorem dX11_expression_10 : decode cX11_expression 10 = .ok (.ifCond .eq 26, 3) := by decide +kernel
theorem dX11_expression_13 : decode cX11_expression 13 = .ok (.aload_n 0, 1) := by decide +kernel
theorem dX11_expression_14 : decode cX11_expression 14 = .ok (.invokevirtual 273, 3) := by decide +kernel
theorem dX11_expression_17 : decode cX11_expression 17 = .ok (.aload_n 0, 1) := by decide +kernel
theorem dX11_expression_18 : decode cX11_expression 18 = .ok (.invokevirtual 225, 3) := by decide +kernel
theorem dX11_expression_21 : decode cX11_expression 21 = .ok (.aload_n 0, 1) := by decide +kernel
theorem dX11_expression_22 : decode cX11_expression 22 = .ok (.invokevirtual 267, 3) := by decide +kernel
theorem dX11_expression_25 : decode cX11_expression 25 = .ok (.aload_n 0, 1) := by decide +kernel
theorem dX11_expression_26 : decode cX11_expression 26 = .ok (.iconst 2, 1) := by decide +kernel
theorem dX11_expression_27 : decode cX11_expression 27 = .ok (.sipush 262, 3) := by decide +kernel
theorem dX11_expression_30 : decode cX11_expression 30 = .ok (.invokevirtual 276, 3) := by decide +kernel
theorem dX11_expression_33 : decode cX11_expression 33 = .ok (.goto (-29), 3) := by decide +kernel
theorem dX11_expression_36 : decode cX11_expression 36 = .ok (.return_, 1) := by decide +kernel
theorem dX11_conjunction_0 : decode cX11_conjunction 0 = .ok (.aload_n 0, 1) := by decide +kernel
theorem dX11_conjunction_1 : decode cX11_conjunction 1 = .ok (.invokevirtual 279, 3) := by decide +kernel
theorem dX11_conjunction_4 : decode cX11_conjunction 4 = .ok (.aload_n 0, 1) := by decide +kernel
theorem dX11_conjunction_5 : decode cX11_conjunction 5 = .ok (.bipush 11, 2) := by decide +kernel
theorem dX11_conjunction_7 : decode cX11_conjunction 7 = .ok (.invokevirtual 270, 3) := by decide +kernel
theorem dX11_conjunction_10 : decode cX11_conjunction 10 = .ok (.ifCond .eq 26, 3) := by decide +kernel
theorem dX11_conjunction_13 : decode cX11_conjunction 13 = .ok (.aload_n 0, 1) := by decide +kernel
theorem dX11_conjunction_14 : decode cX11_conjunction 14 = .ok (.invokevirtual 273, 3) := by decide +kernel
theorem dX11_conjunction_17 : decode cX11_conjunction 17 = .ok (.aload_n 0, 1) := by decide +kernel
theorem dX11_conjunction_18 : decode cX11_conjunction 18 = .ok (.invokevirtual 225, 3) := by decide +kernel
theorem dX11_conjunction_21 : decode cX11_conjunction 21 = .ok (.aload_n 0, 1) := by decide +kernel
theorem dX11_conjunction_22 : decode cX11_conjunction 22 = .ok (.invokevirtual 279, 3) := by decide +kernel
theorem dX11_conjunction_25 : decode cX11_conjunction 25 = .ok (.aload_n 0, 1) := by decide +kernel
theorem dX11_conjunction_26 : decode cX11_conjunction 26 = .ok (.iconst 2, 1) := by decide +kernel
theorem dX11_conjunction_27 : decode cX11_conjunction 27 = .ok (.sipush 261, 3) := by decide +kernel
theorem dX11_conjunction_30 : decode cX11_conjunction 30 = .ok (.invokevirtual 276, 3) := by decide +kernel
theorem dX11_conjunction_33 : decode cX11_conjunction 33 = .ok (.goto (-29), 3) := by decide +kernel
theorem dX11_conjunction_36 : decode cX11_conjunction 36 = .ok (.return_, 1) := by decide +kernel
theorem dX11_negation_0 : decode cX11_negation 0 = .ok (.aload_n 0, 1) := by decide +kernel
theorem dX11_negation_1 : decode cX11_negation 1 = .ok (.bipush 12, 2) := by decide +kernel
theorem dX11_negation_3 : decode cX11_negation 3 = .ok (.invokevirtual 270, 3) := by decide +kernel
theorem dX11_negation_6 : decode cX11_negation 6 = .ok (.ifCond .eq 24, 3) := by decide +kernel
theorem dX11_negation_9 : decode cX11_negation 9 = .ok (.aload_n 0, 1) := by decide +kernel
theorem dX11_negation_10 : decode cX11_negation 10 = .ok (.invokevirtual 273, 3) := by decide +kernel
theorem dX11_negation_13 : decode cX11_negation 13 = .ok (.aload_n 0, 1) := by decide +kernel
theorem dX11_negation_14 : decode cX11_negation 14 = .ok (.invokevirtual 225, 3) := by decide +kernel
theorem dX11_negation_17 : decode cX11_negation 17 = .ok (.aload_n 0, 1) := by decide +kernel
theorem dX11_negation_18 : decode cX11_negation 18 = .ok (.invokevirtual 279, 3) := by decide +kernel
theorem dX11_negation_21 : decode cX11_negation 21 = .ok (.aload_n 0, 1) := by decide +kernel
theorem dX11_negation_22 : decode cX11_negation 22 = .ok (.iconst 2, 1) := by decide +kernel
theorem dX11_negation_23 : decode cX11_negation 23 = .ok (.sipush 260, 3) := by decide +kernel
theorem dX11_negation_26 : decode cX11_negation 26 = .ok (.invokevirtual 276, 3) := by decide +kernel
theorem dX11_negation_29 : decode cX11_negation 29 = .ok (.return_, 1) := by decide +kernel
theorem dX11_negation_30 : decode cX11_negation 30 = .ok (.aload_n 0, 1) := by decide +kernel
theorem dX11_negation_31 : decode cX11_negation 31 = .ok (.invokevirtual 282, 3) := by decide +kernel
theorem dX11_negation_34 : decode cX11_negation 34 = .ok (.aload_n 0, 1) := by decide +kernel
theorem dX11_negation_35 : decode cX11_negation 35 = .ok (.getfield 202, 3) := by decide +kernel
theorem dX11_negation_38 : decode cX11_negation 38 = .ok (.ifCond .ne 48, 3) := by decide +kernel
theorem dX11_negation_41 : decode cX11_negation 41 = .ok (.aload_n 0, 1) := by decide +kernel
theorem dX11_negation_42 : decode cX11_negation 42 = .ok (.getfield 167, 3) := by decide +kernel
theorem dX11_negation_45 : decode cX11_negation 45 = .ok (.iconst 3, 1) := by decide +kernel
theorem dX11_negation_46 : decode cX11_negation 46 = .ok (.if_icmp .ne 40, 3) := by decide +kernel
theorem dX11_negation_49 : decode cX11_negation 49 = .ok (.aload_n 0, 1) := by decide +kernel
theorem dX11_negation_50 : decode cX11_negation 50 = .ok (.getfield 177, 3) := by decide +kernel
theorem dX11_negation_53 : decode cX11_negation 53 = .ok (.bipush 60, 2) := by decide +kernel
theorem dX11_negation_55 : decode cX11_negation 55 = .ok (.if_icmp .eq 32, 3) := by decide +kernel
theorem dX11_negation_58 : decode cX11_negation 58 = .ok (.aload_n 0, 1) := by decide +kernel
theorem dX11_negation_59 : decode cX11_negation 59 = .ok (.getfield 177, 3) := by decide +kernel
theorem dX11_negation_62 : decode cX11_negation 62 = .ok (.bipush 62, 2) := by decide +kernel
theorem dX11_negation_64 : decode cX11_negation 64 = .ok (.if_icmp .eq 23, 3) := by decide +kernel
theorem dX11_negation_67 : decode cX11_negation 67 = .ok (.aload_n 0, 1) := by decide +kernel
theorem dX11_negation_68 : decode cX11_negation 68 = .ok (.getfield 177, 3) := by decide +kernel
theorem dX11_negation_71 : decode cX11_negation 71 = .ok (.bipush 61, 2) := by decide +kernel
theorem dX11_negation_73 : decode cX11_negation 73 = .ok (.if_icmp .eq 14, 3) := by decide +kernel
theorem dX11_negation_76 : decode cX11_negation 76 = .ok (.aload_n 0, 1) := by decide +kernel
theorem dX11_negation_77 : decode cX11_negation 77 = .ok (.getfield 177, 3) := by decide +kernel
theorem dX11_negation_80 : decode cX11_negation 80 = .ok (.sipush 256, 3) := by decide +kernel
theorem dX11_negation_83 : decode cX11_negation 83 = .ok (.if_icmp .ge 4, 3) := by decide +kernel
theorem dX11_negation_86 : decode cX11_negation 86 = .ok (.return_, 1) := by decide +kernel
theorem dX11_negation_87 : decode cX11_negation 87 = .ok (.aload_n 0, 1) := by decide +kernel
theorem dX11_negation_88 : decode cX11_negation 88 = .ok (.getfield 177, 3) := by decide +kernel
theorem dX11_negation_91 : decode cX11_negation 91 = .ok (.istore_n 1, 1) := by decide +kernel
theorem dX11_negation_92 : decode cX11_negation 92 = .ok (.aload_n 0, 1) := by decide +kernel
theorem dX11_negation_93 : decode cX11_negation 93 = .ok (.invokevirtual 273, 3) := by decide +kernel
theorem dX11_negation_96 : decode cX11_negation 96 = .ok (.aload_n 0, 1) := by decide +kernel
theorem dX11_negation_97 : decode cX11_negation 97 = .ok (.invokevirtual 225, 3) := by decide +kernel
theorem dX11_negation_100 : decode cX11_negation 100 = .ok (.aload_n 0, 1) := by decide +kernel
theorem dX11_negation_101 : decode cX11_negation 101 = .ok (.invokevirtual 282, 3) := by decide +kernel
theorem dX11_negation_104 : decode cX11_negation 104 = .ok (.aload_n 0, 1) := by decide +kernel
theorem dX11_negation_105 : decode cX11_negation 105 = .ok (.iconst 2, 1) := by decide +kernel
theorem dX11_negation_106 : decode cX11_negation 106 = .ok (.iload_n 1, 1) := by decide +kernel
theorem dX11_negation_107 : decode cX11_negation 107 = .ok (.invokevirtual 276, 3) := by decide +kernel
theorem dX11_negation_110 : decode cX11_negation 110 = .ok (.return_, 1) := by decide +kernel
theorem dX11_sum_0 : decode cX11_sum 0 = .ok (.aload_n 0, 1) := by decide +kernel
theorem dX11_sum_1 : decode cX11_sum 1 = .ok (.invokevirtual 285, 3) := by decide +kernel
theorem dX11_sum_4 : decode cX11_sum 4 = .ok (.aload_n 0, 1) := by decide +kernel
theorem dX11_sum_5 : decode cX11_sum 5 = .ok (.bipush 43, 2) := by decide +kernel
theorem dX11_sum_7 : decode cX11_sum 7 = .ok (.invokevirtual 255, 3) := by decide +kernel
theorem dX11_sum_10 : decode cX11_sum 10 = .ok (.ifCond .ne 12, 3) := by decide +kernel
theorem dX11_sum_13 : decode cX11_sum 13 = .ok (.aload_n 0, 1) := by decide +kernel
theorem dX11_sum_14 : decode cX11_sum 14 = .ok (.bipush 45, 2) := by decide +kernel
theorem dX11_sum_16 : decode cX11_sum 16 = .ok (.invokevirtual 255, 3) := by decide +kernel
theorem dX11_sum_19 : decode cX11_sum 19 = .ok (.ifCond .eq 29, 3) := by decide +kernel
theorem dX11_sum_22 : decode cX11_sum 22 = .ok (.aload_n 0, 1) := by decide +kernel
theorem dX11_sum_23 : decode cX11_sum 23 = .ok (.getfield 177, 3) := by decide +kernel
theorem dX11_sum_26 : decode cX11_sum 26 = .ok (.istore_n 1, 1) := by decide +kernel
theorem dX11_sum_27 : decode cX11_sum 27 = .ok (.aload_n 0, 1) := by decide +kernel
theorem dX11_sum_28 : decode cX11_sum 28 = .ok (.invokevirtual 273, 3) := by decide +kernel
theorem dX11_sum_31 : decode cX11_sum 31 = .ok (.aload_n 0, 1) := by decide +kernel
theorem dX11_sum_32 : decode cX11_sum 32 = .ok (.invokevirtual 225, 3) := by decide +kernel
theorem dX11_sum_35 : decode cX11_sum 35 = .ok (.aload_n 0, 1) := by decide +kernel
theorem dX11_sum_36 : decode cX11_sum 36 = .ok (.invokevirtual 285, 3) := by decide +kernel
theorem dX11_sum_39 : decode cX11_sum 39 = .ok (.aload_n 0, 1) := by decide +kernel
theorem dX11_sum_40 : decode cX11_sum 40 = .ok (.iconst 2, 1) := by decide +kernel
theorem dX11_sum_41 : decode cX11_sum 41 = .ok (.iload_n 1, 1) := by decide +kernel
theorem dX11_sum_42 : decode cX11_sum 42 = .ok (.invokevirtual 276, 3) := by decide +kernel
theorem dX11_sum_45 : decode cX11_sum 45 = .ok (.goto (-41), 3) := by decide +kernel
theorem dX11_sum_48 : decode cX11_sum 48 = .ok (.return_, 1) := by decide +kernel
theorem dX11_product_0 : decode cX11_product 0 = .ok (.aload_n 0, 1) := by decide +kernel
theorem dX11_product_1 : decode cX11_product 1 = .ok (.invokevirtual 288, 3) := by decide +kernel
theorem dX11_product_4 : decode cX11_product 4 = .ok (.aload_n 0, 1) := by decide +kernel
theorem dX11_product_5 : decode cX11_product 5 = .ok (.bipush 42, 2) := by decide +kernel
theorem dX11_product_7 : decode cX11_product 7 = .ok (.invokevirtual 255, 3) := by decide +kernel
theorem dX11_product_10 : decode cX11_product 10 = .ok (.ifCond .ne 12, 3) := by decide +kernel
theorem dX11_product_13 : decode cX11_product 13 = .ok (.aload_n 0, 1) := by decide +kernel
theorem dX11_product_14 : decode cX11_product 14 = .ok (.bipush 47, 2) := by decide +kernel
theorem dX11_product_16 : decode cX11_product 16 = .ok (.invokevirtual 255, 3) := by decide +kernel
theorem dX11_product_19 : decode cX11_product 19 = .ok (.ifCond .eq 29, 3) := by decide +kernel
theorem dX11_product_22 : decode cX11_product 22 = .ok (.aload_n 0, 1) := by decide +kernel
theorem dX11_product_23 : decode cX11_product 23 = .ok (.getfield 177, 3) := by decide +kernel
theorem dX11_product_26 : decode cX11_product 26 = .ok (.istore_n 1, 1) := by decide +kernel
theorem dX11_product_27 : decode cX11_product 27 = .ok (.aload_n 0, 1) := by decide +kernel
theorem dX11_product_28 : decode cX11_product 28 = .ok (.invokevirtual 273, 3) := by decide +kernel
theorem dX11_product_31 : decode cX11_product 31 = .ok (.aload_n 0, 1) := by decide +kernel
theorem dX11_product_32 : decode cX11_product 32 = .ok (.invokevirtual 225, 3) := by decide +kernel
theorem dX11_product_35 : decode cX11_product 35 = .ok (.aload_n 0, 1) := by decide +kernel
theorem dX11_product_36 : decode cX11_product 36 = .ok (.invokevirtual 288, 3) := by decide +kernel
theorem dX11_product_39 : decode cX11_product 39 = .ok (.aload_n 0, 1) := by decide +kernel
theorem dX11_product_40 : decode cX11_product 40 = .ok (.iconst 2, 1) := by decide +kernel
theorem dX11_product_41 : decode cX11_product 41 = .ok (.iload_n 1, 1) := by decide +kernel
theorem dX11_product_42 : decode cX11_product 42 = .ok (.invokevirtual 276, 3) := by decide +kernel
theorem dX11_product_45 : decode cX11_product 45 = .ok (.goto (-41), 3) := by decide +kernel
theorem dX11_product_48 : decode cX11_product 48 = .ok (.return_, 1) := by decide +kernel
theorem dX11_primary_0 : decode cX11_primary 0 = .ok (.aload_n 0, 1) := by decide +kernel
theorem dX11_primary_1 : decode cX11_primary 1 = .ok (.getfield 202, 3) := by decide +kernel
theorem dX11_primary_4 : decode cX11_primary 4 = .ok (.ifCond .eq 4, 3) := by decide +kernel
theorem dX11_primary_7 : decode cX11_primary 7 = .ok (.return_, 1) := by decide +kernel
theorem dX11_primary_8 : decode cX11_primary 8 = .ok (.aload_n 0, 1) := by decide +kernel
theorem dX11_primary_9 : decode cX11_primary 9 = .ok (.bipush 40, 2) := by decide +kernel
theorem dX11_primary_11 : decode cX11_primary 11 = .ok (.invokevirtual 255, 3) := by decide +kernel
theorem dX11_primary_14 : decode cX11_primary 14 = .ok (.ifCond .eq 87, 3) := by decide +kernel
theorem dX11_primary_17 : decode cX11_primary 17 = .ok (.aload_n 0, 1) := by decide +kernel
theorem dX11_primary_18 : decode cX11_primary 18 = .ok (.getfield 291, 3) := by decide +kernel
theorem dX11_primary_21 : decode cX11_primary 21 = .ok (.bipush 8, 2) := by decide +kernel
theorem dX11_primary_23 : decode cX11_primary 23 = .ok (.if_icmp .ne 8, 3) := by decide +kernel
theorem dX11_primary_26 : decode cX11_primary 26 = .ok (.aload_n 0, 1) := by decide +kernel
theorem dX11_primary_27 : decode cX11_primary 27 = .ok (.iconst 2, 1) := by decide +kernel
theorem dX11_primary_28 : decode cX11_primary 28 = .ok (.invokevirtual 211, 3) := by decide +kernel
theorem dX11_primary_31 : decode cX11_primary 31 = .ok (.aload_n 0, 1) := by decide +kernel
theorem dX11_primary_32 : decode cX11_primary 32 = .ok (.getfield 202, 3) := by decide +kernel
theorem dX11_primary_35 : decode cX11_primary 35 = .ok (.ifCond .eq 4, 3) := by decide +kernel
theorem dX11_primary_38 : decode cX11_primary 38 = .ok (.return_, 1) := by decide +kernel
theorem dX11_primary_39 : decode cX11_primary 39 = .ok (.aload_n 0, 1) := by decide +kernel
theorem dX11_primary_40 : decode cX11_primary 40 = .ok (.dup, 1) := by decide +kernel
theorem dX11_primary_41 : decode cX11_primary 41 = .ok (.getfield 291, 3) := by decide +kernel
theorem dX11_primary_44 : decode cX11_primary 44 = .ok (.iconst 1, 1) := by decide +kernel
theorem dX11_primary_45 : decode cX11_primary 45 = .ok (.iadd, 1) := by decide +kernel
theorem dX11_primary_46 : decode cX11_primary 46 = .ok (.putfield 291, 3) := by decide +kernel
theorem dX11_primary_49 : decode cX11_primary 49 = .ok (.aload_n 0, 1) := by decide +kernel
theorem dX11_primary_50 : decode cX11_primary 50 = .ok (.invokevirtual 208, 3) := by decide +kernel
theorem dX11_primary_53 : decode cX11_primary 53 = .ok (.aload_n 0, 1) := by decide +kernel
theorem dX11_primary_54 : decode cX11_primary 54 = .ok (.invokevirtual 261, 3) := by decide +kernel
theorem dX11_primary_57 : decode cX11_primary 57 = .ok (.aload_n 0, 1) := by decide +kernel
theorem dX11_primary_58 : decode cX11_primary 58 = .ok (.getfield 202, 3) := by decide +kernel
theorem dX11_primary_61 : decode cX11_primary 61 = .ok (.ifCond .ne 17, 3) := by decide +kernel
theorem dX11_primary_64 : decode cX11_primary 64 = .ok (.aload_n 0, 1) := by decide +kernel
theorem dX11_primary_65 : decode cX11_primary 65 = .ok (.bipush 41, 2) := by decide +kernel
theorem dX11_primary_67 : decode cX11_primary 67 = .ok (.invokevirtual 255, 3) := by decide +kernel
theorem dX11_primary_70 : decode cX11_primary 70 = .ok (.ifCond .ne 8, 3) := by decide +kernel
theorem dX11_primary_73 : decode cX11_primary 73 = .ok (.aload_n 0, 1) := by decide +kernel
theorem dX11_primary_74 : decode cX11_primary 74 = .ok (.iconst 1, 1) := by decide +kernel
theorem dX11_primary_75 : decode cX11_primary 75 = .ok (.invokevirtual 211, 3) := by decide +kernel
theorem dX11_primary_78 : decode cX11_primary 78 = .ok (.aload_n 0, 1) := by decide +kernel
theorem dX11_primary_79 : decode cX11_primary 79 = .ok (.getfield 202, 3) := by decide +kernel
theorem dX11_primary_82 : decode cX11_primary 82 = .ok (.ifCond .eq 4, 3) := by decide +kernel
theorem dX11_primary_85 : decode cX11_primary 85 = .ok (.return_, 1) := by decide +kernel
theorem dX11_primary_86 : decode cX11_primary 86 = .ok (.aload_n 0, 1) := by decide +kernel
theorem dX11_primary_87 : decode cX11_primary 87 = .ok (.dup, 1) := by decide +kernel
theorem dX11_primary_88 : decode cX11_primary 88 = .ok (.getfield 291, 3) := by decide +kernel
theorem dX11_primary_91 : decode cX11_primary 91 = .ok (.iconst 1, 1) := by decide +kernel
theorem dX11_primary_92 : decode cX11_primary 92 = .ok (.isub, 1) := by decide +kernel
theorem dX11_primary_93 : decode cX11_primary 93 = .ok (.putfield 291, 3) := by decide +kernel
theorem dX11_primary_96 : decode cX11_primary 96 = .ok (.aload_n 0, 1) := by decide +kernel
theorem dX11_primary_97 : decode cX11_primary 97 = .ok (.invokevirtual 208, 3) := by decide +kernel
theorem dX11_primary_100 : decode cX11_primary 100 = .ok (.return_, 1) := by decide +kernel
theorem dX11_primary_101 : decode cX11_primary 101 = .ok (.aload_n 0, 1) := by decide +kernel
theorem dX11_primary_102 : decode cX11_primary 102 = .ok (.getfield 167, 3) := by decide +kernel
theorem dX11_primary_105 : decode cX11_primary 105 = .ok (.iconst 2, 1) := by decide +kernel
theorem dX11_primary_106 : decode cX11_primary 106 = .ok (.if_icmp .ne 7, 3) := by decide +kernel
theorem dX11_primary_109 : decode cX11_primary 109 = .ok (.iconst 1, 1) := by decide +kernel
theorem dX11_primary_110 : decode cX11_primary 110 = .ok (.goto 4, 3) := by decide +kernel
theorem dX11_primary_113 : decode cX11_primary 113 = .ok (.iconst 0, 1) := by decide +kernel
theorem dX11_primary_114 : decode cX11_primary 114 = .ok (.istore_n 1, 1) := by decide +kernel
theorem dX11_primary_115 : decode cX11_primary 115 = .ok (.iload_n 1, 1) := by decide +kernel
theorem dX11_primary_116 : decode cX11_primary 116 = .ok (.ifCond .eq 21, 3) := by decide +kernel
theorem dX11_primary_119 : decode cX11_primary 119 = .ok (.aload_n 0, 1) := by decide +kernel
theorem dX11_primary_120 : decode cX11_primary 120 = .ok (.getfield 177, 3) := by decide +kernel
theorem dX11_primary_123 : decode cX11_primary 123 = .ok (.sipush 9999, 3) := by decide +kernel
theorem dX11_primary_126 : decode cX11_primary 126 = .ok (.if_icmp .le 11, 3) := by decide +kernel
theorem dX11_primary_129 : decode cX11_primary 129 = .ok (.aload_n 0, 1) := by decide +kernel
theorem dX11_primary_130 : decode cX11_primary 130 = .ok (.iconst 2, 1) := by decide +kernel
theorem dX11_primary_131 : decode cX11_primary 131 = .ok (.invokevirtual 211, 3) := by decide +kernel
theorem dX11_primary_134 : decode cX11_primary 134 = .ok (.goto 28, 3) := by decide +kernel
theorem dX11_primary_137 : decode cX11_primary 137 = .ok (.iload_n 1, 1) := by decide +kernel
theorem dX11_primary_138 : decode cX11_primary 138 = .ok (.ifCond .ne 24, 3) := by decide +kernel
theorem dX11_primary_141 : decode cX11_primary 141 = .ok (.aload_n 0, 1) := by decide +kernel
theorem dX11_primary_142 : decode cX11_primary 142 = .ok (.getfield 167, 3) := by decide +kernel
theorem dX11_primary_145 : decode cX11_primary 145 = .ok (.ifCond .ne 12, 3) := by decide +kernel
theorem dX11_primary_148 : decode cX11_primary 148 = .ok (.aload_n 0, 1) := by decide +kernel
theorem dX11_primary_149 : decode cX11_primary 149 = .ok (.getfield 177, 3) := by decide +kernel
theorem dX11_primary_152 : decode cX11_primary 152 = .ok (.bipush 13, 2) := by decide +kernel
theorem dX11_primary_154 : decode cX11_primary 154 = .ok (.if_icmp .ge 8, 3) := by decide +kernel
theorem dX11_primary_157 : decode cX11_primary 157 = .ok (.aload_n 0, 1) := by decide +kernel
theorem dX11_primary_158 : decode cX11_primary 158 = .ok (.iconst 1, 1) := by decide +kernel
theorem dX11_primary_159 : decode cX11_primary 159 = .ok (.invokevirtual 211, 3) := by decide +kernel
theorem dX11_primary_162 : decode cX11_primary 162 = .ok (.aload_n 0, 1) := by decide +kernel
theorem dX11_primary_163 : decode cX11_primary 163 = .ok (.invokevirtual 273, 3) := by decide +kernel
theorem dX11_primary_166 : decode cX11_primary 166 = .ok (.aload_n 0, 1) := by decide +kernel
theorem dX11_primary_167 : decode cX11_primary 167 = .ok (.iload_n 1, 1) := by decide +kernel
theorem dX11_primary_168 : decode cX11_primary 168 = .ok (.ifCond .eq 7, 3) := by decide +kernel
theorem dX11_primary_171 : decode cX11_primary 171 = .ok (.iconst 0, 1) := by decide +kernel
theorem dX11_primary_172 : decode cX11_primary 172 = .ok (.goto 4, 3) := by decide +kernel
theorem dX11_primary_175 : decode cX11_primary 175 = .ok (.iconst 1, 1) := by decide +kernel
theorem dX11_primary_176 : decode cX11_primary 176 = .ok (.iload_n 1, 1) := by decide +kernel
theorem dX11_primary_177 : decode cX11_primary 177 = .ok (.ifCond .eq 10, 3) := by decide +kernel
theorem dX11_primary_180 : decode cX11_primary 180 = .ok (.aload_n 0, 1) := by decide +kernel
theorem dX11_primary_181 : decode cX11_primary 181 = .ok (.getfield 177, 3) := by decide +kernel
theorem dX11_primary_184 : decode cX11_primary 184 = .ok (.goto 10, 3) := by decide +kernel
theorem dX11_primary_187 : decode cX11_primary 187 = .ok (.aload_n 0, 1) := by decide +kernel
theorem dX11_primary_188 : decode cX11_primary 188 = .ok (.getfield 177, 3) := by decide +kernel
theorem dX11_primary_191 : decode cX11_primary 191 = .ok (.bipush 13, 2) := by decide +kernel
theorem dX11_primary_193 : decode cX11_primary 193 = .ok (.isub, 1) := by decide +kernel
theorem dX11_primary_194 : decode cX11_primary 194 = .ok (.invokevirtual 276, 3) := by decide +kernel
theorem dX11_primary_197 : decode cX11_primary 197 = .ok (.aload_n 0, 1) := by decide +kernel
theorem dX11_primary_198 : decode cX11_primary 198 = .ok (.invokevirtual 225, 3) := by decide +kernel
theorem dX11_primary_201 : decode cX11_primary 201 = .ok (.return_, 1) := by decide +kernel
theorem dX11_half_0 : decode cX11_half 0 = .ok (.aload_n 0, 1) := by decide +kernel
theorem dX11_half_1 : decode cX11_half 1 = .ok (.arraylength, 1) := by decide +kernel
theorem dX11_half_2 : decode cX11_half 2 = .ok (.iconst 2, 1) := by decide +kernel
theorem dX11_half_3 : decode cX11_half 3 = .ok (.idiv, 1) := by decide +kernel
theorem dX11_half_4 : decode cX11_half 4 = .ok (.istore_n 1, 1) := by decide +kernel
theorem dX11_half_5 : decode cX11_half 5 = .ok (.iconst 0, 1) := by decide +kernel
theorem dX11_half_6 : decode cX11_half 6 = .ok (.istore_n 2, 1) := by decide +kernel
theorem dX11_half_7 : decode cX11_half 7 = .ok (.iload_n 2, 1) := by decide +kernel
theorem dX11_half_8 : decode cX11_half 8 = .ok (.iload_n 1, 1) := by decide +kernel
theorem dX11_half_9 : decode cX11_half 9 = .ok (.if_icmp .ge 17, 3) := by decide +kernel
theorem dX11_half_12 : decode cX11_half 12 = .ok (.aload_n 0, 1) := by decide +kernel
theorem dX11_half_13 : decode cX11_half 13 = .ok (.iload_n 2, 1) := by decide +kernel
theorem dX11_half_14 : decode cX11_half 14 = .ok (.aload_n 0, 1) := by decide +kernel
theorem dX11_half_15 : decode cX11_half 15 = .ok (.iload_n 1, 1) := by decide +kernel
theorem dX11_half_16 : decode cX11_half 16 = .ok (.iload_n 2, 1) := by decide +kernel
theorem dX11_half_17 : decode cX11_half 17 = .ok (.iadd, 1) := by decide +kernel
theorem dX11_half_18 : decode cX11_half 18 = .ok (.iaload, 1) := by decide +kernel
theorem dX11_half_19 : decode cX11_half 19 = .ok (.iastore, 1) := by decide +kernel
theorem dX11_half_20 : decode cX11_half 20 = .ok (.iinc 2 1, 3) := by decide +kernel
theorem dX11_half_23 : decode cX11_half 23 = .ok (.goto (-16), 3) := by decide +kernel
theorem dX11_half_26 : decode cX11_half 26 = .ok (.return_, 1) := by decide +kernel
theorem dX11_text_0 : decode cX11_text 0 = .ok (.aload_n 0, 1) := by decide +kernel
theorem dX11_text_1 : decode cX11_text 1 = .ok (.iconst 0, 1) := by decide +kernel
theorem dX11_text_2 : decode cX11_text 2 = .ok (.putfield 148, 3) := by decide +kernel
theorem dX11_text_5 : decode cX11_text 5 = .ok (.iload_n 1, 1) := by decide +kernel
theorem dX11_text_6 : decode cX11_text 6 = .ok (.ifCond .lt 11, 3) := by decide +kernel
theorem dX11_text_9 : decode cX11_text 9 = .ok (.iload_n 1, 1) := by decide +kernel
theorem dX11_text_10 : decode cX11_text 10 = .ok (.aload_n 0, 1) := by decide +kernel
theorem dX11_text_11 : decode cX11_text 11 = .ok (.getfield 151, 3) := by decide +kernel
theorem dX11_text_14 : decode cX11_text 14 = .ok (.if_icmp .le 6, 3) := by decide +kernel
theorem dX11_text_17 : decode cX11_text 17 = .ok (.bipush (-2), 2) := by decide +kernel
theorem dX11_text_19 : decode cX11_text 19 = .ok (.ireturn, 1) := by decide +kernel
theorem dX11_text_20 : decode cX11_text 20 = .ok (.aload_n 0, 1) := by decide +kernel
theorem dX11_text_21 : decode cX11_text 21 = .ok (.iload_n 1, 1) := by decide +kernel
theorem dX11_text_22 : decode cX11_text 22 = .ok (.putfield 157, 3) := by decide +kernel
theorem dX11_text_25 : decode cX11_text 25 = .ok (.aload_n 0, 1) := by decide +kernel
theorem dX11_text_26 : decode cX11_text 26 = .ok (.iconst 0, 1) := by decide +kernel
theorem dX11_text_27 : decode cX11_text 27 = .ok (.putfield 151, 3) := by decide +kernel
theorem dX11_text_30 : decode cX11_text 30 = .ok (.aload_n 0, 1) := by decide +kernel
theorem dX11_text_31 : decode cX11_text 31 = .ok (.iconst 0, 1) := by decide +kernel
theorem dX11_text_32 : decode cX11_text 32 = .ok (.putfield 154, 3) := by decide +kernel
theorem dX11_text_35 : decode cX11_text 35 = .ok (.aload_n 0, 1) := by decide +kernel
theorem dX11_text_36 : decode cX11_text 36 = .ok (.iconst 0, 1) := by decide +kernel
theorem dX11_text_37 : decode cX11_text 37 = .ok (.putfield 202, 3) := by decide +kernel
theorem dX11_text_40 : decode cX11_text 40 = .ok (.aload_n 0, 1) := by decide +kernel
theorem dX11_text_41 : decode cX11_text 41 = .ok (.iconst (-1), 1) := by decide +kernel
theorem dX11_text_42 : decode cX11_text 42 = .ok (.putfield 205, 3) := by decide +kernel
theorem dX11_text_45 : decode cX11_text 45 = .ok (.iconst 0, 1) := by decide +kernel
theorem dX11_text_46 : decode cX11_text 46 = .ok (.istore_n 2, 1) := by decide +kernel
theorem dX11_text_47 : decode cX11_text 47 = .ok (.iload_n 2, 1) := by decide +kernel
theorem dX11_text_48 : decode cX11_text 48 = .ok (.bipush 7, 2) := by decide +kernel
theorem dX11_text_50 : decode cX11_text 50 = .ok (.if_icmp .ge 15, 3) := by decide +kernel
theorem dX11_text_53 : decode cX11_text 53 = .ok (.aload_n 0, 1) := by decide +kernel
theorem dX11_text_54 : decode cX11_text 54 = .ok (.iload_n 2, 1) := by decide +kernel
theorem dX11_text_55 : decode cX11_text 55 = .ok (.iconst 0, 1) := by decide +kernel
theorem dX11_text_56 : decode cX11_text 56 = .ok (.invokevirtual 238, 3) := by decide +kernel
theorem dX11_text_59 : decode cX11_text 59 = .ok (.iinc 2 1, 3) := by decide +kernel
theorem dX11_text_62 : decode cX11_text 62 = .ok (.goto (-15), 3) := by decide +kernel
theorem dX11_text_65 : decode cX11_text 65 = .ok (.iconst 3, 1) := by decide +kernel
theorem dX11_text_66 : decode cX11_text 66 = .ok (.istore_n 2, 1) := by decide +kernel
theorem dX11_text_67 : decode cX11_text 67 = .ok (.iload_n 2, 1) := by decide +kernel
theorem dX11_text_68 : decode cX11_text 68 = .ok (.bipush 6, 2) := by decide +kernel
theorem dX11_text_70 : decode cX11_text 70 = .ok (.if_icmp .ge 23, 3) := by decide +kernel
theorem dX11_text_73 : decode cX11_text 73 = .ok (.aload_n 0, 1) := by decide +kernel
theorem dX11_text_74 : decode cX11_text 74 = .ok (.getfield 55, 3) := by decide +kernel
theorem dX11_text_77 : decode cX11_text 77 = .ok (.iload_n 2, 1) := by decide +kernel
theorem dX11_text_78 : decode cX11_text 78 = .ok (.iconst 0, 1) := by decide +kernel
theorem dX11_text_79 : decode cX11_text 79 = .ok (.iastore, 1) := by decide +kernel
theorem dX11_text_80 : decode cX11_text 80 = .ok (.aload_n 0, 1) := by decide +kernel
theorem dX11_text_81 : decode cX11_text 81 = .ok (.getfield 58, 3) := by decide +kernel
theorem dX11_text_84 : decode cX11_text 84 = .ok (.iload_n 2, 1) := by decide +kernel
theorem dX11_text_85 : decode cX11_text 85 = .ok (.iconst 0, 1) := by decide +kernel
theorem dX11_text_86 : decode cX11_text 86 = .ok (.iastore, 1) := by decide +kernel
theorem dX11_text_87 : decode cX11_text 87 = .ok (.iinc 2 1, 3) := by decide +kernel
theorem dX11_text_90 : decode cX11_text 90 = .ok (.goto (-23), 3) := by decide +kernel
theorem dX11_text_93 : decode cX11_text 93 = .ok (.aload_n 0, 1) := by decide +kernel
theorem dX11_text_94 : decode cX11_text 94 = .ok (.iconst 0, 1) := by decide +kernel
theorem dX11_text_95 : decode cX11_text 95 = .ok (.putfield 231, 3) := by decide +kernel
theorem dX11_text_98 : decode cX11_text 98 = .ok (.aload_n 0, 1) := by decide +kernel
theorem dX11_text_99 : decode cX11_text 99 = .ok (.iconst 0, 1) := by decide +kernel
theorem dX11_text_100 : decode cX11_text 100 = .ok (.putfield 258, 3) := by decide +kernel
theorem dX11_text_103 : decode cX11_text 103 = .ok (.aload_n 0, 1) := by decide +kernel
theorem dX11_text_104 : decode cX11_text 104 = .ok (.iconst 0, 1) := by decide +kernel
theorem dX11_text_105 : decode cX11_text 105 = .ok (.putfield 291, 3) := by decide +kernel
theorem dX11_text_108 : decode cX11_text 108 = .ok (.aload_n 0, 1) := by decide +kernel
theorem dX11_text_109 : decode cX11_text 109 = .ok (.iconst 0, 1) := by decide +kernel
theorem dX11_text_110 : decode cX11_text 110 = .ok (.putfield 264, 3) := by decide +kernel
theorem dX11_text_113 : decode cX11_text 113 = .ok (.aload_n 0, 1) := by decide +kernel
theorem dX11_text_114 : decode cX11_text 114 = .ok (.invokevirtual 208, 3) := by decide +kernel
theorem dX11_text_117 : decode cX11_text 117 = .ok (.aload_n 0, 1) := by decide +kernel
theorem dX11_text_118 : decode cX11_text 118 = .ok (.getfield 202, 3) := by decide +kernel
theorem dX11_text_121 : decode cX11_text 121 = .ok (.ifCond .ne 18, 3) := by decide +kernel
theorem dX11_text_124 : decode cX11_text 124 = .ok (.aload_n 0, 1) := by decide +kernel
theorem dX11_text_125 : decode cX11_text 125 = .ok (.getfield 167, 3) := by decide +kernel
theorem dX11_text_128 : decode cX11_text 128 = .ok (.iconst 4, 1) := by decide +kernel
theorem dX11_text_129 : decode cX11_text 129 = .ok (.if_icmp .eq 10, 3) := by decide +kernel
theorem dX11_text_132 : decode cX11_text 132 = .ok (.aload_n 0, 1) := by decide +kernel
theorem dX11_text_133 : decode cX11_text 133 = .ok (.invokevirtual 294, 3) := by decide +kernel
theorem dX11_text_136 : decode cX11_text 136 = .ok (.goto (-19), 3) := by decide +kernel
theorem dX11_text_139 : decode cX11_text 139 = .ok (.aload_n 0, 1) := by decide +kernel
theorem dX11_text_140 : decode cX11_text 140 = .ok (.aload_n 0, 1) := by decide +kernel
theorem dX11_text_141 : decode cX11_text 141 = .ok (.getfield 202, 3) := by decide +kernel
theorem dX11_text_144 : decode cX11_text 144 = .ok (.putfield 297, 3) := by decide +kernel
theorem dX11_text_147 : decode cX11_text 147 = .ok (.aload_n 0, 1) := by decide +kernel
theorem dX11_text_148 : decode cX11_text 148 = .ok (.aload_n 0, 1) := by decide +kernel
theorem dX11_text_149 : decode cX11_text 149 = .ok (.getfield 205, 3) := by decide +kernel
theorem dX11_text_152 : decode cX11_text 152 = .ok (.putfield 67, 3) := by decide +kernel
theorem dX11_text_155 : decode cX11_text 155 = .ok (.aload_n 0, 1) := by decide +kernel
theorem dX11_text_156 : decode cX11_text 156 = .ok (.getfield 202, 3) := by decide +kernel
theorem dX11_text_159 : decode cX11_text 159 = .ok (.ifCond .eq 5, 3) := by decide +kernel
theorem dX11_text_162 : decode cX11_text 162 = .ok (.iconst (-1), 1) := by decide +kernel
theorem dX11_text_163 : decode cX11_text 163 = .ok (.ireturn, 1) := by decide +kernel
theorem dX11_text_164 : decode cX11_text 164 = .ok (.aload_n 0, 1) := by decide +kernel
theorem dX11_text_165 : decode cX11_text 165 = .ok (.getfield 13, 3) := by decide +kernel
theorem dX11_text_168 : decode cX11_text 168 = .ok (.invokestatic 300, 3) := by decide +kernel
theorem dX11_text_171 : decode cX11_text 171 = .ok (.aload_n 0, 1) := by decide +kernel
theorem dX11_text_172 : decode cX11_text 172 = .ok (.getfield 16, 3) := by decide +kernel
theorem dX11_text_175 : decode cX11_text 175 = .ok (.invokestatic 300, 3) := by decide +kernel
theorem dX11_text_178 : decode cX11_text 178 = .ok (.aload_n 0, 1) := by decide +kernel
theorem dX11_text_179 : decode cX11_text 179 = .ok (.getfield 19, 3) := by decide +kernel
theorem dX11_text_182 : decode cX11_text 182 = .ok (.invokestatic 300, 3) := by decide +kernel
theorem dX11_text_185 : decode cX11_text 185 = .ok (.aload_n 0, 1) := by decide +kernel
theorem dX11_text_186 : decode cX11_text 186 = .ok (.getfield 22, 3) := by decide +kernel
theorem dX11_text_189 : decode cX11_text 189 = .ok (.invokestatic 300, 3) := by decide +kernel
theorem dX11_text_192 : decode cX11_text 192 = .ok (.aload_n 0, 1) := by decide +kernel
theorem dX11_text_193 : decode cX11_text 193 = .ok (.getfield 25, 3) := by decide +kernel
theorem dX11_text_196 : decode cX11_text 196 = .ok (.invokestatic 300, 3) := by decide +kernel
theorem dX11_text_199 : decode cX11_text 199 = .ok (.aload_n 0, 1) := by decide +kernel
theorem dX11_text_200 : decode cX11_text 200 = .ok (.getfield 28, 3) := by decide +kernel
theorem dX11_text_203 : decode cX11_text 203 = .ok (.invokestatic 300, 3) := by decide +kernel
theorem dX11_text_206 : decode cX11_text 206 = .ok (.aload_n 0, 1) := by decide +kernel
theorem dX11_text_207 : decode cX11_text 207 = .ok (.getfield 31, 3) := by decide +kernel
theorem dX11_text_210 : decode cX11_text 210 = .ok (.invokestatic 300, 3) := by decide +kernel
theorem dX11_text_213 : decode cX11_text 213 = .ok (.aload_n 0, 1) := by decide +kernel
theorem dX11_text_214 : decode cX11_text 214 = .ok (.getfield 34, 3) := by decide +kernel
theorem dX11_text_217 : decode cX11_text 217 = .ok (.invokestatic 300, 3) := by decide +kernel
theorem dX11_text_220 : decode cX11_text 220 = .ok (.aload_n 0, 1) := by decide +kernel
theorem dX11_text_221 : decode cX11_text 221 = .ok (.getfield 37, 3) := by decide +kernel
theorem dX11_text_224 : decode cX11_text 224 = .ok (.invokestatic 300, 3) := by decide +kernel
theorem dX11_text_227 : decode cX11_text 227 = .ok (.aload_n 0, 1) := by decide +kernel
theorem dX11_text_228 : decode cX11_text 228 = .ok (.getfield 40, 3) := by decide +kernel
theorem dX11_text_231 : decode cX11_text 231 = .ok (.invokestatic 300, 3) := by decide +kernel
theorem dX11_text_234 : decode cX11_text 234 = .ok (.aload_n 0, 1) := by decide +kernel
theorem dX11_text_235 : decode cX11_text 235 = .ok (.getfield 43, 3) := by decide +kernel
theorem dX11_text_238 : decode cX11_text 238 = .ok (.invokestatic 300, 3) := by decide +kernel
theorem dX11_text_241 : decode cX11_text 241 = .ok (.aload_n 0, 1) := by decide +kernel
theorem dX11_text_242 : decode cX11_text 242 = .ok (.getfield 46, 3) := by decide +kernel
theorem dX11_text_245 : decode cX11_text 245 = .ok (.invokestatic 300, 3) := by decide +kernel
theorem dX11_text_248 : decode cX11_text 248 = .ok (.aload_n 0, 1) := by decide +kernel
theorem dX11_text_249 : decode cX11_text 249 = .ok (.getfield 49, 3) := by decide +kernel
theorem dX11_text_252 : decode cX11_text 252 = .ok (.invokestatic 300, 3) := by decide +kernel
theorem dX11_text_255 : decode cX11_text 255 = .ok (.aload_n 0, 1) := by decide +kernel
theorem dX11_text_256 : decode cX11_text 256 = .ok (.getfield 52, 3) := by decide +kernel
theorem dX11_text_259 : decode cX11_text 259 = .ok (.invokestatic 300, 3) := by decide +kernel
theorem dX11_text_262 : decode cX11_text 262 = .ok (.aload_n 0, 1) := by decide +kernel
theorem dX11_text_263 : decode cX11_text 263 = .ok (.getfield 55, 3) := by decide +kernel
theorem dX11_text_266 : decode cX11_text 266 = .ok (.invokestatic 300, 3) := by decide +kernel
theorem dX11_text_269 : decode cX11_text 269 = .ok (.aload_n 0, 1) := by decide +kernel
theorem dX11_text_270 : decode cX11_text 270 = .ok (.getfield 58, 3) := by decide +kernel
theorem dX11_text_273 : decode cX11_text 273 = .ok (.invokestatic 300, 3) := by decide +kernel
theorem dX11_text_276 : decode cX11_text 276 = .ok (.aload_n 0, 1) := by decide +kernel
theorem dX11_text_277 : decode cX11_text 277 = .ok (.getfield 61, 3) := by decide +kernel
theorem dX11_text_280 : decode cX11_text 280 = .ok (.invokestatic 300, 3) := by decide +kernel
theorem dX11_text_283 : decode cX11_text 283 = .ok (.aload_n 0, 1) := by decide +kernel
theorem dX11_text_284 : decode cX11_text 284 = .ok (.getfield 64, 3) := by decide +kernel
theorem dX11_text_287 : decode cX11_text 287 = .ok (.invokestatic 300, 3) := by decide +kernel
theorem dX11_text_290 : decode cX11_text 290 = .ok (.aload_n 0, 1) := by decide +kernel
theorem dX11_text_291 : decode cX11_text 291 = .ok (.iconst 0, 1) := by decide +kernel
theorem dX11_text_292 : decode cX11_text 292 = .ok (.putfield 304, 3) := by decide +kernel
theorem dX11_text_295 : decode cX11_text 295 = .ok (.aload_n 0, 1) := by decide +kernel
theorem dX11_text_296 : decode cX11_text 296 = .ok (.iconst (-1), 1) := by decide +kernel
theorem dX11_text_297 : decode cX11_text 297 = .ok (.putfield 123, 3) := by decide +kernel
theorem dX11_text_300 : decode cX11_text 300 = .ok (.aload_n 0, 1) := by decide +kernel
theorem dX11_text_301 : decode cX11_text 301 = .ok (.iconst 0, 1) := by decide +kernel
theorem dX11_text_302 : decode cX11_text 302 = .ok (.putfield 307, 3) := by decide +kernel
theorem dX11_text_305 : decode cX11_text 305 = .ok (.aload_n 0, 1) := by decide +kernel
theorem dX11_text_306 : decode cX11_text 306 = .ok (.iconst 0, 1) := by decide +kernel
theorem dX11_text_307 : decode cX11_text 307 = .ok (.putfield 311, 3) := by decide +kernel
theorem dX11_text_310 : decode cX11_text 310 = .ok (.aload_n 0, 1) := by decide +kernel
theorem dX11_text_311 : decode cX11_text 311 = .ok (.invokevirtual 145, 3) := by decide +kernel
theorem dX11_text_314 : decode cX11_text 314 = .ok (.aload_n 0, 1) := by decide +kernel
theorem dX11_text_315 : decode cX11_text 315 = .ok (.getfield 258, 3) := by decide +kernel
theorem dX11_text_318 : decode cX11_text 318 = .ok (.ireturn, 1) := by decide +kernel
theorem dX11_fault_0 : decode cX11_fault 0 = .ok (.aload_n 0, 1) := by decide +kernel
theorem dX11_fault_1 : decode cX11_fault 1 = .ok (.iconst 0, 1) := by decide +kernel
theorem dX11_fault_2 : decode cX11_fault 2 = .ok (.putfield 148, 3) := by decide +kernel
theorem dX11_fault_5 : decode cX11_fault 5 = .ok (.iload_n 1, 1) := by decide +kernel
theorem dX11_fault_6 : decode cX11_fault 6 = .ok (.ifCond .ne 10, 3) := by decide +kernel
theorem dX11_fault_9 : decode cX11_fault 9 = .ok (.aload_n 0, 1) := by decide +kernel
theorem dX11_fault_10 : decode cX11_fault 10 = .ok (.getfield 297, 3) := by decide +kernel
theorem dX11_fault_13 : decode cX11_fault 13 = .ok (.goto 16, 3) := by decide +kernel
theorem dX11_fault_16 : decode cX11_fault 16 = .ok (.iload_n 1, 1) := by decide +kernel
theorem dX11_fault_17 : decode cX11_fault 17 = .ok (.iconst 1, 1) := by decide +kernel
theorem dX11_fault_18 : decode cX11_fault 18 = .ok (.if_icmp .ne 10, 3) := by decide +kernel
theorem dX11_fault_21 : decode cX11_fault 21 = .ok (.aload_n 0, 1) := by decide +kernel
theorem dX11_fault_22 : decode cX11_fault 22 = .ok (.getfield 67, 3) := by decide +kernel
theorem dX11_fault_25 : decode cX11_fault 25 = .ok (.goto 4, 3) := by decide +kernel
theorem dX11_fault_28 : decode cX11_fault 28 = .ok (.iconst (-1), 1) := by decide +kernel
theorem dX11_fault_29 : decode cX11_fault 29 = .ok (.ireturn, 1) := by decide +kernel
theorem dX11_named_0 : decode cX11_named 0 = .ok (.aload_n 0, 1) := by decide +kernel
theorem dX11_named_1 : decode cX11_named 1 = .ok (.iconst 0, 1) := by decide +kernel
theorem dX11_named_2 : decode cX11_named 2 = .ok (.putfield 148, 3) := by decide +kernel
theorem dX11_named_5 : decode cX11_named 5 = .ok (.iload_n 1, 1) := by decide +kernel
theorem dX11_named_6 : decode cX11_named 6 = .ok (.tableswitch 74 0 2 #[26, 42, 58], 26) := by decide +kernel
theorem dX11_named_32 : decode cX11_named 32 = .ok (.aload_n 0, 1) := by decide +kernel
theorem dX11_named_33 : decode cX11_named 33 = .ok (.getfield 16, 3) := by decide +kernel
theorem dX11_named_36 : decode cX11_named 36 = .ok (.iconst 0, 1) := by decide +kernel
theorem dX11_named_37 : decode cX11_named 37 = .ok (.aload_n 0, 1) := by decide +kernel
theorem dX11_named_38 : decode cX11_named 38 = .ok (.getfield 13, 3) := by decide +kernel
theorem dX11_named_41 : decode cX11_named 41 = .ok (.iconst 0, 1) := by decide +kernel
theorem dX11_named_42 : decode cX11_named 42 = .ok (.iaload, 1) := by decide +kernel
theorem dX11_named_43 : decode cX11_named 43 = .ok (.iload_n 2, 1) := by decide +kernel
theorem dX11_named_44 : decode cX11_named 44 = .ok (.invokestatic 214, 3) := by decide +kernel
theorem dX11_named_47 : decode cX11_named 47 = .ok (.ireturn, 1) := by decide +kernel
theorem dX11_named_48 : decode cX11_named 48 = .ok (.aload_n 0, 1) := by decide +kernel
theorem dX11_named_49 : decode cX11_named 49 = .ok (.getfield 25, 3) := by decide +kernel
theorem dX11_named_52 : decode cX11_named 52 = .ok (.iconst 0, 1) := by decide +kernel
theorem dX11_named_53 : decode cX11_named 53 = .ok (.aload_n 0, 1) := by decide +kernel
theorem dX11_named_54 : decode cX11_named 54 = .ok (.getfield 13, 3) := by decide +kernel
theorem dX11_named_57 : decode cX11_named 57 = .ok (.iconst 2, 1) := by decide +kernel
theorem dX11_named_58 : decode cX11_named 58 = .ok (.iaload, 1) := by decide +kernel
theorem dX11_named_59 : decode cX11_named 59 = .ok (.iload_n 2, 1) := by decide +kernel
theorem dX11_named_60 : decode cX11_named 60 = .ok (.invokestatic 214, 3) := by decide +kernel
theorem dX11_named_63 : decode cX11_named 63 = .ok (.ireturn, 1) := by decide +kernel
theorem dX11_named_64 : decode cX11_named 64 = .ok (.aload_n 0, 1) := by decide +kernel
theorem dX11_named_65 : decode cX11_named 65 = .ok (.getfield 37, 3) := by decide +kernel
theorem dX11_named_68 : decode cX11_named 68 = .ok (.iconst 0, 1) := by decide +kernel
theorem dX11_named_69 : decode cX11_named 69 = .ok (.aload_n 0, 1) := by decide +kernel
theorem dX11_named_70 : decode cX11_named 70 = .ok (.getfield 13, 3) := by decide +kernel
theorem dX11_named_73 : decode cX11_named 73 = .ok (.iconst 3, 1) := by decide +kernel
theorem dX11_named_74 : decode cX11_named 74 = .ok (.iaload, 1) := by decide +kernel
theorem dX11_named_75 : decode cX11_named 75 = .ok (.iload_n 2, 1) := by decide +kernel
theorem dX11_named_76 : decode cX11_named 76 = .ok (.invokestatic 214, 3) := by decide +kernel
theorem dX11_named_79 : decode cX11_named 79 = .ok (.ireturn, 1) := by decide +kernel
theorem dX11_named_80 : decode cX11_named 80 = .ok (.iconst (-1), 1) := by decide +kernel
theorem dX11_named_81 : decode cX11_named 81 = .ok (.ireturn, 1) := by decide +kernel
theorem dX11_is_0 : decode cX11_is 0 = .ok (.iload_n 0, 1) := by decide +kernel
theorem dX11_is_1 : decode cX11_is 1 = .ok (.ifCond .eq 7, 3) := by decide +kernel
theorem dX11_is_4 : decode cX11_is 4 = .ok (.lconst 1, 1) := by decide +kernel
theorem dX11_is_5 : decode cX11_is 5 = .ok (.goto 4, 3) := by decide +kernel
theorem dX11_is_8 : decode cX11_is 8 = .ok (.lconst 0, 1) := by decide +kernel
theorem dX11_is_9 : decode cX11_is 9 = .ok (.lreturn, 1) := by decide +kernel
theorem dX11_works_0 : decode cX11_works 0 = .ok (.aload_n 0, 1) := by decide +kernel
theorem dX11_works_1 : decode cX11_works 1 = .ok (.getfield 75, 3) := by decide +kernel
theorem dX11_works_4 : decode cX11_works 4 = .ok (.aload_n 0, 1) := by decide +kernel
theorem dX11_works_5 : decode cX11_works 5 = .ok (.getfield 314, 3) := by decide +kernel
theorem dX11_works_8 : decode cX11_works 8 = .ok (.iconst 1, 1) := by decide +kernel
theorem dX11_works_9 : decode cX11_works 9 = .ok (.isub, 1) := by decide +kernel
theorem dX11_works_10 : decode cX11_works 10 = .ok (.laload, 1) := by decide +kernel
theorem dX11_works_11 : decode cX11_works 11 = .ok (.lstore_n 2, 1) := by decide +kernel
theorem dX11_works_12 : decode cX11_works 12 = .ok (.iload_n 1, 1) := by decide +kernel
theorem dX11_works_13 : decode cX11_works 13 = .ok (.sipush 260, 3) := by decide +kernel
theorem dX11_works_16 : decode cX11_works 16 = .ok (.if_icmp .ne 30, 3) := by decide +kernel
theorem dX11_works_19 : decode cX11_works 19 = .ok (.aload_n 0, 1) := by decide +kernel
theorem dX11_works_20 : decode cX11_works 20 = .ok (.getfield 75, 3) := by decide +kernel
theorem dX11_works_23 : decode cX11_works 23 = .ok (.aload_n 0, 1) := by decide +kernel
theorem dX11_works_24 : decode cX11_works 24 = .ok (.getfield 314, 3) := by decide +kernel
theorem dX11_works_27 : decode cX11_works 27 = .ok (.iconst 1, 1) := by decide +kernel
theorem dX11_works_28 : decode cX11_works 28 = .ok (.isub, 1) := by decide +kernel
theorem dX11_works_29 : decode cX11_works 29 = .ok (.lload_n 2, 1) := by decide +kernel
theorem dX11_works_30 : decode cX11_works 30 = .ok (.lconst 0, 1) := by decide +kernel
theorem dX11_works_31 : decode cX11_works 31 = .ok (.lcmp, 1) := by decide +kernel
theorem dX11_works_32 : decode cX11_works 32 = .ok (.ifCond .ne 7, 3) := by decide +kernel
theorem dX11_works_35 : decode cX11_works 35 = .ok (.iconst 1, 1) := by decide +kernel
theorem dX11_works_36 : decode cX11_works 36 = .ok (.goto 4, 3) := by decide +kernel
theorem dX11_works_39 : decode cX11_works 39 = .ok (.iconst 0, 1) := by decide +kernel
theorem dX11_works_40 : decode cX11_works 40 = .ok (.invokestatic 317, 3) := by decide +kernel
theorem dX11_works_43 : decode cX11_works 43 = .ok (.lastore, 1) := by decide +kernel
theorem dX11_works_44 : decode cX11_works 44 = .ok (.iconst 1, 1) := by decide +kernel
theorem dX11_works_45 : decode cX11_works 45 = .ok (.ireturn, 1) := by decide +kernel
theorem dX11_works_46 : decode cX11_works 46 = .ok (.aload_n 0, 1) := by decide +kernel
theorem dX11_works_47 : decode cX11_works 47 = .ok (.getfield 75, 3) := by decide +kernel
theorem dX11_works_50 : decode cX11_works 50 = .ok (.aload_n 0, 1) := by decide +kernel
theorem dX11_works_51 : decode cX11_works 51 = .ok (.getfield 314, 3) := by decide +kernel
theorem dX11_works_54 : decode cX11_works 54 = .ok (.iconst 2, 1) := by decide +kernel
theorem dX11_works_55 : decode cX11_works 55 = .ok (.isub, 1) := by decide +kernel
theorem dX11_works_56 : decode cX11_works 56 = .ok (.laload, 1) := by decide +kernel
theorem dX11_works_57 : decode cX11_works 57 = .ok (.lstore 4, 2) := by decide +kernel
theorem dX11_works_59 : decode cX11_works 59 = .ok (.aload_n 0, 1) := by decide +kernel
theorem dX11_works_60 : decode cX11_works 60 = .ok (.dup, 1) := by decide +kernel
theorem dX11_works_61 : decode cX11_works 61 = .ok (.getfield 314, 3) := by decide +kernel
theorem dX11_works_64 : decode cX11_works 64 = .ok (.iconst 1, 1) := by decide +kernel
theorem dX11_works_65 : decode cX11_works 65 = .ok (.isub, 1) := by decide +kernel
theorem dX11_works_66 : decode cX11_works 66 = .ok (.putfield 314, 3) := by decide +kernel
theorem dX11_works_69 : decode cX11_works 69 = .ok (.iload_n 1, 1) := by decide +kernel
theorem dX11_works_70 : decode cX11_works 70 = .ok (.lookupswitch 314 #[(42, 116), (43, 98), (45, 107), (47, 151), (60, 168), (61, 208), (62, 188), (256, 228), (257, 268), (258, 248), (261, 288)], 98) := by decide +kernel
theorem dX11_works_168 : decode cX11_works 168 = .ok (.lload 4, 2) := by decide +kernel
theorem dX11_works_170 : decode cX11_works 170 = .ok (.lload_n 2, 1) := by decide +kernel
theorem dX11_works_171 : decode cX11_works 171 = .ok (.ladd, 1) := by decide +kernel
theorem dX11_works_172 : decode cX11_works 172 = .ok (.lstore 6, 2) := by decide +kernel
theorem dX11_works_174 : decode cX11_works 174 = .ok (.goto 233, 3) := by decide +kernel
theorem dX11_works_177 : decode cX11_works 177 = .ok (.lload 4, 2) := by decide +kernel
theorem dX11_works_179 : decode cX11_works 179 = .ok (.lload_n 2, 1) := by decide +kernel
theorem dX11_works_180 : decode cX11_works 180 = .ok (.lsub, 1) := by decide +kernel
theorem dX11_works_181 : decode cX11_works 181 = .ok (.lstore 6, 2) := by decide +kernel
theorem dX11_works_183 : decode cX11_works 183 = .ok (.goto 224, 3) := by decide +kernel
theorem dX11_works_186 : decode cX11_works 186 = .ok (.lload 4, 2) := by decide +kernel
theorem dX11_works_188 : decode cX11_works 188 = .ok (.lconst 0, 1) := by decide +kernel
theorem dX11_works_189 : decode cX11_works 189 = .ok (.lcmp, 1) := by decide +kernel
theorem dX11_works_190 : decode cX11_works 190 = .ok (.ifCond .eq 22, 3) := by decide +kernel
theorem dX11_works_193 : decode cX11_works 193 = .ok (.lload_n 2, 1) := by decide +kernel
theorem dX11_works_194 : decode cX11_works 194 = .ok (.invokestatic 321, 3) := by decide +kernel
theorem dX11_works_197 : decode cX11_works 197 = .ok (.ldc2_w 327, 3) := by decide +kernel
theorem dX11_works_200 : decode cX11_works 200 = .ok (.lload 4, 2) := by decide +kernel
theorem dX11_works_202 : decode cX11_works 202 = .ok (.invokestatic 321, 3) := by decide +kernel
theorem dX11_works_205 : decode cX11_works 205 = .ok (.ldiv, 1) := by decide +kernel
theorem dX11_works_206 : decode cX11_works 206 = .ok (.lcmp, 1) := by decide +kernel
theorem dX11_works_207 : decode cX11_works 207 = .ok (.ifCond .le 5, 3) := by decide +kernel
theorem dX11_works_210 : decode cX11_works 210 = .ok (.iconst 0, 1) := by decide +kernel
theorem dX11_works_211 : decode cX11_works 211 = .ok (.ireturn, 1) := by decide +kernel
theorem dX11_works_212 : decode cX11_works 212 = .ok (.lload 4, 2) := by decide +kernel
theorem dX11_works_214 : decode cX11_works 214 = .ok (.lload_n 2, 1) := by decide +kernel
theorem dX11_works_215 : decode cX11_works 215 = .ok (.lmul, 1) := by decide +kernel
theorem dX11_works_216 : decode cX11_works 216 = .ok (.lstore 6, 2) := by decide +kernel
theorem dX11_works_218 : decode cX11_works 218 = .ok (.goto 189, 3) := by decide +kernel
theorem dX11_works_221 : decode cX11_works 221 = .ok (.lload_n 2, 1) := by decide +kernel
theorem dX11_works_222 : decode cX11_works 222 = .ok (.lconst 0, 1) := by decide +kernel
theorem dX11_works_223 : decode cX11_works 223 = .ok (.lcmp, 1) := by decide +kernel
theorem dX11_works_224 : decode cX11_works 224 = .ok (.ifCond .ne 5, 3) := by decide +kernel
theorem dX11_works_227 : decode cX11_works 227 = .ok (.iconst 0, 1) := by decide +kernel
theorem dX11_works_228 : decode cX11_works 228 = .ok (.ireturn, 1) := by decide +kernel
theorem dX11_works_229 : decode cX11_works 229 = .ok (.lload 4, 2) := by decide +kernel
theorem dX11_works_231 : decode cX11_works 231 = .ok (.lload_n 2, 1) := by decide +kernel
theorem dX11_works_232 : decode cX11_works 232 = .ok (.ldiv, 1) := by decide +kernel
theorem dX11_works_233 : decode cX11_works 233 = .ok (.lstore 6, 2) := by decide +kernel
theorem dX11_works_235 : decode cX11_works 235 = .ok (.goto 172, 3) := by decide +kernel
theorem dX11_works_238 : decode cX11_works 238 = .ok (.lload 4, 2) := by decide +kernel
theorem dX11_works_240 : decode cX11_works 240 = .ok (.lload_n 2, 1) := by decide +kernel
theorem dX11_works_241 : decode cX11_works 241 = .ok (.lcmp, 1) := by decide +kernel
theorem dX11_works_242 : decode cX11_works 242 = .ok (.ifCond .ge 7, 3) := by decide +kernel
theorem dX11_works_245 : decode cX11_works 245 = .ok (.iconst 1, 1) := by decide +kernel
theorem dX11_works_246 : decode cX11_works 246 = .ok (.goto 4, 3) := by decide +kernel
theorem dX11_works_249 : decode cX11_works 249 = .ok (.iconst 0, 1) := by decide +kernel
theorem dX11_works_250 : decode cX11_works 250 = .ok (.invokestatic 317, 3) := by decide +kernel
theorem dX11_works_253 : decode cX11_works 253 = .ok (.lstore 6, 2) := by decide +kernel
theorem dX11_works_255 : decode cX11_works 255 = .ok (.goto 152, 3) := by decide +kernel
theorem dX11_works_258 : decode cX11_works 258 = .ok (.lload 4, 2) := by decide +kernel
theorem dX11_works_260 : decode cX11_works 260 = .ok (.lload_n 2, 1) := by decide +kernel
theorem dX11_works_261 : decode cX11_works 261 = .ok (.lcmp, 1) := by decide +kernel
theorem dX11_works_262 : decode cX11_works 262 = .ok (.ifCond .le 7, 3) := by decide +kernel
theorem dX11_works_265 : decode cX11_works 265 = .ok (.iconst 1, 1) := by decide +kernel
theorem dX11_works_266 : decode cX11_works 266 = .ok (.goto 4, 3) := by decide +kernel
theorem dX11_works_269 : decode cX11_works 269 = .ok (.iconst 0, 1) := by decide +kernel
theorem dX11_works_270 : decode cX11_works 270 = .ok (.invokestatic 317, 3) := by decide +kernel
theorem dX11_works_273 : decode cX11_works 273 = .ok (.lstore 6, 2) := by decide +kernel
theorem dX11_works_275 : decode cX11_works 275 = .ok (.goto 132, 3) := by decide +kernel
theorem dX11_works_278 : decode cX11_works 278 = .ok (.lload 4, 2) := by decide +kernel
theorem dX11_works_280 : decode cX11_works 280 = .ok (.lload_n 2, 1) := by decide +kernel
theorem dX11_works_281 : decode cX11_works 281 = .ok (.lcmp, 1) := by decide +kernel
theorem dX11_works_282 : decode cX11_works 282 = .ok (.ifCond .ne 7, 3) := by decide +kernel
theorem dX11_works_285 : decode cX11_works 285 = .ok (.iconst 1, 1) := by decide +kernel
theorem dX11_works_286 : decode cX11_works 286 = .ok (.goto 4, 3) := by decide +kernel
theorem dX11_works_289 : decode cX11_works 289 = .ok (.iconst 0, 1) := by decide +kernel
theorem dX11_works_290 : decode cX11_works 290 = .ok (.invokestatic 317, 3) := by decide +kernel
theorem dX11_works_293 : decode cX11_works 293 = .ok (.lstore 6, 2) := by decide +kernel
theorem dX11_works_295 : decode cX11_works 295 = .ok (.goto 112, 3) := by decide +kernel
theorem dX11_works_298 : decode cX11_works 298 = .ok (.lload 4, 2) := by decide +kernel
theorem dX11_works_300 : decode cX11_works 300 = .ok (.lload_n 2, 1) := by decide +kernel
theorem dX11_works_301 : decode cX11_works 301 = .ok (.lcmp, 1) := by decide +kernel
theorem dX11_works_302 : decode cX11_works 302 = .ok (.ifCond .gt 7, 3) := by decide +kernel
theorem dX11_works_305 : decode cX11_works 305 = .ok (.iconst 1, 1) := by decide +kernel
theorem dX11_works_306 : decode cX11_works 306 = .ok (.goto 4, 3) := by decide +kernel
theorem dX11_works_309 : decode cX11_works 309 = .ok (.iconst 0, 1) := by decide +kernel
theorem dX11_works_310 : decode cX11_works 310 = .ok (.invokestatic 317, 3) := by decide +kernel
theorem dX11_works_313 : decode cX11_works 313 = .ok (.lstore 6, 2) := by decide +kernel
theorem dX11_works_315 : decode cX11_works 315 = .ok (.goto 92, 3) := by decide +kernel
theorem dX11_works_318 : decode cX11_works 318 = .ok (.lload 4, 2) := by decide +kernel
theorem dX11_works_320 : decode cX11_works 320 = .ok (.lload_n 2, 1) := by decide +kernel
theorem dX11_works_321 : decode cX11_works 321 = .ok (.lcmp, 1) := by decide +kernel
theorem dX11_works_322 : decode cX11_works 322 = .ok (.ifCond .lt 7, 3) := by decide +kernel
theorem dX11_works_325 : decode cX11_works 325 = .ok (.iconst 1, 1) := by decide +kernel
theorem dX11_works_326 : decode cX11_works 326 = .ok (.goto 4, 3) := by decide +kernel
theorem dX11_works_329 : decode cX11_works 329 = .ok (.iconst 0, 1) := by decide +kernel
theorem dX11_works_330 : decode cX11_works 330 = .ok (.invokestatic 317, 3) := by decide +kernel
theorem dX11_works_333 : decode cX11_works 333 = .ok (.lstore 6, 2) := by decide +kernel
theorem dX11_works_335 : decode cX11_works 335 = .ok (.goto 72, 3) := by decide +kernel
theorem dX11_works_338 : decode cX11_works 338 = .ok (.lload 4, 2) := by decide +kernel
theorem dX11_works_340 : decode cX11_works 340 = .ok (.lload_n 2, 1) := by decide +kernel
theorem dX11_works_341 : decode cX11_works 341 = .ok (.lcmp, 1) := by decide +kernel
theorem dX11_works_342 : decode cX11_works 342 = .ok (.ifCond .eq 7, 3) := by decide +kernel
theorem dX11_works_345 : decode cX11_works 345 = .ok (.iconst 1, 1) := by decide +kernel
theorem dX11_works_346 : decode cX11_works 346 = .ok (.goto 4, 3) := by decide +kernel
theorem dX11_works_349 : decode cX11_works 349 = .ok (.iconst 0, 1) := by decide +kernel
theorem dX11_works_350 : decode cX11_works 350 = .ok (.invokestatic 317, 3) := by decide +kernel
theorem dX11_works_353 : decode cX11_works 353 = .ok (.lstore 6, 2) := by decide +kernel
theorem dX11_works_355 : decode cX11_works 355 = .ok (.goto 52, 3) := by decide +kernel
theorem dX11_works_358 : decode cX11_works 358 = .ok (.lload 4, 2) := by decide +kernel
theorem dX11_works_360 : decode cX11_works 360 = .ok (.lconst 0, 1) := by decide +kernel
theorem dX11_works_361 : decode cX11_works 361 = .ok (.lcmp, 1) := by decide +kernel
theorem dX11_works_362 : decode cX11_works 362 = .ok (.ifCond .eq 13, 3) := by decide +kernel
theorem dX11_works_365 : decode cX11_works 365 = .ok (.lload_n 2, 1) := by decide +kernel
theorem dX11_works_366 : decode cX11_works 366 = .ok (.lconst 0, 1) := by decide +kernel
theorem dX11_works_367 : decode cX11_works 367 = .ok (.lcmp, 1) := by decide +kernel
theorem dX11_works_368 : decode cX11_works 368 = .ok (.ifCond .eq 7, 3) := by decide +kernel
theorem dX11_works_371 : decode cX11_works 371 = .ok (.iconst 1, 1) := by decide +kernel
theorem dX11_works_372 : decode cX11_works 372 = .ok (.goto 4, 3) := by decide +kernel
theorem dX11_works_375 : decode cX11_works 375 = .ok (.iconst 0, 1) := by decide +kernel
theorem dX11_works_376 : decode cX11_works 376 = .ok (.invokestatic 317, 3) := by decide +kernel
theorem dX11_works_379 : decode cX11_works 379 = .ok (.lstore 6, 2) := by decide +kernel
theorem dX11_works_381 : decode cX11_works 381 = .ok (.goto 26, 3) := by decide +kernel
theorem dX11_works_384 : decode cX11_works 384 = .ok (.lload 4, 2) := by decide +kernel
theorem dX11_works_386 : decode cX11_works 386 = .ok (.lconst 0, 1) := by decide +kernel
theorem dX11_works_387 : decode cX11_works 387 = .ok (.lcmp, 1) := by decide +kernel
theorem dX11_works_388 : decode cX11_works 388 = .ok (.ifCond .ne 9, 3) := by decide +kernel
theorem dX11_works_391 : decode cX11_works 391 = .ok (.lload_n 2, 1) := by decide +kernel
theorem dX11_works_392 : decode cX11_works 392 = .ok (.lconst 0, 1) := by decide +kernel
theorem dX11_works_393 : decode cX11_works 393 = .ok (.lcmp, 1) := by decide +kernel
theorem dX11_works_394 : decode cX11_works 394 = .ok (.ifCond .eq 7, 3) := by decide +kernel
theorem dX11_works_397 : decode cX11_works 397 = .ok (.iconst 1, 1) := by decide +kernel
theorem dX11_works_398 : decode cX11_works 398 = .ok (.goto 4, 3) := by decide +kernel
theorem dX11_works_401 : decode cX11_works 401 = .ok (.iconst 0, 1) := by decide +kernel
theorem dX11_works_402 : decode cX11_works 402 = .ok (.invokestatic 317, 3) := by decide +kernel
theorem dX11_works_405 : decode cX11_works 405 = .ok (.lstore 6, 2) := by decide +kernel
theorem dX11_works_407 : decode cX11_works 407 = .ok (.aload_n 0, 1) := by decide +kernel
theorem dX11_works_408 : decode cX11_works 408 = .ok (.getfield 75, 3) := by decide +kernel
theorem dX11_works_411 : decode cX11_works 411 = .ok (.aload_n 0, 1) := by decide +kernel
theorem dX11_works_412 : decode cX11_works 412 = .ok (.getfield 314, 3) := by decide +kernel
theorem dX11_works_415 : decode cX11_works 415 = .ok (.iconst 1, 1) := by decide +kernel
theorem dX11_works_416 : decode cX11_works 416 = .ok (.isub, 1) := by decide +kernel
theorem dX11_works_417 : decode cX11_works 417 = .ok (.lload 6, 2) := by decide +kernel
theorem dX11_works_419 : decode cX11_works 419 = .ok (.lastore, 1) := by decide +kernel
theorem dX11_works_420 : decode cX11_works 420 = .ok (.lload 6, 2) := by decide +kernel
theorem dX11_works_422 : decode cX11_works 422 = .ok (.ldc2_w 327, 3) := by decide +kernel
theorem dX11_works_425 : decode cX11_works 425 = .ok (.lcmp, 1) := by decide +kernel
theorem dX11_works_426 : decode cX11_works 426 = .ok (.ifCond .gt 16, 3) := by decide +kernel
theorem dX11_works_429 : decode cX11_works 429 = .ok (.lload 6, 2) := by decide +kernel
theorem dX11_works_431 : decode cX11_works 431 = .ok (.ldc2_w 329, 3) := by decide +kernel
theorem dX11_works_434 : decode cX11_works 434 = .ok (.lcmp, 1) := by decide +kernel
theorem dX11_works_435 : decode cX11_works 435 = .ok (.ifCond .lt 7, 3) := by decide +kernel
theorem dX11_works_438 : decode cX11_works 438 = .ok (.iconst 1, 1) := by decide +kernel
theorem dX11_works_439 : decode cX11_works 439 = .ok (.goto 4, 3) := by decide +kernel
theorem dX11_works_442 : decode cX11_works 442 = .ok (.iconst 0, 1) := by decide +kernel
theorem dX11_works_443 : decode cX11_works 443 = .ok (.ireturn, 1) := by decide +kernel
theorem dX11_goes_0 : decode cX11_goes 0 = .ok (.aload_n 0, 1) := by decide +kernel
theorem dX11_goes_1 : decode cX11_goes 1 = .ok (.iconst 0, 1) := by decide +kernel
theorem dX11_goes_2 : decode cX11_goes 2 = .ok (.putfield 314, 3) := by decide +kernel
theorem dX11_goes_5 : decode cX11_goes 5 = .ok (.aload_n 0, 1) := by decide +kernel
theorem dX11_goes_6 : decode cX11_goes 6 = .ok (.getfield 55, 3) := by decide +kernel
theorem dX11_goes_9 : decode cX11_goes 9 = .ok (.iload_n 1, 1) := by decide +kernel
theorem dX11_goes_10 : decode cX11_goes 10 = .ok (.iaload, 1) := by decide +kernel
theorem dX11_goes_11 : decode cX11_goes 11 = .ok (.istore_n 2, 1) := by decide +kernel
theorem dX11_goes_12 : decode cX11_goes 12 = .ok (.iload_n 2, 1) := by decide +kernel
theorem dX11_goes_13 : decode cX11_goes 13 = .ok (.aload_n 0, 1) := by decide +kernel
theorem dX11_goes_14 : decode cX11_goes 14 = .ok (.getfield 58, 3) := by decide +kernel
theorem dX11_goes_17 : decode cX11_goes 17 = .ok (.iload_n 1, 1) := by decide +kernel
theorem dX11_goes_18 : decode cX11_goes 18 = .ok (.iaload, 1) := by decide +kernel
theorem dX11_goes_19 : decode cX11_goes 19 = .ok (.if_icmp .ge 83, 3) := by decide +kernel
theorem dX11_goes_22 : decode cX11_goes 22 = .ok (.aload_n 0, 1) := by decide +kernel
theorem dX11_goes_23 : decode cX11_goes 23 = .ok (.getfield 61, 3) := by decide +kernel
theorem dX11_goes_26 : decode cX11_goes 26 = .ok (.iload_n 2, 1) := by decide +kernel
theorem dX11_goes_27 : decode cX11_goes 27 = .ok (.iaload, 1) := by decide +kernel
theorem dX11_goes_28 : decode cX11_goes 28 = .ok (.iconst 2, 1) := by decide +kernel
theorem dX11_goes_29 : decode cX11_goes 29 = .ok (.if_icmp .ne 18, 3) := by decide +kernel
theorem dX11_goes_32 : decode cX11_goes 32 = .ok (.aload_n 0, 1) := by decide +kernel
theorem dX11_goes_33 : decode cX11_goes 33 = .ok (.aload_n 0, 1) := by decide +kernel
theorem dX11_goes_34 : decode cX11_goes 34 = .ok (.getfield 64, 3) := by decide +kernel
theorem dX11_goes_37 : decode cX11_goes 37 = .ok (.iload_n 2, 1) := by decide +kernel
theorem dX11_goes_38 : decode cX11_goes 38 = .ok (.iaload, 1) := by decide +kernel
theorem dX11_goes_39 : decode cX11_goes 39 = .ok (.invokevirtual 331, 3) := by decide +kernel
theorem dX11_goes_42 : decode cX11_goes 42 = .ok (.ifCond .ne 54, 3) := by decide +kernel
theorem dX11_goes_45 : decode cX11_goes 45 = .ok (.iconst 0, 1) := by decide +kernel
theorem dX11_goes_46 : decode cX11_goes 46 = .ok (.ireturn, 1) := by decide +kernel
theorem dX11_goes_47 : decode cX11_goes 47 = .ok (.aload_n 0, 1) := by decide +kernel
theorem dX11_goes_48 : decode cX11_goes 48 = .ok (.getfield 75, 3) := by decide +kernel
theorem dX11_goes_51 : decode cX11_goes 51 = .ok (.aload_n 0, 1) := by decide +kernel
theorem dX11_goes_52 : decode cX11_goes 52 = .ok (.getfield 314, 3) := by decide +kernel
theorem dX11_goes_55 : decode cX11_goes 55 = .ok (.aload_n 0, 1) := by decide +kernel
theorem dX11_goes_56 : decode cX11_goes 56 = .ok (.getfield 61, 3) := by decide +kernel
theorem dX11_goes_59 : decode cX11_goes 59 = .ok (.iload_n 2, 1) := by decide +kernel
theorem dX11_goes_60 : decode cX11_goes 60 = .ok (.iaload, 1) := by decide +kernel
theorem dX11_goes_61 : decode cX11_goes 61 = .ok (.ifCond .ne 13, 3) := by decide +kernel
theorem dX11_goes_64 : decode cX11_goes 64 = .ok (.aload_n 0, 1) := by decide +kernel
theorem dX11_goes_65 : decode cX11_goes 65 = .ok (.getfield 64, 3) := by decide +kernel
theorem dX11_goes_68 : decode cX11_goes 68 = .ok (.iload_n 2, 1) := by decide +kernel
theorem dX11_goes_69 : decode cX11_goes 69 = .ok (.iaload, 1) := by decide +kernel
theorem dX11_goes_70 : decode cX11_goes 70 = .ok (.i2l, 1) := by decide +kernel
theorem dX11_goes_71 : decode cX11_goes 71 = .ok (.goto 14, 3) := by decide +kernel
theorem dX11_goes_74 : decode cX11_goes 74 = .ok (.aload_n 0, 1) := by decide +kernel
theorem dX11_goes_75 : decode cX11_goes 75 = .ok (.getfield 71, 3) := by decide +kernel
theorem dX11_goes_78 : decode cX11_goes 78 = .ok (.aload_n 0, 1) := by decide +kernel
theorem dX11_goes_79 : decode cX11_goes 79 = .ok (.getfield 64, 3) := by decide +kernel
theorem dX11_goes_82 : decode cX11_goes 82 = .ok (.iload_n 2, 1) := by decide +kernel
theorem dX11_goes_83 : decode cX11_goes 83 = .ok (.iaload, 1) := by decide +kernel
theorem dX11_goes_84 : decode cX11_goes 84 = .ok (.laload, 1) := by decide +kernel
theorem dX11_goes_85 : decode cX11_goes 85 = .ok (.lastore, 1) := by decide +kernel
theorem dX11_goes_86 : decode cX11_goes 86 = .ok (.aload_n 0, 1) := by decide +kernel
theorem dX11_goes_87 : decode cX11_goes 87 = .ok (.dup, 1) := by decide +kernel
theorem dX11_goes_88 : decode cX11_goes 88 = .ok (.getfield 314, 3) := by decide +kernel
theorem dX11_goes_91 : decode cX11_goes 91 = .ok (.iconst 1, 1) := by decide +kernel
theorem dX11_goes_92 : decode cX11_goes 92 = .ok (.iadd, 1) := by decide +kernel
theorem dX11_goes_93 : decode cX11_goes 93 = .ok (.putfield 314, 3) := by decide +kernel
theorem dX11_goes_96 : decode cX11_goes 96 = .ok (.iinc 2 1, 3) := by decide +kernel
theorem dX11_goes_99 : decode cX11_goes 99 = .ok (.goto (-87), 3) := by decide +kernel
theorem dX11_goes_102 : decode cX11_goes 102 = .ok (.iconst 1, 1) := by decide +kernel
theorem dX11_goes_103 : decode cX11_goes 103 = .ok (.ireturn, 1) := by decide +kernel
theorem dX11_hasLaw_0 : decode cX11_hasLaw 0 = .ok (.aload_n 0, 1) := by decide +kernel
theorem dX11_hasLaw_1 : decode cX11_hasLaw 1 = .ok (.getfield 58, 3) := by decide +kernel
theorem dX11_hasLaw_4 : decode cX11_hasLaw 4 = .ok (.iload_n 1, 1) := by decide +kernel
theorem dX11_hasLaw_5 : decode cX11_hasLaw 5 = .ok (.iaload, 1) := by decide +kernel
theorem dX11_hasLaw_6 : decode cX11_hasLaw 6 = .ok (.aload_n 0, 1) := by decide +kernel
theorem dX11_hasLaw_7 : decode cX11_hasLaw 7 = .ok (.getfield 55, 3) := by decide +kernel
theorem dX11_hasLaw_10 : decode cX11_hasLaw 10 = .ok (.iload_n 1, 1) := by decide +kernel
theorem dX11_hasLaw_11 : decode cX11_hasLaw 11 = .ok (.iaload, 1) := by decide +kernel
theorem dX11_hasLaw_12 : decode cX11_hasLaw 12 = .ok (.if_icmp .le 7, 3) := by decide +kernel
theorem dX11_hasLaw_15 : decode cX11_hasLaw 15 = .ok (.iconst 1, 1) := by decide +kernel
theorem dX11_hasLaw_16 : decode cX11_hasLaw 16 = .ok (.goto 4, 3) := by decide +kernel
theorem dX11_hasLaw_19 : decode cX11_hasLaw 19 = .ok (.iconst 0, 1) := by decide +kernel
theorem dX11_hasLaw_20 : decode cX11_hasLaw 20 = .ok (.ireturn, 1) := by decide +kernel
theorem dX11_starts_0 : decode cX11_starts 0 = .ok (.aload_n 0, 1) := by decide +kernel
theorem dX11_starts_1 : decode cX11_starts 1 = .ok (.getfield 78, 3) := by decide +kernel
theorem dX11_starts_4 : decode cX11_starts 4 = .ok (.iload_n 1, 1) := by decide +kernel
theorem dX11_starts_5 : decode cX11_starts 5 = .ok (.iconst 0, 1) := by decide +kernel
theorem dX11_starts_6 : decode cX11_starts 6 = .ok (.iastore, 1) := by decide +kernel
theorem dX11_starts_7 : decode cX11_starts 7 = .ok (.aload_n 0, 1) := by decide +kernel
theorem dX11_starts_8 : decode cX11_starts 8 = .ok (.getfield 81, 3) := by decide +kernel
theorem dX11_starts_11 : decode cX11_starts 11 = .ok (.iload_n 1, 1) := by decide +kernel
theorem dX11_starts_12 : decode cX11_starts 12 = .ok (.aload_n 0, 1) := by decide +kernel
theorem dX11_starts_13 : decode cX11_starts 13 = .ok (.getfield 13, 3) := by decide +kernel
theorem dX11_starts_16 : decode cX11_starts 16 = .ok (.iconst 5, 1) := by decide +kernel
theorem dX11_starts_17 : decode cX11_starts 17 = .ok (.iaload, 1) := by decide +kernel
theorem dX11_starts_18 : decode cX11_starts 18 = .ok (.iastore, 1) := by decide +kernel
theorem dX11_starts_19 : decode cX11_starts 19 = .ok (.aload_n 0, 1) := by decide +kernel
theorem dX11_starts_20 : decode cX11_starts 20 = .ok (.getfield 84, 3) := by decide +kernel
theorem dX11_starts_23 : decode cX11_starts 23 = .ok (.iload_n 1, 1) := by decide +kernel
theorem dX11_starts_24 : decode cX11_starts 24 = .ok (.iconst 0, 1) := by decide +kernel
theorem dX11_starts_25 : decode cX11_starts 25 = .ok (.iastore, 1) := by decide +kernel
theorem dX11_starts_26 : decode cX11_starts 26 = .ok (.iconst 0, 1) := by decide +kernel
theorem dX11_starts_27 : decode cX11_starts 27 = .ok (.istore_n 2, 1) := by decide +kernel
theorem dX11_starts_28 : decode cX11_starts 28 = .ok (.iload_n 2, 1) := by decide +kernel
theorem dX11_starts_29 : decode cX11_starts 29 = .ok (.bipush 8, 2) := by decide +kernel
theorem dX11_starts_31 : decode cX11_starts 31 = .ok (.if_icmp .ge 64, 3) := by decide +kernel
theorem dX11_starts_34 : decode cX11_starts 34 = .ok (.aload_n 0, 1) := by decide +kernel
theorem dX11_starts_35 : decode cX11_starts 35 = .ok (.getfield 87, 3) := by decide +kernel
theorem dX11_starts_38 : decode cX11_starts 38 = .ok (.bipush 8, 2) := by decide +kernel
theorem dX11_starts_40 : decode cX11_starts 40 = .ok (.iload_n 1, 1) := by decide +kernel
theorem dX11_starts_41 : decode cX11_starts 41 = .ok (.imul, 1) := by decide +kernel
theorem dX11_starts_42 : decode cX11_starts 42 = .ok (.iload_n 2, 1) := by decide +kernel
theorem dX11_starts_43 : decode cX11_starts 43 = .ok (.iadd, 1) := by decide +kernel
theorem dX11_starts_44 : decode cX11_starts 44 = .ok (.iload_n 2, 1) := by decide +kernel
theorem dX11_starts_45 : decode cX11_starts 45 = .ok (.aload_n 0, 1) := by decide +kernel
theorem dX11_starts_46 : decode cX11_starts 46 = .ok (.getfield 13, 3) := by decide +kernel
theorem dX11_starts_49 : decode cX11_starts 49 = .ok (.iconst 2, 1) := by decide +kernel
theorem dX11_starts_50 : decode cX11_starts 50 = .ok (.iaload, 1) := by decide +kernel
theorem dX11_starts_51 : decode cX11_starts 51 = .ok (.if_icmp .ge 12, 3) := by decide +kernel
theorem dX11_starts_54 : decode cX11_starts 54 = .ok (.aload_n 0, 1) := by decide +kernel
theorem dX11_starts_55 : decode cX11_starts 55 = .ok (.getfield 28, 3) := by decide +kernel
theorem dX11_starts_58 : decode cX11_starts 58 = .ok (.iload_n 2, 1) := by decide +kernel
theorem dX11_starts_59 : decode cX11_starts 59 = .ok (.iaload, 1) := by decide +kernel
theorem dX11_starts_60 : decode cX11_starts 60 = .ok (.goto 4, 3) := by decide +kernel
theorem dX11_starts_63 : decode cX11_starts 63 = .ok (.iconst 0, 1) := by decide +kernel
theorem dX11_starts_64 : decode cX11_starts 64 = .ok (.iastore, 1) := by decide +kernel
theorem dX11_starts_65 : decode cX11_starts 65 = .ok (.aload_n 0, 1) := by decide +kernel
theorem dX11_starts_66 : decode cX11_starts 66 = .ok (.getfield 90, 3) := by decide +kernel
theorem dX11_starts_69 : decode cX11_starts 69 = .ok (.bipush 8, 2) := by decide +kernel
theorem dX11_starts_71 : decode cX11_starts 71 = .ok (.iload_n 1, 1) := by decide +kernel
theorem dX11_starts_72 : decode cX11_starts 72 = .ok (.imul, 1) := by decide +kernel
theorem dX11_starts_73 : decode cX11_starts 73 = .ok (.iload_n 2, 1) := by decide +kernel
theorem dX11_starts_74 : decode cX11_starts 74 = .ok (.iadd, 1) := by decide +kernel
theorem dX11_starts_75 : decode cX11_starts 75 = .ok (.iconst 0, 1) := by decide +kernel
theorem dX11_starts_76 : decode cX11_starts 76 = .ok (.iastore, 1) := by decide +kernel
theorem dX11_starts_77 : decode cX11_starts 77 = .ok (.aload_n 0, 1) := by decide +kernel
theorem dX11_starts_78 : decode cX11_starts 78 = .ok (.getfield 93, 3) := by decide +kernel
theorem dX11_starts_81 : decode cX11_starts 81 = .ok (.bipush 8, 2) := by decide +kernel
theorem dX11_starts_83 : decode cX11_starts 83 = .ok (.iload_n 1, 1) := by decide +kernel
theorem dX11_starts_84 : decode cX11_starts 84 = .ok (.imul, 1) := by decide +kernel
theorem dX11_starts_85 : decode cX11_starts 85 = .ok (.iload_n 2, 1) := by decide +kernel
theorem dX11_starts_86 : decode cX11_starts 86 = .ok (.iadd, 1) := by decide +kernel
theorem dX11_starts_87 : decode cX11_starts 87 = .ok (.iconst 0, 1) := by decide +kernel
theorem dX11_starts_88 : decode cX11_starts 88 = .ok (.iastore, 1) := by decide +kernel
theorem dX11_starts_89 : decode cX11_starts 89 = .ok (.iinc 2 1, 3) := by decide +kernel
theorem dX11_starts_92 : decode cX11_starts 92 = .ok (.goto (-64), 3) := by decide +kernel
theorem dX11_starts_95 : decode cX11_starts 95 = .ok (.iconst 0, 1) := by decide +kernel
theorem dX11_starts_96 : decode cX11_starts 96 = .ok (.istore_n 2, 1) := by decide +kernel
theorem dX11_starts_97 : decode cX11_starts 97 = .ok (.iload_n 2, 1) := by decide +kernel
theorem dX11_starts_98 : decode cX11_starts 98 = .ok (.bipush 6, 2) := by decide +kernel
theorem dX11_starts_100 : decode cX11_starts 100 = .ok (.if_icmp .ge 33, 3) := by decide +kernel
theorem dX11_starts_103 : decode cX11_starts 103 = .ok (.aload_n 0, 1) := by decide +kernel
theorem dX11_starts_104 : decode cX11_starts 104 = .ok (.getfield 96, 3) := by decide +kernel
theorem dX11_starts_107 : decode cX11_starts 107 = .ok (.bipush 6, 2) := by decide +kernel
theorem dX11_starts_109 : decode cX11_starts 109 = .ok (.iload_n 1, 1) := by decide +kernel
theorem dX11_starts_110 : decode cX11_starts 110 = .ok (.imul, 1) := by decide +kernel
theorem dX11_starts_111 : decode cX11_starts 111 = .ok (.iload_n 2, 1) := by decide +kernel
theorem dX11_starts_112 : decode cX11_starts 112 = .ok (.iadd, 1) := by decide +kernel
theorem dX11_starts_113 : decode cX11_starts 113 = .ok (.iconst 0, 1) := by decide +kernel
theorem dX11_starts_114 : decode cX11_starts 114 = .ok (.iastore, 1) := by decide +kernel
theorem dX11_starts_115 : decode cX11_starts 115 = .ok (.aload_n 0, 1) := by decide +kernel
theorem dX11_starts_116 : decode cX11_starts 116 = .ok (.getfield 99, 3) := by decide +kernel
theorem dX11_starts_119 : decode cX11_starts 119 = .ok (.bipush 6, 2) := by decide +kernel
theorem dX11_starts_121 : decode cX11_starts 121 = .ok (.iload_n 1, 1) := by decide +kernel
theorem dX11_starts_122 : decode cX11_starts 122 = .ok (.imul, 1) := by decide +kernel
theorem dX11_starts_123 : decode cX11_starts 123 = .ok (.iload_n 2, 1) := by decide +kernel
theorem dX11_starts_124 : decode cX11_starts 124 = .ok (.iadd, 1) := by decide +kernel
theorem dX11_starts_125 : decode cX11_starts 125 = .ok (.iconst 0, 1) := by decide +kernel
theorem dX11_starts_126 : decode cX11_starts 126 = .ok (.iastore, 1) := by decide +kernel
theorem dX11_starts_127 : decode cX11_starts 127 = .ok (.iinc 2 1, 3) := by decide +kernel
theorem dX11_starts_130 : decode cX11_starts 130 = .ok (.goto (-33), 3) := by decide +kernel
theorem dX11_starts_133 : decode cX11_starts 133 = .ok (.return_, 1) := by decide +kernel
theorem dX11_begins_0 : decode cX11_begins 0 = .ok (.aload_n 0, 1) := by decide +kernel
theorem dX11_begins_1 : decode cX11_begins 1 = .ok (.iconst 0, 1) := by decide +kernel
theorem dX11_begins_2 : decode cX11_begins 2 = .ok (.invokevirtual 334, 3) := by decide +kernel
theorem dX11_begins_5 : decode cX11_begins 5 = .ok (.return_, 1) := by decide +kernel
theorem dX11_copies_0 : decode cX11_copies 0 = .ok (.aload_n 0, 1) := by decide +kernel
theorem dX11_copies_1 : decode cX11_copies 1 = .ok (.getfield 78, 3) := by decide +kernel
theorem dX11_copies_4 : decode cX11_copies 4 = .ok (.iload_n 1, 1) := by decide +kernel
theorem dX11_copies_5 : decode cX11_copies 5 = .ok (.aload_n 0, 1) := by decide +kernel
theorem dX11_copies_6 : decode cX11_copies 6 = .ok (.getfield 78, 3) := by decide +kernel
theorem dX11_copies_9 : decode cX11_copies 9 = .ok (.iload_n 2, 1) := by decide +kernel
theorem dX11_copies_10 : decode cX11_copies 10 = .ok (.iaload, 1) := by decide +kernel
theorem dX11_copies_11 : decode cX11_copies 11 = .ok (.iastore, 1) := by decide +kernel
theorem dX11_copies_12 : decode cX11_copies 12 = .ok (.aload_n 0, 1) := by decide +kernel
theorem dX11_copies_13 : decode cX11_copies 13 = .ok (.getfield 81, 3) := by decide +kernel
theorem dX11_copies_16 : decode cX11_copies 16 = .ok (.iload_n 1, 1) := by decide +kernel
theorem dX11_copies_17 : decode cX11_copies 17 = .ok (.aload_n 0, 1) := by decide +kernel
theorem dX11_copies_18 : decode cX11_copies 18 = .ok (.getfield 81, 3) := by decide +kernel
theorem dX11_copies_21 : decode cX11_copies 21 = .ok (.iload_n 2, 1) := by decide +kernel
theorem dX11_copies_22 : decode cX11_copies 22 = .ok (.iaload, 1) := by decide +kernel
theorem dX11_copies_23 : decode cX11_copies 23 = .ok (.iastore, 1) := by decide +kernel
theorem dX11_copies_24 : decode cX11_copies 24 = .ok (.aload_n 0, 1) := by decide +kernel
theorem dX11_copies_25 : decode cX11_copies 25 = .ok (.getfield 84, 3) := by decide +kernel
theorem dX11_copies_28 : decode cX11_copies 28 = .ok (.iload_n 1, 1) := by decide +kernel
theorem dX11_copies_29 : decode cX11_copies 29 = .ok (.aload_n 0, 1) := by decide +kernel
theorem dX11_copies_30 : decode cX11_copies 30 = .ok (.getfield 84, 3) := by decide +kernel
theorem dX11_copies_33 : decode cX11_copies 33 = .ok (.iload_n 2, 1) := by decide +kernel
theorem dX11_copies_34 : decode cX11_copies 34 = .ok (.iaload, 1) := by decide +kernel
theorem dX11_copies_35 : decode cX11_copies 35 = .ok (.iastore, 1) := by decide +kernel
theorem dX11_copies_36 : decode cX11_copies 36 = .ok (.iconst 0, 1) := by decide +kernel
theorem dX11_copies_37 : decode cX11_copies 37 = .ok (.istore_n 3, 1) := by decide +kernel
theorem dX11_copies_38 : decode cX11_copies 38 = .ok (.iload_n 3, 1) := by decide +kernel
theorem dX11_copies_39 : decode cX11_copies 39 = .ok (.bipush 8, 2) := by decide +kernel
theorem dX11_copies_41 : decode cX11_copies 41 = .ok (.if_icmp .ge 75, 3) := by decide +kernel
theorem dX11_copies_44 : decode cX11_copies 44 = .ok (.aload_n 0, 1) := by decide +kernel
theorem dX11_copies_45 : decode cX11_copies 45 = .ok (.getfield 87, 3) := by decide +kernel
theorem dX11_copies_48 : decode cX11_copies 48 = .ok (.bipush 8, 2) := by decide +kernel
theorem dX11_copies_50 : decode cX11_copies 50 = .ok (.iload_n 1, 1) := by decide +kernel
theorem dX11_copies_51 : decode cX11_copies 51 = .ok (.imul, 1) := by decide +kernel
theorem dX11_copies_52 : decode cX11_copies 52 = .ok (.iload_n 3, 1) := by decide +kernel
theorem dX11_copies_53 : decode cX11_copies 53 = .ok (.iadd, 1) := by decide +kernel
theorem dX11_copies_54 : decode cX11_copies 54 = .ok (.aload_n 0, 1) := by decide +kernel
theorem dX11_copies_55 : decode cX11_copies 55 = .ok (.getfield 87, 3) := by decide +kernel
theorem dX11_copies_58 : decode cX11_copies 58 = .ok (.bipush 8, 2) := by decide +kernel
theorem dX11_copies_60 : decode cX11_copies 60 = .ok (.iload_n 2, 1) := by decide +kernel
theorem dX11_copies_61 : decode cX11_copies 61 = .ok (.imul, 1) := by decide +kernel
theorem dX11_copies_62 : decode cX11_copies 62 = .ok (.iload_n 3, 1) := by decide +kernel
theorem dX11_copies_63 : decode cX11_copies 63 = .ok (.iadd, 1) := by decide +kernel
theorem dX11_copies_64 : decode cX11_copies 64 = .ok (.iaload, 1) := by decide +kernel
theorem dX11_copies_65 : decode cX11_copies 65 = .ok (.iastore, 1) := by decide +kernel
theorem dX11_copies_66 : decode cX11_copies 66 = .ok (.aload_n 0, 1) := by decide +kernel
theorem dX11_copies_67 : decode cX11_copies 67 = .ok (.getfield 90, 3) := by decide +kernel
theorem dX11_copies_70 : decode cX11_copies 70 = .ok (.bipush 8, 2) := by decide +kernel
theorem dX11_copies_72 : decode cX11_copies 72 = .ok (.iload_n 1, 1) := by decide +kernel
theorem dX11_copies_73 : decode cX11_copies 73 = .ok (.imul, 1) := by decide +kernel
theorem dX11_copies_74 : decode cX11_copies 74 = .ok (.iload_n 3, 1) := by decide +kernel
theorem dX11_copies_75 : decode cX11_copies 75 = .ok (.iadd, 1) := by decide +kernel
theorem dX11_copies_76 : decode cX11_copies 76 = .ok (.aload_n 0, 1) := by decide +kernel
theorem dX11_copies_77 : decode cX11_copies 77 = .ok (.getfield 90, 3) := by decide +kernel
theorem dX11_copies_80 : decode cX11_copies 80 = .ok (.bipush 8, 2) := by decide +kernel
theorem dX11_copies_82 : decode cX11_copies 82 = .ok (.iload_n 2, 1) := by decide +kernel
theorem dX11_copies_83 : decode cX11_copies 83 = .ok (.imul, 1) := by decide +kernel
theorem dX11_copies_84 : decode cX11_copies 84 = .ok (.iload_n 3, 1) := by decide +kernel
theorem dX11_copies_85 : decode cX11_copies 85 = .ok (.iadd, 1) := by decide +kernel
theorem dX11_copies_86 : decode cX11_copies 86 = .ok (.iaload, 1) := by decide +kernel
theorem dX11_copies_87 : decode cX11_copies 87 = .ok (.iastore, 1) := by decide +kernel
theorem dX11_copies_88 : decode cX11_copies 88 = .ok (.aload_n 0, 1) := by decide +kernel
theorem dX11_copies_89 : decode cX11_copies 89 = .ok (.getfield 93, 3) := by decide +kernel
theorem dX11_copies_92 : decode cX11_copies 92 = .ok (.bipush 8, 2) := by decide +kernel
theorem dX11_copies_94 : decode cX11_copies 94 = .ok (.iload_n 1, 1) := by decide +kernel
theorem dX11_copies_95 : decode cX11_copies 95 = .ok (.imul, 1) := by decide +kernel
theorem dX11_copies_96 : decode cX11_copies 96 = .ok (.iload_n 3, 1) := by decide +kernel
theorem dX11_copies_97 : decode cX11_copies 97 = .ok (.iadd, 1) := by decide +kernel
theorem dX11_copies_98 : decode cX11_copies 98 = .ok (.aload_n 0, 1) := by decide +kernel
theorem dX11_copies_99 : decode cX11_copies 99 = .ok (.getfield 93, 3) := by decide +kernel
theorem dX11_copies_102 : decode cX11_copies 102 = .ok (.bipush 8, 2) := by decide +kernel
theorem dX11_copies_104 : decode cX11_copies 104 = .ok (.iload_n 2, 1) := by decide +kernel
theorem dX11_copies_105 : decode cX11_copies 105 = .ok (.imul, 1) := by decide +kernel
theorem dX11_copies_106 : decode cX11_copies 106 = .ok (.iload_n 3, 1) := by decide +kernel
theorem dX11_copies_107 : decode cX11_copies 107 = .ok (.iadd, 1) := by decide +kernel
theorem dX11_copies_108 : decode cX11_copies 108 = .ok (.iaload, 1) := by decide +kernel
theorem dX11_copies_109 : decode cX11_copies 109 = .ok (.iastore, 1) := by decide +kernel
theorem dX11_copies_110 : decode cX11_copies 110 = .ok (.iinc 3 1, 3) := by decide +kernel
theorem dX11_copies_113 : decode cX11_copies 113 = .ok (.goto (-75), 3) := by decide +kernel
theorem dX11_copies_116 : decode cX11_copies 116 = .ok (.iconst 0, 1) := by decide +kernel
theorem dX11_copies_117 : decode cX11_copies 117 = .ok (.istore_n 3, 1) := by decide +kernel
theorem dX11_copies_118 : decode cX11_copies 118 = .ok (.iload_n 3, 1) := by decide +kernel
theorem dX11_copies_119 : decode cX11_copies 119 = .ok (.bipush 6, 2) := by decide +kernel
theorem dX11_copies_121 : decode cX11_copies 121 = .ok (.if_icmp .ge 53, 3) := by decide +kernel
theorem dX11_copies_124 : decode cX11_copies 124 = .ok (.aload_n 0, 1) := by decide +kernel
theorem dX11_copies_125 : decode cX11_copies 125 = .ok (.getfield 96, 3) := by decide +kernel
theorem dX11_copies_128 : decode cX11_copies 128 = .ok (.bipush 6, 2) := by decide +kernel
theorem dX11_copies_130 : decode cX11_copies 130 = .ok (.iload_n 1, 1) := by decide +kernel
theorem dX11_copies_131 : decode cX11_copies 131 = .ok (.imul, 1) := by decide +kernel
theorem dX11_copies_132 : decode cX11_copies 132 = .ok (.iload_n 3, 1) := by decide +kernel
theorem dX11_copies_133 : decode cX11_copies 133 = .ok (.iadd, 1) := by decide +kernel
theorem dX11_copies_134 : decode cX11_copies 134 = .ok (.aload_n 0, 1) := by decide +kernel
theorem dX11_copies_135 : decode cX11_copies 135 = .ok (.getfield 96, 3) := by decide +kernel
theorem dX11_copies_138 : decode cX11_copies 138 = .ok (.bipush 6, 2) := by decide +kernel
theorem dX11_copies_140 : decode cX11_copies 140 = .ok (.iload_n 2, 1) := by decide +kernel
theorem dX11_copies_141 : decode cX11_copies 141 = .ok (.imul, 1) := by decide +kernel
theorem dX11_copies_142 : decode cX11_copies 142 = .ok (.iload_n 3, 1) := by decide +kernel
theorem dX11_copies_143 : decode cX11_copies 143 = .ok (.iadd, 1) := by decide +kernel
theorem dX11_copies_144 : decode cX11_copies 144 = .ok (.iaload, 1) := by decide +kernel
theorem dX11_copies_145 : decode cX11_copies 145 = .ok (.iastore, 1) := by decide +kernel
theorem dX11_copies_146 : decode cX11_copies 146 = .ok (.aload_n 0, 1) := by decide +kernel
theorem dX11_copies_147 : decode cX11_copies 147 = .ok (.getfield 99, 3) := by decide +kernel
theorem dX11_copies_150 : decode cX11_copies 150 = .ok (.bipush 6, 2) := by decide +kernel
theorem dX11_copies_152 : decode cX11_copies 152 = .ok (.iload_n 1, 1) := by decide +kernel
theorem dX11_copies_153 : decode cX11_copies 153 = .ok (.imul, 1) := by decide +kernel
theorem dX11_copies_154 : decode cX11_copies 154 = .ok (.iload_n 3, 1) := by decide +kernel
theorem dX11_copies_155 : decode cX11_copies 155 = .ok (.iadd, 1) := by decide +kernel
theorem dX11_copies_156 : decode cX11_copies 156 = .ok (.aload_n 0, 1) := by decide +kernel
theorem dX11_copies_157 : decode cX11_copies 157 = .ok (.getfield 99, 3) := by decide +kernel
theorem dX11_copies_160 : decode cX11_copies 160 = .ok (.bipush 6, 2) := by decide +kernel
theorem dX11_copies_162 : decode cX11_copies 162 = .ok (.iload_n 2, 1) := by decide +kernel
theorem dX11_copies_163 : decode cX11_copies 163 = .ok (.imul, 1) := by decide +kernel
theorem dX11_copies_164 : decode cX11_copies 164 = .ok (.iload_n 3, 1) := by decide +kernel
theorem dX11_copies_165 : decode cX11_copies 165 = .ok (.iadd, 1) := by decide +kernel
theorem dX11_copies_166 : decode cX11_copies 166 = .ok (.iaload, 1) := by decide +kernel
theorem dX11_copies_167 : decode cX11_copies 167 = .ok (.iastore, 1) := by decide +kernel
theorem dX11_copies_168 : decode cX11_copies 168 = .ok (.iinc 3 1, 3) := by decide +kernel
theorem dX11_copies_171 : decode cX11_copies 171 = .ok (.goto (-53), 3) := by decide +kernel
theorem dX11_copies_174 : decode cX11_copies 174 = .ok (.return_, 1) := by decide +kernel
theorem dX11_isRoom_0 : decode cX11_isRoom 0 = .ok (.iload_n 1, 1) := by decide +kernel
theorem dX11_isRoom_1 : decode cX11_isRoom 1 = .ok (.ifCond .lt 17, 3) := by decide +kernel
theorem dX11_isRoom_4 : decode cX11_isRoom 4 = .ok (.iload_n 1, 1) := by decide +kernel
theorem dX11_isRoom_5 : decode cX11_isRoom 5 = .ok (.aload_n 0, 1) := by decide +kernel
theorem dX11_isRoom_6 : decode cX11_isRoom 6 = .ok (.getfield 13, 3) := by decide +kernel
theorem dX11_isRoom_9 : decode cX11_isRoom 9 = .ok (.iconst 0, 1) := by decide +kernel
theorem dX11_isRoom_10 : decode cX11_isRoom 10 = .ok (.iaload, 1) := by decide +kernel
theorem dX11_isRoom_11 : decode cX11_isRoom 11 = .ok (.if_icmp .ge 7, 3) := by decide +kernel
theorem dX11_isRoom_14 : decode cX11_isRoom 14 = .ok (.iconst 1, 1) := by decide +kernel
theorem dX11_isRoom_15 : decode cX11_isRoom 15 = .ok (.goto 4, 3) := by decide +kernel
theorem dX11_isRoom_18 : decode cX11_isRoom 18 = .ok (.iconst 0, 1) := by decide +kernel
theorem dX11_isRoom_19 : decode cX11_isRoom 19 = .ok (.ireturn, 1) := by decide +kernel
theorem dX11_isThing_0 : decode cX11_isThing 0 = .ok (.iload_n 1, 1) := by decide +kernel
theorem dX11_isThing_1 : decode cX11_isThing 1 = .ok (.ifCond .lt 17, 3) := by decide +kernel
theorem dX11_isThing_4 : decode cX11_isThing 4 = .ok (.iload_n 1, 1) := by decide +kernel
theorem dX11_isThing_5 : decode cX11_isThing 5 = .ok (.aload_n 0, 1) := by decide +kernel
theorem dX11_isThing_6 : decode cX11_isThing 6 = .ok (.getfield 13, 3) := by decide +kernel
theorem dX11_isThing_9 : decode cX11_isThing 9 = .ok (.iconst 2, 1) := by decide +kernel
theorem dX11_isThing_10 : decode cX11_isThing 10 = .ok (.iaload, 1) := by decide +kernel
theorem dX11_isThing_11 : decode cX11_isThing 11 = .ok (.if_icmp .ge 7, 3) := by decide +kernel
theorem dX11_isThing_14 : decode cX11_isThing 14 = .ok (.iconst 1, 1) := by decide +kernel
theorem dX11_isThing_15 : decode cX11_isThing 15 = .ok (.goto 4, 3) := by decide +kernel
theorem dX11_isThing_18 : decode cX11_isThing 18 = .ok (.iconst 0, 1) := by decide +kernel
theorem dX11_isThing_19 : decode cX11_isThing 19 = .ok (.ireturn, 1) := by decide +kernel
theorem dX11_isDead_0 : decode cX11_isDead 0 = .ok (.iload_n 1, 1) := by decide +kernel
theorem dX11_isDead_1 : decode cX11_isDead 1 = .ok (.ifCond .lt 17, 3) := by decide +kernel
theorem dX11_isDead_4 : decode cX11_isDead 4 = .ok (.iload_n 1, 1) := by decide +kernel
theorem dX11_isDead_5 : decode cX11_isDead 5 = .ok (.aload_n 0, 1) := by decide +kernel
theorem dX11_isDead_6 : decode cX11_isDead 6 = .ok (.getfield 13, 3) := by decide +kernel
theorem dX11_isDead_9 : decode cX11_isDead 9 = .ok (.iconst 3, 1) := by decide +kernel
theorem dX11_isDead_10 : decode cX11_isDead 10 = .ok (.iaload, 1) := by decide +kernel
theorem dX11_isDead_11 : decode cX11_isDead 11 = .ok (.if_icmp .ge 7, 3) := by decide +kernel
theorem dX11_isDead_14 : decode cX11_isDead 14 = .ok (.iconst 1, 1) := by decide +kernel
theorem dX11_isDead_15 : decode cX11_isDead 15 = .ok (.goto 4, 3) := by decide +kernel
theorem dX11_isDead_18 : decode cX11_isDead 18 = .ok (.iconst 0, 1) := by decide +kernel
theorem dX11_isDead_19 : decode cX11_isDead 19 = .ok (.ireturn, 1) := by decide +kernel
theorem dX11_isDoor_0 : decode cX11_isDoor 0 = .ok (.iconst 0, 1) := by decide +kernel
theorem dX11_isDoor_1 : decode cX11_isDoor 1 = .ok (.istore_n 3, 1) := by decide +kernel
theorem dX11_isDoor_2 : decode cX11_isDoor 2 = .ok (.iload_n 3, 1) := by decide +kernel
theorem dX11_isDoor_3 : decode cX11_isDoor 3 = .ok (.aload_n 0, 1) := by decide +kernel
theorem dX11_isDoor_4 : decode cX11_isDoor 4 = .ok (.getfield 13, 3) := by decide +kernel
theorem dX11_isDoor_7 : decode cX11_isDoor 7 = .ok (.iconst 1, 1) := by decide +kernel
theorem dX11_isDoor_8 : decode cX11_isDoor 8 = .ok (.iaload, 1) := by decide +kernel
theorem dX11_isDoor_9 : decode cX11_isDoor 9 = .ok (.if_icmp .ge 51, 3) := by decide +kernel
theorem dX11_isDoor_12 : decode cX11_isDoor 12 = .ok (.aload_n 0, 1) := by decide +kernel
theorem dX11_isDoor_13 : decode cX11_isDoor 13 = .ok (.getfield 19, 3) := by decide +kernel
theorem dX11_isDoor_16 : decode cX11_isDoor 16 = .ok (.iload_n 3, 1) := by decide +kernel
theorem dX11_isDoor_17 : decode cX11_isDoor 17 = .ok (.iaload, 1) := by decide +kernel
theorem dX11_isDoor_18 : decode cX11_isDoor 18 = .ok (.iload_n 1, 1) := by decide +kernel
theorem dX11_isDoor_19 : decode cX11_isDoor 19 = .ok (.if_icmp .ne 13, 3) := by decide +kernel
theorem dX11_isDoor_22 : decode cX11_isDoor 22 = .ok (.aload_n 0, 1) := by decide +kernel
theorem dX11_isDoor_23 : decode cX11_isDoor 23 = .ok (.getfield 22, 3) := by decide +kernel
theorem dX11_isDoor_26 : decode cX11_isDoor 26 = .ok (.iload_n 3, 1) := by decide +kernel
theorem dX11_isDoor_27 : decode cX11_isDoor 27 = .ok (.iaload, 1) := by decide +kernel
theorem dX11_isDoor_28 : decode cX11_isDoor 28 = .ok (.iload_n 2, 1) := by decide +kernel
theorem dX11_isDoor_29 : decode cX11_isDoor 29 = .ok (.if_icmp .eq 23, 3) := by decide +kernel
theorem dX11_isDoor_32 : decode cX11_isDoor 32 = .ok (.aload_n 0, 1) := by decide +kernel
theorem dX11_isDoor_33 : decode cX11_isDoor 33 = .ok (.getfield 19, 3) := by decide +kernel
theorem dX11_isDoor_36 : decode cX11_isDoor 36 = .ok (.iload_n 3, 1) := by decide +kernel
theorem dX11_isDoor_37 : decode cX11_isDoor 37 = .ok (.iaload, 1) := by decide +kernel
theorem dX11_isDoor_38 : decode cX11_isDoor 38 = .ok (.iload_n 2, 1) := by decide +kernel
theorem dX11_isDoor_39 : decode cX11_isDoor 39 = .ok (.if_icmp .ne 15, 3) := by decide +kernel
theorem dX11_isDoor_42 : decode cX11_isDoor 42 = .ok (.aload_n 0, 1) := by decide +kernel
theorem dX11_isDoor_43 : decode cX11_isDoor 43 = .ok (.getfield 22, 3) := by decide +kernel
theorem dX11_isDoor_46 : decode cX11_isDoor 46 = .ok (.iload_n 3, 1) := by decide +kernel
theorem dX11_isDoor_47 : decode cX11_isDoor 47 = .ok (.iaload, 1) := by decide +kernel
theorem dX11_isDoor_48 : decode cX11_isDoor 48 = .ok (.iload_n 1, 1) := by decide +kernel
theorem dX11_isDoor_49 : decode cX11_isDoor 49 = .ok (.if_icmp .ne 5, 3) := by decide +kernel
theorem dX11_isDoor_52 : decode cX11_isDoor 52 = .ok (.iconst 1, 1) := by decide +kernel
theorem dX11_isDoor_53 : decode cX11_isDoor 53 = .ok (.ireturn, 1) := by decide +kernel
theorem dX11_isDoor_54 : decode cX11_isDoor 54 = .ok (.iinc 3 1, 3) := by decide +kernel
theorem dX11_isDoor_57 : decode cX11_isDoor 57 = .ok (.goto (-55), 3) := by decide +kernel
theorem dX11_isDoor_60 : decode cX11_isDoor 60 = .ok (.iconst 0, 1) := by decide +kernel
theorem dX11_isDoor_61 : decode cX11_isDoor 61 = .ok (.ireturn, 1) := by decide +kernel
theorem dX11_tasteIn_0 : decode cX11_tasteIn 0 = .ok (.iload_n 1, 1) := by decide +kernel
theorem dX11_tasteIn_1 : decode cX11_tasteIn 1 = .ok (.aload_n 0, 1) := by decide +kernel
theorem dX11_tasteIn_2 : decode cX11_tasteIn 2 = .ok (.getfield 108, 3) := by decide +kernel
theorem dX11_tasteIn_5 : decode cX11_tasteIn 5 = .ok (.if_icmp .ne 10, 3) := by decide +kernel
theorem dX11_tasteIn_8 : decode cX11_tasteIn 8 = .ok (.aload_n 0, 1) := by decide +kernel
theorem dX11_tasteIn_9 : decode cX11_tasteIn 9 = .ok (.getfield 337, 3) := by decide +kernel
theorem dX11_tasteIn_12 : decode cX11_tasteIn 12 = .ok (.goto 9, 3) := by decide +kernel
theorem dX11_tasteIn_15 : decode cX11_tasteIn 15 = .ok (.aload_n 0, 1) := by decide +kernel
theorem dX11_tasteIn_16 : decode cX11_tasteIn 16 = .ok (.getfield 40, 3) := by decide +kernel
theorem dX11_tasteIn_19 : decode cX11_tasteIn 19 = .ok (.iload_n 1, 1) := by decide +kernel
theorem dX11_tasteIn_20 : decode cX11_tasteIn 20 = .ok (.iaload, 1) := by decide +kernel
theorem dX11_tasteIn_21 : decode cX11_tasteIn 21 = .ok (.ireturn, 1) := by decide +kernel
theorem dX11_glassAt_0 : decode cX11_glassAt 0 = .ok (.aload_n 0, 1) := by decide +kernel
theorem dX11_glassAt_1 : decode cX11_glassAt 1 = .ok (.getfield 13, 3) := by decide +kernel
theorem dX11_glassAt_4 : decode cX11_glassAt 4 = .ok (.iconst 4, 1) := by decide +kernel
theorem dX11_glassAt_5 : decode cX11_glassAt 5 = .ok (.iaload, 1) := by decide +kernel
theorem dX11_glassAt_6 : decode cX11_glassAt 6 = .ok (.ifCond .ne 8, 3) := by decide +kernel
theorem dX11_glassAt_9 : decode cX11_glassAt 9 = .ok (.bipush 50, 2) := by decide +kernel
theorem dX11_glassAt_11 : decode cX11_glassAt 11 = .ok (.goto 16, 3) := by decide +kernel
theorem dX11_glassAt_14 : decode cX11_glassAt 14 = .ok (.aload_n 0, 1) := by decide +kernel
theorem dX11_glassAt_15 : decode cX11_glassAt 15 = .ok (.getfield 52, 3) := by decide +kernel
theorem dX11_glassAt_18 : decode cX11_glassAt 18 = .ok (.iload_n 1, 1) := by decide +kernel
theorem dX11_glassAt_19 : decode cX11_glassAt 19 = .ok (.aload_n 0, 1) := by decide +kernel
theorem dX11_glassAt_20 : decode cX11_glassAt 20 = .ok (.getfield 13, 3) := by decide +kernel
theorem dX11_glassAt_23 : decode cX11_glassAt 23 = .ok (.iconst 4, 1) := by decide +kernel
theorem dX11_glassAt_24 : decode cX11_glassAt 24 = .ok (.iaload, 1) := by decide +kernel
theorem dX11_glassAt_25 : decode cX11_glassAt 25 = .ok (.irem, 1) := by decide +kernel
theorem dX11_glassAt_26 : decode cX11_glassAt 26 = .ok (.iaload, 1) := by decide +kernel
theorem dX11_glassAt_27 : decode cX11_glassAt 27 = .ok (.ireturn, 1) := by decide +kernel
theorem dX11_gaugeIn_0 : decode cX11_gaugeIn 0 = .ok (.aload_n 0, 1) := by decide +kernel
theorem dX11_gaugeIn_1 : decode cX11_gaugeIn 1 = .ok (.getfield 105, 3) := by decide +kernel
theorem dX11_gaugeIn_4 : decode cX11_gaugeIn 4 = .ok (.iconst (-1), 1) := by decide +kernel
theorem dX11_gaugeIn_5 : decode cX11_gaugeIn 5 = .ok (.if_icmp .eq 10, 3) := by decide +kernel
theorem dX11_gaugeIn_8 : decode cX11_gaugeIn 8 = .ok (.aload_n 0, 1) := by decide +kernel
theorem dX11_gaugeIn_9 : decode cX11_gaugeIn 9 = .ok (.getfield 105, 3) := by decide +kernel
theorem dX11_gaugeIn_12 : decode cX11_gaugeIn 12 = .ok (.goto 13, 3) := by decide +kernel
theorem dX11_gaugeIn_15 : decode cX11_gaugeIn 15 = .ok (.aload_n 0, 1) := by decide +kernel
theorem dX11_gaugeIn_16 : decode cX11_gaugeIn 16 = .ok (.aload_n 0, 1) := by decide +kernel
theorem dX11_gaugeIn_17 : decode cX11_gaugeIn 17 = .ok (.getfield 78, 3) := by decide +kernel
theorem dX11_gaugeIn_20 : decode cX11_gaugeIn 20 = .ok (.iload_n 1, 1) := by decide +kernel
theorem dX11_gaugeIn_21 : decode cX11_gaugeIn 21 = .ok (.iaload, 1) := by decide +kernel
theorem dX11_gaugeIn_22 : decode cX11_gaugeIn 22 = .ok (.invokevirtual 340, 3) := by decide +kernel
theorem dX11_gaugeIn_25 : decode cX11_gaugeIn 25 = .ok (.ireturn, 1) := by decide +kernel
theorem dX11_isHung_0 : decode cX11_isHung 0 = .ok (.aload_n 0, 1) := by decide +kernel
theorem dX11_isHung_1 : decode cX11_isHung 1 = .ok (.getfield 343, 3) := by decide +kernel
theorem dX11_isHung_4 : decode cX11_isHung 4 = .ok (.iconst 5, 1) := by decide +kernel
theorem dX11_isHung_5 : decode cX11_isHung 5 = .ok (.if_icmp .ne 11, 3) := by decide +kernel
theorem dX11_isHung_8 : decode cX11_isHung 8 = .ok (.iload_n 1, 1) := by decide +kernel
theorem dX11_isHung_9 : decode cX11_isHung 9 = .ok (.aload_n 0, 1) := by decide +kernel
theorem dX11_isHung_10 : decode cX11_isHung 10 = .ok (.getfield 102, 3) := by decide +kernel
theorem dX11_isHung_13 : decode cX11_isHung 13 = .ok (.if_icmp .eq 7, 3) := by decide +kernel
theorem dX11_isHung_16 : decode cX11_isHung 16 = .ok (.iconst 1, 1) := by decide +kernel
theorem dX11_isHung_17 : decode cX11_isHung 17 = .ok (.goto 4, 3) := by decide +kernel
theorem dX11_isHung_20 : decode cX11_isHung 20 = .ok (.iconst 0, 1) := by decide +kernel
theorem dX11_isHung_21 : decode cX11_isHung 21 = .ok (.ireturn, 1) := by decide +kernel
theorem dX11_isOpen_0 : decode cX11_isOpen 0 = .ok (.aload_n 0, 1) := by decide +kernel
theorem dX11_isOpen_1 : decode cX11_isOpen 1 = .ok (.getfield 343, 3) := by decide +kernel
theorem dX11_isOpen_4 : decode cX11_isOpen 4 = .ok (.iconst 1, 1) := by decide +kernel
theorem dX11_isOpen_5 : decode cX11_isOpen 5 = .ok (.if_icmp .eq 16, 3) := by decide +kernel
theorem dX11_isOpen_8 : decode cX11_isOpen 8 = .ok (.aload_n 0, 1) := by decide +kernel
theorem dX11_isOpen_9 : decode cX11_isOpen 9 = .ok (.getfield 84, 3) := by decide +kernel
theorem dX11_isOpen_12 : decode cX11_isOpen 12 = .ok (.iload_n 1, 1) := by decide +kernel
theorem dX11_isOpen_13 : decode cX11_isOpen 13 = .ok (.iaload, 1) := by decide +kernel
theorem dX11_isOpen_14 : decode cX11_isOpen 14 = .ok (.iload_n 2, 1) := by decide +kernel
theorem dX11_isOpen_15 : decode cX11_isOpen 15 = .ok (.ishr, 1) := by decide +kernel
theorem dX11_isOpen_16 : decode cX11_isOpen 16 = .ok (.iconst 1, 1) := by decide +kernel
theorem dX11_isOpen_17 : decode cX11_isOpen 17 = .ok (.iand, 1) := by decide +kernel
theorem dX11_isOpen_18 : decode cX11_isOpen 18 = .ok (.ifCond .ne 7, 3) := by decide +kernel
theorem dX11_isOpen_21 : decode cX11_isOpen 21 = .ok (.iconst 1, 1) := by decide +kernel
theorem dX11_isOpen_22 : decode cX11_isOpen 22 = .ok (.goto 4, 3) := by decide +kernel
theorem dX11_isOpen_25 : decode cX11_isOpen 25 = .ok (.iconst 0, 1) := by decide +kernel
theorem dX11_isOpen_26 : decode cX11_isOpen 26 = .ok (.ireturn, 1) := by decide +kernel
theorem dX11_calls_0 : decode cX11_calls 0 = .ok (.aload_n 0, 1) := by decide +kernel
theorem dX11_calls_1 : decode cX11_calls 1 = .ok (.getfield 71, 3) := by decide +kernel
theorem dX11_calls_4 : decode cX11_calls 4 = .ok (.iconst 0, 1) := by decide +kernel
theorem dX11_calls_5 : decode cX11_calls 5 = .ok (.iload_n 3, 1) := by decide +kernel
theorem dX11_calls_6 : decode cX11_calls 6 = .ok (.iconst (-1), 1) := by decide +kernel
theorem dX11_calls_7 : decode cX11_calls 7 = .ok (.if_icmp .ne 7, 3) := by decide +kernel
theorem dX11_calls_10 : decode cX11_calls 10 = .ok (.lconst 0, 1) := by decide +kernel
theorem dX11_calls_11 : decode cX11_calls 11 = .ok (.goto 10, 3) := by decide +kernel
theorem dX11_calls_14 : decode cX11_calls 14 = .ok (.aload_n 0, 1) := by decide +kernel
theorem dX11_calls_15 : decode cX11_calls 15 = .ok (.getfield 34, 3) := by decide +kernel
theorem dX11_calls_18 : decode cX11_calls 18 = .ok (.iload_n 3, 1) := by decide +kernel
theorem dX11_calls_19 : decode cX11_calls 19 = .ok (.iaload, 1) := by decide +kernel
theorem dX11_calls_20 : decode cX11_calls 20 = .ok (.i2l, 1) := by decide +kernel
theorem dX11_calls_21 : decode cX11_calls 21 = .ok (.lastore, 1) := by decide +kernel
theorem dX11_calls_22 : decode cX11_calls 22 = .ok (.aload_n 0, 1) := by decide +kernel
theorem dX11_calls_23 : decode cX11_calls 23 = .ok (.getfield 71, 3) := by decide +kernel
theorem dX11_calls_26 : decode cX11_calls 26 = .ok (.iconst 1, 1) := by decide +kernel
theorem dX11_calls_27 : decode cX11_calls 27 = .ok (.iload_n 3, 1) := by decide +kernel
theorem dX11_calls_28 : decode cX11_calls 28 = .ok (.iconst (-1), 1) := by decide +kernel
theorem dX11_calls_29 : decode cX11_calls 29 = .ok (.if_icmp .ne 7, 3) := by decide +kernel
theorem dX11_calls_32 : decode cX11_calls 32 = .ok (.lconst 0, 1) := by decide +kernel
theorem dX11_calls_33 : decode cX11_calls 33 = .ok (.goto 10, 3) := by decide +kernel
theorem dX11_calls_36 : decode cX11_calls 36 = .ok (.aload_n 0, 1) := by decide +kernel
theorem dX11_calls_37 : decode cX11_calls 37 = .ok (.getfield 31, 3) := by decide +kernel
theorem dX11_calls_40 : decode cX11_calls 40 = .ok (.iload_n 3, 1) := by decide +kernel
theorem dX11_calls_41 : decode cX11_calls 41 = .ok (.iaload, 1) := by decide +kernel
theorem dX11_calls_42 : decode cX11_calls 42 = .ok (.i2l, 1) := by decide +kernel
theorem dX11_calls_43 : decode cX11_calls 43 = .ok (.lastore, 1) := by decide +kernel
theorem dX11_calls_44 : decode cX11_calls 44 = .ok (.aload_n 0, 1) := by decide +kernel
theorem dX11_calls_45 : decode cX11_calls 45 = .ok (.getfield 71, 3) := by decide +kernel
theorem dX11_calls_48 : decode cX11_calls 48 = .ok (.iconst 2, 1) := by decide +kernel
theorem dX11_calls_49 : decode cX11_calls 49 = .ok (.aload_n 0, 1) := by decide +kernel
theorem dX11_calls_50 : decode cX11_calls 50 = .ok (.iload_n 2, 1) := by decide +kernel
theorem dX11_calls_51 : decode cX11_calls 51 = .ok (.invokevirtual 346, 3) := by decide +kernel
theorem dX11_calls_54 : decode cX11_calls 54 = .ok (.i2l, 1) := by decide +kernel
theorem dX11_calls_55 : decode cX11_calls 55 = .ok (.lastore, 1) := by decide +kernel
theorem dX11_calls_56 : decode cX11_calls 56 = .ok (.aload_n 0, 1) := by decide +kernel
theorem dX11_calls_57 : decode cX11_calls 57 = .ok (.getfield 71, 3) := by decide +kernel
theorem dX11_calls_60 : decode cX11_calls 60 = .ok (.iconst 3, 1) := by decide +kernel
theorem dX11_calls_61 : decode cX11_calls 61 = .ok (.aload_n 0, 1) := by decide +kernel
theorem dX11_calls_62 : decode cX11_calls 62 = .ok (.getfield 43, 3) := by decide +kernel
theorem dX11_calls_65 : decode cX11_calls 65 = .ok (.iload_n 2, 1) := by decide +kernel
theorem dX11_calls_66 : decode cX11_calls 66 = .ok (.iaload, 1) := by decide +kernel
theorem dX11_calls_67 : decode cX11_calls 67 = .ok (.i2l, 1) := by decide +kernel
theorem dX11_calls_68 : decode cX11_calls 68 = .ok (.lastore, 1) := by decide +kernel
theorem dX11_calls_69 : decode cX11_calls 69 = .ok (.aload_n 0, 1) := by decide +kernel
theorem dX11_calls_70 : decode cX11_calls 70 = .ok (.getfield 71, 3) := by decide +kernel
theorem dX11_calls_73 : decode cX11_calls 73 = .ok (.iconst 4, 1) := by decide +kernel
theorem dX11_calls_74 : decode cX11_calls 74 = .ok (.iload_n 3, 1) := by decide +kernel
theorem dX11_calls_75 : decode cX11_calls 75 = .ok (.iconst (-1), 1) := by decide +kernel
theorem dX11_calls_76 : decode cX11_calls 76 = .ok (.if_icmp .ne 7, 3) := by decide +kernel
theorem dX11_calls_79 : decode cX11_calls 79 = .ok (.lconst 0, 1) := by decide +kernel
theorem dX11_calls_80 : decode cX11_calls 80 = .ok (.goto 25, 3) := by decide +kernel
theorem dX11_calls_83 : decode cX11_calls 83 = .ok (.aload_n 0, 1) := by decide +kernel
theorem dX11_calls_84 : decode cX11_calls 84 = .ok (.getfield 96, 3) := by decide +kernel
theorem dX11_calls_87 : decode cX11_calls 87 = .ok (.bipush 6, 2) := by decide +kernel
theorem dX11_calls_89 : decode cX11_calls 89 = .ok (.iload_n 1, 1) := by decide +kernel
theorem dX11_calls_90 : decode cX11_calls 90 = .ok (.imul, 1) := by decide +kernel
theorem dX11_calls_91 : decode cX11_calls 91 = .ok (.aload_n 0, 1) := by decide +kernel
theorem dX11_calls_92 : decode cX11_calls 92 = .ok (.getfield 87, 3) := by decide +kernel
theorem dX11_calls_95 : decode cX11_calls 95 = .ok (.bipush 8, 2) := by decide +kernel
theorem dX11_calls_97 : decode cX11_calls 97 = .ok (.iload_n 1, 1) := by decide +kernel
theorem dX11_calls_98 : decode cX11_calls 98 = .ok (.imul, 1) := by decide +kernel
theorem dX11_calls_99 : decode cX11_calls 99 = .ok (.iload_n 3, 1) := by decide +kernel
theorem dX11_calls_100 : decode cX11_calls 100 = .ok (.iadd, 1) := by decide +kernel
theorem dX11_calls_101 : decode cX11_calls 101 = .ok (.iaload, 1) := by decide +kernel
theorem dX11_calls_102 : decode cX11_calls 102 = .ok (.iadd, 1) := by decide +kernel
theorem dX11_calls_103 : decode cX11_calls 103 = .ok (.iaload, 1) := by decide +kernel
theorem dX11_calls_104 : decode cX11_calls 104 = .ok (.i2l, 1) := by decide +kernel
theorem dX11_calls_105 : decode cX11_calls 105 = .ok (.lastore, 1) := by decide +kernel
theorem dX11_calls_106 : decode cX11_calls 106 = .ok (.aload_n 0, 1) := by decide +kernel
theorem dX11_calls_107 : decode cX11_calls 107 = .ok (.getfield 71, 3) := by decide +kernel
theorem dX11_calls_110 : decode cX11_calls 110 = .ok (.iconst 5, 1) := by decide +kernel
theorem dX11_calls_111 : decode cX11_calls 111 = .ok (.aload_n 0, 1) := by decide +kernel
theorem dX11_calls_112 : decode cX11_calls 112 = .ok (.iload_n 1, 1) := by decide +kernel
theorem dX11_calls_113 : decode cX11_calls 113 = .ok (.invokevirtual 349, 3) := by decide +kernel
theorem dX11_calls_116 : decode cX11_calls 116 = .ok (.i2l, 1) := by decide +kernel
theorem dX11_calls_117 : decode cX11_calls 117 = .ok (.lastore, 1) := by decide +kernel
theorem dX11_calls_118 : decode cX11_calls 118 = .ok (.aload_n 0, 1) := by decide +kernel
theorem dX11_calls_119 : decode cX11_calls 119 = .ok (.getfield 71, 3) := by decide +kernel
theorem dX11_calls_122 : decode cX11_calls 122 = .ok (.bipush 6, 2) := by decide +kernel
theorem dX11_calls_124 : decode cX11_calls 124 = .ok (.aload_n 0, 1) := by decide +kernel
theorem dX11_calls_125 : decode cX11_calls 125 = .ok (.getfield 78, 3) := by decide +kernel
theorem dX11_calls_128 : decode cX11_calls 128 = .ok (.iload_n 1, 1) := by decide +kernel
theorem dX11_calls_129 : decode cX11_calls 129 = .ok (.iaload, 1) := by decide +kernel
theorem dX11_calls_130 : decode cX11_calls 130 = .ok (.i2l, 1) := by decide +kernel
theorem dX11_calls_131 : decode cX11_calls 131 = .ok (.lastore, 1) := by decide +kernel
theorem dX11_calls_132 : decode cX11_calls 132 = .ok (.return_, 1) := by decide +kernel
theorem dX11_within_0 : decode cX11_within 0 = .ok (.aload_n 0, 1) := by decide +kernel
theorem dX11_within_1 : decode cX11_within 1 = .ok (.iload_n 1, 1) := by decide +kernel
theorem dX11_within_2 : decode cX11_within 2 = .ok (.invokevirtual 352, 3) := by decide +kernel
theorem dX11_within_5 : decode cX11_within 5 = .ok (.ifCond .eq 11, 3) := by decide +kernel
theorem dX11_within_8 : decode cX11_within 8 = .ok (.aload_n 0, 1) := by decide +kernel
theorem dX11_within_9 : decode cX11_within 9 = .ok (.iload_n 1, 1) := by decide +kernel
theorem dX11_within_10 : decode cX11_within 10 = .ok (.invokevirtual 355, 3) := by decide +kernel
theorem dX11_within_13 : decode cX11_within 13 = .ok (.ifCond .ne 5, 3) := by decide +kernel
theorem dX11_within_16 : decode cX11_within 16 = .ok (.iload_n 3, 1) := by decide +kernel
theorem dX11_within_17 : decode cX11_within 17 = .ok (.ireturn, 1) := by decide +kernel
theorem dX11_within_18 : decode cX11_within 18 = .ok (.lconst 0, 1) := by decide +kernel
theorem dX11_within_19 : decode cX11_within 19 = .ok (.iload_n 2, 1) := by decide +kernel
theorem dX11_within_20 : decode cX11_within 20 = .ok (.i2l, 1) := by decide +kernel
theorem dX11_within_21 : decode cX11_within 21 = .ok (.aload_n 0, 1) := by decide +kernel
theorem dX11_within_22 : decode cX11_within 22 = .ok (.getfield 75, 3) := by decide +kernel
theorem dX11_within_25 : decode cX11_within 25 = .ok (.iconst 0, 1) := by decide +kernel
theorem dX11_within_26 : decode cX11_within 26 = .ok (.laload, 1) := by decide +kernel
theorem dX11_within_27 : decode cX11_within 27 = .ok (.invokestatic 358, 3) := by decide +kernel
theorem dX11_within_30 : decode cX11_within 30 = .ok (.invokestatic 362, 3) := by decide +kernel
theorem dX11_within_33 : decode cX11_within 33 = .ok (.l2i, 1) := by decide +kernel
theorem dX11_within_34 : decode cX11_within 34 = .ok (.ireturn, 1) := by decide +kernel
theorem dX11_likingOf_0 : decode cX11_likingOf 0 = .ok (.aload_n 0, 1) := by decide +kernel
theorem dX11_likingOf_1 : decode cX11_likingOf 1 = .ok (.iload_n 1, 1) := by decide +kernel
theorem dX11_likingOf_2 : decode cX11_likingOf 2 = .ok (.iload_n 2, 1) := by decide +kernel
theorem dX11_likingOf_3 : decode cX11_likingOf 3 = .ok (.iload_n 3, 1) := by decide +kernel
theorem dX11_likingOf_4 : decode cX11_likingOf 4 = .ok (.invokevirtual 365, 3) := by decide +kernel
theorem dX11_likingOf_7 : decode cX11_likingOf 7 = .ok (.bipush 50, 2) := by decide +kernel
theorem dX11_likingOf_9 : decode cX11_likingOf 9 = .ok (.iconst 5, 1) := by decide +kernel
theorem dX11_likingOf_10 : decode cX11_likingOf 10 = .ok (.aload_n 0, 1) := by decide +kernel
theorem dX11_likingOf_11 : decode cX11_likingOf 11 = .ok (.getfield 34, 3) := by decide +kernel
theorem dX11_likingOf_14 : decode cX11_likingOf 14 = .ok (.iload_n 3, 1) := by decide +kernel
theorem dX11_likingOf_15 : decode cX11_likingOf 15 = .ok (.iaload, 1) := by decide +kernel
theorem dX11_likingOf_16 : decode cX11_likingOf 16 = .ok (.aload_n 0, 1) := by decide +kernel
theorem dX11_likingOf_17 : decode cX11_likingOf 17 = .ok (.iload_n 2, 1) := by decide +kernel
theorem dX11_likingOf_18 : decode cX11_likingOf 18 = .ok (.invokevirtual 346, 3) := by decide +kernel
theorem dX11_likingOf_21 : decode cX11_likingOf 21 = .ok (.isub, 1) := by decide +kernel
theorem dX11_likingOf_22 : decode cX11_likingOf 22 = .ok (.invokestatic 369, 3) := by decide +kernel
theorem dX11_likingOf_25 : decode cX11_likingOf 25 = .ok (.imul, 1) := by decide +kernel
theorem dX11_likingOf_26 : decode cX11_likingOf 26 = .ok (.isub, 1) := by decide +kernel
theorem dX11_likingOf_27 : decode cX11_likingOf 27 = .ok (.aload_n 0, 1) := by decide +kernel
theorem dX11_likingOf_28 : decode cX11_likingOf 28 = .ok (.getfield 31, 3) := by decide +kernel
theorem dX11_likingOf_31 : decode cX11_likingOf 31 = .ok (.iload_n 3, 1) := by decide +kernel
theorem dX11_likingOf_32 : decode cX11_likingOf 32 = .ok (.iaload, 1) := by decide +kernel
theorem dX11_likingOf_33 : decode cX11_likingOf 33 = .ok (.aload_n 0, 1) := by decide +kernel
theorem dX11_likingOf_34 : decode cX11_likingOf 34 = .ok (.getfield 43, 3) := by decide +kernel
theorem dX11_likingOf_37 : decode cX11_likingOf 37 = .ok (.iload_n 2, 1) := by decide +kernel
theorem dX11_likingOf_38 : decode cX11_likingOf 38 = .ok (.iaload, 1) := by decide +kernel
theorem dX11_likingOf_39 : decode cX11_likingOf 39 = .ok (.if_icmp .ne 8, 3) := by decide +kernel
theorem dX11_likingOf_42 : decode cX11_likingOf 42 = .ok (.bipush 20, 2) := by decide +kernel
theorem dX11_likingOf_44 : decode cX11_likingOf 44 = .ok (.goto 4, 3) := by decide +kernel
theorem dX11_likingOf_47 : decode cX11_likingOf 47 = .ok (.iconst 0, 1) := by decide +kernel
theorem dX11_likingOf_48 : decode cX11_likingOf 48 = .ok (.iadd, 1) := by decide +kernel
theorem dX11_likingOf_49 : decode cX11_likingOf 49 = .ok (.istore 4, 2) := by decide +kernel
theorem dX11_likingOf_51 : decode cX11_likingOf 51 = .ok (.aload_n 0, 1) := by decide +kernel
theorem dX11_likingOf_52 : decode cX11_likingOf 52 = .ok (.iconst 0, 1) := by decide +kernel
theorem dX11_likingOf_53 : decode cX11_likingOf 53 = .ok (.bipush 99, 2) := by decide +kernel
theorem dX11_likingOf_55 : decode cX11_likingOf 55 = .ok (.iload 4, 2) := by decide +kernel
theorem dX11_likingOf_57 : decode cX11_likingOf 57 = .ok (.invokevirtual 371, 3) := by decide +kernel
theorem dX11_likingOf_60 : decode cX11_likingOf 60 = .ok (.ireturn, 1) := by decide +kernel
theorem dX11_likingFor_0 : decode cX11_likingFor 0 = .ok (.iconst 0, 1) := by decide +kernel
theorem dX11_likingFor_1 : decode cX11_likingFor 1 = .ok (.istore 4, 2) := by decide +kernel
theorem dX11_likingFor_3 : decode cX11_likingFor 3 = .ok (.iconst 0, 1) := by decide +kernel
theorem dX11_likingFor_4 : decode cX11_likingFor 4 = .ok (.istore 5, 2) := by decide +kernel
theorem dX11_likingFor_6 : decode cX11_likingFor 6 = .ok (.iload 5, 2) := by decide +kernel
theorem dX11_likingFor_8 : decode cX11_likingFor 8 = .ok (.aload_n 0, 1) := by decide +kernel
theorem dX11_likingFor_9 : decode cX11_likingFor 9 = .ok (.getfield 13, 3) := by decide +kernel
theorem dX11_likingFor_12 : decode cX11_likingFor 12 = .ok (.iconst 2, 1) := by decide +kernel
theorem dX11_likingFor_13 : decode cX11_likingFor 13 = .ok (.iaload, 1) := by decide +kernel
theorem dX11_likingFor_14 : decode cX11_likingFor 14 = .ok (.if_icmp .ge 47, 3) := by decide +kernel
theorem dX11_likingFor_17 : decode cX11_likingFor 17 = .ok (.aload_n 0, 1) := by decide +kernel
theorem dX11_likingFor_18 : decode cX11_likingFor 18 = .ok (.iload 5, 2) := by decide +kernel
theorem dX11_likingFor_20 : decode cX11_likingFor 20 = .ok (.invokevirtual 375, 3) := by decide +kernel
theorem dX11_likingFor_23 : decode cX11_likingFor 23 = .ok (.ifCond .eq 32, 3) := by decide +kernel
theorem dX11_likingFor_26 : decode cX11_likingFor 26 = .ok (.aload_n 0, 1) := by decide +kernel
theorem dX11_likingFor_27 : decode cX11_likingFor 27 = .ok (.getfield 87, 3) := by decide +kernel
theorem dX11_likingFor_30 : decode cX11_likingFor 30 = .ok (.bipush 8, 2) := by decide +kernel
theorem dX11_likingFor_32 : decode cX11_likingFor 32 = .ok (.iload_n 1, 1) := by decide +kernel
theorem dX11_likingFor_33 : decode cX11_likingFor 33 = .ok (.imul, 1) := by decide +kernel
theorem dX11_likingFor_34 : decode cX11_likingFor 34 = .ok (.iload 5, 2) := by decide +kernel
theorem dX11_likingFor_36 : decode cX11_likingFor 36 = .ok (.iadd, 1) := by decide +kernel
theorem dX11_likingFor_37 : decode cX11_likingFor 37 = .ok (.iaload, 1) := by decide +kernel
theorem dX11_likingFor_38 : decode cX11_likingFor 38 = .ok (.iload_n 3, 1) := by decide +kernel
theorem dX11_likingFor_39 : decode cX11_likingFor 39 = .ok (.if_icmp .ne 16, 3) := by decide +kernel
theorem dX11_likingFor_42 : decode cX11_likingFor 42 = .ok (.iload 4, 2) := by decide +kernel
theorem dX11_likingFor_44 : decode cX11_likingFor 44 = .ok (.aload_n 0, 1) := by decide +kernel
theorem dX11_likingFor_45 : decode cX11_likingFor 45 = .ok (.iload_n 1, 1) := by decide +kernel
theorem dX11_likingFor_46 : decode cX11_likingFor 46 = .ok (.iload_n 2, 1) := by decide +kernel
theorem dX11_likingFor_47 : decode cX11_likingFor 47 = .ok (.iload 5, 2) := by decide +kernel
theorem dX11_likingFor_49 : decode cX11_likingFor 49 = .ok (.invokevirtual 378, 3) := by decide +kernel
theorem dX11_likingFor_52 : decode cX11_likingFor 52 = .ok (.iadd, 1) := by decide +kernel
theorem dX11_likingFor_53 : decode cX11_likingFor 53 = .ok (.istore 4, 2) := by decide +kernel
theorem dX11_likingFor_55 : decode cX11_likingFor 55 = .ok (.iinc 5 1, 3) := by decide +kernel
theorem dX11_likingFor_58 : decode cX11_likingFor 58 = .ok (.goto (-52), 3) := by decide +kernel
theorem dX11_likingFor_61 : decode cX11_likingFor 61 = .ok (.iload 4, 2) := by decide +kernel
theorem dX11_likingFor_63 : decode cX11_likingFor 63 = .ok (.ireturn, 1) := by decide +kernel
theorem dX11_seatOf_0 : decode cX11_seatOf 0 = .ok (.iconst (-1), 1) := by decide +kernel
theorem dX11_seatOf_1 : decode cX11_seatOf 1 = .ok (.istore_n 3, 1) := by decide +kernel
theorem dX11_seatOf_2 : decode cX11_seatOf 2 = .ok (.iconst 0, 1) := by decide +kernel
theorem dX11_seatOf_3 : decode cX11_seatOf 3 = .ok (.istore 4, 2) := by decide +kernel
theorem dX11_seatOf_5 : decode cX11_seatOf 5 = .ok (.iconst 0, 1) := by decide +kernel
theorem dX11_seatOf_6 : decode cX11_seatOf 6 = .ok (.istore 5, 2) := by decide +kernel
theorem dX11_seatOf_8 : decode cX11_seatOf 8 = .ok (.iload 5, 2) := by decide +kernel
theorem dX11_seatOf_10 : decode cX11_seatOf 10 = .ok (.aload_n 0, 1) := by decide +kernel
theorem dX11_seatOf_11 : decode cX11_seatOf 11 = .ok (.getfield 13, 3) := by decide +kernel
theorem dX11_seatOf_14 : decode cX11_seatOf 14 = .ok (.iconst 0, 1) := by decide +kernel
theorem dX11_seatOf_15 : decode cX11_seatOf 15 = .ok (.iaload, 1) := by decide +kernel
theorem dX11_seatOf_16 : decode cX11_seatOf 16 = .ok (.if_icmp .ge 54, 3) := by decide +kernel
theorem dX11_seatOf_19 : decode cX11_seatOf 19 = .ok (.aload_n 0, 1) := by decide +kernel
theorem dX11_seatOf_20 : decode cX11_seatOf 20 = .ok (.iload_n 1, 1) := by decide +kernel
theorem dX11_seatOf_21 : decode cX11_seatOf 21 = .ok (.iload 5, 2) := by decide +kernel
theorem dX11_seatOf_23 : decode cX11_seatOf 23 = .ok (.invokevirtual 381, 3) := by decide +kernel
theorem dX11_seatOf_26 : decode cX11_seatOf 26 = .ok (.ifCond .ne 6, 3) := by decide +kernel
theorem dX11_seatOf_29 : decode cX11_seatOf 29 = .ok (.goto 35, 3) := by decide +kernel
theorem dX11_seatOf_32 : decode cX11_seatOf 32 = .ok (.aload_n 0, 1) := by decide +kernel
theorem dX11_seatOf_33 : decode cX11_seatOf 33 = .ok (.iload_n 1, 1) := by decide +kernel
theorem dX11_seatOf_34 : decode cX11_seatOf 34 = .ok (.iload_n 2, 1) := by decide +kernel
theorem dX11_seatOf_35 : decode cX11_seatOf 35 = .ok (.iload 5, 2) := by decide +kernel
theorem dX11_seatOf_37 : decode cX11_seatOf 37 = .ok (.invokevirtual 385, 3) := by decide +kernel
theorem dX11_seatOf_40 : decode cX11_seatOf 40 = .ok (.istore 6, 2) := by decide +kernel
theorem dX11_seatOf_42 : decode cX11_seatOf 42 = .ok (.iload_n 3, 1) := by decide +kernel
theorem dX11_seatOf_43 : decode cX11_seatOf 43 = .ok (.iconst (-1), 1) := by decide +kernel
theorem dX11_seatOf_44 : decode cX11_seatOf 44 = .ok (.if_icmp .eq 13, 3) := by decide +kernel
theorem dX11_seatOf_47 : decode cX11_seatOf 47 = .ok (.iload 6, 2) := by decide +kernel
theorem dX11_seatOf_49 : decode cX11_seatOf 49 = .ok (.iload 4, 2) := by decide +kernel
theorem dX11_seatOf_51 : decode cX11_seatOf 51 = .ok (.if_icmp .gt 6, 3) := by decide +kernel
theorem dX11_seatOf_54 : decode cX11_seatOf 54 = .ok (.goto 10, 3) := by decide +kernel
theorem dX11_seatOf_57 : decode cX11_seatOf 57 = .ok (.iload 5, 2) := by decide +kernel
theorem dX11_seatOf_59 : decode cX11_seatOf 59 = .ok (.istore_n 3, 1) := by decide +kernel
theorem dX11_seatOf_60 : decode cX11_seatOf 60 = .ok (.iload 6, 2) := by decide +kernel
theorem dX11_seatOf_62 : decode cX11_seatOf 62 = .ok (.istore 4, 2) := by decide +kernel
theorem dX11_seatOf_64 : decode cX11_seatOf 64 = .ok (.iinc 5 1, 3) := by decide +kernel
theorem dX11_seatOf_67 : decode cX11_seatOf 67 = .ok (.goto (-59), 3) := by decide +kernel
theorem dX11_seatOf_70 : decode cX11_seatOf 70 = .ok (.iload_n 3, 1) := by decide +kernel
theorem dX11_seatOf_71 : decode cX11_seatOf 71 = .ok (.ireturn, 1) := by decide +kernel
theorem dX11_doesCome_0 : decode cX11_doesCome 0 = .ok (.aload_n 0, 1) := by decide +kernel
theorem dX11_doesCome_1 : decode cX11_doesCome 1 = .ok (.getfield 343, 3) := by decide +kernel
theorem dX11_doesCome_4 : decode cX11_doesCome 4 = .ok (.iconst 2, 1) := by decide +kernel
theorem dX11_doesCome_5 : decode cX11_doesCome 5 = .ok (.if_icmp .ne 13, 3) := by decide +kernel
theorem dX11_doesCome_8 : decode cX11_doesCome 8 = .ok (.iload_n 2, 1) := by decide +kernel
theorem dX11_doesCome_9 : decode cX11_doesCome 9 = .ok (.aload_n 0, 1) := by decide +kernel
theorem dX11_doesCome_10 : decode cX11_doesCome 10 = .ok (.getfield 102, 3) := by decide +kernel
theorem dX11_doesCome_13 : decode cX11_doesCome 13 = .ok (.if_icmp .ne 5, 3) := by decide +kernel
theorem dX11_doesCome_16 : decode cX11_doesCome 16 = .ok (.iconst 0, 1) := by decide +kernel
theorem dX11_doesCome_17 : decode cX11_doesCome 17 = .ok (.ireturn, 1) := by decide +kernel
theorem dX11_doesCome_18 : decode cX11_doesCome 18 = .ok (.aload_n 0, 1) := by decide +kernel
theorem dX11_doesCome_19 : decode cX11_doesCome 19 = .ok (.getfield 343, 3) := by decide +kernel
theorem dX11_doesCome_22 : decode cX11_doesCome 22 = .ok (.iconst 3, 1) := by decide +kernel
theorem dX11_doesCome_23 : decode cX11_doesCome 23 = .ok (.if_icmp .ne 5, 3) := by decide +kernel
theorem dX11_doesCome_26 : decode cX11_doesCome 26 = .ok (.iconst 1, 1) := by decide +kernel
theorem dX11_doesCome_27 : decode cX11_doesCome 27 = .ok (.ireturn, 1) := by decide +kernel
theorem dX11_doesCome_28 : decode cX11_doesCome 28 = .ok (.aload_n 0, 1) := by decide +kernel
theorem dX11_doesCome_29 : decode cX11_doesCome 29 = .ok (.iload_n 1, 1) := by decide +kernel
theorem dX11_doesCome_30 : decode cX11_doesCome 30 = .ok (.iload_n 2, 1) := by decide +kernel
theorem dX11_doesCome_31 : decode cX11_doesCome 31 = .ok (.iconst (-1), 1) := by decide +kernel
theorem dX11_doesCome_32 : decode cX11_doesCome 32 = .ok (.invokevirtual 365, 3) := by decide +kernel
theorem dX11_doesCome_35 : decode cX11_doesCome 35 = .ok (.aload_n 0, 1) := by decide +kernel
theorem dX11_doesCome_36 : decode cX11_doesCome 36 = .ok (.iconst 2, 1) := by decide +kernel
theorem dX11_doesCome_37 : decode cX11_doesCome 37 = .ok (.invokevirtual 352, 3) := by decide +kernel
theorem dX11_doesCome_40 : decode cX11_doesCome 40 = .ok (.ifCond .eq 30, 3) := by decide +kernel
theorem dX11_doesCome_43 : decode cX11_doesCome 43 = .ok (.aload_n 0, 1) := by decide +kernel
theorem dX11_doesCome_44 : decode cX11_doesCome 44 = .ok (.iconst 2, 1) := by decide +kernel
theorem dX11_doesCome_45 : decode cX11_doesCome 45 = .ok (.invokevirtual 355, 3) := by decide +kernel
theorem dX11_doesCome_48 : decode cX11_doesCome 48 = .ok (.ifCond .eq 22, 3) := by decide +kernel
theorem dX11_doesCome_51 : decode cX11_doesCome 51 = .ok (.aload_n 0, 1) := by decide +kernel
theorem dX11_doesCome_52 : decode cX11_doesCome 52 = .ok (.getfield 75, 3) := by decide +kernel
theorem dX11_doesCome_55 : decode cX11_doesCome 55 = .ok (.iconst 0, 1) := by decide +kernel
theorem dX11_doesCome_56 : decode cX11_doesCome 56 = .ok (.laload, 1) := by decide +kernel
theorem dX11_doesCome_57 : decode cX11_doesCome 57 = .ok (.lconst 0, 1) := by decide +kernel
theorem dX11_doesCome_58 : decode cX11_doesCome 58 = .ok (.lcmp, 1) := by decide +kernel
theorem dX11_doesCome_59 : decode cX11_doesCome 59 = .ok (.ifCond .eq 7, 3) := by decide +kernel
theorem dX11_doesCome_62 : decode cX11_doesCome 62 = .ok (.iconst 1, 1) := by decide +kernel
theorem dX11_doesCome_63 : decode cX11_doesCome 63 = .ok (.goto 26, 3) := by decide +kernel
theorem dX11_doesCome_66 : decode cX11_doesCome 66 = .ok (.iconst 0, 1) := by decide +kernel
theorem dX11_doesCome_67 : decode cX11_doesCome 67 = .ok (.goto 22, 3) := by decide +kernel
theorem dX11_doesCome_70 : decode cX11_doesCome 70 = .ok (.aload_n 0, 1) := by decide +kernel
theorem dX11_doesCome_71 : decode cX11_doesCome 71 = .ok (.iload_n 1, 1) := by decide +kernel
theorem dX11_doesCome_72 : decode cX11_doesCome 72 = .ok (.invokevirtual 349, 3) := by decide +kernel
theorem dX11_doesCome_75 : decode cX11_doesCome 75 = .ok (.aload_n 0, 1) := by decide +kernel
theorem dX11_doesCome_76 : decode cX11_doesCome 76 = .ok (.getfield 49, 3) := by decide +kernel
theorem dX11_doesCome_79 : decode cX11_doesCome 79 = .ok (.iload_n 2, 1) := by decide +kernel
theorem dX11_doesCome_80 : decode cX11_doesCome 80 = .ok (.iaload, 1) := by decide +kernel
theorem dX11_doesCome_81 : decode cX11_doesCome 81 = .ok (.if_icmp .lt 7, 3) := by decide +kernel
theorem dX11_doesCome_84 : decode cX11_doesCome 84 = .ok (.iconst 1, 1) := by decide +kernel
theorem dX11_doesCome_85 : decode cX11_doesCome 85 = .ok (.goto 4, 3) := by decide +kernel
theorem dX11_doesCome_88 : decode cX11_doesCome 88 = .ok (.iconst 0, 1) := by decide +kernel
theorem dX11_doesCome_89 : decode cX11_doesCome 89 = .ok (.ireturn, 1) := by decide +kernel
theorem dX11_nextTo_0 : decode cX11_nextTo 0 = .ok (.iconst 0, 1) := by decide +kernel
theorem dX11_nextTo_1 : decode cX11_nextTo 1 = .ok (.istore_n 2, 1) := by decide +kernel
theorem dX11_nextTo_2 : decode cX11_nextTo 2 = .ok (.iload_n 2, 1) := by decide +kernel
theorem dX11_nextTo_3 : decode cX11_nextTo 3 = .ok (.aload_n 0, 1) := by decide +kernel
theorem dX11_nextTo_4 : decode cX11_nextTo 4 = .ok (.getfield 13, 3) := by decide +kernel
theorem dX11_nextTo_7 : decode cX11_nextTo 7 = .ok (.iconst 0, 1) := by decide +kernel
theorem dX11_nextTo_8 : decode cX11_nextTo 8 = .ok (.iaload, 1) := by decide +kernel
theorem dX11_nextTo_9 : decode cX11_nextTo 9 = .ok (.if_icmp .ge 20, 3) := by decide +kernel
theorem dX11_nextTo_12 : decode cX11_nextTo 12 = .ok (.aload_n 0, 1) := by decide +kernel
theorem dX11_nextTo_13 : decode cX11_nextTo 13 = .ok (.iload_n 1, 1) := by decide +kernel
theorem dX11_nextTo_14 : decode cX11_nextTo 14 = .ok (.iload_n 2, 1) := by decide +kernel
theorem dX11_nextTo_15 : decode cX11_nextTo 15 = .ok (.invokevirtual 388, 3) := by decide +kernel
theorem dX11_nextTo_18 : decode cX11_nextTo 18 = .ok (.ifCond .eq 5, 3) := by decide +kernel
theorem dX11_nextTo_21 : decode cX11_nextTo 21 = .ok (.iload_n 2, 1) := by decide +kernel
theorem dX11_nextTo_22 : decode cX11_nextTo 22 = .ok (.ireturn, 1) := by decide +kernel
theorem dX11_nextTo_23 : decode cX11_nextTo 23 = .ok (.iinc 2 1, 3) := by decide +kernel
theorem dX11_nextTo_26 : decode cX11_nextTo 26 = .ok (.goto (-24), 3) := by decide +kernel
theorem dX11_nextTo_29 : decode cX11_nextTo 29 = .ok (.iconst (-1), 1) := by decide +kernel
theorem dX11_nextTo_30 : decode cX11_nextTo 30 = .ok (.ireturn, 1) := by decide +kernel
theorem dX11_visits_0 : decode cX11_visits 0 = .ok (.aload_n 0, 1) := by decide +kernel
theorem dX11_visits_1 : decode cX11_visits 1 = .ok (.iload_n 1, 1) := by decide +kernel
theorem dX11_visits_2 : decode cX11_visits 2 = .ok (.iload_n 2, 1) := by decide +kernel
theorem dX11_visits_3 : decode cX11_visits 3 = .ok (.invokevirtual 391, 3) := by decide +kernel
theorem dX11_visits_6 : decode cX11_visits 6 = .ok (.istore_n 3, 1) := by decide +kernel
theorem dX11_visits_7 : decode cX11_visits 7 = .ok (.iload_n 3, 1) := by decide +kernel
theorem dX11_visits_8 : decode cX11_visits 8 = .ok (.iconst (-1), 1) := by decide +kernel
theorem dX11_visits_9 : decode cX11_visits 9 = .ok (.if_icmp .ne 4, 3) := by decide +kernel
theorem dX11_visits_12 : decode cX11_visits 12 = .ok (.return_, 1) := by decide +kernel
theorem dX11_visits_13 : decode cX11_visits 13 = .ok (.aload_n 0, 1) := by decide +kernel
theorem dX11_visits_14 : decode cX11_visits 14 = .ok (.getfield 96, 3) := by decide +kernel
theorem dX11_visits_17 : decode cX11_visits 17 = .ok (.bipush 6, 2) := by decide +kernel
theorem dX11_visits_19 : decode cX11_visits 19 = .ok (.iload_n 1, 1) := by decide +kernel
theorem dX11_visits_20 : decode cX11_visits 20 = .ok (.imul, 1) := by decide +kernel
theorem dX11_visits_21 : decode cX11_visits 21 = .ok (.iload_n 3, 1) := by decide +kernel
theorem dX11_visits_22 : decode cX11_visits 22 = .ok (.iadd, 1) := by decide +kernel
theorem dX11_visits_23 : decode cX11_visits 23 = .ok (.dup2, 1) := by decide +kernel
theorem dX11_visits_24 : decode cX11_visits 24 = .ok (.iaload, 1) := by decide +kernel
theorem dX11_visits_25 : decode cX11_visits 25 = .ok (.iconst 1, 1) := by decide +kernel
theorem dX11_visits_26 : decode cX11_visits 26 = .ok (.iadd, 1) := by decide +kernel
theorem dX11_visits_27 : decode cX11_visits 27 = .ok (.iastore, 1) := by decide +kernel
theorem dX11_visits_28 : decode cX11_visits 28 = .ok (.aload_n 0, 1) := by decide +kernel
theorem dX11_visits_29 : decode cX11_visits 29 = .ok (.getfield 99, 3) := by decide +kernel
theorem dX11_visits_32 : decode cX11_visits 32 = .ok (.bipush 6, 2) := by decide +kernel
theorem dX11_visits_34 : decode cX11_visits 34 = .ok (.iload_n 1, 1) := by decide +kernel
theorem dX11_visits_35 : decode cX11_visits 35 = .ok (.imul, 1) := by decide +kernel
theorem dX11_visits_36 : decode cX11_visits 36 = .ok (.iload_n 2, 1) := by decide +kernel
theorem dX11_visits_37 : decode cX11_visits 37 = .ok (.iadd, 1) := by decide +kernel
theorem dX11_visits_38 : decode cX11_visits 38 = .ok (.dup2, 1) := by decide +kernel
theorem dX11_visits_39 : decode cX11_visits 39 = .ok (.iaload, 1) := by decide +kernel
theorem dX11_visits_40 : decode cX11_visits 40 = .ok (.iconst 1, 1) := by decide +kernel
theorem dX11_visits_41 : decode cX11_visits 41 = .ok (.iadd, 1) := by decide +kernel
theorem dX11_visits_42 : decode cX11_visits 42 = .ok (.iastore, 1) := by decide +kernel
theorem dX11_visits_43 : decode cX11_visits 43 = .ok (.iconst (-1), 1) := by decide +kernel
theorem dX11_visits_44 : decode cX11_visits 44 = .ok (.istore 4, 2) := by decide +kernel
theorem dX11_visits_46 : decode cX11_visits 46 = .ok (.iconst 0, 1) := by decide +kernel
theorem dX11_visits_47 : decode cX11_visits 47 = .ok (.istore 5, 2) := by decide +kernel
theorem dX11_visits_49 : decode cX11_visits 49 = .ok (.iconst 0, 1) := by decide +kernel
theorem dX11_visits_50 : decode cX11_visits 50 = .ok (.istore 6, 2) := by decide +kernel
theorem dX11_visits_52 : decode cX11_visits 52 = .ok (.iload 6, 2) := by decide +kernel
theorem dX11_visits_54 : decode cX11_visits 54 = .ok (.aload_n 0, 1) := by decide +kernel
theorem dX11_visits_55 : decode cX11_visits 55 = .ok (.getfield 13, 3) := by decide +kernel
theorem dX11_visits_58 : decode cX11_visits 58 = .ok (.iconst 2, 1) := by decide +kernel
theorem dX11_visits_59 : decode cX11_visits 59 = .ok (.iaload, 1) := by decide +kernel
theorem dX11_visits_60 : decode cX11_visits 60 = .ok (.if_icmp .ge 71, 3) := by decide +kernel
theorem dX11_visits_63 : decode cX11_visits 63 = .ok (.aload_n 0, 1) := by decide +kernel
theorem dX11_visits_64 : decode cX11_visits 64 = .ok (.iload 6, 2) := by decide +kernel
theorem dX11_visits_66 : decode cX11_visits 66 = .ok (.invokevirtual 375, 3) := by decide +kernel
theorem dX11_visits_69 : decode cX11_visits 69 = .ok (.ifCond .eq 56, 3) := by decide +kernel
theorem dX11_visits_72 : decode cX11_visits 72 = .ok (.aload_n 0, 1) := by decide +kernel
theorem dX11_visits_73 : decode cX11_visits 73 = .ok (.getfield 87, 3) := by decide +kernel
theorem dX11_visits_76 : decode cX11_visits 76 = .ok (.bipush 8, 2) := by decide +kernel
theorem dX11_visits_78 : decode cX11_visits 78 = .ok (.iload_n 1, 1) := by decide +kernel
theorem dX11_visits_79 : decode cX11_visits 79 = .ok (.imul, 1) := by decide +kernel
theorem dX11_visits_80 : decode cX11_visits 80 = .ok (.iload 6, 2) := by decide +kernel
theorem dX11_visits_82 : decode cX11_visits 82 = .ok (.iadd, 1) := by decide +kernel
theorem dX11_visits_83 : decode cX11_visits 83 = .ok (.iaload, 1) := by decide +kernel
theorem dX11_visits_84 : decode cX11_visits 84 = .ok (.iload_n 3, 1) := by decide +kernel
theorem dX11_visits_85 : decode cX11_visits 85 = .ok (.if_icmp .eq 6, 3) := by decide +kernel
theorem dX11_visits_88 : decode cX11_visits 88 = .ok (.goto 37, 3) := by decide +kernel
theorem dX11_visits_91 : decode cX11_visits 91 = .ok (.aload_n 0, 1) := by decide +kernel
theorem dX11_visits_92 : decode cX11_visits 92 = .ok (.iload_n 1, 1) := by decide +kernel
theorem dX11_visits_93 : decode cX11_visits 93 = .ok (.iload_n 2, 1) := by decide +kernel
theorem dX11_visits_94 : decode cX11_visits 94 = .ok (.iload 6, 2) := by decide +kernel
theorem dX11_visits_96 : decode cX11_visits 96 = .ok (.invokevirtual 378, 3) := by decide +kernel
theorem dX11_visits_99 : decode cX11_visits 99 = .ok (.istore 7, 2) := by decide +kernel
theorem dX11_visits_101 : decode cX11_visits 101 = .ok (.iload 4, 2) := by decide +kernel
theorem dX11_visits_103 : decode cX11_visits 103 = .ok (.iconst (-1), 1) := by decide +kernel
theorem dX11_visits_104 : decode cX11_visits 104 = .ok (.if_icmp .eq 13, 3) := by decide +kernel
theorem dX11_visits_107 : decode cX11_visits 107 = .ok (.iload 7, 2) := by decide +kernel
theorem dX11_visits_109 : decode cX11_visits 109 = .ok (.iload 5, 2) := by decide +kernel
theorem dX11_visits_111 : decode cX11_visits 111 = .ok (.if_icmp .lt 6, 3) := by decide +kernel
theorem dX11_visits_114 : decode cX11_visits 114 = .ok (.goto 11, 3) := by decide +kernel
theorem dX11_visits_117 : decode cX11_visits 117 = .ok (.iload 6, 2) := by decide +kernel
theorem dX11_visits_119 : decode cX11_visits 119 = .ok (.istore 4, 2) := by decide +kernel
theorem dX11_visits_121 : decode cX11_visits 121 = .ok (.iload 7, 2) := by decide +kernel
theorem dX11_visits_123 : decode cX11_visits 123 = .ok (.istore 5, 2) := by decide +kernel
theorem dX11_visits_125 : decode cX11_visits 125 = .ok (.iinc 6 1, 3) := by decide +kernel
theorem dX11_visits_128 : decode cX11_visits 128 = .ok (.goto (-76), 3) := by decide +kernel
theorem dX11_visits_131 : decode cX11_visits 131 = .ok (.iload 4, 2) := by decide +kernel
theorem dX11_visits_133 : decode cX11_visits 133 = .ok (.iconst (-1), 1) := by decide +kernel
theorem dX11_visits_134 : decode cX11_visits 134 = .ok (.if_icmp .eq 11, 3) := by decide +kernel
theorem dX11_visits_137 : decode cX11_visits 137 = .ok (.aload_n 0, 1) := by decide +kernel
theorem dX11_visits_138 : decode cX11_visits 138 = .ok (.getfield 343, 3) := by decide +kernel
theorem dX11_visits_141 : decode cX11_visits 141 = .ok (.iconst 4, 1) := by decide +kernel
theorem dX11_visits_142 : decode cX11_visits 142 = .ok (.if_icmp .ne 4, 3) := by decide +kernel
theorem dX11_visits_145 : decode cX11_visits 145 = .ok (.return_, 1) := by decide +kernel
theorem dX11_visits_146 : decode cX11_visits 146 = .ok (.aload_n 0, 1) := by decide +kernel
theorem dX11_visits_147 : decode cX11_visits 147 = .ok (.iload_n 1, 1) := by decide +kernel
theorem dX11_visits_148 : decode cX11_visits 148 = .ok (.iload_n 2, 1) := by decide +kernel
theorem dX11_visits_149 : decode cX11_visits 149 = .ok (.iload 4, 2) := by decide +kernel
theorem dX11_visits_151 : decode cX11_visits 151 = .ok (.invokevirtual 365, 3) := by decide +kernel
theorem dX11_visits_154 : decode cX11_visits 154 = .ok (.iload 5, 2) := by decide +kernel
theorem dX11_visits_156 : decode cX11_visits 156 = .ok (.aload_n 0, 1) := by decide +kernel
theorem dX11_visits_157 : decode cX11_visits 157 = .ok (.iconst 1, 1) := by decide +kernel
theorem dX11_visits_158 : decode cX11_visits 158 = .ok (.bipush 100, 2) := by decide +kernel
theorem dX11_visits_160 : decode cX11_visits 160 = .ok (.bipush 30, 2) := by decide +kernel
theorem dX11_visits_162 : decode cX11_visits 162 = .ok (.invokevirtual 371, 3) := by decide +kernel
theorem dX11_visits_165 : decode cX11_visits 165 = .ok (.if_icmp .lt 4, 3) := by decide +kernel
theorem dX11_visits_168 : decode cX11_visits 168 = .ok (.return_, 1) := by decide +kernel
theorem dX11_visits_169 : decode cX11_visits 169 = .ok (.aload_n 0, 1) := by decide +kernel
theorem dX11_visits_170 : decode cX11_visits 170 = .ok (.iload_n 3, 1) := by decide +kernel
theorem dX11_visits_171 : decode cX11_visits 171 = .ok (.invokevirtual 394, 3) := by decide +kernel
theorem dX11_visits_174 : decode cX11_visits 174 = .ok (.istore 6, 2) := by decide +kernel
theorem dX11_visits_176 : decode cX11_visits 176 = .ok (.iload 6, 2) := by decide +kernel
theorem dX11_visits_178 : decode cX11_visits 178 = .ok (.iconst (-1), 1) := by decide +kernel
theorem dX11_visits_179 : decode cX11_visits 179 = .ok (.if_icmp .ne 20, 3) := by decide +kernel
theorem dX11_visits_182 : decode cX11_visits 182 = .ok (.aload_n 0, 1) := by decide +kernel
theorem dX11_visits_183 : decode cX11_visits 183 = .ok (.getfield 93, 3) := by decide +kernel
theorem dX11_visits_186 : decode cX11_visits 186 = .ok (.bipush 8, 2) := by decide +kernel
theorem dX11_visits_188 : decode cX11_visits 188 = .ok (.iload_n 1, 1) := by decide +kernel
theorem dX11_visits_189 : decode cX11_visits 189 = .ok (.imul, 1) := by decide +kernel
theorem dX11_visits_190 : decode cX11_visits 190 = .ok (.iload 4, 2) := by decide +kernel
theorem dX11_visits_192 : decode cX11_visits 192 = .ok (.iadd, 1) := by decide +kernel
theorem dX11_visits_193 : decode cX11_visits 193 = .ok (.dup2, 1) := by decide +kernel
theorem dX11_visits_194 : decode cX11_visits 194 = .ok (.iaload, 1) := by decide +kernel
theorem dX11_visits_195 : decode cX11_visits 195 = .ok (.iconst 1, 1) := by decide +kernel
theorem dX11_visits_196 : decode cX11_visits 196 = .ok (.iadd, 1) := by decide +kernel
theorem dX11_visits_197 : decode cX11_visits 197 = .ok (.iastore, 1) := by decide +kernel
theorem dX11_visits_198 : decode cX11_visits 198 = .ok (.return_, 1) := by decide +kernel
theorem dX11_visits_199 : decode cX11_visits 199 = .ok (.aload_n 0, 1) := by decide +kernel
theorem dX11_visits_200 : decode cX11_visits 200 = .ok (.getfield 87, 3) := by decide +kernel
theorem dX11_visits_203 : decode cX11_visits 203 = .ok (.bipush 8, 2) := by decide +kernel
theorem dX11_visits_205 : decode cX11_visits 205 = .ok (.iload_n 1, 1) := by decide +kernel
theorem dX11_visits_206 : decode cX11_visits 206 = .ok (.imul, 1) := by decide +kernel
theorem dX11_visits_207 : decode cX11_visits 207 = .ok (.iload 4, 2) := by decide +kernel
theorem dX11_visits_209 : decode cX11_visits 209 = .ok (.iadd, 1) := by decide +kernel
theorem dX11_visits_210 : decode cX11_visits 210 = .ok (.iload 6, 2) := by decide +kernel
theorem dX11_visits_212 : decode cX11_visits 212 = .ok (.iastore, 1) := by decide +kernel
theorem dX11_visits_213 : decode cX11_visits 213 = .ok (.aload_n 0, 1) := by decide +kernel
theorem dX11_visits_214 : decode cX11_visits 214 = .ok (.getfield 90, 3) := by decide +kernel
theorem dX11_visits_217 : decode cX11_visits 217 = .ok (.bipush 8, 2) := by decide +kernel
theorem dX11_visits_219 : decode cX11_visits 219 = .ok (.iload_n 1, 1) := by decide +kernel
theorem dX11_visits_220 : decode cX11_visits 220 = .ok (.imul, 1) := by decide +kernel
theorem dX11_visits_221 : decode cX11_visits 221 = .ok (.iload 4, 2) := by decide +kernel
theorem dX11_visits_223 : decode cX11_visits 223 = .ok (.iadd, 1) := by decide +kernel
theorem dX11_visits_224 : decode cX11_visits 224 = .ok (.dup2, 1) := by decide +kernel
theorem dX11_visits_225 : decode cX11_visits 225 = .ok (.iaload, 1) := by decide +kernel
theorem dX11_visits_226 : decode cX11_visits 226 = .ok (.iconst 1, 1) := by decide +kernel
theorem dX11_visits_227 : decode cX11_visits 227 = .ok (.iadd, 1) := by decide +kernel
theorem dX11_visits_228 : decode cX11_visits 228 = .ok (.iastore, 1) := by decide +kernel
theorem dX11_visits_229 : decode cX11_visits 229 = .ok (.return_, 1) := by decide +kernel
theorem dX11_passes_0 : decode cX11_passes 0 = .ok (.iconst 0, 1) := by decide +kernel
theorem dX11_passes_1 : decode cX11_passes 1 = .ok (.istore_n 2, 1) := by decide +kernel
theorem dX11_passes_2 : decode cX11_passes 2 = .ok (.iload_n 2, 1) := by decide +kernel
theorem dX11_passes_3 : decode cX11_passes 3 = .ok (.aload_n 0, 1) := by decide +kernel
theorem dX11_passes_4 : decode cX11_passes 4 = .ok (.getfield 13, 3) := by decide +kernel
theorem dX11_passes_7 : decode cX11_passes 7 = .ok (.iconst 3, 1) := by decide +kernel
theorem dX11_passes_8 : decode cX11_passes 8 = .ok (.iaload, 1) := by decide +kernel
theorem dX11_passes_9 : decode cX11_passes 9 = .ok (.if_icmp .ge 24, 3) := by decide +kernel
theorem dX11_passes_12 : decode cX11_passes 12 = .ok (.aload_n 0, 1) := by decide +kernel
theorem dX11_passes_13 : decode cX11_passes 13 = .ok (.iload_n 1, 1) := by decide +kernel
theorem dX11_passes_14 : decode cX11_passes 14 = .ok (.iload_n 2, 1) := by decide +kernel
theorem dX11_passes_15 : decode cX11_passes 15 = .ok (.invokevirtual 397, 3) := by decide +kernel
theorem dX11_passes_18 : decode cX11_passes 18 = .ok (.ifCond .eq 9, 3) := by decide +kernel
theorem dX11_passes_21 : decode cX11_passes 21 = .ok (.aload_n 0, 1) := by decide +kernel
theorem dX11_passes_22 : decode cX11_passes 22 = .ok (.iload_n 1, 1) := by decide +kernel
theorem dX11_passes_23 : decode cX11_passes 23 = .ok (.iload_n 2, 1) := by decide +kernel
theorem dX11_passes_24 : decode cX11_passes 24 = .ok (.invokevirtual 400, 3) := by decide +kernel
theorem dX11_passes_27 : decode cX11_passes 27 = .ok (.iinc 2 1, 3) := by decide +kernel
theorem dX11_passes_30 : decode cX11_passes 30 = .ok (.goto (-28), 3) := by decide +kernel
theorem dX11_passes_33 : decode cX11_passes 33 = .ok (.aload_n 0, 1) := by decide +kernel
theorem dX11_passes_34 : decode cX11_passes 34 = .ok (.getfield 78, 3) := by decide +kernel
theorem dX11_passes_37 : decode cX11_passes 37 = .ok (.iload_n 1, 1) := by decide +kernel
theorem dX11_passes_38 : decode cX11_passes 38 = .ok (.dup2, 1) := by decide +kernel
theorem dX11_passes_39 : decode cX11_passes 39 = .ok (.iaload, 1) := by decide +kernel
theorem dX11_passes_40 : decode cX11_passes 40 = .ok (.iconst 1, 1) := by decide +kernel
theorem dX11_passes_41 : decode cX11_passes 41 = .ok (.iadd, 1) := by decide +kernel
theorem dX11_passes_42 : decode cX11_passes 42 = .ok (.iastore, 1) := by decide +kernel
theorem dX11_passes_43 : decode cX11_passes 43 = .ok (.return_, 1) := by decide +kernel
theorem dX11_runs_0 : decode cX11_runs 0 = .ok (.aload_n 0, 1) := by decide +kernel
theorem dX11_runs_1 : decode cX11_runs 1 = .ok (.iconst 1, 1) := by decide +kernel
theorem dX11_runs_2 : decode cX11_runs 2 = .ok (.iconst 0, 1) := by decide +kernel
theorem dX11_runs_3 : decode cX11_runs 3 = .ok (.invokevirtual 403, 3) := by decide +kernel
theorem dX11_runs_6 : decode cX11_runs 6 = .ok (.aload_n 0, 1) := by decide +kernel
theorem dX11_runs_7 : decode cX11_runs 7 = .ok (.iload_n 1, 1) := by decide +kernel
theorem dX11_runs_8 : decode cX11_runs 8 = .ok (.invokevirtual 406, 3) := by decide +kernel
theorem dX11_runs_11 : decode cX11_runs 11 = .ok (.return_, 1) := by decide +kernel
theorem dX11_goesOn_0 : decode cX11_goesOn 0 = .ok (.iconst 0, 1) := by decide +kernel
theorem dX11_goesOn_1 : decode cX11_goesOn 1 = .ok (.istore_n 2, 1) := by decide +kernel
theorem dX11_goesOn_2 : decode cX11_goesOn 2 = .ok (.iload_n 2, 1) := by decide +kernel
theorem dX11_goesOn_3 : decode cX11_goesOn 3 = .ok (.iload_n 1, 1) := by decide +kernel
theorem dX11_goesOn_4 : decode cX11_goesOn 4 = .ok (.if_icmp .ge 14, 3) := by decide +kernel
theorem dX11_goesOn_7 : decode cX11_goesOn 7 = .ok (.aload_n 0, 1) := by decide +kernel
theorem dX11_goesOn_8 : decode cX11_goesOn 8 = .ok (.iconst 1, 1) := by decide +kernel
theorem dX11_goesOn_9 : decode cX11_goesOn 9 = .ok (.invokevirtual 409, 3) := by decide +kernel
theorem dX11_goesOn_12 : decode cX11_goesOn 12 = .ok (.iinc 2 1, 3) := by decide +kernel
theorem dX11_goesOn_15 : decode cX11_goesOn 15 = .ok (.goto (-13), 3) := by decide +kernel
theorem dX11_goesOn_18 : decode cX11_goesOn 18 = .ok (.return_, 1) := by decide +kernel
theorem dX11_sumOf_0 : decode cX11_sumOf 0 = .ok (.iconst 0, 1) := by decide +kernel
theorem dX11_sumOf_1 : decode cX11_sumOf 1 = .ok (.istore_n 3, 1) := by decide +kernel
theorem dX11_sumOf_2 : decode cX11_sumOf 2 = .ok (.iconst 0, 1) := by decide +kernel
theorem dX11_sumOf_3 : decode cX11_sumOf 3 = .ok (.istore 4, 2) := by decide +kernel
theorem dX11_sumOf_5 : decode cX11_sumOf 5 = .ok (.iload 4, 2) := by decide +kernel
theorem dX11_sumOf_7 : decode cX11_sumOf 7 = .ok (.aload_n 0, 1) := by decide +kernel
theorem dX11_sumOf_8 : decode cX11_sumOf 8 = .ok (.getfield 13, 3) := by decide +kernel
theorem dX11_sumOf_11 : decode cX11_sumOf 11 = .ok (.iconst 2, 1) := by decide +kernel
theorem dX11_sumOf_12 : decode cX11_sumOf 12 = .ok (.iaload, 1) := by decide +kernel
theorem dX11_sumOf_13 : decode cX11_sumOf 13 = .ok (.if_icmp .ge 21, 3) := by decide +kernel
theorem dX11_sumOf_16 : decode cX11_sumOf 16 = .ok (.iload_n 3, 1) := by decide +kernel
theorem dX11_sumOf_17 : decode cX11_sumOf 17 = .ok (.aload_n 1, 1) := by decide +kernel
theorem dX11_sumOf_18 : decode cX11_sumOf 18 = .ok (.bipush 8, 2) := by decide +kernel
theorem dX11_sumOf_20 : decode cX11_sumOf 20 = .ok (.iload_n 2, 1) := by decide +kernel
theorem dX11_sumOf_21 : decode cX11_sumOf 21 = .ok (.imul, 1) := by decide +kernel
theorem dX11_sumOf_22 : decode cX11_sumOf 22 = .ok (.iload 4, 2) := by decide +kernel
theorem dX11_sumOf_24 : decode cX11_sumOf 24 = .ok (.iadd, 1) := by decide +kernel
theorem dX11_sumOf_25 : decode cX11_sumOf 25 = .ok (.iaload, 1) := by decide +kernel
theorem dX11_sumOf_26 : decode cX11_sumOf 26 = .ok (.iadd, 1) := by decide +kernel
theorem dX11_sumOf_27 : decode cX11_sumOf 27 = .ok (.istore_n 3, 1) := by decide +kernel
theorem dX11_sumOf_28 : decode cX11_sumOf 28 = .ok (.iinc 4 1, 3) := by decide +kernel
theorem dX11_sumOf_31 : decode cX11_sumOf 31 = .ok (.goto (-26), 3) := by decide +kernel
theorem dX11_sumOf_34 : decode cX11_sumOf 34 = .ok (.iload_n 3, 1) := by decide +kernel
theorem dX11_sumOf_35 : decode cX11_sumOf 35 = .ok (.ireturn, 1) := by decide +kernel
theorem dX11_stirs_0 : decode cX11_stirs 0 = .ok (.aload_n 0, 1) := by decide +kernel
theorem dX11_stirs_1 : decode cX11_stirs 1 = .ok (.aload_n 0, 1) := by decide +kernel
theorem dX11_stirs_2 : decode cX11_stirs 2 = .ok (.getfield 90, 3) := by decide +kernel
theorem dX11_stirs_5 : decode cX11_stirs 5 = .ok (.iload_n 1, 1) := by decide +kernel
theorem dX11_stirs_6 : decode cX11_stirs 6 = .ok (.invokevirtual 412, 3) := by decide +kernel
theorem dX11_stirs_9 : decode cX11_stirs 9 = .ok (.aload_n 0, 1) := by decide +kernel
theorem dX11_stirs_10 : decode cX11_stirs 10 = .ok (.aload_n 0, 1) := by decide +kernel
theorem dX11_stirs_11 : decode cX11_stirs 11 = .ok (.getfield 93, 3) := by decide +kernel
theorem dX11_stirs_14 : decode cX11_stirs 14 = .ok (.iload_n 1, 1) := by decide +kernel
theorem dX11_stirs_15 : decode cX11_stirs 15 = .ok (.invokevirtual 412, 3) := by decide +kernel
theorem dX11_stirs_18 : decode cX11_stirs 18 = .ok (.iadd, 1) := by decide +kernel
theorem dX11_stirs_19 : decode cX11_stirs 19 = .ok (.ireturn, 1) := by decide +kernel
theorem dX11_thing_0 : decode cX11_thing 0 = .ok (.aload_n 0, 1) := by decide +kernel
theorem dX11_thing_1 : decode cX11_thing 1 = .ok (.aload_n 0, 1) := by decide +kernel
theorem dX11_thing_2 : decode cX11_thing 2 = .ok (.iload_n 1, 1) := by decide +kernel
theorem dX11_thing_3 : decode cX11_thing 3 = .ok (.invokevirtual 416, 3) := by decide +kernel
theorem dX11_thing_6 : decode cX11_thing 6 = .ok (.ifCond .ne 7, 3) := by decide +kernel
theorem dX11_thing_9 : decode cX11_thing 9 = .ok (.iconst 1, 1) := by decide +kernel
theorem dX11_thing_10 : decode cX11_thing 10 = .ok (.goto 17, 3) := by decide +kernel
theorem dX11_thing_13 : decode cX11_thing 13 = .ok (.iload_n 2, 1) := by decide +kernel
theorem dX11_thing_14 : decode cX11_thing 14 = .ok (.ifCond .lt 8, 3) := by decide +kernel
theorem dX11_thing_17 : decode cX11_thing 17 = .ok (.iload_n 2, 1) := by decide +kernel
theorem dX11_thing_18 : decode cX11_thing 18 = .ok (.iconst 4, 1) := by decide +kernel
theorem dX11_thing_19 : decode cX11_thing 19 = .ok (.if_icmp .le 7, 3) := by decide +kernel
theorem dX11_thing_22 : decode cX11_thing 22 = .ok (.iconst 2, 1) := by decide +kernel
theorem dX11_thing_23 : decode cX11_thing 23 = .ok (.goto 4, 3) := by decide +kernel
theorem dX11_thing_26 : decode cX11_thing 26 = .ok (.iconst 0, 1) := by decide +kernel
theorem dX11_thing_27 : decode cX11_thing 27 = .ok (.putfield 148, 3) := by decide +kernel
theorem dX11_thing_30 : decode cX11_thing 30 = .ok (.aload_n 0, 1) := by decide +kernel
theorem dX11_thing_31 : decode cX11_thing 31 = .ok (.getfield 148, 3) := by decide +kernel
theorem dX11_thing_34 : decode cX11_thing 34 = .ok (.ifCond .eq 5, 3) := by decide +kernel
theorem dX11_thing_37 : decode cX11_thing 37 = .ok (.iconst 0, 1) := by decide +kernel
theorem dX11_thing_38 : decode cX11_thing 38 = .ok (.ireturn, 1) := by decide +kernel
theorem dX11_thing_39 : decode cX11_thing 39 = .ok (.iload_n 2, 1) := by decide +kernel
theorem dX11_thing_40 : decode cX11_thing 40 = .ok (.tableswitch 60 0 3 #[32, 39, 46, 53], 32) := by decide +kernel
theorem dX11_thing_72 : decode cX11_thing 72 = .ok (.aload_n 0, 1) := by decide +kernel
theorem dX11_thing_73 : decode cX11_thing 73 = .ok (.getfield 87, 3) := by decide +kernel
theorem dX11_thing_76 : decode cX11_thing 76 = .ok (.iload_n 1, 1) := by decide +kernel
theorem dX11_thing_77 : decode cX11_thing 77 = .ok (.iaload, 1) := by decide +kernel
theorem dX11_thing_78 : decode cX11_thing 78 = .ok (.ireturn, 1) := by decide +kernel
theorem dX11_thing_79 : decode cX11_thing 79 = .ok (.aload_n 0, 1) := by decide +kernel
theorem dX11_thing_80 : decode cX11_thing 80 = .ok (.getfield 31, 3) := by decide +kernel
theorem dX11_thing_83 : decode cX11_thing 83 = .ok (.iload_n 1, 1) := by decide +kernel
theorem dX11_thing_84 : decode cX11_thing 84 = .ok (.iaload, 1) := by decide +kernel
theorem dX11_thing_85 : decode cX11_thing 85 = .ok (.ireturn, 1) := by decide +kernel
theorem dX11_thing_86 : decode cX11_thing 86 = .ok (.aload_n 0, 1) := by decide +kernel
theorem dX11_thing_87 : decode cX11_thing 87 = .ok (.getfield 34, 3) := by decide +kernel
theorem dX11_thing_90 : decode cX11_thing 90 = .ok (.iload_n 1, 1) := by decide +kernel
theorem dX11_thing_91 : decode cX11_thing 91 = .ok (.iaload, 1) := by decide +kernel
theorem dX11_thing_92 : decode cX11_thing 92 = .ok (.ireturn, 1) := by decide +kernel
theorem dX11_thing_93 : decode cX11_thing 93 = .ok (.aload_n 0, 1) := by decide +kernel
theorem dX11_thing_94 : decode cX11_thing 94 = .ok (.getfield 90, 3) := by decide +kernel
theorem dX11_thing_97 : decode cX11_thing 97 = .ok (.iload_n 1, 1) := by decide +kernel
theorem dX11_thing_98 : decode cX11_thing 98 = .ok (.iaload, 1) := by decide +kernel
theorem dX11_thing_99 : decode cX11_thing 99 = .ok (.ireturn, 1) := by decide +kernel
theorem dX11_thing_100 : decode cX11_thing 100 = .ok (.aload_n 0, 1) := by decide +kernel
theorem dX11_thing_101 : decode cX11_thing 101 = .ok (.getfield 93, 3) := by decide +kernel
theorem dX11_thing_104 : decode cX11_thing 104 = .ok (.iload_n 1, 1) := by decide +kernel
theorem dX11_thing_105 : decode cX11_thing 105 = .ok (.iaload, 1) := by decide +kernel
theorem dX11_thing_106 : decode cX11_thing 106 = .ok (.ireturn, 1) := by decide +kernel
theorem dX11_thingsIn_0 : decode cX11_thingsIn 0 = .ok (.iconst 0, 1) := by decide +kernel
theorem dX11_thingsIn_1 : decode cX11_thingsIn 1 = .ok (.istore_n 3, 1) := by decide +kernel
theorem dX11_thingsIn_2 : decode cX11_thingsIn 2 = .ok (.iconst 0, 1) := by decide +kernel
theorem dX11_thingsIn_3 : decode cX11_thingsIn 3 = .ok (.istore 4, 2) := by decide +kernel
theorem dX11_thingsIn_5 : decode cX11_thingsIn 5 = .ok (.iload 4, 2) := by decide +kernel
theorem dX11_thingsIn_7 : decode cX11_thingsIn 7 = .ok (.aload_n 0, 1) := by decide +kernel
theorem dX11_thingsIn_8 : decode cX11_thingsIn 8 = .ok (.getfield 13, 3) := by decide +kernel
theorem dX11_thingsIn_11 : decode cX11_thingsIn 11 = .ok (.iconst 2, 1) := by decide +kernel
theorem dX11_thingsIn_12 : decode cX11_thingsIn 12 = .ok (.iaload, 1) := by decide +kernel
theorem dX11_thingsIn_13 : decode cX11_thingsIn 13 = .ok (.if_icmp .ge 36, 3) := by decide +kernel
theorem dX11_thingsIn_16 : decode cX11_thingsIn 16 = .ok (.iload_n 3, 1) := by decide +kernel
theorem dX11_thingsIn_17 : decode cX11_thingsIn 17 = .ok (.aload_n 0, 1) := by decide +kernel
theorem dX11_thingsIn_18 : decode cX11_thingsIn 18 = .ok (.getfield 87, 3) := by decide +kernel
theorem dX11_thingsIn_21 : decode cX11_thingsIn 21 = .ok (.bipush 8, 2) := by decide +kernel
theorem dX11_thingsIn_23 : decode cX11_thingsIn 23 = .ok (.iload_n 1, 1) := by decide +kernel
theorem dX11_thingsIn_24 : decode cX11_thingsIn 24 = .ok (.imul, 1) := by decide +kernel
theorem dX11_thingsIn_25 : decode cX11_thingsIn 25 = .ok (.iload 4, 2) := by decide +kernel
theorem dX11_thingsIn_27 : decode cX11_thingsIn 27 = .ok (.iadd, 1) := by decide +kernel
theorem dX11_thingsIn_28 : decode cX11_thingsIn 28 = .ok (.iaload, 1) := by decide +kernel
theorem dX11_thingsIn_29 : decode cX11_thingsIn 29 = .ok (.iload_n 2, 1) := by decide +kernel
theorem dX11_thingsIn_30 : decode cX11_thingsIn 30 = .ok (.if_icmp .ne 10, 3) := by decide +kernel
theorem dX11_thingsIn_33 : decode cX11_thingsIn 33 = .ok (.iconst 1, 1) := by decide +kernel
theorem dX11_thingsIn_34 : decode cX11_thingsIn 34 = .ok (.iload 4, 2) := by decide +kernel
theorem dX11_thingsIn_36 : decode cX11_thingsIn 36 = .ok (.ishl, 1) := by decide +kernel
theorem dX11_thingsIn_37 : decode cX11_thingsIn 37 = .ok (.goto 4, 3) := by decide +kernel
theorem dX11_thingsIn_40 : decode cX11_thingsIn 40 = .ok (.iconst 0, 1) := by decide +kernel
theorem dX11_thingsIn_41 : decode cX11_thingsIn 41 = .ok (.ior, 1) := by decide +kernel
theorem dX11_thingsIn_42 : decode cX11_thingsIn 42 = .ok (.istore_n 3, 1) := by decide +kernel
theorem dX11_thingsIn_43 : decode cX11_thingsIn 43 = .ok (.iinc 4 1, 3) := by decide +kernel
theorem dX11_thingsIn_46 : decode cX11_thingsIn 46 = .ok (.goto (-41), 3) := by decide +kernel
theorem dX11_thingsIn_49 : decode cX11_thingsIn 49 = .ok (.iload_n 3, 1) := by decide +kernel
theorem dX11_thingsIn_50 : decode cX11_thingsIn 50 = .ok (.ireturn, 1) := by decide +kernel
theorem dX11_bitsOf_0 : decode cX11_bitsOf 0 = .ok (.iconst 0, 1) := by decide +kernel
theorem dX11_bitsOf_1 : decode cX11_bitsOf 1 = .ok (.istore_n 1, 1) := by decide +kernel
theorem dX11_bitsOf_2 : decode cX11_bitsOf 2 = .ok (.iconst 0, 1) := by decide +kernel
theorem dX11_bitsOf_3 : decode cX11_bitsOf 3 = .ok (.istore_n 2, 1) := by decide +kernel
theorem dX11_bitsOf_4 : decode cX11_bitsOf 4 = .ok (.iload_n 2, 1) := by decide +kernel
theorem dX11_bitsOf_5 : decode cX11_bitsOf 5 = .ok (.bipush 10, 2) := by decide +kernel
theorem dX11_bitsOf_7 : decode cX11_bitsOf 7 = .ok (.if_icmp .ge 17, 3) := by decide +kernel
theorem dX11_bitsOf_10 : decode cX11_bitsOf 10 = .ok (.iload_n 1, 1) := by decide +kernel
theorem dX11_bitsOf_11 : decode cX11_bitsOf 11 = .ok (.iload_n 0, 1) := by decide +kernel
theorem dX11_bitsOf_12 : decode cX11_bitsOf 12 = .ok (.iload_n 2, 1) := by decide +kernel
theorem dX11_bitsOf_13 : decode cX11_bitsOf 13 = .ok (.ishr, 1) := by decide +kernel
theorem dX11_bitsOf_14 : decode cX11_bitsOf 14 = .ok (.iconst 1, 1) := by decide +kernel
theorem dX11_bitsOf_15 : decode cX11_bitsOf 15 = .ok (.iand, 1) := by decide +kernel
theorem dX11_bitsOf_16 : decode cX11_bitsOf 16 = .ok (.iadd, 1) := by decide +kernel
theorem dX11_bitsOf_17 : decode cX11_bitsOf 17 = .ok (.istore_n 1, 1) := by decide +kernel
theorem dX11_bitsOf_18 : decode cX11_bitsOf 18 = .ok (.iinc 2 1, 3) := by decide +kernel
theorem dX11_bitsOf_21 : decode cX11_bitsOf 21 = .ok (.goto (-17), 3) := by decide +kernel
theorem dX11_bitsOf_24 : decode cX11_bitsOf 24 = .ok (.iload_n 1, 1) := by decide +kernel
theorem dX11_bitsOf_25 : decode cX11_bitsOf 25 = .ok (.ireturn, 1) := by decide +kernel
theorem dX11_room_0 : decode cX11_room 0 = .ok (.aload_n 0, 1) := by decide +kernel
theorem dX11_room_1 : decode cX11_room 1 = .ok (.iconst 0, 1) := by decide +kernel
theorem dX11_room_2 : decode cX11_room 2 = .ok (.putfield 148, 3) := by decide +kernel
theorem dX11_room_5 : decode cX11_room 5 = .ok (.aload_n 0, 1) := by decide +kernel
theorem dX11_room_6 : decode cX11_room 6 = .ok (.iload_n 1, 1) := by decide +kernel
theorem dX11_room_7 : decode cX11_room 7 = .ok (.invokevirtual 419, 3) := by decide +kernel
theorem dX11_room_10 : decode cX11_room 10 = .ok (.ifCond .ne 5, 3) := by decide +kernel
theorem dX11_room_13 : decode cX11_room 13 = .ok (.iconst (-1), 1) := by decide +kernel
theorem dX11_room_14 : decode cX11_room 14 = .ok (.ireturn, 1) := by decide +kernel
theorem dX11_room_15 : decode cX11_room 15 = .ok (.iload_n 2, 1) := by decide +kernel
theorem dX11_room_16 : decode cX11_room 16 = .ok (.tableswitch 67 0 3 #[32, 39, 50, 60], 32) := by decide +kernel
theorem dX11_room_48 : decode cX11_room 48 = .ok (.aload_n 0, 1) := by decide +kernel
theorem dX11_room_49 : decode cX11_room 49 = .ok (.getfield 96, 3) := by decide +kernel
theorem dX11_room_52 : decode cX11_room 52 = .ok (.iload_n 1, 1) := by decide +kernel
theorem dX11_room_53 : decode cX11_room 53 = .ok (.iaload, 1) := by decide +kernel
theorem dX11_room_54 : decode cX11_room 54 = .ok (.ireturn, 1) := by decide +kernel
theorem dX11_room_55 : decode cX11_room 55 = .ok (.aload_n 0, 1) := by decide +kernel
theorem dX11_room_56 : decode cX11_room 56 = .ok (.getfield 84, 3) := by decide +kernel
theorem dX11_room_59 : decode cX11_room 59 = .ok (.iconst 0, 1) := by decide +kernel
theorem dX11_room_60 : decode cX11_room 60 = .ok (.iaload, 1) := by decide +kernel
theorem dX11_room_61 : decode cX11_room 61 = .ok (.iload_n 1, 1) := by decide +kernel
theorem dX11_room_62 : decode cX11_room 62 = .ok (.ishr, 1) := by decide +kernel
theorem dX11_room_63 : decode cX11_room 63 = .ok (.iconst 1, 1) := by decide +kernel
theorem dX11_room_64 : decode cX11_room 64 = .ok (.iand, 1) := by decide +kernel
theorem dX11_room_65 : decode cX11_room 65 = .ok (.ireturn, 1) := by decide +kernel
theorem dX11_room_66 : decode cX11_room 66 = .ok (.aload_n 0, 1) := by decide +kernel
theorem dX11_room_67 : decode cX11_room 67 = .ok (.iconst 0, 1) := by decide +kernel
theorem dX11_room_68 : decode cX11_room 68 = .ok (.iload_n 1, 1) := by decide +kernel
theorem dX11_room_69 : decode cX11_room 69 = .ok (.invokevirtual 422, 3) := by decide +kernel
theorem dX11_room_72 : decode cX11_room 72 = .ok (.invokestatic 425, 3) := by decide +kernel
theorem dX11_room_75 : decode cX11_room 75 = .ok (.ireturn, 1) := by decide +kernel
theorem dX11_room_76 : decode cX11_room 76 = .ok (.aload_n 0, 1) := by decide +kernel
theorem dX11_room_77 : decode cX11_room 77 = .ok (.iconst 0, 1) := by decide +kernel
theorem dX11_room_78 : decode cX11_room 78 = .ok (.iload_n 1, 1) := by decide +kernel
theorem dX11_room_79 : decode cX11_room 79 = .ok (.invokevirtual 422, 3) := by decide +kernel
theorem dX11_room_82 : decode cX11_room 82 = .ok (.ireturn, 1) := by decide +kernel
theorem dX11_room_83 : decode cX11_room 83 = .ok (.iconst (-1), 1) := by decide +kernel
theorem dX11_room_84 : decode cX11_room 84 = .ok (.ireturn, 1) := by decide +kernel
theorem dX11_dead_0 : decode cX11_dead 0 = .ok (.aload_n 0, 1) := by decide +kernel
theorem dX11_dead_1 : decode cX11_dead 1 = .ok (.iconst 0, 1) := by decide +kernel
theorem dX11_dead_2 : decode cX11_dead 2 = .ok (.putfield 148, 3) := by decide +kernel
theorem dX11_dead_5 : decode cX11_dead 5 = .ok (.aload_n 0, 1) := by decide +kernel
theorem dX11_dead_6 : decode cX11_dead 6 = .ok (.iload_n 1, 1) := by decide +kernel
theorem dX11_dead_7 : decode cX11_dead 7 = .ok (.invokevirtual 428, 3) := by decide +kernel
theorem dX11_dead_10 : decode cX11_dead 10 = .ok (.ifCond .ne 5, 3) := by decide +kernel
theorem dX11_dead_13 : decode cX11_dead 13 = .ok (.iconst (-1), 1) := by decide +kernel
theorem dX11_dead_14 : decode cX11_dead 14 = .ok (.ireturn, 1) := by decide +kernel
theorem dX11_dead_15 : decode cX11_dead 15 = .ok (.iload_n 2, 1) := by decide +kernel
theorem dX11_dead_16 : decode cX11_dead 16 = .ok (.tableswitch 71 0 4 #[36, 43, 50, 57, 64], 36) := by decide +kernel
theorem dX11_dead_52 : decode cX11_dead 52 = .ok (.aload_n 0, 1) := by decide +kernel
theorem dX11_dead_53 : decode cX11_dead 53 = .ok (.getfield 40, 3) := by decide +kernel
theorem dX11_dead_56 : decode cX11_dead 56 = .ok (.iload_n 1, 1) := by decide +kernel
theorem dX11_dead_57 : decode cX11_dead 57 = .ok (.iaload, 1) := by decide +kernel
theorem dX11_dead_58 : decode cX11_dead 58 = .ok (.ireturn, 1) := by decide +kernel
theorem dX11_dead_59 : decode cX11_dead 59 = .ok (.aload_n 0, 1) := by decide +kernel
theorem dX11_dead_60 : decode cX11_dead 60 = .ok (.getfield 43, 3) := by decide +kernel
theorem dX11_dead_63 : decode cX11_dead 63 = .ok (.iload_n 1, 1) := by decide +kernel
theorem dX11_dead_64 : decode cX11_dead 64 = .ok (.iaload, 1) := by decide +kernel
theorem dX11_dead_65 : decode cX11_dead 65 = .ok (.ireturn, 1) := by decide +kernel
theorem dX11_dead_66 : decode cX11_dead 66 = .ok (.aload_n 0, 1) := by decide +kernel
theorem dX11_dead_67 : decode cX11_dead 67 = .ok (.getfield 46, 3) := by decide +kernel
theorem dX11_dead_70 : decode cX11_dead 70 = .ok (.iload_n 1, 1) := by decide +kernel
theorem dX11_dead_71 : decode cX11_dead 71 = .ok (.iaload, 1) := by decide +kernel
theorem dX11_dead_72 : decode cX11_dead 72 = .ok (.ireturn, 1) := by decide +kernel
theorem dX11_dead_73 : decode cX11_dead 73 = .ok (.aload_n 0, 1) := by decide +kernel
theorem dX11_dead_74 : decode cX11_dead 74 = .ok (.getfield 49, 3) := by decide +kernel
theorem dX11_dead_77 : decode cX11_dead 77 = .ok (.iload_n 1, 1) := by decide +kernel
theorem dX11_dead_78 : decode cX11_dead 78 = .ok (.iaload, 1) := by decide +kernel
theorem dX11_dead_79 : decode cX11_dead 79 = .ok (.ireturn, 1) := by decide +kernel
theorem dX11_dead_80 : decode cX11_dead 80 = .ok (.aload_n 0, 1) := by decide +kernel
theorem dX11_dead_81 : decode cX11_dead 81 = .ok (.getfield 99, 3) := by decide +kernel
theorem dX11_dead_84 : decode cX11_dead 84 = .ok (.iload_n 1, 1) := by decide +kernel
theorem dX11_dead_85 : decode cX11_dead 85 = .ok (.iaload, 1) := by decide +kernel
theorem dX11_dead_86 : decode cX11_dead 86 = .ok (.ireturn, 1) := by decide +kernel
theorem dX11_dead_87 : decode cX11_dead 87 = .ok (.iconst (-1), 1) := by decide +kernel
theorem dX11_dead_88 : decode cX11_dead 88 = .ok (.ireturn, 1) := by decide +kernel
theorem dX11_door_0 : decode cX11_door 0 = .ok (.aload_n 0, 1) := by decide +kernel
theorem dX11_door_1 : decode cX11_door 1 = .ok (.iconst 0, 1) := by decide +kernel
theorem dX11_door_2 : decode cX11_door 2 = .ok (.putfield 148, 3) := by decide +kernel
theorem dX11_door_5 : decode cX11_door 5 = .ok (.aload_n 0, 1) := by decide +kernel
theorem dX11_door_6 : decode cX11_door 6 = .ok (.iload_n 1, 1) := by decide +kernel
theorem dX11_door_7 : decode cX11_door 7 = .ok (.invokevirtual 419, 3) := by decide +kernel
theorem dX11_door_10 : decode cX11_door 10 = .ok (.ifCond .eq 11, 3) := by decide +kernel
theorem dX11_door_13 : decode cX11_door 13 = .ok (.aload_n 0, 1) := by decide +kernel
theorem dX11_door_14 : decode cX11_door 14 = .ok (.iload_n 2, 1) := by decide +kernel
theorem dX11_door_15 : decode cX11_door 15 = .ok (.invokevirtual 419, 3) := by decide +kernel
theorem dX11_door_18 : decode cX11_door 18 = .ok (.ifCond .ne 5, 3) := by decide +kernel
theorem dX11_door_21 : decode cX11_door 21 = .ok (.iconst (-1), 1) := by decide +kernel
theorem dX11_door_22 : decode cX11_door 22 = .ok (.ireturn, 1) := by decide +kernel
theorem dX11_door_23 : decode cX11_door 23 = .ok (.aload_n 0, 1) := by decide +kernel
theorem dX11_door_24 : decode cX11_door 24 = .ok (.iload_n 1, 1) := by decide +kernel
theorem dX11_door_25 : decode cX11_door 25 = .ok (.iload_n 2, 1) := by decide +kernel
theorem dX11_door_26 : decode cX11_door 26 = .ok (.invokevirtual 388, 3) := by decide +kernel
theorem dX11_door_29 : decode cX11_door 29 = .ok (.ifCond .eq 7, 3) := by decide +kernel
theorem dX11_door_32 : decode cX11_door 32 = .ok (.iconst 1, 1) := by decide +kernel
theorem dX11_door_33 : decode cX11_door 33 = .ok (.goto 4, 3) := by decide +kernel
theorem dX11_door_36 : decode cX11_door 36 = .ok (.iconst 0, 1) := by decide +kernel
theorem dX11_door_37 : decode cX11_door 37 = .ok (.ireturn, 1) := by decide +kernel
theorem dX11_gauge_0 : decode cX11_gauge 0 = .ok (.aload_n 0, 1) := by decide +kernel
theorem dX11_gauge_1 : decode cX11_gauge 1 = .ok (.iconst 0, 1) := by decide +kernel
theorem dX11_gauge_2 : decode cX11_gauge 2 = .ok (.putfield 148, 3) := by decide +kernel
theorem dX11_gauge_5 : decode cX11_gauge 5 = .ok (.iload_n 1, 1) := by decide +kernel
theorem dX11_gauge_6 : decode cX11_gauge 6 = .ok (.ifCond .lt 18, 3) := by decide +kernel
theorem dX11_gauge_9 : decode cX11_gauge 9 = .ok (.iload_n 1, 1) := by decide +kernel
theorem dX11_gauge_10 : decode cX11_gauge 10 = .ok (.sipush 9999, 3) := by decide +kernel
theorem dX11_gauge_13 : decode cX11_gauge 13 = .ok (.if_icmp .gt 11, 3) := by decide +kernel
theorem dX11_gauge_16 : decode cX11_gauge 16 = .ok (.aload_n 0, 1) := by decide +kernel
theorem dX11_gauge_17 : decode cX11_gauge 17 = .ok (.iload_n 1, 1) := by decide +kernel
theorem dX11_gauge_18 : decode cX11_gauge 18 = .ok (.invokevirtual 340, 3) := by decide +kernel
theorem dX11_gauge_21 : decode cX11_gauge 21 = .ok (.goto 4, 3) := by decide +kernel
theorem dX11_gauge_24 : decode cX11_gauge 24 = .ok (.iconst (-1), 1) := by decide +kernel
theorem dX11_gauge_25 : decode cX11_gauge 25 = .ok (.ireturn, 1) := by decide +kernel
theorem dX11_liking_0 : decode cX11_liking 0 = .ok (.aload_n 0, 1) := by decide +kernel
theorem dX11_liking_1 : decode cX11_liking 1 = .ok (.iconst 0, 1) := by decide +kernel
theorem dX11_liking_2 : decode cX11_liking 2 = .ok (.putfield 148, 3) := by decide +kernel
theorem dX11_liking_5 : decode cX11_liking 5 = .ok (.aload_n 0, 1) := by decide +kernel
theorem dX11_liking_6 : decode cX11_liking 6 = .ok (.iload_n 1, 1) := by decide +kernel
theorem dX11_liking_7 : decode cX11_liking 7 = .ok (.invokevirtual 428, 3) := by decide +kernel
theorem dX11_liking_10 : decode cX11_liking 10 = .ok (.ifCond .eq 21, 3) := by decide +kernel
theorem dX11_liking_13 : decode cX11_liking 13 = .ok (.aload_n 0, 1) := by decide +kernel
theorem dX11_liking_14 : decode cX11_liking 14 = .ok (.iload_n 2, 1) := by decide +kernel
theorem dX11_liking_15 : decode cX11_liking 15 = .ok (.invokevirtual 416, 3) := by decide +kernel
theorem dX11_liking_18 : decode cX11_liking 18 = .ok (.ifCond .eq 13, 3) := by decide +kernel
theorem dX11_liking_21 : decode cX11_liking 21 = .ok (.aload_n 0, 1) := by decide +kernel
theorem dX11_liking_22 : decode cX11_liking 22 = .ok (.iconst 0, 1) := by decide +kernel
theorem dX11_liking_23 : decode cX11_liking 23 = .ok (.iload_n 1, 1) := by decide +kernel
theorem dX11_liking_24 : decode cX11_liking 24 = .ok (.iload_n 2, 1) := by decide +kernel
theorem dX11_liking_25 : decode cX11_liking 25 = .ok (.invokevirtual 378, 3) := by decide +kernel
theorem dX11_liking_28 : decode cX11_liking 28 = .ok (.goto 4, 3) := by decide +kernel
theorem dX11_liking_31 : decode cX11_liking 31 = .ok (.iconst (-1), 1) := by decide +kernel
theorem dX11_liking_32 : decode cX11_liking 32 = .ok (.ireturn, 1) := by decide +kernel
theorem dX11_law_0 : decode cX11_law 0 = .ok (.aload_n 0, 1) := by decide +kernel
theorem dX11_law_1 : decode cX11_law 1 = .ok (.iconst 0, 1) := by decide +kernel
theorem dX11_law_2 : decode cX11_law 2 = .ok (.putfield 148, 3) := by decide +kernel
theorem dX11_law_5 : decode cX11_law 5 = .ok (.iload_n 1, 1) := by decide +kernel
theorem dX11_law_6 : decode cX11_law 6 = .ok (.ifCond .lt 37, 3) := by decide +kernel
theorem dX11_law_9 : decode cX11_law 9 = .ok (.iload_n 1, 1) := by decide +kernel
theorem dX11_law_10 : decode cX11_law 10 = .ok (.iconst 2, 1) := by decide +kernel
theorem dX11_law_11 : decode cX11_law 11 = .ok (.if_icmp .gt 32, 3) := by decide +kernel
theorem dX11_law_14 : decode cX11_law 14 = .ok (.aload_n 0, 1) := by decide +kernel
theorem dX11_law_15 : decode cX11_law 15 = .ok (.iload_n 1, 1) := by decide +kernel
theorem dX11_law_16 : decode cX11_law 16 = .ok (.invokevirtual 352, 3) := by decide +kernel
theorem dX11_law_19 : decode cX11_law 19 = .ok (.ifCond .eq 24, 3) := by decide +kernel
theorem dX11_law_22 : decode cX11_law 22 = .ok (.aload_n 0, 1) := by decide +kernel
theorem dX11_law_23 : decode cX11_law 23 = .ok (.iload_n 2, 1) := by decide +kernel
theorem dX11_law_24 : decode cX11_law 24 = .ok (.invokevirtual 428, 3) := by decide +kernel
theorem dX11_law_27 : decode cX11_law 27 = .ok (.ifCond .eq 16, 3) := by decide +kernel
theorem dX11_law_30 : decode cX11_law 30 = .ok (.iload_n 1, 1) := by decide +kernel
theorem dX11_law_31 : decode cX11_law 31 = .ok (.iconst 2, 1) := by decide +kernel
theorem dX11_law_32 : decode cX11_law 32 = .ok (.if_icmp .eq 15, 3) := by decide +kernel
theorem dX11_law_35 : decode cX11_law 35 = .ok (.aload_n 0, 1) := by decide +kernel
theorem dX11_law_36 : decode cX11_law 36 = .ok (.iload_n 3, 1) := by decide +kernel
theorem dX11_law_37 : decode cX11_law 37 = .ok (.invokevirtual 416, 3) := by decide +kernel
theorem dX11_law_40 : decode cX11_law 40 = .ok (.ifCond .ne 7, 3) := by decide +kernel
theorem dX11_law_43 : decode cX11_law 43 = .ok (.ldc2_w 433, 3) := by decide +kernel
theorem dX11_law_46 : decode cX11_law 46 = .ok (.lreturn, 1) := by decide +kernel
theorem dX11_law_47 : decode cX11_law 47 = .ok (.aload_n 0, 1) := by decide +kernel
theorem dX11_law_48 : decode cX11_law 48 = .ok (.iconst 0, 1) := by decide +kernel
theorem dX11_law_49 : decode cX11_law 49 = .ok (.iload_n 2, 1) := by decide +kernel
theorem dX11_law_50 : decode cX11_law 50 = .ok (.iload_n 1, 1) := by decide +kernel
theorem dX11_law_51 : decode cX11_law 51 = .ok (.iconst 2, 1) := by decide +kernel
theorem dX11_law_52 : decode cX11_law 52 = .ok (.if_icmp .ne 7, 3) := by decide +kernel
theorem dX11_law_55 : decode cX11_law 55 = .ok (.iconst (-1), 1) := by decide +kernel
theorem dX11_law_56 : decode cX11_law 56 = .ok (.goto 4, 3) := by decide +kernel
theorem dX11_law_59 : decode cX11_law 59 = .ok (.iload_n 3, 1) := by decide +kernel
theorem dX11_law_60 : decode cX11_law 60 = .ok (.invokevirtual 365, 3) := by decide +kernel
theorem dX11_law_63 : decode cX11_law 63 = .ok (.aload_n 0, 1) := by decide +kernel
theorem dX11_law_64 : decode cX11_law 64 = .ok (.iload_n 1, 1) := by decide +kernel
theorem dX11_law_65 : decode cX11_law 65 = .ok (.invokevirtual 355, 3) := by decide +kernel
theorem dX11_law_68 : decode cX11_law 68 = .ok (.ifCond .eq 12, 3) := by decide +kernel
theorem dX11_law_71 : decode cX11_law 71 = .ok (.aload_n 0, 1) := by decide +kernel
theorem dX11_law_72 : decode cX11_law 72 = .ok (.getfield 75, 3) := by decide +kernel
theorem dX11_law_75 : decode cX11_law 75 = .ok (.iconst 0, 1) := by decide +kernel
theorem dX11_law_76 : decode cX11_law 76 = .ok (.laload, 1) := by decide +kernel
theorem dX11_law_77 : decode cX11_law 77 = .ok (.goto 6, 3) := by decide +kernel
theorem dX11_law_80 : decode cX11_law 80 = .ok (.ldc2_w 433, 3) := by decide +kernel
theorem dX11_law_83 : decode cX11_law 83 = .ok (.lreturn, 1) := by decide +kernel
theorem dX11_keepNow_0 : decode cX11_keepNow 0 = .ok (.aload_n 0, 1) := by decide +kernel
theorem dX11_keepNow_1 : decode cX11_keepNow 1 = .ok (.getfield 311, 3) := by decide +kernel
theorem dX11_keepNow_4 : decode cX11_keepNow 4 = .ok (.bipush 20, 2) := by decide +kernel
theorem dX11_keepNow_6 : decode cX11_keepNow 6 = .ok (.if_icmp .ne 39, 3) := by decide +kernel
theorem dX11_keepNow_9 : decode cX11_keepNow 9 = .ok (.iconst 1, 1) := by decide +kernel
theorem dX11_keepNow_10 : decode cX11_keepNow 10 = .ok (.istore_n 1, 1) := by decide +kernel
theorem dX11_keepNow_11 : decode cX11_keepNow 11 = .ok (.iload_n 1, 1) := by decide +kernel
theorem dX11_keepNow_12 : decode cX11_keepNow 12 = .ok (.bipush 20, 2) := by decide +kernel
theorem dX11_keepNow_14 : decode cX11_keepNow 14 = .ok (.if_icmp .ge 21, 3) := by decide +kernel
theorem dX11_keepNow_17 : decode cX11_keepNow 17 = .ok (.aload_n 0, 1) := by decide +kernel
theorem dX11_keepNow_18 : decode cX11_keepNow 18 = .ok (.iconst 3, 1) := by decide +kernel
theorem dX11_keepNow_19 : decode cX11_keepNow 19 = .ok (.iload_n 1, 1) := by decide +kernel
theorem dX11_keepNow_20 : decode cX11_keepNow 20 = .ok (.iadd, 1) := by decide +kernel
theorem dX11_keepNow_21 : decode cX11_keepNow 21 = .ok (.iconst 1, 1) := by decide +kernel
theorem dX11_keepNow_22 : decode cX11_keepNow 22 = .ok (.isub, 1) := by decide +kernel
theorem dX11_keepNow_23 : decode cX11_keepNow 23 = .ok (.iconst 3, 1) := by decide +kernel
theorem dX11_keepNow_24 : decode cX11_keepNow 24 = .ok (.iload_n 1, 1) := by decide +kernel
theorem dX11_keepNow_25 : decode cX11_keepNow 25 = .ok (.iadd, 1) := by decide +kernel
theorem dX11_keepNow_26 : decode cX11_keepNow 26 = .ok (.invokevirtual 403, 3) := by decide +kernel
theorem dX11_keepNow_29 : decode cX11_keepNow 29 = .ok (.iinc 1 1, 3) := by decide +kernel
theorem dX11_keepNow_32 : decode cX11_keepNow 32 = .ok (.goto (-21), 3) := by decide +kernel
theorem dX11_keepNow_35 : decode cX11_keepNow 35 = .ok (.aload_n 0, 1) := by decide +kernel
theorem dX11_keepNow_36 : decode cX11_keepNow 36 = .ok (.dup, 1) := by decide +kernel
theorem dX11_keepNow_37 : decode cX11_keepNow 37 = .ok (.getfield 311, 3) := by decide +kernel
theorem dX11_keepNow_40 : decode cX11_keepNow 40 = .ok (.iconst 1, 1) := by decide +kernel
theorem dX11_keepNow_41 : decode cX11_keepNow 41 = .ok (.isub, 1) := by decide +kernel
theorem dX11_keepNow_42 : decode cX11_keepNow 42 = .ok (.putfield 311, 3) := by decide +kernel
theorem dX11_keepNow_45 : decode cX11_keepNow 45 = .ok (.aload_n 0, 1) := by decide +kernel
theorem dX11_keepNow_46 : decode cX11_keepNow 46 = .ok (.iconst 3, 1) := by decide +kernel
theorem dX11_keepNow_47 : decode cX11_keepNow 47 = .ok (.aload_n 0, 1) := by decide +kernel
theorem dX11_keepNow_48 : decode cX11_keepNow 48 = .ok (.getfield 311, 3) := by decide +kernel
theorem dX11_keepNow_51 : decode cX11_keepNow 51 = .ok (.iadd, 1) := by decide +kernel
theorem dX11_keepNow_52 : decode cX11_keepNow 52 = .ok (.iconst 0, 1) := by decide +kernel
theorem dX11_keepNow_53 : decode cX11_keepNow 53 = .ok (.invokevirtual 403, 3) := by decide +kernel
theorem dX11_keepNow_56 : decode cX11_keepNow 56 = .ok (.aload_n 0, 1) := by decide +kernel
theorem dX11_keepNow_57 : decode cX11_keepNow 57 = .ok (.dup, 1) := by decide +kernel
theorem dX11_keepNow_58 : decode cX11_keepNow 58 = .ok (.getfield 311, 3) := by decide +kernel
theorem dX11_keepNow_61 : decode cX11_keepNow 61 = .ok (.iconst 1, 1) := by decide +kernel
theorem dX11_keepNow_62 : decode cX11_keepNow 62 = .ok (.iadd, 1) := by decide +kernel
theorem dX11_keepNow_63 : decode cX11_keepNow 63 = .ok (.putfield 311, 3) := by decide +kernel
theorem dX11_keepNow_66 : decode cX11_keepNow 66 = .ok (.return_, 1) := by decide +kernel
theorem dX11_hang_0 : decode cX11_hang 0 = .ok (.aload_n 0, 1) := by decide +kernel
theorem dX11_hang_1 : decode cX11_hang 1 = .ok (.iconst 0, 1) := by decide +kernel
theorem dX11_hang_2 : decode cX11_hang 2 = .ok (.putfield 148, 3) := by decide +kernel
theorem dX11_hang_5 : decode cX11_hang 5 = .ok (.aload_n 0, 1) := by decide +kernel
theorem dX11_hang_6 : decode cX11_hang 6 = .ok (.iload_n 1, 1) := by decide +kernel
theorem dX11_hang_7 : decode cX11_hang 7 = .ok (.invokevirtual 416, 3) := by decide +kernel
theorem dX11_hang_10 : decode cX11_hang 10 = .ok (.ifCond .eq 21, 3) := by decide +kernel
theorem dX11_hang_13 : decode cX11_hang 13 = .ok (.aload_n 0, 1) := by decide +kernel
theorem dX11_hang_14 : decode cX11_hang 14 = .ok (.iload_n 2, 1) := by decide +kernel
theorem dX11_hang_15 : decode cX11_hang 15 = .ok (.invokevirtual 419, 3) := by decide +kernel
theorem dX11_hang_18 : decode cX11_hang 18 = .ok (.ifCond .eq 13, 3) := by decide +kernel
theorem dX11_hang_21 : decode cX11_hang 21 = .ok (.aload_n 0, 1) := by decide +kernel
theorem dX11_hang_22 : decode cX11_hang 22 = .ok (.getfield 87, 3) := by decide +kernel
theorem dX11_hang_25 : decode cX11_hang 25 = .ok (.iload_n 1, 1) := by decide +kernel
theorem dX11_hang_26 : decode cX11_hang 26 = .ok (.iaload, 1) := by decide +kernel
theorem dX11_hang_27 : decode cX11_hang 27 = .ok (.iload_n 2, 1) := by decide +kernel
theorem dX11_hang_28 : decode cX11_hang 28 = .ok (.if_icmp .ne 5, 3) := by decide +kernel
theorem dX11_hang_31 : decode cX11_hang 31 = .ok (.iconst 0, 1) := by decide +kernel
theorem dX11_hang_32 : decode cX11_hang 32 = .ok (.ireturn, 1) := by decide +kernel
theorem dX11_hang_33 : decode cX11_hang 33 = .ok (.aload_n 0, 1) := by decide +kernel
theorem dX11_hang_34 : decode cX11_hang 34 = .ok (.invokevirtual 435, 3) := by decide +kernel
theorem dX11_hang_37 : decode cX11_hang 37 = .ok (.aload_n 0, 1) := by decide +kernel
theorem dX11_hang_38 : decode cX11_hang 38 = .ok (.getfield 87, 3) := by decide +kernel
theorem dX11_hang_41 : decode cX11_hang 41 = .ok (.iload_n 1, 1) := by decide +kernel
theorem dX11_hang_42 : decode cX11_hang 42 = .ok (.iload_n 2, 1) := by decide +kernel
theorem dX11_hang_43 : decode cX11_hang 43 = .ok (.iastore, 1) := by decide +kernel
theorem dX11_hang_44 : decode cX11_hang 44 = .ok (.iconst 1, 1) := by decide +kernel
theorem dX11_hang_45 : decode cX11_hang 45 = .ok (.ireturn, 1) := by decide +kernel
theorem dX11_rope_0 : decode cX11_rope 0 = .ok (.aload_n 0, 1) := by decide +kernel
theorem dX11_rope_1 : decode cX11_rope 1 = .ok (.iconst 0, 1) := by decide +kernel
theorem dX11_rope_2 : decode cX11_rope 2 = .ok (.putfield 148, 3) := by decide +kernel
theorem dX11_rope_5 : decode cX11_rope 5 = .ok (.aload_n 0, 1) := by decide +kernel
theorem dX11_rope_6 : decode cX11_rope 6 = .ok (.iload_n 1, 1) := by decide +kernel
theorem dX11_rope_7 : decode cX11_rope 7 = .ok (.invokevirtual 419, 3) := by decide +kernel
theorem dX11_rope_10 : decode cX11_rope 10 = .ok (.ifCond .eq 26, 3) := by decide +kernel
theorem dX11_rope_13 : decode cX11_rope 13 = .ok (.aload_n 0, 1) := by decide +kernel
theorem dX11_rope_14 : decode cX11_rope 14 = .ok (.getfield 84, 3) := by decide +kernel
theorem dX11_rope_17 : decode cX11_rope 17 = .ok (.iconst 0, 1) := by decide +kernel
theorem dX11_rope_18 : decode cX11_rope 18 = .ok (.iaload, 1) := by decide +kernel
theorem dX11_rope_19 : decode cX11_rope 19 = .ok (.iload_n 1, 1) := by decide +kernel
theorem dX11_rope_20 : decode cX11_rope 20 = .ok (.ishr, 1) := by decide +kernel
theorem dX11_rope_21 : decode cX11_rope 21 = .ok (.iconst 1, 1) := by decide +kernel
theorem dX11_rope_22 : decode cX11_rope 22 = .ok (.iand, 1) := by decide +kernel
theorem dX11_rope_23 : decode cX11_rope 23 = .ok (.iconst 1, 1) := by decide +kernel
theorem dX11_rope_24 : decode cX11_rope 24 = .ok (.if_icmp .ne 7, 3) := by decide +kernel
theorem dX11_rope_27 : decode cX11_rope 27 = .ok (.iconst 1, 1) := by decide +kernel
theorem dX11_rope_28 : decode cX11_rope 28 = .ok (.goto 4, 3) := by decide +kernel
theorem dX11_rope_31 : decode cX11_rope 31 = .ok (.iconst 0, 1) := by decide +kernel
theorem dX11_rope_32 : decode cX11_rope 32 = .ok (.iload_n 2, 1) := by decide +kernel
theorem dX11_rope_33 : decode cX11_rope 33 = .ok (.if_icmp .ne 5, 3) := by decide +kernel
theorem dX11_rope_36 : decode cX11_rope 36 = .ok (.iconst 0, 1) := by decide +kernel
theorem dX11_rope_37 : decode cX11_rope 37 = .ok (.ireturn, 1) := by decide +kernel
theorem dX11_rope_38 : decode cX11_rope 38 = .ok (.aload_n 0, 1) := by decide +kernel
theorem dX11_rope_39 : decode cX11_rope 39 = .ok (.invokevirtual 435, 3) := by decide +kernel
theorem dX11_rope_42 : decode cX11_rope 42 = .ok (.aload_n 0, 1) := by decide +kernel
theorem dX11_rope_43 : decode cX11_rope 43 = .ok (.getfield 84, 3) := by decide +kernel
theorem dX11_rope_46 : decode cX11_rope 46 = .ok (.iconst 0, 1) := by decide +kernel
theorem dX11_rope_47 : decode cX11_rope 47 = .ok (.dup2, 1) := by decide +kernel
theorem dX11_rope_48 : decode cX11_rope 48 = .ok (.iaload, 1) := by decide +kernel
theorem dX11_rope_49 : decode cX11_rope 49 = .ok (.iconst 1, 1) := by decide +kernel
theorem dX11_rope_50 : decode cX11_rope 50 = .ok (.iload_n 1, 1) := by decide +kernel
theorem dX11_rope_51 : decode cX11_rope 51 = .ok (.ishl, 1) := by decide +kernel
theorem dX11_rope_52 : decode cX11_rope 52 = .ok (.ixor, 1) := by decide +kernel
theorem dX11_rope_53 : decode cX11_rope 53 = .ok (.iastore, 1) := by decide +kernel
theorem dX11_rope_54 : decode cX11_rope 54 = .ok (.iconst 1, 1) := by decide +kernel
theorem dX11_rope_55 : decode cX11_rope 55 = .ok (.ireturn, 1) := by decide +kernel
theorem dX11_dust_0 : decode cX11_dust 0 = .ok (.aload_n 0, 1) := by decide +kernel
theorem dX11_dust_1 : decode cX11_dust 1 = .ok (.iconst 0, 1) := by decide +kernel
theorem dX11_dust_2 : decode cX11_dust 2 = .ok (.putfield 148, 3) := by decide +kernel
theorem dX11_dust_5 : decode cX11_dust 5 = .ok (.aload_n 0, 1) := by decide +kernel
theorem dX11_dust_6 : decode cX11_dust 6 = .ok (.iload_n 1, 1) := by decide +kernel
theorem dX11_dust_7 : decode cX11_dust 7 = .ok (.invokevirtual 419, 3) := by decide +kernel
theorem dX11_dust_10 : decode cX11_dust 10 = .ok (.ifCond .eq 12, 3) := by decide +kernel
theorem dX11_dust_13 : decode cX11_dust 13 = .ok (.aload_n 0, 1) := by decide +kernel
theorem dX11_dust_14 : decode cX11_dust 14 = .ok (.getfield 96, 3) := by decide +kernel
theorem dX11_dust_17 : decode cX11_dust 17 = .ok (.iload_n 1, 1) := by decide +kernel
theorem dX11_dust_18 : decode cX11_dust 18 = .ok (.iaload, 1) := by decide +kernel
theorem dX11_dust_19 : decode cX11_dust 19 = .ok (.ifCond .ne 5, 3) := by decide +kernel
theorem dX11_dust_22 : decode cX11_dust 22 = .ok (.iconst 0, 1) := by decide +kernel
theorem dX11_dust_23 : decode cX11_dust 23 = .ok (.ireturn, 1) := by decide +kernel
theorem dX11_dust_24 : decode cX11_dust 24 = .ok (.aload_n 0, 1) := by decide +kernel
theorem dX11_dust_25 : decode cX11_dust 25 = .ok (.invokevirtual 435, 3) := by decide +kernel
theorem dX11_dust_28 : decode cX11_dust 28 = .ok (.aload_n 0, 1) := by decide +kernel
theorem dX11_dust_29 : decode cX11_dust 29 = .ok (.getfield 96, 3) := by decide +kernel
theorem dX11_dust_32 : decode cX11_dust 32 = .ok (.iload_n 1, 1) := by decide +kernel
theorem dX11_dust_33 : decode cX11_dust 33 = .ok (.iconst 0, 1) := by decide +kernel
theorem dX11_dust_34 : decode cX11_dust 34 = .ok (.iastore, 1) := by decide +kernel
theorem dX11_dust_35 : decode cX11_dust 35 = .ok (.iconst 1, 1) := by decide +kernel
theorem dX11_dust_36 : decode cX11_dust 36 = .ok (.ireturn, 1) := by decide +kernel
theorem dX11_go_0 : decode cX11_go 0 = .ok (.aload_n 0, 1) := by decide +kernel
theorem dX11_go_1 : decode cX11_go 1 = .ok (.iconst 0, 1) := by decide +kernel
theorem dX11_go_2 : decode cX11_go 2 = .ok (.putfield 148, 3) := by decide +kernel
theorem dX11_go_5 : decode cX11_go 5 = .ok (.iload_n 1, 1) := by decide +kernel
theorem dX11_go_6 : decode cX11_go 6 = .ok (.ifCond .lt 23, 3) := by decide +kernel
theorem dX11_go_9 : decode cX11_go 9 = .ok (.iload_n 1, 1) := by decide +kernel
theorem dX11_go_10 : decode cX11_go 10 = .ok (.bipush 99, 2) := by decide +kernel
theorem dX11_go_12 : decode cX11_go 12 = .ok (.if_icmp .gt 17, 3) := by decide +kernel
theorem dX11_go_15 : decode cX11_go 15 = .ok (.aload_n 0, 1) := by decide +kernel
theorem dX11_go_16 : decode cX11_go 16 = .ok (.getfield 78, 3) := by decide +kernel
theorem dX11_go_19 : decode cX11_go 19 = .ok (.iconst 0, 1) := by decide +kernel
theorem dX11_go_20 : decode cX11_go 20 = .ok (.iaload, 1) := by decide +kernel
theorem dX11_go_21 : decode cX11_go 21 = .ok (.iload_n 1, 1) := by decide +kernel
theorem dX11_go_22 : decode cX11_go 22 = .ok (.iadd, 1) := by decide +kernel
theorem dX11_go_23 : decode cX11_go 23 = .ok (.sipush 9900, 3) := by decide +kernel
theorem dX11_go_26 : decode cX11_go 26 = .ok (.if_icmp .le 5, 3) := by decide +kernel
theorem dX11_go_29 : decode cX11_go 29 = .ok (.iconst (-1), 1) := by decide +kernel
theorem dX11_go_30 : decode cX11_go 30 = .ok (.ireturn, 1) := by decide +kernel
theorem dX11_go_31 : decode cX11_go 31 = .ok (.iload_n 1, 1) := by decide +kernel
theorem dX11_go_32 : decode cX11_go 32 = .ok (.ifCond .le 8, 3) := by decide +kernel
theorem dX11_go_35 : decode cX11_go 35 = .ok (.aload_n 0, 1) := by decide +kernel
theorem dX11_go_36 : decode cX11_go 36 = .ok (.iconst 0, 1) := by decide +kernel
theorem dX11_go_37 : decode cX11_go 37 = .ok (.putfield 311, 3) := by decide +kernel
theorem dX11_go_40 : decode cX11_go 40 = .ok (.iconst 0, 1) := by decide +kernel
theorem dX11_go_41 : decode cX11_go 41 = .ok (.istore_n 2, 1) := by decide +kernel
theorem dX11_go_42 : decode cX11_go 42 = .ok (.iload_n 2, 1) := by decide +kernel
theorem dX11_go_43 : decode cX11_go 43 = .ok (.iload_n 1, 1) := by decide +kernel
theorem dX11_go_44 : decode cX11_go 44 = .ok (.if_icmp .ge 14, 3) := by decide +kernel
theorem dX11_go_47 : decode cX11_go 47 = .ok (.aload_n 0, 1) := by decide +kernel
theorem dX11_go_48 : decode cX11_go 48 = .ok (.iconst 0, 1) := by decide +kernel
theorem dX11_go_49 : decode cX11_go 49 = .ok (.invokevirtual 409, 3) := by decide +kernel
theorem dX11_go_52 : decode cX11_go 52 = .ok (.iinc 2 1, 3) := by decide +kernel
theorem dX11_go_55 : decode cX11_go 55 = .ok (.goto (-13), 3) := by decide +kernel
theorem dX11_go_58 : decode cX11_go 58 = .ok (.aload_n 0, 1) := by decide +kernel
theorem dX11_go_59 : decode cX11_go 59 = .ok (.getfield 78, 3) := by decide +kernel
theorem dX11_go_62 : decode cX11_go 62 = .ok (.iconst 0, 1) := by decide +kernel
theorem dX11_go_63 : decode cX11_go 63 = .ok (.iaload, 1) := by decide +kernel
theorem dX11_go_64 : decode cX11_go 64 = .ok (.ireturn, 1) := by decide +kernel
theorem dX11_ahead_0 : decode cX11_ahead 0 = .ok (.aload_n 0, 1) := by decide +kernel
theorem dX11_ahead_1 : decode cX11_ahead 1 = .ok (.iconst 0, 1) := by decide +kernel
theorem dX11_ahead_2 : decode cX11_ahead 2 = .ok (.putfield 148, 3) := by decide +kernel
theorem dX11_ahead_5 : decode cX11_ahead 5 = .ok (.iload_n 1, 1) := by decide +kernel
theorem dX11_ahead_6 : decode cX11_ahead 6 = .ok (.ifCond .lt 30, 3) := by decide +kernel
theorem dX11_ahead_9 : decode cX11_ahead 9 = .ok (.iload_n 1, 1) := by decide +kernel
theorem dX11_ahead_10 : decode cX11_ahead 10 = .ok (.bipush 60, 2) := by decide +kernel
theorem dX11_ahead_12 : decode cX11_ahead 12 = .ok (.if_icmp .gt 24, 3) := by decide +kernel
theorem dX11_ahead_15 : decode cX11_ahead 15 = .ok (.iload_n 2, 1) := by decide +kernel
theorem dX11_ahead_16 : decode cX11_ahead 16 = .ok (.ifCond .lt 20, 3) := by decide +kernel
theorem dX11_ahead_19 : decode cX11_ahead 19 = .ok (.iload_n 2, 1) := by decide +kernel
theorem dX11_ahead_20 : decode cX11_ahead 20 = .ok (.iconst 2, 1) := by decide +kernel
theorem dX11_ahead_21 : decode cX11_ahead 21 = .ok (.if_icmp .gt 15, 3) := by decide +kernel
theorem dX11_ahead_24 : decode cX11_ahead 24 = .ok (.iload_n 2, 1) := by decide +kernel
theorem dX11_ahead_25 : decode cX11_ahead 25 = .ok (.ifCond .ne 13, 3) := by decide +kernel
theorem dX11_ahead_28 : decode cX11_ahead 28 = .ok (.aload_n 0, 1) := by decide +kernel
theorem dX11_ahead_29 : decode cX11_ahead 29 = .ok (.iload_n 3, 1) := by decide +kernel
theorem dX11_ahead_30 : decode cX11_ahead 30 = .ok (.invokevirtual 416, 3) := by decide +kernel
theorem dX11_ahead_33 : decode cX11_ahead 33 = .ok (.ifCond .ne 5, 3) := by decide +kernel
theorem dX11_ahead_36 : decode cX11_ahead 36 = .ok (.iconst (-1), 1) := by decide +kernel
theorem dX11_ahead_37 : decode cX11_ahead 37 = .ok (.ireturn, 1) := by decide +kernel
theorem dX11_ahead_38 : decode cX11_ahead 38 = .ok (.aload_n 0, 1) := by decide +kernel
theorem dX11_ahead_39 : decode cX11_ahead 39 = .ok (.iload_n 1, 1) := by decide +kernel
theorem dX11_ahead_40 : decode cX11_ahead 40 = .ok (.invokevirtual 438, 3) := by decide +kernel
theorem dX11_ahead_43 : decode cX11_ahead 43 = .ok (.iload_n 2, 1) := by decide +kernel
theorem dX11_ahead_44 : decode cX11_ahead 44 = .ok (.lookupswitch 58 #[(0, 28), (1, 38)], 28) := by decide +kernel
theorem dX11_ahead_72 : decode cX11_ahead 72 = .ok (.aload_n 0, 1) := by decide +kernel
theorem dX11_ahead_73 : decode cX11_ahead 73 = .ok (.getfield 87, 3) := by decide +kernel
theorem dX11_ahead_76 : decode cX11_ahead 76 = .ok (.bipush 8, 2) := by decide +kernel
theorem dX11_ahead_78 : decode cX11_ahead 78 = .ok (.iload_n 3, 1) := by decide +kernel
theorem dX11_ahead_79 : decode cX11_ahead 79 = .ok (.iadd, 1) := by decide +kernel
theorem dX11_ahead_80 : decode cX11_ahead 80 = .ok (.iaload, 1) := by decide +kernel
theorem dX11_ahead_81 : decode cX11_ahead 81 = .ok (.ireturn, 1) := by decide +kernel
theorem dX11_ahead_82 : decode cX11_ahead 82 = .ok (.aload_n 0, 1) := by decide +kernel
theorem dX11_ahead_83 : decode cX11_ahead 83 = .ok (.aload_n 0, 1) := by decide +kernel
theorem dX11_ahead_84 : decode cX11_ahead 84 = .ok (.getfield 90, 3) := by decide +kernel
theorem dX11_ahead_87 : decode cX11_ahead 87 = .ok (.iconst 1, 1) := by decide +kernel
theorem dX11_ahead_88 : decode cX11_ahead 88 = .ok (.invokevirtual 412, 3) := by decide +kernel
theorem dX11_ahead_91 : decode cX11_ahead 91 = .ok (.aload_n 0, 1) := by decide +kernel
theorem dX11_ahead_92 : decode cX11_ahead 92 = .ok (.aload_n 0, 1) := by decide +kernel
theorem dX11_ahead_93 : decode cX11_ahead 93 = .ok (.getfield 90, 3) := by decide +kernel
theorem dX11_ahead_96 : decode cX11_ahead 96 = .ok (.iconst 0, 1) := by decide +kernel
theorem dX11_ahead_97 : decode cX11_ahead 97 = .ok (.invokevirtual 412, 3) := by decide +kernel
theorem dX11_ahead_100 : decode cX11_ahead 100 = .ok (.isub, 1) := by decide +kernel
theorem dX11_ahead_101 : decode cX11_ahead 101 = .ok (.ireturn, 1) := by decide +kernel
theorem dX11_ahead_102 : decode cX11_ahead 102 = .ok (.aload_n 0, 1) := by decide +kernel
theorem dX11_ahead_103 : decode cX11_ahead 103 = .ok (.aload_n 0, 1) := by decide +kernel
theorem dX11_ahead_104 : decode cX11_ahead 104 = .ok (.getfield 93, 3) := by decide +kernel
theorem dX11_ahead_107 : decode cX11_ahead 107 = .ok (.iconst 1, 1) := by decide +kernel
theorem dX11_ahead_108 : decode cX11_ahead 108 = .ok (.invokevirtual 412, 3) := by decide +kernel
theorem dX11_ahead_111 : decode cX11_ahead 111 = .ok (.aload_n 0, 1) := by decide +kernel
theorem dX11_ahead_112 : decode cX11_ahead 112 = .ok (.aload_n 0, 1) := by decide +kernel
theorem dX11_ahead_113 : decode cX11_ahead 113 = .ok (.getfield 93, 3) := by decide +kernel
theorem dX11_ahead_116 : decode cX11_ahead 116 = .ok (.iconst 0, 1) := by decide +kernel
theorem dX11_ahead_117 : decode cX11_ahead 117 = .ok (.invokevirtual 412, 3) := by decide +kernel
theorem dX11_ahead_120 : decode cX11_ahead 120 = .ok (.isub, 1) := by decide +kernel
theorem dX11_ahead_121 : decode cX11_ahead 121 = .ok (.ireturn, 1) := by decide +kernel
theorem dX11_comersOf_0 : decode cX11_comersOf 0 = .ok (.iconst 0, 1) := by decide +kernel
theorem dX11_comersOf_1 : decode cX11_comersOf 1 = .ok (.istore_n 2, 1) := by decide +kernel
theorem dX11_comersOf_2 : decode cX11_comersOf 2 = .ok (.iconst 0, 1) := by decide +kernel
theorem dX11_comersOf_3 : decode cX11_comersOf 3 = .ok (.istore_n 3, 1) := by decide +kernel
theorem dX11_comersOf_4 : decode cX11_comersOf 4 = .ok (.iload_n 3, 1) := by decide +kernel
theorem dX11_comersOf_5 : decode cX11_comersOf 5 = .ok (.aload_n 0, 1) := by decide +kernel
theorem dX11_comersOf_6 : decode cX11_comersOf 6 = .ok (.getfield 13, 3) := by decide +kernel
theorem dX11_comersOf_9 : decode cX11_comersOf 9 = .ok (.iconst 3, 1) := by decide +kernel
theorem dX11_comersOf_10 : decode cX11_comersOf 10 = .ok (.iaload, 1) := by decide +kernel
theorem dX11_comersOf_11 : decode cX11_comersOf 11 = .ok (.if_icmp .ge 28, 3) := by decide +kernel
theorem dX11_comersOf_14 : decode cX11_comersOf 14 = .ok (.iload_n 2, 1) := by decide +kernel
theorem dX11_comersOf_15 : decode cX11_comersOf 15 = .ok (.aload_n 0, 1) := by decide +kernel
theorem dX11_comersOf_16 : decode cX11_comersOf 16 = .ok (.iload_n 1, 1) := by decide +kernel
theorem dX11_comersOf_17 : decode cX11_comersOf 17 = .ok (.iload_n 3, 1) := by decide +kernel
theorem dX11_comersOf_18 : decode cX11_comersOf 18 = .ok (.invokevirtual 397, 3) := by decide +kernel
theorem dX11_comersOf_21 : decode cX11_comersOf 21 = .ok (.ifCond .eq 9, 3) := by decide +kernel
theorem dX11_comersOf_24 : decode cX11_comersOf 24 = .ok (.iconst 1, 1) := by decide +kernel
theorem dX11_comersOf_25 : decode cX11_comersOf 25 = .ok (.iload_n 3, 1) := by decide +kernel
theorem dX11_comersOf_26 : decode cX11_comersOf 26 = .ok (.ishl, 1) := by decide +kernel
theorem dX11_comersOf_27 : decode cX11_comersOf 27 = .ok (.goto 4, 3) := by decide +kernel
theorem dX11_comersOf_30 : decode cX11_comersOf 30 = .ok (.iconst 0, 1) := by decide +kernel
theorem dX11_comersOf_31 : decode cX11_comersOf 31 = .ok (.ior, 1) := by decide +kernel
theorem dX11_comersOf_32 : decode cX11_comersOf 32 = .ok (.istore_n 2, 1) := by decide +kernel
theorem dX11_comersOf_33 : decode cX11_comersOf 33 = .ok (.iinc 3 1, 3) := by decide +kernel
theorem dX11_comersOf_36 : decode cX11_comersOf 36 = .ok (.goto (-32), 3) := by decide +kernel
theorem dX11_comersOf_39 : decode cX11_comersOf 39 = .ok (.iload_n 2, 1) := by decide +kernel
theorem dX11_comersOf_40 : decode cX11_comersOf 40 = .ok (.ireturn, 1) := by decide +kernel
theorem dX11_comes_0 : decode cX11_comes 0 = .ok (.aload_n 0, 1) := by decide +kernel
theorem dX11_comes_1 : decode cX11_comes 1 = .ok (.iconst 0, 1) := by decide +kernel
theorem dX11_comes_2 : decode cX11_comes 2 = .ok (.putfield 148, 3) := by decide +kernel
theorem dX11_comes_5 : decode cX11_comes 5 = .ok (.aload_n 0, 1) := by decide +kernel
theorem dX11_comes_6 : decode cX11_comes 6 = .ok (.iconst 0, 1) := by decide +kernel
theorem dX11_comes_7 : decode cX11_comes 7 = .ok (.invokevirtual 441, 3) := by decide +kernel
theorem dX11_comes_10 : decode cX11_comes 10 = .ok (.ireturn, 1) := by decide +kernel
theorem dX11_sits_0 : decode cX11_sits 0 = .ok (.aload_n 0, 1) := by decide +kernel
theorem dX11_sits_1 : decode cX11_sits 1 = .ok (.iconst 0, 1) := by decide +kernel
theorem dX11_sits_2 : decode cX11_sits 2 = .ok (.putfield 148, 3) := by decide +kernel
theorem dX11_sits_5 : decode cX11_sits 5 = .ok (.aload_n 0, 1) := by decide +kernel
theorem dX11_sits_6 : decode cX11_sits 6 = .ok (.iload_n 1, 1) := by decide +kernel
theorem dX11_sits_7 : decode cX11_sits 7 = .ok (.invokevirtual 428, 3) := by decide +kernel
theorem dX11_sits_10 : decode cX11_sits 10 = .ok (.ifCond .eq 12, 3) := by decide +kernel
theorem dX11_sits_13 : decode cX11_sits 13 = .ok (.aload_n 0, 1) := by decide +kernel
theorem dX11_sits_14 : decode cX11_sits 14 = .ok (.getfield 13, 3) := by decide +kernel
theorem dX11_sits_17 : decode cX11_sits 17 = .ok (.iconst 0, 1) := by decide +kernel
theorem dX11_sits_18 : decode cX11_sits 18 = .ok (.iaload, 1) := by decide +kernel
theorem dX11_sits_19 : decode cX11_sits 19 = .ok (.ifCond .ne 5, 3) := by decide +kernel
theorem dX11_sits_22 : decode cX11_sits 22 = .ok (.iconst (-1), 1) := by decide +kernel
theorem dX11_sits_23 : decode cX11_sits 23 = .ok (.ireturn, 1) := by decide +kernel
theorem dX11_sits_24 : decode cX11_sits 24 = .ok (.aload_n 0, 1) := by decide +kernel
theorem dX11_sits_25 : decode cX11_sits 25 = .ok (.iconst 0, 1) := by decide +kernel
theorem dX11_sits_26 : decode cX11_sits 26 = .ok (.iload_n 1, 1) := by decide +kernel
theorem dX11_sits_27 : decode cX11_sits 27 = .ok (.invokevirtual 391, 3) := by decide +kernel
theorem dX11_sits_30 : decode cX11_sits 30 = .ok (.istore_n 2, 1) := by decide +kernel
theorem dX11_sits_31 : decode cX11_sits 31 = .ok (.iload_n 2, 1) := by decide +kernel
theorem dX11_sits_32 : decode cX11_sits 32 = .ok (.iconst (-1), 1) := by decide +kernel
theorem dX11_sits_33 : decode cX11_sits 33 = .ok (.if_icmp .ne 8, 3) := by decide +kernel
theorem dX11_sits_36 : decode cX11_sits 36 = .ok (.bipush (-2), 2) := by decide +kernel
theorem dX11_sits_38 : decode cX11_sits 38 = .ok (.goto 4, 3) := by decide +kernel
theorem dX11_sits_41 : decode cX11_sits 41 = .ok (.iload_n 2, 1) := by decide +kernel
theorem dX11_sits_42 : decode cX11_sits 42 = .ok (.ireturn, 1) := by decide +kernel
theorem dX11_quiet_0 : decode cX11_quiet 0 = .ok (.aload_n 0, 1) := by decide +kernel
theorem dX11_quiet_1 : decode cX11_quiet 1 = .ok (.iconst 0, 1) := by decide +kernel
theorem dX11_quiet_2 : decode cX11_quiet 2 = .ok (.putfield 148, 3) := by decide +kernel
theorem dX11_quiet_5 : decode cX11_quiet 5 = .ok (.aload_n 0, 1) := by decide +kernel
theorem dX11_quiet_6 : decode cX11_quiet 6 = .ok (.iconst 1, 1) := by decide +kernel
theorem dX11_quiet_7 : decode cX11_quiet 7 = .ok (.iconst 0, 1) := by decide +kernel
theorem dX11_quiet_8 : decode cX11_quiet 8 = .ok (.invokevirtual 403, 3) := by decide +kernel
theorem dX11_quiet_11 : decode cX11_quiet 11 = .ok (.iconst 0, 1) := by decide +kernel
theorem dX11_quiet_12 : decode cX11_quiet 12 = .ok (.istore_n 1, 1) := by decide +kernel
theorem dX11_quiet_13 : decode cX11_quiet 13 = .ok (.iload_n 1, 1) := by decide +kernel
theorem dX11_quiet_14 : decode cX11_quiet 14 = .ok (.bipush 99, 2) := by decide +kernel
theorem dX11_quiet_16 : decode cX11_quiet 16 = .ok (.if_icmp .gt 31, 3) := by decide +kernel
theorem dX11_quiet_19 : decode cX11_quiet 19 = .ok (.aload_n 0, 1) := by decide +kernel
theorem dX11_quiet_20 : decode cX11_quiet 20 = .ok (.iconst 1, 1) := by decide +kernel
theorem dX11_quiet_21 : decode cX11_quiet 21 = .ok (.invokevirtual 444, 3) := by decide +kernel
theorem dX11_quiet_24 : decode cX11_quiet 24 = .ok (.istore_n 2, 1) := by decide +kernel
theorem dX11_quiet_25 : decode cX11_quiet 25 = .ok (.aload_n 0, 1) := by decide +kernel
theorem dX11_quiet_26 : decode cX11_quiet 26 = .ok (.iconst 1, 1) := by decide +kernel
theorem dX11_quiet_27 : decode cX11_quiet 27 = .ok (.invokevirtual 409, 3) := by decide +kernel
theorem dX11_quiet_30 : decode cX11_quiet 30 = .ok (.aload_n 0, 1) := by decide +kernel
theorem dX11_quiet_31 : decode cX11_quiet 31 = .ok (.iconst 1, 1) := by decide +kernel
theorem dX11_quiet_32 : decode cX11_quiet 32 = .ok (.invokevirtual 444, 3) := by decide +kernel
theorem dX11_quiet_35 : decode cX11_quiet 35 = .ok (.iload_n 2, 1) := by decide +kernel
theorem dX11_quiet_36 : decode cX11_quiet 36 = .ok (.if_icmp .ne 5, 3) := by decide +kernel
theorem dX11_quiet_39 : decode cX11_quiet 39 = .ok (.iload_n 1, 1) := by decide +kernel
theorem dX11_quiet_40 : decode cX11_quiet 40 = .ok (.ireturn, 1) := by decide +kernel
theorem dX11_quiet_41 : decode cX11_quiet 41 = .ok (.iinc 1 1, 3) := by decide +kernel
theorem dX11_quiet_44 : decode cX11_quiet 44 = .ok (.goto (-31), 3) := by decide +kernel
theorem dX11_quiet_47 : decode cX11_quiet 47 = .ok (.bipush (-2), 2) := by decide +kernel
theorem dX11_quiet_49 : decode cX11_quiet 49 = .ok (.ireturn, 1) := by decide +kernel
theorem dX11_leastMoved_0 : decode cX11_leastMoved 0 = .ok (.aload_n 0, 1) := by decide +kernel
theorem dX11_leastMoved_1 : decode cX11_leastMoved 1 = .ok (.iconst 0, 1) := by decide +kernel
theorem dX11_leastMoved_2 : decode cX11_leastMoved 2 = .ok (.putfield 148, 3) := by decide +kernel
theorem dX11_leastMoved_5 : decode cX11_leastMoved 5 = .ok (.aload_n 0, 1) := by decide +kernel
theorem dX11_leastMoved_6 : decode cX11_leastMoved 6 = .ok (.iload_n 1, 1) := by decide +kernel
theorem dX11_leastMoved_7 : decode cX11_leastMoved 7 = .ok (.invokevirtual 416, 3) := by decide +kernel
theorem dX11_leastMoved_10 : decode cX11_leastMoved 10 = .ok (.ifCond .eq 23, 3) := by decide +kernel
theorem dX11_leastMoved_13 : decode cX11_leastMoved 13 = .ok (.iload_n 2, 1) := by decide +kernel
theorem dX11_leastMoved_14 : decode cX11_leastMoved 14 = .ok (.iconst 1, 1) := by decide +kernel
theorem dX11_leastMoved_15 : decode cX11_leastMoved 15 = .ok (.if_icmp .lt 18, 3) := by decide +kernel
theorem dX11_leastMoved_18 : decode cX11_leastMoved 18 = .ok (.iload_n 2, 1) := by decide +kernel
theorem dX11_leastMoved_19 : decode cX11_leastMoved 19 = .ok (.bipush 60, 2) := by decide +kernel
theorem dX11_leastMoved_21 : decode cX11_leastMoved 21 = .ok (.if_icmp .gt 12, 3) := by decide +kernel
theorem dX11_leastMoved_24 : decode cX11_leastMoved 24 = .ok (.iload_n 3, 1) := by decide +kernel
theorem dX11_leastMoved_25 : decode cX11_leastMoved 25 = .ok (.ifCond .lt 8, 3) := by decide +kernel
theorem dX11_leastMoved_28 : decode cX11_leastMoved 28 = .ok (.iload_n 3, 1) := by decide +kernel
theorem dX11_leastMoved_29 : decode cX11_leastMoved 29 = .ok (.iconst 1, 1) := by decide +kernel
theorem dX11_leastMoved_30 : decode cX11_leastMoved 30 = .ok (.if_icmp .le 5, 3) := by decide +kernel
theorem dX11_leastMoved_33 : decode cX11_leastMoved 33 = .ok (.iconst (-1), 1) := by decide +kernel
theorem dX11_leastMoved_34 : decode cX11_leastMoved 34 = .ok (.ireturn, 1) := by decide +kernel
theorem dX11_leastMoved_35 : decode cX11_leastMoved 35 = .ok (.iconst (-1), 1) := by decide +kernel
theorem dX11_leastMoved_36 : decode cX11_leastMoved 36 = .ok (.istore 4, 2) := by decide +kernel
theorem dX11_leastMoved_38 : decode cX11_leastMoved 38 = .ok (.iconst 0, 1) := by decide +kernel
theorem dX11_leastMoved_39 : decode cX11_leastMoved 39 = .ok (.istore 5, 2) := by decide +kernel
theorem dX11_leastMoved_41 : decode cX11_leastMoved 41 = .ok (.iconst 0, 1) := by decide +kernel
theorem dX11_leastMoved_42 : decode cX11_leastMoved 42 = .ok (.istore 6, 2) := by decide +kernel
theorem dX11_leastMoved_44 : decode cX11_leastMoved 44 = .ok (.iload 6, 2) := by decide +kernel
theorem dX11_leastMoved_46 : decode cX11_leastMoved 46 = .ok (.aload_n 0, 1) := by decide +kernel
theorem dX11_leastMoved_47 : decode cX11_leastMoved 47 = .ok (.getfield 13, 3) := by decide +kernel
theorem dX11_leastMoved_50 : decode cX11_leastMoved 50 = .ok (.iconst 0, 1) := by decide +kernel
theorem dX11_leastMoved_51 : decode cX11_leastMoved 51 = .ok (.iaload, 1) := by decide +kernel
theorem dX11_leastMoved_52 : decode cX11_leastMoved 52 = .ok (.if_icmp .ge 68, 3) := by decide +kernel
theorem dX11_leastMoved_55 : decode cX11_leastMoved 55 = .ok (.aload_n 0, 1) := by decide +kernel
theorem dX11_leastMoved_56 : decode cX11_leastMoved 56 = .ok (.iconst 1, 1) := by decide +kernel
theorem dX11_leastMoved_57 : decode cX11_leastMoved 57 = .ok (.iconst 0, 1) := by decide +kernel
theorem dX11_leastMoved_58 : decode cX11_leastMoved 58 = .ok (.invokevirtual 403, 3) := by decide +kernel
theorem dX11_leastMoved_61 : decode cX11_leastMoved 61 = .ok (.aload_n 0, 1) := by decide +kernel
theorem dX11_leastMoved_62 : decode cX11_leastMoved 62 = .ok (.getfield 87, 3) := by decide +kernel
theorem dX11_leastMoved_65 : decode cX11_leastMoved 65 = .ok (.bipush 8, 2) := by decide +kernel
theorem dX11_leastMoved_67 : decode cX11_leastMoved 67 = .ok (.iload_n 1, 1) := by decide +kernel
theorem dX11_leastMoved_68 : decode cX11_leastMoved 68 = .ok (.iadd, 1) := by decide +kernel
theorem dX11_leastMoved_69 : decode cX11_leastMoved 69 = .ok (.iload 6, 2) := by decide +kernel
theorem dX11_leastMoved_71 : decode cX11_leastMoved 71 = .ok (.iastore, 1) := by decide +kernel
theorem dX11_leastMoved_72 : decode cX11_leastMoved 72 = .ok (.aload_n 0, 1) := by decide +kernel
theorem dX11_leastMoved_73 : decode cX11_leastMoved 73 = .ok (.iload_n 2, 1) := by decide +kernel
theorem dX11_leastMoved_74 : decode cX11_leastMoved 74 = .ok (.invokevirtual 406, 3) := by decide +kernel
theorem dX11_leastMoved_77 : decode cX11_leastMoved 77 = .ok (.aload_n 0, 1) := by decide +kernel
theorem dX11_leastMoved_78 : decode cX11_leastMoved 78 = .ok (.iconst 1, 1) := by decide +kernel
theorem dX11_leastMoved_79 : decode cX11_leastMoved 79 = .ok (.invokevirtual 444, 3) := by decide +kernel
theorem dX11_leastMoved_82 : decode cX11_leastMoved 82 = .ok (.aload_n 0, 1) := by decide +kernel
theorem dX11_leastMoved_83 : decode cX11_leastMoved 83 = .ok (.iconst 0, 1) := by decide +kernel
theorem dX11_leastMoved_84 : decode cX11_leastMoved 84 = .ok (.invokevirtual 444, 3) := by decide +kernel
theorem dX11_leastMoved_87 : decode cX11_leastMoved 87 = .ok (.isub, 1) := by decide +kernel
theorem dX11_leastMoved_88 : decode cX11_leastMoved 88 = .ok (.istore 7, 2) := by decide +kernel
theorem dX11_leastMoved_90 : decode cX11_leastMoved 90 = .ok (.iload 4, 2) := by decide +kernel
theorem dX11_leastMoved_92 : decode cX11_leastMoved 92 = .ok (.iconst (-1), 1) := by decide +kernel
theorem dX11_leastMoved_93 : decode cX11_leastMoved 93 = .ok (.if_icmp .eq 13, 3) := by decide +kernel
theorem dX11_leastMoved_96 : decode cX11_leastMoved 96 = .ok (.iload 7, 2) := by decide +kernel
theorem dX11_leastMoved_98 : decode cX11_leastMoved 98 = .ok (.iload 5, 2) := by decide +kernel
theorem dX11_leastMoved_100 : decode cX11_leastMoved 100 = .ok (.if_icmp .lt 6, 3) := by decide +kernel
theorem dX11_leastMoved_103 : decode cX11_leastMoved 103 = .ok (.goto 11, 3) := by decide +kernel
theorem dX11_leastMoved_106 : decode cX11_leastMoved 106 = .ok (.iload 6, 2) := by decide +kernel
theorem dX11_leastMoved_108 : decode cX11_leastMoved 108 = .ok (.istore 4, 2) := by decide +kernel
theorem dX11_leastMoved_110 : decode cX11_leastMoved 110 = .ok (.iload 7, 2) := by decide +kernel
theorem dX11_leastMoved_112 : decode cX11_leastMoved 112 = .ok (.istore 5, 2) := by decide +kernel
theorem dX11_leastMoved_114 : decode cX11_leastMoved 114 = .ok (.iinc 6 1, 3) := by decide +kernel
theorem dX11_leastMoved_117 : decode cX11_leastMoved 117 = .ok (.goto (-73), 3) := by decide +kernel
theorem dX11_leastMoved_120 : decode cX11_leastMoved 120 = .ok (.iload_n 3, 1) := by decide +kernel
theorem dX11_leastMoved_121 : decode cX11_leastMoved 121 = .ok (.ifCond .ne 8, 3) := by decide +kernel
theorem dX11_leastMoved_124 : decode cX11_leastMoved 124 = .ok (.iload 4, 2) := by decide +kernel
theorem dX11_leastMoved_126 : decode cX11_leastMoved 126 = .ok (.goto 5, 3) := by decide +kernel
theorem dX11_leastMoved_129 : decode cX11_leastMoved 129 = .ok (.iload 5, 2) := by decide +kernel
theorem dX11_leastMoved_131 : decode cX11_leastMoved 131 = .ok (.ireturn, 1) := by decide +kernel
theorem dX11_likingWhereAllSit_0 : decode cX11_likingWhereAllSit 0 = .ok (.iconst 0, 1) := by decide +kernel
theorem dX11_likingWhereAllSit_1 : decode cX11_likingWhereAllSit 1 = .ok (.istore_n 1, 1) := by decide +kernel
theorem dX11_likingWhereAllSit_2 : decode cX11_likingWhereAllSit 2 = .ok (.iconst 0, 1) := by decide +kernel
theorem dX11_likingWhereAllSit_3 : decode cX11_likingWhereAllSit 3 = .ok (.istore_n 2, 1) := by decide +kernel
theorem dX11_likingWhereAllSit_4 : decode cX11_likingWhereAllSit 4 = .ok (.iload_n 2, 1) := by decide +kernel
theorem dX11_likingWhereAllSit_5 : decode cX11_likingWhereAllSit 5 = .ok (.aload_n 0, 1) := by decide +kernel
theorem dX11_likingWhereAllSit_6 : decode cX11_likingWhereAllSit 6 = .ok (.getfield 13, 3) := by decide +kernel
theorem dX11_likingWhereAllSit_9 : decode cX11_likingWhereAllSit 9 = .ok (.iconst 3, 1) := by decide +kernel
theorem dX11_likingWhereAllSit_10 : decode cX11_likingWhereAllSit 10 = .ok (.iaload, 1) := by decide +kernel
theorem dX11_likingWhereAllSit_11 : decode cX11_likingWhereAllSit 11 = .ok (.if_icmp .ge 35, 3) := by decide +kernel
theorem dX11_likingWhereAllSit_14 : decode cX11_likingWhereAllSit 14 = .ok (.aload_n 0, 1) := by decide +kernel
theorem dX11_likingWhereAllSit_15 : decode cX11_likingWhereAllSit 15 = .ok (.iconst 1, 1) := by decide +kernel
theorem dX11_likingWhereAllSit_16 : decode cX11_likingWhereAllSit 16 = .ok (.iload_n 2, 1) := by decide +kernel
theorem dX11_likingWhereAllSit_17 : decode cX11_likingWhereAllSit 17 = .ok (.invokevirtual 391, 3) := by decide +kernel
theorem dX11_likingWhereAllSit_20 : decode cX11_likingWhereAllSit 20 = .ok (.istore_n 3, 1) := by decide +kernel
theorem dX11_likingWhereAllSit_21 : decode cX11_likingWhereAllSit 21 = .ok (.iload_n 1, 1) := by decide +kernel
theorem dX11_likingWhereAllSit_22 : decode cX11_likingWhereAllSit 22 = .ok (.iload_n 3, 1) := by decide +kernel
theorem dX11_likingWhereAllSit_23 : decode cX11_likingWhereAllSit 23 = .ok (.iconst (-1), 1) := by decide +kernel
theorem dX11_likingWhereAllSit_24 : decode cX11_likingWhereAllSit 24 = .ok (.if_icmp .ne 7, 3) := by decide +kernel
theorem dX11_likingWhereAllSit_27 : decode cX11_likingWhereAllSit 27 = .ok (.iconst 0, 1) := by decide +kernel
theorem dX11_likingWhereAllSit_28 : decode cX11_likingWhereAllSit 28 = .ok (.goto 10, 3) := by decide +kernel
theorem dX11_likingWhereAllSit_31 : decode cX11_likingWhereAllSit 31 = .ok (.aload_n 0, 1) := by decide +kernel
theorem dX11_likingWhereAllSit_32 : decode cX11_likingWhereAllSit 32 = .ok (.iconst 1, 1) := by decide +kernel
theorem dX11_likingWhereAllSit_33 : decode cX11_likingWhereAllSit 33 = .ok (.iload_n 2, 1) := by decide +kernel
theorem dX11_likingWhereAllSit_34 : decode cX11_likingWhereAllSit 34 = .ok (.iload_n 3, 1) := by decide +kernel
theorem dX11_likingWhereAllSit_35 : decode cX11_likingWhereAllSit 35 = .ok (.invokevirtual 385, 3) := by decide +kernel
theorem dX11_likingWhereAllSit_38 : decode cX11_likingWhereAllSit 38 = .ok (.iadd, 1) := by decide +kernel
theorem dX11_likingWhereAllSit_39 : decode cX11_likingWhereAllSit 39 = .ok (.istore_n 1, 1) := by decide +kernel
theorem dX11_likingWhereAllSit_40 : decode cX11_likingWhereAllSit 40 = .ok (.iinc 2 1, 3) := by decide +kernel
theorem dX11_likingWhereAllSit_43 : decode cX11_likingWhereAllSit 43 = .ok (.goto (-39), 3) := by decide +kernel
theorem dX11_likingWhereAllSit_46 : decode cX11_likingWhereAllSit 46 = .ok (.iload_n 1, 1) := by decide +kernel
theorem dX11_likingWhereAllSit_47 : decode cX11_likingWhereAllSit 47 = .ok (.ireturn, 1) := by decide +kernel
theorem dX11_hangs_0 : decode cX11_hangs 0 = .ok (.iload_n 1, 1) := by decide +kernel
theorem dX11_hangs_1 : decode cX11_hangs 1 = .ok (.iload_n 2, 1) := by decide +kernel
theorem dX11_hangs_2 : decode cX11_hangs 2 = .ok (.if_icmp .ge 40, 3) := by decide +kernel
theorem dX11_hangs_5 : decode cX11_hangs 5 = .ok (.iconst 0, 1) := by decide +kernel
theorem dX11_hangs_6 : decode cX11_hangs 6 = .ok (.istore_n 3, 1) := by decide +kernel
theorem dX11_hangs_7 : decode cX11_hangs 7 = .ok (.iload_n 3, 1) := by decide +kernel
theorem dX11_hangs_8 : decode cX11_hangs 8 = .ok (.aload_n 0, 1) := by decide +kernel
theorem dX11_hangs_9 : decode cX11_hangs 9 = .ok (.getfield 13, 3) := by decide +kernel
theorem dX11_hangs_12 : decode cX11_hangs 12 = .ok (.iconst 0, 1) := by decide +kernel
theorem dX11_hangs_13 : decode cX11_hangs 13 = .ok (.iaload, 1) := by decide +kernel
theorem dX11_hangs_14 : decode cX11_hangs 14 = .ok (.if_icmp .ge 27, 3) := by decide +kernel
theorem dX11_hangs_17 : decode cX11_hangs 17 = .ok (.aload_n 0, 1) := by decide +kernel
theorem dX11_hangs_18 : decode cX11_hangs 18 = .ok (.getfield 87, 3) := by decide +kernel
theorem dX11_hangs_21 : decode cX11_hangs 21 = .ok (.bipush 8, 2) := by decide +kernel
theorem dX11_hangs_23 : decode cX11_hangs 23 = .ok (.iload_n 1, 1) := by decide +kernel
theorem dX11_hangs_24 : decode cX11_hangs 24 = .ok (.iadd, 1) := by decide +kernel
theorem dX11_hangs_25 : decode cX11_hangs 25 = .ok (.iload_n 3, 1) := by decide +kernel
theorem dX11_hangs_26 : decode cX11_hangs 26 = .ok (.iastore, 1) := by decide +kernel
theorem dX11_hangs_27 : decode cX11_hangs 27 = .ok (.aload_n 0, 1) := by decide +kernel
theorem dX11_hangs_28 : decode cX11_hangs 28 = .ok (.iload_n 1, 1) := by decide +kernel
theorem dX11_hangs_29 : decode cX11_hangs 29 = .ok (.iconst 1, 1) := by decide +kernel
theorem dX11_hangs_30 : decode cX11_hangs 30 = .ok (.iadd, 1) := by decide +kernel
theorem dX11_hangs_31 : decode cX11_hangs 31 = .ok (.iload_n 2, 1) := by decide +kernel
theorem dX11_hangs_32 : decode cX11_hangs 32 = .ok (.invokevirtual 447, 3) := by decide +kernel
theorem dX11_hangs_35 : decode cX11_hangs 35 = .ok (.iinc 3 1, 3) := by decide +kernel
theorem dX11_hangs_38 : decode cX11_hangs 38 = .ok (.goto (-31), 3) := by decide +kernel
theorem dX11_hangs_41 : decode cX11_hangs 41 = .ok (.return_, 1) := by decide +kernel
theorem dX11_hangs_42 : decode cX11_hangs 42 = .ok (.aload_n 0, 1) := by decide +kernel
theorem dX11_hangs_43 : decode cX11_hangs 43 = .ok (.invokevirtual 450, 3) := by decide +kernel
theorem dX11_hangs_46 : decode cX11_hangs 46 = .ok (.istore_n 3, 1) := by decide +kernel
theorem dX11_hangs_47 : decode cX11_hangs 47 = .ok (.iload_n 3, 1) := by decide +kernel
theorem dX11_hangs_48 : decode cX11_hangs 48 = .ok (.aload_n 0, 1) := by decide +kernel
theorem dX11_hangs_49 : decode cX11_hangs 49 = .ok (.getfield 453, 3) := by decide +kernel
theorem dX11_hangs_52 : decode cX11_hangs 52 = .ok (.if_icmp .gt 4, 3) := by decide +kernel
theorem dX11_hangs_55 : decode cX11_hangs 55 = .ok (.return_, 1) := by decide +kernel
theorem dX11_hangs_56 : decode cX11_hangs 56 = .ok (.aload_n 0, 1) := by decide +kernel
theorem dX11_hangs_57 : decode cX11_hangs 57 = .ok (.iload_n 3, 1) := by decide +kernel
theorem dX11_hangs_58 : decode cX11_hangs 58 = .ok (.putfield 453, 3) := by decide +kernel
theorem dX11_hangs_61 : decode cX11_hangs 61 = .ok (.iconst 0, 1) := by decide +kernel
theorem dX11_hangs_62 : decode cX11_hangs 62 = .ok (.istore 4, 2) := by decide +kernel
theorem dX11_hangs_64 : decode cX11_hangs 64 = .ok (.iload 4, 2) := by decide +kernel
theorem dX11_hangs_66 : decode cX11_hangs 66 = .ok (.iload_n 2, 1) := by decide +kernel
theorem dX11_hangs_67 : decode cX11_hangs 67 = .ok (.if_icmp .ge 26, 3) := by decide +kernel
theorem dX11_hangs_70 : decode cX11_hangs 70 = .ok (.aload_n 0, 1) := by decide +kernel
theorem dX11_hangs_71 : decode cX11_hangs 71 = .ok (.getfield 111, 3) := by decide +kernel
theorem dX11_hangs_74 : decode cX11_hangs 74 = .ok (.iload 4, 2) := by decide +kernel
theorem dX11_hangs_76 : decode cX11_hangs 76 = .ok (.aload_n 0, 1) := by decide +kernel
theorem dX11_hangs_77 : decode cX11_hangs 77 = .ok (.getfield 87, 3) := by decide +kernel
theorem dX11_hangs_80 : decode cX11_hangs 80 = .ok (.bipush 8, 2) := by decide +kernel
theorem dX11_hangs_82 : decode cX11_hangs 82 = .ok (.iload 4, 2) := by decide +kernel
theorem dX11_hangs_84 : decode cX11_hangs 84 = .ok (.iadd, 1) := by decide +kernel
theorem dX11_hangs_85 : decode cX11_hangs 85 = .ok (.iaload, 1) := by decide +kernel
theorem dX11_hangs_86 : decode cX11_hangs 86 = .ok (.iastore, 1) := by decide +kernel
theorem dX11_hangs_87 : decode cX11_hangs 87 = .ok (.iinc 4 1, 3) := by decide +kernel
theorem dX11_hangs_90 : decode cX11_hangs 90 = .ok (.goto (-26), 3) := by decide +kernel
theorem dX11_hangs_93 : decode cX11_hangs 93 = .ok (.return_, 1) := by decide +kernel
theorem dX11_hanging_0 : decode cX11_hanging 0 = .ok (.aload_n 0, 1) := by decide +kernel
theorem dX11_hanging_1 : decode cX11_hanging 1 = .ok (.iconst 0, 1) := by decide +kernel
theorem dX11_hanging_2 : decode cX11_hanging 2 = .ok (.putfield 148, 3) := by decide +kernel
theorem dX11_hanging_5 : decode cX11_hanging 5 = .ok (.iload_n 1, 1) := by decide +kernel
theorem dX11_hanging_6 : decode cX11_hanging 6 = .ok (.ifCond .lt 17, 3) := by decide +kernel
theorem dX11_hanging_9 : decode cX11_hanging 9 = .ok (.iload_n 1, 1) := by decide +kernel
theorem dX11_hanging_10 : decode cX11_hanging 10 = .ok (.iconst 4, 1) := by decide +kernel
theorem dX11_hanging_11 : decode cX11_hanging 11 = .ok (.if_icmp .gt 12, 3) := by decide +kernel
theorem dX11_hanging_14 : decode cX11_hanging 14 = .ok (.aload_n 0, 1) := by decide +kernel
theorem dX11_hanging_15 : decode cX11_hanging 15 = .ok (.getfield 13, 3) := by decide +kernel
theorem dX11_hanging_18 : decode cX11_hanging 18 = .ok (.iconst 0, 1) := by decide +kernel
theorem dX11_hanging_19 : decode cX11_hanging 19 = .ok (.iaload, 1) := by decide +kernel
theorem dX11_hanging_20 : decode cX11_hanging 20 = .ok (.ifCond .ne 5, 3) := by decide +kernel
theorem dX11_hanging_23 : decode cX11_hanging 23 = .ok (.iconst (-1), 1) := by decide +kernel
theorem dX11_hanging_24 : decode cX11_hanging 24 = .ok (.ireturn, 1) := by decide +kernel
theorem dX11_hanging_25 : decode cX11_hanging 25 = .ok (.iconst 4, 1) := by decide +kernel
theorem dX11_hanging_26 : decode cX11_hanging 26 = .ok (.aload_n 0, 1) := by decide +kernel
theorem dX11_hanging_27 : decode cX11_hanging 27 = .ok (.getfield 13, 3) := by decide +kernel
theorem dX11_hanging_30 : decode cX11_hanging 30 = .ok (.iconst 2, 1) := by decide +kernel
theorem dX11_hanging_31 : decode cX11_hanging 31 = .ok (.iaload, 1) := by decide +kernel
theorem dX11_hanging_32 : decode cX11_hanging 32 = .ok (.invokestatic 456, 3) := by decide +kernel
theorem dX11_hanging_35 : decode cX11_hanging 35 = .ok (.istore_n 2, 1) := by decide +kernel
theorem dX11_hanging_36 : decode cX11_hanging 36 = .ok (.aload_n 0, 1) := by decide +kernel
theorem dX11_hanging_37 : decode cX11_hanging 37 = .ok (.iconst 1, 1) := by decide +kernel
theorem dX11_hanging_38 : decode cX11_hanging 38 = .ok (.iconst 0, 1) := by decide +kernel
theorem dX11_hanging_39 : decode cX11_hanging 39 = .ok (.invokevirtual 403, 3) := by decide +kernel
theorem dX11_hanging_42 : decode cX11_hanging 42 = .ok (.aload_n 0, 1) := by decide +kernel
theorem dX11_hanging_43 : decode cX11_hanging 43 = .ok (.iconst (-1), 1) := by decide +kernel
theorem dX11_hanging_44 : decode cX11_hanging 44 = .ok (.putfield 453, 3) := by decide +kernel
theorem dX11_hanging_47 : decode cX11_hanging 47 = .ok (.aload_n 0, 1) := by decide +kernel
theorem dX11_hanging_48 : decode cX11_hanging 48 = .ok (.iconst 0, 1) := by decide +kernel
theorem dX11_hanging_49 : decode cX11_hanging 49 = .ok (.iload_n 2, 1) := by decide +kernel
theorem dX11_hanging_50 : decode cX11_hanging 50 = .ok (.invokevirtual 447, 3) := by decide +kernel
theorem dX11_hanging_53 : decode cX11_hanging 53 = .ok (.iload_n 1, 1) := by decide +kernel
theorem dX11_hanging_54 : decode cX11_hanging 54 = .ok (.iconst 4, 1) := by decide +kernel
theorem dX11_hanging_55 : decode cX11_hanging 55 = .ok (.if_icmp .ne 10, 3) := by decide +kernel
theorem dX11_hanging_58 : decode cX11_hanging 58 = .ok (.aload_n 0, 1) := by decide +kernel
theorem dX11_hanging_59 : decode cX11_hanging 59 = .ok (.getfield 453, 3) := by decide +kernel
theorem dX11_hanging_62 : decode cX11_hanging 62 = .ok (.goto 19, 3) := by decide +kernel
theorem dX11_hanging_65 : decode cX11_hanging 65 = .ok (.iload_n 1, 1) := by decide +kernel
theorem dX11_hanging_66 : decode cX11_hanging 66 = .ok (.iload_n 2, 1) := by decide +kernel
theorem dX11_hanging_67 : decode cX11_hanging 67 = .ok (.if_icmp .ge 12, 3) := by decide +kernel
theorem dX11_hanging_70 : decode cX11_hanging 70 = .ok (.aload_n 0, 1) := by decide +kernel
theorem dX11_hanging_71 : decode cX11_hanging 71 = .ok (.getfield 111, 3) := by decide +kernel
theorem dX11_hanging_74 : decode cX11_hanging 74 = .ok (.iload_n 1, 1) := by decide +kernel
theorem dX11_hanging_75 : decode cX11_hanging 75 = .ok (.iaload, 1) := by decide +kernel
theorem dX11_hanging_76 : decode cX11_hanging 76 = .ok (.goto 5, 3) := by decide +kernel
theorem dX11_hanging_79 : decode cX11_hanging 79 = .ok (.bipush (-2), 2) := by decide +kernel
theorem dX11_hanging_81 : decode cX11_hanging 81 = .ok (.ireturn, 1) := by decide +kernel
theorem dX11_steer_0 : decode cX11_steer 0 = .ok (.aload_n 0, 1) := by decide +kernel
theorem dX11_steer_1 : decode cX11_steer 1 = .ok (.iconst 0, 1) := by decide +kernel
theorem dX11_steer_2 : decode cX11_steer 2 = .ok (.putfield 148, 3) := by decide +kernel
theorem dX11_steer_5 : decode cX11_steer 5 = .ok (.aload_n 0, 1) := by decide +kernel
theorem dX11_steer_6 : decode cX11_steer 6 = .ok (.iload_n 1, 1) := by decide +kernel
theorem dX11_steer_7 : decode cX11_steer 7 = .ok (.invokevirtual 428, 3) := by decide +kernel
theorem dX11_steer_10 : decode cX11_steer 10 = .ok (.ifCond .eq 11, 3) := by decide +kernel
theorem dX11_steer_13 : decode cX11_steer 13 = .ok (.aload_n 0, 1) := by decide +kernel
theorem dX11_steer_14 : decode cX11_steer 14 = .ok (.iload_n 2, 1) := by decide +kernel
theorem dX11_steer_15 : decode cX11_steer 15 = .ok (.invokevirtual 419, 3) := by decide +kernel
theorem dX11_steer_18 : decode cX11_steer 18 = .ok (.ifCond .ne 5, 3) := by decide +kernel
theorem dX11_steer_21 : decode cX11_steer 21 = .ok (.iconst (-1), 1) := by decide +kernel
theorem dX11_steer_22 : decode cX11_steer 22 = .ok (.ireturn, 1) := by decide +kernel
theorem dX11_steer_23 : decode cX11_steer 23 = .ok (.iconst 0, 1) := by decide +kernel
theorem dX11_steer_24 : decode cX11_steer 24 = .ok (.istore_n 3, 1) := by decide +kernel
theorem dX11_steer_25 : decode cX11_steer 25 = .ok (.iconst 0, 1) := by decide +kernel
theorem dX11_steer_26 : decode cX11_steer 26 = .ok (.istore 4, 2) := by decide +kernel
theorem dX11_steer_28 : decode cX11_steer 28 = .ok (.iload 4, 2) := by decide +kernel
theorem dX11_steer_30 : decode cX11_steer 30 = .ok (.aload_n 0, 1) := by decide +kernel
theorem dX11_steer_31 : decode cX11_steer 31 = .ok (.getfield 13, 3) := by decide +kernel
theorem dX11_steer_34 : decode cX11_steer 34 = .ok (.iconst 2, 1) := by decide +kernel
theorem dX11_steer_35 : decode cX11_steer 35 = .ok (.iaload, 1) := by decide +kernel
theorem dX11_steer_36 : decode cX11_steer 36 = .ok (.if_icmp .ge 31, 3) := by decide +kernel
theorem dX11_steer_39 : decode cX11_steer 39 = .ok (.iload_n 3, 1) := by decide +kernel
theorem dX11_steer_40 : decode cX11_steer 40 = .ok (.aload_n 0, 1) := by decide +kernel
theorem dX11_steer_41 : decode cX11_steer 41 = .ok (.getfield 87, 3) := by decide +kernel
theorem dX11_steer_44 : decode cX11_steer 44 = .ok (.iload 4, 2) := by decide +kernel
theorem dX11_steer_46 : decode cX11_steer 46 = .ok (.iaload, 1) := by decide +kernel
theorem dX11_steer_47 : decode cX11_steer 47 = .ok (.iload_n 2, 1) := by decide +kernel
theorem dX11_steer_48 : decode cX11_steer 48 = .ok (.if_icmp .ne 7, 3) := by decide +kernel
theorem dX11_steer_51 : decode cX11_steer 51 = .ok (.iconst 0, 1) := by decide +kernel
theorem dX11_steer_52 : decode cX11_steer 52 = .ok (.goto 7, 3) := by decide +kernel
theorem dX11_steer_55 : decode cX11_steer 55 = .ok (.iconst 1, 1) := by decide +kernel
theorem dX11_steer_56 : decode cX11_steer 56 = .ok (.iload 4, 2) := by decide +kernel
theorem dX11_steer_58 : decode cX11_steer 58 = .ok (.ishl, 1) := by decide +kernel
theorem dX11_steer_59 : decode cX11_steer 59 = .ok (.ior, 1) := by decide +kernel
theorem dX11_steer_60 : decode cX11_steer 60 = .ok (.istore_n 3, 1) := by decide +kernel
theorem dX11_steer_61 : decode cX11_steer 61 = .ok (.iinc 4 1, 3) := by decide +kernel
theorem dX11_steer_64 : decode cX11_steer 64 = .ok (.goto (-36), 3) := by decide +kernel
theorem dX11_steer_67 : decode cX11_steer 67 = .ok (.bipush (-2), 2) := by decide +kernel
theorem dX11_steer_69 : decode cX11_steer 69 = .ok (.istore 4, 2) := by decide +kernel
theorem dX11_steer_71 : decode cX11_steer 71 = .ok (.iconst 0, 1) := by decide +kernel
theorem dX11_steer_72 : decode cX11_steer 72 = .ok (.istore 5, 2) := by decide +kernel
theorem dX11_steer_74 : decode cX11_steer 74 = .ok (.iload 5, 2) := by decide +kernel
theorem dX11_steer_76 : decode cX11_steer 76 = .ok (.iload_n 3, 1) := by decide +kernel
theorem dX11_steer_77 : decode cX11_steer 77 = .ok (.if_icmp .gt 101, 3) := by decide +kernel
theorem dX11_steer_80 : decode cX11_steer 80 = .ok (.iload 5, 2) := by decide +kernel
theorem dX11_steer_82 : decode cX11_steer 82 = .ok (.iload_n 3, 1) := by decide +kernel
theorem dX11_steer_83 : decode cX11_steer 83 = .ok (.iconst (-1), 1) := by decide +kernel
theorem dX11_steer_84 : decode cX11_steer 84 = .ok (.ixor, 1) := by decide +kernel
theorem dX11_steer_85 : decode cX11_steer 85 = .ok (.iand, 1) := by decide +kernel
theorem dX11_steer_86 : decode cX11_steer 86 = .ok (.ifCond .ne 86, 3) := by decide +kernel
theorem dX11_steer_89 : decode cX11_steer 89 = .ok (.iload 4, 2) := by decide +kernel
theorem dX11_steer_91 : decode cX11_steer 91 = .ok (.ifCond .lt 19, 3) := by decide +kernel
theorem dX11_steer_94 : decode cX11_steer 94 = .ok (.iload 5, 2) := by decide +kernel
theorem dX11_steer_96 : decode cX11_steer 96 = .ok (.invokestatic 425, 3) := by decide +kernel
theorem dX11_steer_99 : decode cX11_steer 99 = .ok (.iload 4, 2) := by decide +kernel
theorem dX11_steer_101 : decode cX11_steer 101 = .ok (.invokestatic 425, 3) := by decide +kernel
theorem dX11_steer_104 : decode cX11_steer 104 = .ok (.if_icmp .lt 6, 3) := by decide +kernel
theorem dX11_steer_107 : decode cX11_steer 107 = .ok (.goto 65, 3) := by decide +kernel
theorem dX11_steer_110 : decode cX11_steer 110 = .ok (.aload_n 0, 1) := by decide +kernel
theorem dX11_steer_111 : decode cX11_steer 111 = .ok (.iconst 1, 1) := by decide +kernel
theorem dX11_steer_112 : decode cX11_steer 112 = .ok (.iconst 0, 1) := by decide +kernel
theorem dX11_steer_113 : decode cX11_steer 113 = .ok (.invokevirtual 403, 3) := by decide +kernel
theorem dX11_steer_116 : decode cX11_steer 116 = .ok (.iconst 0, 1) := by decide +kernel
theorem dX11_steer_117 : decode cX11_steer 117 = .ok (.istore 6, 2) := by decide +kernel
theorem dX11_steer_119 : decode cX11_steer 119 = .ok (.iload 6, 2) := by decide +kernel
theorem dX11_steer_121 : decode cX11_steer 121 = .ok (.aload_n 0, 1) := by decide +kernel
theorem dX11_steer_122 : decode cX11_steer 122 = .ok (.getfield 13, 3) := by decide +kernel
theorem dX11_steer_125 : decode cX11_steer 125 = .ok (.iconst 2, 1) := by decide +kernel
theorem dX11_steer_126 : decode cX11_steer 126 = .ok (.iaload, 1) := by decide +kernel
theorem dX11_steer_127 : decode cX11_steer 127 = .ok (.if_icmp .ge 31, 3) := by decide +kernel
theorem dX11_steer_130 : decode cX11_steer 130 = .ok (.iload 5, 2) := by decide +kernel
theorem dX11_steer_132 : decode cX11_steer 132 = .ok (.iload 6, 2) := by decide +kernel
theorem dX11_steer_134 : decode cX11_steer 134 = .ok (.ishr, 1) := by decide +kernel
theorem dX11_steer_135 : decode cX11_steer 135 = .ok (.iconst 1, 1) := by decide +kernel
theorem dX11_steer_136 : decode cX11_steer 136 = .ok (.iand, 1) := by decide +kernel
theorem dX11_steer_137 : decode cX11_steer 137 = .ok (.iconst 1, 1) := by decide +kernel
theorem dX11_steer_138 : decode cX11_steer 138 = .ok (.if_icmp .ne 14, 3) := by decide +kernel
theorem dX11_steer_141 : decode cX11_steer 141 = .ok (.aload_n 0, 1) := by decide +kernel
theorem dX11_steer_142 : decode cX11_steer 142 = .ok (.getfield 87, 3) := by decide +kernel
theorem dX11_steer_145 : decode cX11_steer 145 = .ok (.bipush 8, 2) := by decide +kernel
theorem dX11_steer_147 : decode cX11_steer 147 = .ok (.iload 6, 2) := by decide +kernel
theorem dX11_steer_149 : decode cX11_steer 149 = .ok (.iadd, 1) := by decide +kernel
theorem dX11_steer_150 : decode cX11_steer 150 = .ok (.iload_n 2, 1) := by decide +kernel
theorem dX11_steer_151 : decode cX11_steer 151 = .ok (.iastore, 1) := by decide +kernel
theorem dX11_steer_152 : decode cX11_steer 152 = .ok (.iinc 6 1, 3) := by decide +kernel
theorem dX11_steer_155 : decode cX11_steer 155 = .ok (.goto (-36), 3) := by decide +kernel
theorem dX11_steer_158 : decode cX11_steer 158 = .ok (.aload_n 0, 1) := by decide +kernel
theorem dX11_steer_159 : decode cX11_steer 159 = .ok (.iconst 1, 1) := by decide +kernel
theorem dX11_steer_160 : decode cX11_steer 160 = .ok (.iload_n 1, 1) := by decide +kernel
theorem dX11_steer_161 : decode cX11_steer 161 = .ok (.invokevirtual 391, 3) := by decide +kernel
theorem dX11_steer_164 : decode cX11_steer 164 = .ok (.iload_n 2, 1) := by decide +kernel
theorem dX11_steer_165 : decode cX11_steer 165 = .ok (.if_icmp .ne 7, 3) := by decide +kernel
theorem dX11_steer_168 : decode cX11_steer 168 = .ok (.iload 5, 2) := by decide +kernel
theorem dX11_steer_170 : decode cX11_steer 170 = .ok (.istore 4, 2) := by decide +kernel
theorem dX11_steer_172 : decode cX11_steer 172 = .ok (.iinc 5 1, 3) := by decide +kernel
theorem dX11_steer_175 : decode cX11_steer 175 = .ok (.goto (-101), 3) := by decide +kernel
theorem dX11_steer_178 : decode cX11_steer 178 = .ok (.iload 4, 2) := by decide +kernel
theorem dX11_steer_180 : decode cX11_steer 180 = .ok (.ireturn, 1) := by decide +kernel
theorem dX11_hasOf_0 : decode cX11_hasOf 0 = .ok (.aload_n 0, 1) := by decide +kernel
theorem dX11_hasOf_1 : decode cX11_hasOf 1 = .ok (.getfield 114, 3) := by decide +kernel
theorem dX11_hasOf_4 : decode cX11_hasOf 4 = .ok (.bipush 6, 2) := by decide +kernel
theorem dX11_hasOf_6 : decode cX11_hasOf 6 = .ok (.iload_n 1, 1) := by decide +kernel
theorem dX11_hasOf_7 : decode cX11_hasOf 7 = .ok (.imul, 1) := by decide +kernel
theorem dX11_hasOf_8 : decode cX11_hasOf 8 = .ok (.iload_n 2, 1) := by decide +kernel
theorem dX11_hasOf_9 : decode cX11_hasOf 9 = .ok (.iadd, 1) := by decide +kernel
theorem dX11_hasOf_10 : decode cX11_hasOf 10 = .ok (.iaload, 1) := by decide +kernel
theorem dX11_hasOf_11 : decode cX11_hasOf 11 = .ok (.istore 4, 2) := by decide +kernel
theorem dX11_hasOf_13 : decode cX11_hasOf 13 = .ok (.iload_n 2, 1) := by decide +kernel
theorem dX11_hasOf_14 : decode cX11_hasOf 14 = .ok (.iload_n 3, 1) := by decide +kernel
theorem dX11_hasOf_15 : decode cX11_hasOf 15 = .ok (.if_icmp .ne 21, 3) := by decide +kernel
theorem dX11_hasOf_18 : decode cX11_hasOf 18 = .ok (.iload 4, 2) := by decide +kernel
theorem dX11_hasOf_20 : decode cX11_hasOf 20 = .ok (.bipush 10, 2) := by decide +kernel
theorem dX11_hasOf_22 : decode cX11_hasOf 22 = .ok (.aload_n 0, 1) := by decide +kernel
theorem dX11_hasOf_23 : decode cX11_hasOf 23 = .ok (.iconst 0, 1) := by decide +kernel
theorem dX11_hasOf_24 : decode cX11_hasOf 24 = .ok (.iload_n 2, 1) := by decide +kernel
theorem dX11_hasOf_25 : decode cX11_hasOf 25 = .ok (.invokevirtual 422, 3) := by decide +kernel
theorem dX11_hasOf_28 : decode cX11_hasOf 28 = .ok (.invokestatic 425, 3) := by decide +kernel
theorem dX11_hasOf_31 : decode cX11_hasOf 31 = .ok (.imul, 1) := by decide +kernel
theorem dX11_hasOf_32 : decode cX11_hasOf 32 = .ok (.isub, 1) := by decide +kernel
theorem dX11_hasOf_33 : decode cX11_hasOf 33 = .ok (.goto 5, 3) := by decide +kernel
theorem dX11_hasOf_36 : decode cX11_hasOf 36 = .ok (.iload 4, 2) := by decide +kernel
theorem dX11_hasOf_38 : decode cX11_hasOf 38 = .ok (.ireturn, 1) := by decide +kernel
theorem dX11_isRest_0 : decode cX11_isRest 0 = .ok (.iconst 0, 1) := by decide +kernel
theorem dX11_isRest_1 : decode cX11_isRest 1 = .ok (.istore_n 3, 1) := by decide +kernel
theorem dX11_isRest_2 : decode cX11_isRest 2 = .ok (.iload_n 3, 1) := by decide +kernel
theorem dX11_isRest_3 : decode cX11_isRest 3 = .ok (.aload_n 0, 1) := by decide +kernel
theorem dX11_isRest_4 : decode cX11_isRest 4 = .ok (.getfield 13, 3) := by decide +kernel
theorem dX11_isRest_7 : decode cX11_isRest 7 = .ok (.iconst 0, 1) := by decide +kernel
theorem dX11_isRest_8 : decode cX11_isRest 8 = .ok (.iaload, 1) := by decide +kernel
theorem dX11_isRest_9 : decode cX11_isRest 9 = .ok (.if_icmp .ge 45, 3) := by decide +kernel
theorem dX11_isRest_12 : decode cX11_isRest 12 = .ok (.aload_n 0, 1) := by decide +kernel
theorem dX11_isRest_13 : decode cX11_isRest 13 = .ok (.iconst 0, 1) := by decide +kernel
theorem dX11_isRest_14 : decode cX11_isRest 14 = .ok (.iload_n 3, 1) := by decide +kernel
theorem dX11_isRest_15 : decode cX11_isRest 15 = .ok (.iload_n 2, 1) := by decide +kernel
theorem dX11_isRest_16 : decode cX11_isRest 16 = .ok (.invokevirtual 458, 3) := by decide +kernel
theorem dX11_isRest_19 : decode cX11_isRest 19 = .ok (.aload_n 0, 1) := by decide +kernel
theorem dX11_isRest_20 : decode cX11_isRest 20 = .ok (.iconst 0, 1) := by decide +kernel
theorem dX11_isRest_21 : decode cX11_isRest 21 = .ok (.iload_n 1, 1) := by decide +kernel
theorem dX11_isRest_22 : decode cX11_isRest 22 = .ok (.iload_n 2, 1) := by decide +kernel
theorem dX11_isRest_23 : decode cX11_isRest 23 = .ok (.invokevirtual 458, 3) := by decide +kernel
theorem dX11_isRest_26 : decode cX11_isRest 26 = .ok (.if_icmp .gt 20, 3) := by decide +kernel
theorem dX11_isRest_29 : decode cX11_isRest 29 = .ok (.aload_n 0, 1) := by decide +kernel
theorem dX11_isRest_30 : decode cX11_isRest 30 = .ok (.iconst 1, 1) := by decide +kernel
theorem dX11_isRest_31 : decode cX11_isRest 31 = .ok (.iload_n 3, 1) := by decide +kernel
theorem dX11_isRest_32 : decode cX11_isRest 32 = .ok (.iload_n 1, 1) := by decide +kernel
theorem dX11_isRest_33 : decode cX11_isRest 33 = .ok (.invokevirtual 458, 3) := by decide +kernel
theorem dX11_isRest_36 : decode cX11_isRest 36 = .ok (.aload_n 0, 1) := by decide +kernel
theorem dX11_isRest_37 : decode cX11_isRest 37 = .ok (.iconst 1, 1) := by decide +kernel
theorem dX11_isRest_38 : decode cX11_isRest 38 = .ok (.iload_n 2, 1) := by decide +kernel
theorem dX11_isRest_39 : decode cX11_isRest 39 = .ok (.iload_n 1, 1) := by decide +kernel
theorem dX11_isRest_40 : decode cX11_isRest 40 = .ok (.invokevirtual 458, 3) := by decide +kernel
theorem dX11_isRest_43 : decode cX11_isRest 43 = .ok (.if_icmp .le 5, 3) := by decide +kernel
theorem dX11_isRest_46 : decode cX11_isRest 46 = .ok (.iconst 0, 1) := by decide +kernel
theorem dX11_isRest_47 : decode cX11_isRest 47 = .ok (.ireturn, 1) := by decide +kernel
theorem dX11_isRest_48 : decode cX11_isRest 48 = .ok (.iinc 3 1, 3) := by decide +kernel
theorem dX11_isRest_51 : decode cX11_isRest 51 = .ok (.goto (-49), 3) := by decide +kernel
theorem dX11_isRest_54 : decode cX11_isRest 54 = .ok (.iconst 1, 1) := by decide +kernel
theorem dX11_isRest_55 : decode cX11_isRest 55 = .ok (.ireturn, 1) := by decide +kernel
theorem dX11_restOf_0 : decode cX11_restOf 0 = .ok (.iconst 0, 1) := by decide +kernel
theorem dX11_restOf_1 : decode cX11_restOf 1 = .ok (.istore_n 2, 1) := by decide +kernel
theorem dX11_restOf_2 : decode cX11_restOf 2 = .ok (.iload_n 2, 1) := by decide +kernel
theorem dX11_restOf_3 : decode cX11_restOf 3 = .ok (.bipush 12, 2) := by decide +kernel
theorem dX11_restOf_5 : decode cX11_restOf 5 = .ok (.if_icmp .ge 16, 3) := by decide +kernel
theorem dX11_restOf_8 : decode cX11_restOf 8 = .ok (.aload_n 0, 1) := by decide +kernel
theorem dX11_restOf_9 : decode cX11_restOf 9 = .ok (.getfield 114, 3) := by decide +kernel
theorem dX11_restOf_12 : decode cX11_restOf 12 = .ok (.iload_n 2, 1) := by decide +kernel
theorem dX11_restOf_13 : decode cX11_restOf 13 = .ok (.iconst 0, 1) := by decide +kernel
theorem dX11_restOf_14 : decode cX11_restOf 14 = .ok (.iastore, 1) := by decide +kernel
theorem dX11_restOf_15 : decode cX11_restOf 15 = .ok (.iinc 2 1, 3) := by decide +kernel
theorem dX11_restOf_18 : decode cX11_restOf 18 = .ok (.goto (-16), 3) := by decide +kernel
theorem dX11_restOf_21 : decode cX11_restOf 21 = .ok (.iconst 0, 1) := by decide +kernel
theorem dX11_restOf_22 : decode cX11_restOf 22 = .ok (.istore_n 2, 1) := by decide +kernel
theorem dX11_restOf_23 : decode cX11_restOf 23 = .ok (.iload_n 2, 1) := by decide +kernel
theorem dX11_restOf_24 : decode cX11_restOf 24 = .ok (.aload_n 0, 1) := by decide +kernel
theorem dX11_restOf_25 : decode cX11_restOf 25 = .ok (.getfield 13, 3) := by decide +kernel
theorem dX11_restOf_28 : decode cX11_restOf 28 = .ok (.iconst 3, 1) := by decide +kernel
theorem dX11_restOf_29 : decode cX11_restOf 29 = .ok (.iaload, 1) := by decide +kernel
theorem dX11_restOf_30 : decode cX11_restOf 30 = .ok (.if_icmp .ge 53, 3) := by decide +kernel
theorem dX11_restOf_33 : decode cX11_restOf 33 = .ok (.iconst 0, 1) := by decide +kernel
theorem dX11_restOf_34 : decode cX11_restOf 34 = .ok (.istore_n 3, 1) := by decide +kernel
theorem dX11_restOf_35 : decode cX11_restOf 35 = .ok (.iload_n 3, 1) := by decide +kernel
theorem dX11_restOf_36 : decode cX11_restOf 36 = .ok (.aload_n 0, 1) := by decide +kernel
theorem dX11_restOf_37 : decode cX11_restOf 37 = .ok (.getfield 13, 3) := by decide +kernel
theorem dX11_restOf_40 : decode cX11_restOf 40 = .ok (.iconst 0, 1) := by decide +kernel
theorem dX11_restOf_41 : decode cX11_restOf 41 = .ok (.iaload, 1) := by decide +kernel
theorem dX11_restOf_42 : decode cX11_restOf 42 = .ok (.if_icmp .ge 35, 3) := by decide +kernel
theorem dX11_restOf_45 : decode cX11_restOf 45 = .ok (.aload_n 0, 1) := by decide +kernel
theorem dX11_restOf_46 : decode cX11_restOf 46 = .ok (.getfield 114, 3) := by decide +kernel
theorem dX11_restOf_49 : decode cX11_restOf 49 = .ok (.bipush 6, 2) := by decide +kernel
theorem dX11_restOf_51 : decode cX11_restOf 51 = .ok (.aload_n 0, 1) := by decide +kernel
theorem dX11_restOf_52 : decode cX11_restOf 52 = .ok (.getfield 46, 3) := by decide +kernel
theorem dX11_restOf_55 : decode cX11_restOf 55 = .ok (.iload_n 2, 1) := by decide +kernel
theorem dX11_restOf_56 : decode cX11_restOf 56 = .ok (.iaload, 1) := by decide +kernel
theorem dX11_restOf_57 : decode cX11_restOf 57 = .ok (.imul, 1) := by decide +kernel
theorem dX11_restOf_58 : decode cX11_restOf 58 = .ok (.iload_n 3, 1) := by decide +kernel
theorem dX11_restOf_59 : decode cX11_restOf 59 = .ok (.iadd, 1) := by decide +kernel
theorem dX11_restOf_60 : decode cX11_restOf 60 = .ok (.dup2, 1) := by decide +kernel
theorem dX11_restOf_61 : decode cX11_restOf 61 = .ok (.iaload, 1) := by decide +kernel
theorem dX11_restOf_62 : decode cX11_restOf 62 = .ok (.aload_n 0, 1) := by decide +kernel
theorem dX11_restOf_63 : decode cX11_restOf 63 = .ok (.iconst 0, 1) := by decide +kernel
theorem dX11_restOf_64 : decode cX11_restOf 64 = .ok (.iload_n 2, 1) := by decide +kernel
theorem dX11_restOf_65 : decode cX11_restOf 65 = .ok (.iload_n 3, 1) := by decide +kernel
theorem dX11_restOf_66 : decode cX11_restOf 66 = .ok (.invokevirtual 385, 3) := by decide +kernel
theorem dX11_restOf_69 : decode cX11_restOf 69 = .ok (.iadd, 1) := by decide +kernel
theorem dX11_restOf_70 : decode cX11_restOf 70 = .ok (.iastore, 1) := by decide +kernel
theorem dX11_restOf_71 : decode cX11_restOf 71 = .ok (.iinc 3 1, 3) := by decide +kernel
theorem dX11_restOf_74 : decode cX11_restOf 74 = .ok (.goto (-39), 3) := by decide +kernel
theorem dX11_restOf_77 : decode cX11_restOf 77 = .ok (.iinc 2 1, 3) := by decide +kernel
theorem dX11_restOf_80 : decode cX11_restOf 80 = .ok (.goto (-57), 3) := by decide +kernel
theorem dX11_restOf_83 : decode cX11_restOf 83 = .ok (.iconst 0, 1) := by decide +kernel
theorem dX11_restOf_84 : decode cX11_restOf 84 = .ok (.istore_n 2, 1) := by decide +kernel
theorem dX11_restOf_85 : decode cX11_restOf 85 = .ok (.iconst 0, 1) := by decide +kernel
theorem dX11_restOf_86 : decode cX11_restOf 86 = .ok (.istore_n 3, 1) := by decide +kernel
theorem dX11_restOf_87 : decode cX11_restOf 87 = .ok (.iload_n 3, 1) := by decide +kernel
theorem dX11_restOf_88 : decode cX11_restOf 88 = .ok (.aload_n 0, 1) := by decide +kernel
theorem dX11_restOf_89 : decode cX11_restOf 89 = .ok (.getfield 13, 3) := by decide +kernel
theorem dX11_restOf_92 : decode cX11_restOf 92 = .ok (.iconst 0, 1) := by decide +kernel
theorem dX11_restOf_93 : decode cX11_restOf 93 = .ok (.iaload, 1) := by decide +kernel
theorem dX11_restOf_94 : decode cX11_restOf 94 = .ok (.if_icmp .ge 58, 3) := by decide +kernel
theorem dX11_restOf_97 : decode cX11_restOf 97 = .ok (.iconst 0, 1) := by decide +kernel
theorem dX11_restOf_98 : decode cX11_restOf 98 = .ok (.istore 4, 2) := by decide +kernel
theorem dX11_restOf_100 : decode cX11_restOf 100 = .ok (.iload 4, 2) := by decide +kernel
theorem dX11_restOf_102 : decode cX11_restOf 102 = .ok (.aload_n 0, 1) := by decide +kernel
theorem dX11_restOf_103 : decode cX11_restOf 103 = .ok (.getfield 13, 3) := by decide +kernel
theorem dX11_restOf_106 : decode cX11_restOf 106 = .ok (.iconst 0, 1) := by decide +kernel
theorem dX11_restOf_107 : decode cX11_restOf 107 = .ok (.iaload, 1) := by decide +kernel
theorem dX11_restOf_108 : decode cX11_restOf 108 = .ok (.if_icmp .ge 38, 3) := by decide +kernel
theorem dX11_restOf_111 : decode cX11_restOf 111 = .ok (.aload_n 0, 1) := by decide +kernel
theorem dX11_restOf_112 : decode cX11_restOf 112 = .ok (.iload_n 3, 1) := by decide +kernel
theorem dX11_restOf_113 : decode cX11_restOf 113 = .ok (.iload 4, 2) := by decide +kernel
theorem dX11_restOf_115 : decode cX11_restOf 115 = .ok (.invokevirtual 461, 3) := by decide +kernel
theorem dX11_restOf_118 : decode cX11_restOf 118 = .ok (.ifCond .ne 6, 3) := by decide +kernel
theorem dX11_restOf_121 : decode cX11_restOf 121 = .ok (.goto 19, 3) := by decide +kernel
theorem dX11_restOf_124 : decode cX11_restOf 124 = .ok (.iload_n 2, 1) := by decide +kernel
theorem dX11_restOf_125 : decode cX11_restOf 125 = .ok (.iload_n 1, 1) := by decide +kernel
theorem dX11_restOf_126 : decode cX11_restOf 126 = .ok (.if_icmp .ne 11, 3) := by decide +kernel
theorem dX11_restOf_129 : decode cX11_restOf 129 = .ok (.bipush 10, 2) := by decide +kernel
theorem dX11_restOf_131 : decode cX11_restOf 131 = .ok (.iload_n 3, 1) := by decide +kernel
theorem dX11_restOf_132 : decode cX11_restOf 132 = .ok (.imul, 1) := by decide +kernel
theorem dX11_restOf_133 : decode cX11_restOf 133 = .ok (.iload 4, 2) := by decide +kernel
theorem dX11_restOf_135 : decode cX11_restOf 135 = .ok (.iadd, 1) := by decide +kernel
theorem dX11_restOf_136 : decode cX11_restOf 136 = .ok (.ireturn, 1) := by decide +kernel
theorem dX11_restOf_137 : decode cX11_restOf 137 = .ok (.iinc 2 1, 3) := by decide +kernel
theorem dX11_restOf_140 : decode cX11_restOf 140 = .ok (.iinc 4 1, 3) := by decide +kernel
theorem dX11_restOf_143 : decode cX11_restOf 143 = .ok (.goto (-43), 3) := by decide +kernel
theorem dX11_restOf_146 : decode cX11_restOf 146 = .ok (.iinc 3 1, 3) := by decide +kernel
theorem dX11_restOf_149 : decode cX11_restOf 149 = .ok (.goto (-62), 3) := by decide +kernel
theorem dX11_restOf_152 : decode cX11_restOf 152 = .ok (.iload_n 1, 1) := by decide +kernel
theorem dX11_restOf_153 : decode cX11_restOf 153 = .ok (.iconst (-1), 1) := by decide +kernel
theorem dX11_restOf_154 : decode cX11_restOf 154 = .ok (.if_icmp .ne 7, 3) := by decide +kernel
theorem dX11_restOf_157 : decode cX11_restOf 157 = .ok (.iload_n 2, 1) := by decide +kernel
theorem dX11_restOf_158 : decode cX11_restOf 158 = .ok (.goto 5, 3) := by decide +kernel
theorem dX11_restOf_161 : decode cX11_restOf 161 = .ok (.bipush (-2), 2) := by decide +kernel
theorem dX11_restOf_163 : decode cX11_restOf 163 = .ok (.ireturn, 1) := by decide +kernel
theorem dX11_rests_0 : decode cX11_rests 0 = .ok (.aload_n 0, 1) := by decide +kernel
theorem dX11_rests_1 : decode cX11_rests 1 = .ok (.iconst 0, 1) := by decide +kernel
theorem dX11_rests_2 : decode cX11_rests 2 = .ok (.putfield 148, 3) := by decide +kernel
theorem dX11_rests_5 : decode cX11_rests 5 = .ok (.aload_n 0, 1) := by decide +kernel
theorem dX11_rests_6 : decode cX11_rests 6 = .ok (.getfield 13, 3) := by decide +kernel
theorem dX11_rests_9 : decode cX11_rests 9 = .ok (.iconst 0, 1) := by decide +kernel
theorem dX11_rests_10 : decode cX11_rests 10 = .ok (.iaload, 1) := by decide +kernel
theorem dX11_rests_11 : decode cX11_rests 11 = .ok (.ifCond .ne 7, 3) := by decide +kernel
theorem dX11_rests_14 : decode cX11_rests 14 = .ok (.iconst (-1), 1) := by decide +kernel
theorem dX11_rests_15 : decode cX11_rests 15 = .ok (.goto 8, 3) := by decide +kernel
theorem dX11_rests_18 : decode cX11_rests 18 = .ok (.aload_n 0, 1) := by decide +kernel
theorem dX11_rests_19 : decode cX11_rests 19 = .ok (.iconst (-1), 1) := by decide +kernel
theorem dX11_rests_20 : decode cX11_rests 20 = .ok (.invokevirtual 464, 3) := by decide +kernel
theorem dX11_rests_23 : decode cX11_rests 23 = .ok (.ireturn, 1) := by decide +kernel
theorem dX11_rest_0 : decode cX11_rest 0 = .ok (.aload_n 0, 1) := by decide +kernel
theorem dX11_rest_1 : decode cX11_rest 1 = .ok (.iconst 0, 1) := by decide +kernel
theorem dX11_rest_2 : decode cX11_rest 2 = .ok (.putfield 148, 3) := by decide +kernel
theorem dX11_rest_5 : decode cX11_rest 5 = .ok (.aload_n 0, 1) := by decide +kernel
theorem dX11_rest_6 : decode cX11_rest 6 = .ok (.getfield 13, 3) := by decide +kernel
theorem dX11_rest_9 : decode cX11_rest 9 = .ok (.iconst 0, 1) := by decide +kernel
theorem dX11_rest_10 : decode cX11_rest 10 = .ok (.iaload, 1) := by decide +kernel
theorem dX11_rest_11 : decode cX11_rest 11 = .ok (.ifCond .eq 7, 3) := by decide +kernel
theorem dX11_rest_14 : decode cX11_rest 14 = .ok (.iload_n 1, 1) := by decide +kernel
theorem dX11_rest_15 : decode cX11_rest 15 = .ok (.ifCond .ge 7, 3) := by decide +kernel
theorem dX11_rest_18 : decode cX11_rest 18 = .ok (.iconst (-1), 1) := by decide +kernel
theorem dX11_rest_19 : decode cX11_rest 19 = .ok (.goto 8, 3) := by decide +kernel
theorem dX11_rest_22 : decode cX11_rest 22 = .ok (.aload_n 0, 1) := by decide +kernel
theorem dX11_rest_23 : decode cX11_rest 23 = .ok (.iload_n 1, 1) := by decide +kernel
theorem dX11_rest_24 : decode cX11_rest 24 = .ok (.invokevirtual 464, 3) := by decide +kernel
theorem dX11_rest_27 : decode cX11_rest 27 = .ok (.ireturn, 1) := by decide +kernel
theorem dX11_way_0 : decode cX11_way 0 = .ok (.aload_n 0, 1) := by decide +kernel
theorem dX11_way_1 : decode cX11_way 1 = .ok (.iconst 0, 1) := by decide +kernel
theorem dX11_way_2 : decode cX11_way 2 = .ok (.putfield 148, 3) := by decide +kernel
theorem dX11_way_5 : decode cX11_way 5 = .ok (.aload_n 0, 1) := by decide +kernel
theorem dX11_way_6 : decode cX11_way 6 = .ok (.iload_n 1, 1) := by decide +kernel
theorem dX11_way_7 : decode cX11_way 7 = .ok (.invokevirtual 419, 3) := by decide +kernel
theorem dX11_way_10 : decode cX11_way 10 = .ok (.ifCond .eq 11, 3) := by decide +kernel
theorem dX11_way_13 : decode cX11_way 13 = .ok (.aload_n 0, 1) := by decide +kernel
theorem dX11_way_14 : decode cX11_way 14 = .ok (.iload_n 2, 1) := by decide +kernel
theorem dX11_way_15 : decode cX11_way 15 = .ok (.invokevirtual 419, 3) := by decide +kernel
theorem dX11_way_18 : decode cX11_way 18 = .ok (.ifCond .ne 5, 3) := by decide +kernel
theorem dX11_way_21 : decode cX11_way 21 = .ok (.iconst (-1), 1) := by decide +kernel
theorem dX11_way_22 : decode cX11_way 22 = .ok (.ireturn, 1) := by decide +kernel
theorem dX11_way_23 : decode cX11_way 23 = .ok (.iconst 0, 1) := by decide +kernel
theorem dX11_way_24 : decode cX11_way 24 = .ok (.istore_n 3, 1) := by decide +kernel
theorem dX11_way_25 : decode cX11_way 25 = .ok (.iload_n 3, 1) := by decide +kernel
theorem dX11_way_26 : decode cX11_way 26 = .ok (.bipush 6, 2) := by decide +kernel
theorem dX11_way_28 : decode cX11_way 28 = .ok (.if_icmp .ge 17, 3) := by decide +kernel
theorem dX11_way_31 : decode cX11_way 31 = .ok (.aload_n 0, 1) := by decide +kernel
theorem dX11_way_32 : decode cX11_way 32 = .ok (.getfield 117, 3) := by decide +kernel
theorem dX11_way_35 : decode cX11_way 35 = .ok (.iload_n 3, 1) := by decide +kernel
theorem dX11_way_36 : decode cX11_way 36 = .ok (.bipush (-2), 2) := by decide +kernel
theorem dX11_way_38 : decode cX11_way 38 = .ok (.iastore, 1) := by decide +kernel
theorem dX11_way_39 : decode cX11_way 39 = .ok (.iinc 3 1, 3) := by decide +kernel
theorem dX11_way_42 : decode cX11_way 42 = .ok (.goto (-17), 3) := by decide +kernel
theorem dX11_way_45 : decode cX11_way 45 = .ok (.aload_n 0, 1) := by decide +kernel
theorem dX11_way_46 : decode cX11_way 46 = .ok (.getfield 117, 3) := by decide +kernel
theorem dX11_way_49 : decode cX11_way 49 = .ok (.iload_n 1, 1) := by decide +kernel
theorem dX11_way_50 : decode cX11_way 50 = .ok (.iconst 0, 1) := by decide +kernel
theorem dX11_way_51 : decode cX11_way 51 = .ok (.iastore, 1) := by decide +kernel
theorem dX11_way_52 : decode cX11_way 52 = .ok (.aload_n 0, 1) := by decide +kernel
theorem dX11_way_53 : decode cX11_way 53 = .ok (.getfield 120, 3) := by decide +kernel
theorem dX11_way_56 : decode cX11_way 56 = .ok (.iconst 0, 1) := by decide +kernel
theorem dX11_way_57 : decode cX11_way 57 = .ok (.iload_n 1, 1) := by decide +kernel
theorem dX11_way_58 : decode cX11_way 58 = .ok (.iastore, 1) := by decide +kernel
theorem dX11_way_59 : decode cX11_way 59 = .ok (.iconst 1, 1) := by decide +kernel
theorem dX11_way_60 : decode cX11_way 60 = .ok (.istore_n 3, 1) := by decide +kernel
theorem dX11_way_61 : decode cX11_way 61 = .ok (.iconst 0, 1) := by decide +kernel
theorem dX11_way_62 : decode cX11_way 62 = .ok (.istore 4, 2) := by decide +kernel
theorem dX11_way_64 : decode cX11_way 64 = .ok (.iload 4, 2) := by decide +kernel
theorem dX11_way_66 : decode cX11_way 66 = .ok (.iload_n 3, 1) := by decide +kernel
theorem dX11_way_67 : decode cX11_way 67 = .ok (.if_icmp .ge 92, 3) := by decide +kernel
theorem dX11_way_70 : decode cX11_way 70 = .ok (.iconst 0, 1) := by decide +kernel
theorem dX11_way_71 : decode cX11_way 71 = .ok (.istore 5, 2) := by decide +kernel
theorem dX11_way_73 : decode cX11_way 73 = .ok (.iload 5, 2) := by decide +kernel
theorem dX11_way_75 : decode cX11_way 75 = .ok (.aload_n 0, 1) := by decide +kernel
theorem dX11_way_76 : decode cX11_way 76 = .ok (.getfield 13, 3) := by decide +kernel
theorem dX11_way_79 : decode cX11_way 79 = .ok (.iconst 0, 1) := by decide +kernel
theorem dX11_way_80 : decode cX11_way 80 = .ok (.iaload, 1) := by decide +kernel
theorem dX11_way_81 : decode cX11_way 81 = .ok (.if_icmp .ge 72, 3) := by decide +kernel
theorem dX11_way_84 : decode cX11_way 84 = .ok (.aload_n 0, 1) := by decide +kernel
theorem dX11_way_85 : decode cX11_way 85 = .ok (.getfield 117, 3) := by decide +kernel
theorem dX11_way_88 : decode cX11_way 88 = .ok (.iload 5, 2) := by decide +kernel
theorem dX11_way_90 : decode cX11_way 90 = .ok (.iaload, 1) := by decide +kernel
theorem dX11_way_91 : decode cX11_way 91 = .ok (.bipush (-2), 2) := by decide +kernel
theorem dX11_way_93 : decode cX11_way 93 = .ok (.if_icmp .ne 54, 3) := by decide +kernel
theorem dX11_way_96 : decode cX11_way 96 = .ok (.aload_n 0, 1) := by decide +kernel
theorem dX11_way_97 : decode cX11_way 97 = .ok (.aload_n 0, 1) := by decide +kernel
theorem dX11_way_98 : decode cX11_way 98 = .ok (.getfield 120, 3) := by decide +kernel
theorem dX11_way_101 : decode cX11_way 101 = .ok (.iload 4, 2) := by decide +kernel
theorem dX11_way_103 : decode cX11_way 103 = .ok (.iaload, 1) := by decide +kernel
theorem dX11_way_104 : decode cX11_way 104 = .ok (.iload 5, 2) := by decide +kernel
theorem dX11_way_106 : decode cX11_way 106 = .ok (.invokevirtual 388, 3) := by decide +kernel
theorem dX11_way_109 : decode cX11_way 109 = .ok (.ifCond .ne 6, 3) := by decide +kernel
theorem dX11_way_112 : decode cX11_way 112 = .ok (.goto 35, 3) := by decide +kernel
theorem dX11_way_115 : decode cX11_way 115 = .ok (.aload_n 0, 1) := by decide +kernel
theorem dX11_way_116 : decode cX11_way 116 = .ok (.getfield 117, 3) := by decide +kernel
theorem dX11_way_119 : decode cX11_way 119 = .ok (.iload 5, 2) := by decide +kernel
theorem dX11_way_121 : decode cX11_way 121 = .ok (.aload_n 0, 1) := by decide +kernel
theorem dX11_way_122 : decode cX11_way 122 = .ok (.getfield 117, 3) := by decide +kernel
theorem dX11_way_125 : decode cX11_way 125 = .ok (.aload_n 0, 1) := by decide +kernel
theorem dX11_way_126 : decode cX11_way 126 = .ok (.getfield 120, 3) := by decide +kernel
theorem dX11_way_129 : decode cX11_way 129 = .ok (.iload 4, 2) := by decide +kernel
theorem dX11_way_131 : decode cX11_way 131 = .ok (.iaload, 1) := by decide +kernel
theorem dX11_way_132 : decode cX11_way 132 = .ok (.iaload, 1) := by decide +kernel
theorem dX11_way_133 : decode cX11_way 133 = .ok (.iconst 1, 1) := by decide +kernel
theorem dX11_way_134 : decode cX11_way 134 = .ok (.iadd, 1) := by decide +kernel
theorem dX11_way_135 : decode cX11_way 135 = .ok (.iastore, 1) := by decide +kernel
theorem dX11_way_136 : decode cX11_way 136 = .ok (.aload_n 0, 1) := by decide +kernel
theorem dX11_way_137 : decode cX11_way 137 = .ok (.getfield 120, 3) := by decide +kernel
theorem dX11_way_140 : decode cX11_way 140 = .ok (.iload_n 3, 1) := by decide +kernel
theorem dX11_way_141 : decode cX11_way 141 = .ok (.iload 5, 2) := by decide +kernel
theorem dX11_way_143 : decode cX11_way 143 = .ok (.iastore, 1) := by decide +kernel
theorem dX11_way_144 : decode cX11_way 144 = .ok (.iinc 3 1, 3) := by decide +kernel
theorem dX11_way_147 : decode cX11_way 147 = .ok (.iinc 5 1, 3) := by decide +kernel
theorem dX11_way_150 : decode cX11_way 150 = .ok (.goto (-77), 3) := by decide +kernel
theorem dX11_way_153 : decode cX11_way 153 = .ok (.iinc 4 1, 3) := by decide +kernel
theorem dX11_way_156 : decode cX11_way 156 = .ok (.goto (-92), 3) := by decide +kernel
theorem dX11_way_159 : decode cX11_way 159 = .ok (.aload_n 0, 1) := by decide +kernel
theorem dX11_way_160 : decode cX11_way 160 = .ok (.getfield 117, 3) := by decide +kernel
theorem dX11_way_163 : decode cX11_way 163 = .ok (.iload_n 2, 1) := by decide +kernel
theorem dX11_way_164 : decode cX11_way 164 = .ok (.iaload, 1) := by decide +kernel
theorem dX11_way_165 : decode cX11_way 165 = .ok (.ireturn, 1) := by decide +kernel
theorem dX11_common_0 : decode cX11_common 0 = .ok (.lload_n 0, 1) := by decide +kernel
theorem dX11_common_1 : decode cX11_common 1 = .ok (.lstore 4, 2) := by decide +kernel
theorem dX11_common_3 : decode cX11_common 3 = .ok (.lload_n 2, 1) := by decide +kernel
theorem dX11_common_4 : decode cX11_common 4 = .ok (.lstore 6, 2) := by decide +kernel
theorem dX11_common_6 : decode cX11_common 6 = .ok (.lload 6, 2) := by decide +kernel
theorem dX11_common_8 : decode cX11_common 8 = .ok (.lconst 0, 1) := by decide +kernel
theorem dX11_common_9 : decode cX11_common 9 = .ok (.lcmp, 1) := by decide +kernel
theorem dX11_common_10 : decode cX11_common 10 = .ok (.ifCond .eq 21, 3) := by decide +kernel
theorem dX11_common_13 : decode cX11_common 13 = .ok (.lload 4, 2) := by decide +kernel
theorem dX11_common_15 : decode cX11_common 15 = .ok (.lload 6, 2) := by decide +kernel
theorem dX11_common_17 : decode cX11_common 17 = .ok (.lrem, 1) := by decide +kernel
theorem dX11_common_18 : decode cX11_common 18 = .ok (.lstore 8, 2) := by decide +kernel
theorem dX11_common_20 : decode cX11_common 20 = .ok (.lload 6, 2) := by decide +kernel
theorem dX11_common_22 : decode cX11_common 22 = .ok (.lstore 4, 2) := by decide +kernel
theorem dX11_common_24 : decode cX11_common 24 = .ok (.lload 8, 2) := by decide +kernel
theorem dX11_common_26 : decode cX11_common 26 = .ok (.lstore 6, 2) := by decide +kernel
theorem dX11_common_28 : decode cX11_common 28 = .ok (.goto (-22), 3) := by decide +kernel
theorem dX11_common_31 : decode cX11_common 31 = .ok (.lload 4, 2) := by decide +kernel
theorem dX11_common_33 : decode cX11_common 33 = .ok (.lreturn, 1) := by decide +kernel
theorem dX11_likely_0 : decode cX11_likely 0 = .ok (.aload_n 0, 1) := by decide +kernel
theorem dX11_likely_1 : decode cX11_likely 1 = .ok (.iconst 0, 1) := by decide +kernel
theorem dX11_likely_2 : decode cX11_likely 2 = .ok (.putfield 148, 3) := by decide +kernel
theorem dX11_likely_5 : decode cX11_likely 5 = .ok (.aload_n 0, 1) := by decide +kernel
theorem dX11_likely_6 : decode cX11_likely 6 = .ok (.iload_n 1, 1) := by decide +kernel
theorem dX11_likely_7 : decode cX11_likely 7 = .ok (.invokevirtual 428, 3) := by decide +kernel
theorem dX11_likely_10 : decode cX11_likely 10 = .ok (.ifCond .eq 33, 3) := by decide +kernel
theorem dX11_likely_13 : decode cX11_likely 13 = .ok (.iload_n 2, 1) := by decide +kernel
theorem dX11_likely_14 : decode cX11_likely 14 = .ok (.ifCond .lt 29, 3) := by decide +kernel
theorem dX11_likely_17 : decode cX11_likely 17 = .ok (.iload_n 2, 1) := by decide +kernel
theorem dX11_likely_18 : decode cX11_likely 18 = .ok (.bipush 8, 2) := by decide +kernel
theorem dX11_likely_20 : decode cX11_likely 20 = .ok (.if_icmp .gt 23, 3) := by decide +kernel
theorem dX11_likely_23 : decode cX11_likely 23 = .ok (.iload_n 3, 1) := by decide +kernel
theorem dX11_likely_24 : decode cX11_likely 24 = .ok (.ifCond .lt 19, 3) := by decide +kernel
theorem dX11_likely_27 : decode cX11_likely 27 = .ok (.iload_n 3, 1) := by decide +kernel
theorem dX11_likely_28 : decode cX11_likely 28 = .ok (.iload_n 2, 1) := by decide +kernel
theorem dX11_likely_29 : decode cX11_likely 29 = .ok (.if_icmp .gt 14, 3) := by decide +kernel
theorem dX11_likely_32 : decode cX11_likely 32 = .ok (.iload 4, 2) := by decide +kernel
theorem dX11_likely_34 : decode cX11_likely 34 = .ok (.ifCond .lt 9, 3) := by decide +kernel
theorem dX11_likely_37 : decode cX11_likely 37 = .ok (.iload 4, 2) := by decide +kernel
theorem dX11_likely_39 : decode cX11_likely 39 = .ok (.iconst 1, 1) := by decide +kernel
theorem dX11_likely_40 : decode cX11_likely 40 = .ok (.if_icmp .le 7, 3) := by decide +kernel
theorem dX11_likely_43 : decode cX11_likely 43 = .ok (.ldc2_w 467, 3) := by decide +kernel
theorem dX11_likely_46 : decode cX11_likely 46 = .ok (.lreturn, 1) := by decide +kernel
theorem dX11_likely_47 : decode cX11_likely 47 = .ok (.lconst 1, 1) := by decide +kernel
theorem dX11_likely_48 : decode cX11_likely 48 = .ok (.lstore 5, 2) := by decide +kernel
theorem dX11_likely_50 : decode cX11_likely 50 = .ok (.lconst 1, 1) := by decide +kernel
theorem dX11_likely_51 : decode cX11_likely 51 = .ok (.lstore 7, 2) := by decide +kernel
theorem dX11_likely_53 : decode cX11_likely 53 = .ok (.iconst 0, 1) := by decide +kernel
theorem dX11_likely_54 : decode cX11_likely 54 = .ok (.istore 9, 2) := by decide +kernel
theorem dX11_likely_56 : decode cX11_likely 56 = .ok (.iload 9, 2) := by decide +kernel
theorem dX11_likely_58 : decode cX11_likely 58 = .ok (.iload_n 3, 1) := by decide +kernel
theorem dX11_likely_59 : decode cX11_likely 59 = .ok (.if_icmp .ge 25, 3) := by decide +kernel
theorem dX11_likely_62 : decode cX11_likely 62 = .ok (.lload 5, 2) := by decide +kernel
theorem dX11_likely_64 : decode cX11_likely 64 = .ok (.iload_n 2, 1) := by decide +kernel
theorem dX11_likely_65 : decode cX11_likely 65 = .ok (.iload 9, 2) := by decide +kernel
theorem dX11_likely_67 : decode cX11_likely 67 = .ok (.isub, 1) := by decide +kernel
theorem dX11_likely_68 : decode cX11_likely 68 = .ok (.i2l, 1) := by decide +kernel
theorem dX11_likely_69 : decode cX11_likely 69 = .ok (.lmul, 1) := by decide +kernel
theorem dX11_likely_70 : decode cX11_likely 70 = .ok (.iload 9, 2) := by decide +kernel
theorem dX11_likely_72 : decode cX11_likely 72 = .ok (.iconst 1, 1) := by decide +kernel
theorem dX11_likely_73 : decode cX11_likely 73 = .ok (.iadd, 1) := by decide +kernel
theorem dX11_likely_74 : decode cX11_likely 74 = .ok (.i2l, 1) := by decide +kernel
theorem dX11_likely_75 : decode cX11_likely 75 = .ok (.ldiv, 1) := by decide +kernel
theorem dX11_likely_76 : decode cX11_likely 76 = .ok (.lstore 5, 2) := by decide +kernel
theorem dX11_likely_78 : decode cX11_likely 78 = .ok (.iinc 9 1, 3) := by decide +kernel
theorem dX11_likely_81 : decode cX11_likely 81 = .ok (.goto (-25), 3) := by decide +kernel
theorem dX11_likely_84 : decode cX11_likely 84 = .ok (.iconst 0, 1) := by decide +kernel
theorem dX11_likely_85 : decode cX11_likely 85 = .ok (.istore 9, 2) := by decide +kernel
theorem dX11_likely_87 : decode cX11_likely 87 = .ok (.iload 9, 2) := by decide +kernel
theorem dX11_likely_89 : decode cX11_likely 89 = .ok (.iload_n 2, 1) := by decide +kernel
theorem dX11_likely_90 : decode cX11_likely 90 = .ok (.if_icmp .ge 48, 3) := by decide +kernel
theorem dX11_likely_93 : decode cX11_likely 93 = .ok (.lload 5, 2) := by decide +kernel
theorem dX11_likely_95 : decode cX11_likely 95 = .ok (.iload 9, 2) := by decide +kernel
theorem dX11_likely_97 : decode cX11_likely 97 = .ok (.iload_n 3, 1) := by decide +kernel
theorem dX11_likely_98 : decode cX11_likely 98 = .ok (.if_icmp .ge 16, 3) := by decide +kernel
theorem dX11_likely_101 : decode cX11_likely 101 = .ok (.bipush 100, 2) := by decide +kernel
theorem dX11_likely_103 : decode cX11_likely 103 = .ok (.aload_n 0, 1) := by decide +kernel
theorem dX11_likely_104 : decode cX11_likely 104 = .ok (.getfield 49, 3) := by decide +kernel
theorem dX11_likely_107 : decode cX11_likely 107 = .ok (.iload_n 1, 1) := by decide +kernel
theorem dX11_likely_108 : decode cX11_likely 108 = .ok (.iaload, 1) := by decide +kernel
theorem dX11_likely_109 : decode cX11_likely 109 = .ok (.isub, 1) := by decide +kernel
theorem dX11_likely_110 : decode cX11_likely 110 = .ok (.i2l, 1) := by decide +kernel
theorem dX11_likely_111 : decode cX11_likely 111 = .ok (.goto 10, 3) := by decide +kernel
theorem dX11_likely_114 : decode cX11_likely 114 = .ok (.aload_n 0, 1) := by decide +kernel
theorem dX11_likely_115 : decode cX11_likely 115 = .ok (.getfield 49, 3) := by decide +kernel
theorem dX11_likely_118 : decode cX11_likely 118 = .ok (.iload_n 1, 1) := by decide +kernel
theorem dX11_likely_119 : decode cX11_likely 119 = .ok (.iaload, 1) := by decide +kernel
theorem dX11_likely_120 : decode cX11_likely 120 = .ok (.i2l, 1) := by decide +kernel
theorem dX11_likely_121 : decode cX11_likely 121 = .ok (.lmul, 1) := by decide +kernel
theorem dX11_likely_122 : decode cX11_likely 122 = .ok (.lstore 5, 2) := by decide +kernel
theorem dX11_likely_124 : decode cX11_likely 124 = .ok (.lload 7, 2) := by decide +kernel
theorem dX11_likely_126 : decode cX11_likely 126 = .ok (.ldc2_w 469, 3) := by decide +kernel
theorem dX11_likely_129 : decode cX11_likely 129 = .ok (.lmul, 1) := by decide +kernel
theorem dX11_likely_130 : decode cX11_likely 130 = .ok (.lstore 7, 2) := by decide +kernel
theorem dX11_likely_132 : decode cX11_likely 132 = .ok (.iinc 9 1, 3) := by decide +kernel
theorem dX11_likely_135 : decode cX11_likely 135 = .ok (.goto (-48), 3) := by decide +kernel
theorem dX11_likely_138 : decode cX11_likely 138 = .ok (.lload 5, 2) := by decide +kernel
theorem dX11_likely_140 : decode cX11_likely 140 = .ok (.lload 7, 2) := by decide +kernel
theorem dX11_likely_142 : decode cX11_likely 142 = .ok (.invokestatic 471, 3) := by decide +kernel
theorem dX11_likely_145 : decode cX11_likely 145 = .ok (.lstore 9, 2) := by decide +kernel
theorem dX11_likely_147 : decode cX11_likely 147 = .ok (.iload 4, 2) := by decide +kernel
theorem dX11_likely_149 : decode cX11_likely 149 = .ok (.ifCond .ne 11, 3) := by decide +kernel
theorem dX11_likely_152 : decode cX11_likely 152 = .ok (.lload 5, 2) := by decide +kernel
theorem dX11_likely_154 : decode cX11_likely 154 = .ok (.lload 9, 2) := by decide +kernel
theorem dX11_likely_156 : decode cX11_likely 156 = .ok (.ldiv, 1) := by decide +kernel
theorem dX11_likely_157 : decode cX11_likely 157 = .ok (.goto 8, 3) := by decide +kernel
theorem dX11_likely_160 : decode cX11_likely 160 = .ok (.lload 7, 2) := by decide +kernel
theorem dX11_likely_162 : decode cX11_likely 162 = .ok (.lload 9, 2) := by decide +kernel
theorem dX11_likely_164 : decode cX11_likely 164 = .ok (.ldiv, 1) := by decide +kernel
theorem dX11_likely_165 : decode cX11_likely 165 = .ok (.lreturn, 1) := by decide +kernel
theorem dX11_tickets_0 : decode cX11_tickets 0 = .ok (.aload_n 0, 1) := by decide +kernel
theorem dX11_tickets_1 : decode cX11_tickets 1 = .ok (.iconst 0, 1) := by decide +kernel
theorem dX11_tickets_2 : decode cX11_tickets 2 = .ok (.putfield 148, 3) := by decide +kernel
theorem dX11_tickets_5 : decode cX11_tickets 5 = .ok (.iload_n 1, 1) := by decide +kernel
theorem dX11_tickets_6 : decode cX11_tickets 6 = .ok (.iconst 1, 1) := by decide +kernel
theorem dX11_tickets_7 : decode cX11_tickets 7 = .ok (.if_icmp .lt 9, 3) := by decide +kernel
theorem dX11_tickets_10 : decode cX11_tickets 10 = .ok (.iload_n 1, 1) := by decide +kernel
theorem dX11_tickets_11 : decode cX11_tickets 11 = .ok (.bipush 99, 2) := by decide +kernel
theorem dX11_tickets_13 : decode cX11_tickets 13 = .ok (.if_icmp .le 5, 3) := by decide +kernel
theorem dX11_tickets_16 : decode cX11_tickets 16 = .ok (.iconst (-1), 1) := by decide +kernel
theorem dX11_tickets_17 : decode cX11_tickets 17 = .ok (.ireturn, 1) := by decide +kernel
theorem dX11_tickets_18 : decode cX11_tickets 18 = .ok (.aload_n 0, 1) := by decide +kernel
theorem dX11_tickets_19 : decode cX11_tickets 19 = .ok (.iconst 1, 1) := by decide +kernel
theorem dX11_tickets_20 : decode cX11_tickets 20 = .ok (.iconst 0, 1) := by decide +kernel
theorem dX11_tickets_21 : decode cX11_tickets 21 = .ok (.invokevirtual 403, 3) := by decide +kernel
theorem dX11_tickets_24 : decode cX11_tickets 24 = .ok (.iconst 0, 1) := by decide +kernel
theorem dX11_tickets_25 : decode cX11_tickets 25 = .ok (.istore_n 2, 1) := by decide +kernel
theorem dX11_tickets_26 : decode cX11_tickets 26 = .ok (.iconst 0, 1) := by decide +kernel
theorem dX11_tickets_27 : decode cX11_tickets 27 = .ok (.istore_n 3, 1) := by decide +kernel
theorem dX11_tickets_28 : decode cX11_tickets 28 = .ok (.iload_n 3, 1) := by decide +kernel
theorem dX11_tickets_29 : decode cX11_tickets 29 = .ok (.iload_n 1, 1) := by decide +kernel
theorem dX11_tickets_30 : decode cX11_tickets 30 = .ok (.if_icmp .ge 72, 3) := by decide +kernel
theorem dX11_tickets_33 : decode cX11_tickets 33 = .ok (.iconst 0, 1) := by decide +kernel
theorem dX11_tickets_34 : decode cX11_tickets 34 = .ok (.istore 4, 2) := by decide +kernel
theorem dX11_tickets_36 : decode cX11_tickets 36 = .ok (.iconst 0, 1) := by decide +kernel
theorem dX11_tickets_37 : decode cX11_tickets 37 = .ok (.istore 5, 2) := by decide +kernel
theorem dX11_tickets_39 : decode cX11_tickets 39 = .ok (.iload 5, 2) := by decide +kernel
theorem dX11_tickets_41 : decode cX11_tickets 41 = .ok (.aload_n 0, 1) := by decide +kernel
theorem dX11_tickets_42 : decode cX11_tickets 42 = .ok (.getfield 13, 3) := by decide +kernel
theorem dX11_tickets_45 : decode cX11_tickets 45 = .ok (.iconst 3, 1) := by decide +kernel
theorem dX11_tickets_46 : decode cX11_tickets 46 = .ok (.iaload, 1) := by decide +kernel
theorem dX11_tickets_47 : decode cX11_tickets 47 = .ok (.if_icmp .ge 32, 3) := by decide +kernel
theorem dX11_tickets_50 : decode cX11_tickets 50 = .ok (.aload_n 0, 1) := by decide +kernel
theorem dX11_tickets_51 : decode cX11_tickets 51 = .ok (.iconst 1, 1) := by decide +kernel
theorem dX11_tickets_52 : decode cX11_tickets 52 = .ok (.iload 5, 2) := by decide +kernel
theorem dX11_tickets_54 : decode cX11_tickets 54 = .ok (.invokevirtual 397, 3) := by decide +kernel
theorem dX11_tickets_57 : decode cX11_tickets 57 = .ok (.ifCond .ne 6, 3) := by decide +kernel
theorem dX11_tickets_60 : decode cX11_tickets 60 = .ok (.goto 13, 3) := by decide +kernel
theorem dX11_tickets_63 : decode cX11_tickets 63 = .ok (.iinc 4 1, 3) := by decide +kernel
theorem dX11_tickets_66 : decode cX11_tickets 66 = .ok (.aload_n 0, 1) := by decide +kernel
theorem dX11_tickets_67 : decode cX11_tickets 67 = .ok (.iconst 1, 1) := by decide +kernel
theorem dX11_tickets_68 : decode cX11_tickets 68 = .ok (.iload 5, 2) := by decide +kernel
theorem dX11_tickets_70 : decode cX11_tickets 70 = .ok (.invokevirtual 400, 3) := by decide +kernel
theorem dX11_tickets_73 : decode cX11_tickets 73 = .ok (.iinc 5 1, 3) := by decide +kernel
theorem dX11_tickets_76 : decode cX11_tickets 76 = .ok (.goto (-37), 3) := by decide +kernel
theorem dX11_tickets_79 : decode cX11_tickets 79 = .ok (.aload_n 0, 1) := by decide +kernel
theorem dX11_tickets_80 : decode cX11_tickets 80 = .ok (.getfield 78, 3) := by decide +kernel
theorem dX11_tickets_83 : decode cX11_tickets 83 = .ok (.iconst 1, 1) := by decide +kernel
theorem dX11_tickets_84 : decode cX11_tickets 84 = .ok (.dup2, 1) := by decide +kernel
theorem dX11_tickets_85 : decode cX11_tickets 85 = .ok (.iaload, 1) := by decide +kernel
theorem dX11_tickets_86 : decode cX11_tickets 86 = .ok (.iconst 1, 1) := by decide +kernel
theorem dX11_tickets_87 : decode cX11_tickets 87 = .ok (.iadd, 1) := by decide +kernel
theorem dX11_tickets_88 : decode cX11_tickets 88 = .ok (.iastore, 1) := by decide +kernel
theorem dX11_tickets_89 : decode cX11_tickets 89 = .ok (.iload_n 2, 1) := by decide +kernel
theorem dX11_tickets_90 : decode cX11_tickets 90 = .ok (.iload 4, 2) := by decide +kernel
theorem dX11_tickets_92 : decode cX11_tickets 92 = .ok (.invokestatic 474, 3) := by decide +kernel
theorem dX11_tickets_95 : decode cX11_tickets 95 = .ok (.istore_n 2, 1) := by decide +kernel
theorem dX11_tickets_96 : decode cX11_tickets 96 = .ok (.iinc 3 1, 3) := by decide +kernel
theorem dX11_tickets_99 : decode cX11_tickets 99 = .ok (.goto (-71), 3) := by decide +kernel
theorem dX11_tickets_102 : decode cX11_tickets 102 = .ok (.iload_n 2, 1) := by decide +kernel
theorem dX11_tickets_103 : decode cX11_tickets 103 = .ok (.ireturn, 1) := by decide +kernel
theorem dX11_shunned_0 : decode cX11_shunned 0 = .ok (.aload_n 0, 1) := by decide +kernel
theorem dX11_shunned_1 : decode cX11_shunned 1 = .ok (.iconst 0, 1) := by decide +kernel
theorem dX11_shunned_2 : decode cX11_shunned 2 = .ok (.putfield 148, 3) := by decide +kernel
theorem dX11_shunned_5 : decode cX11_shunned 5 = .ok (.iconst 0, 1) := by decide +kernel
theorem dX11_shunned_6 : decode cX11_shunned 6 = .ok (.istore_n 1, 1) := by decide +kernel
theorem dX11_shunned_7 : decode cX11_shunned 7 = .ok (.iconst 0, 1) := by decide +kernel
theorem dX11_shunned_8 : decode cX11_shunned 8 = .ok (.istore_n 2, 1) := by decide +kernel
theorem dX11_shunned_9 : decode cX11_shunned 9 = .ok (.iload_n 2, 1) := by decide +kernel
theorem dX11_shunned_10 : decode cX11_shunned 10 = .ok (.aload_n 0, 1) := by decide +kernel
theorem dX11_shunned_11 : decode cX11_shunned 11 = .ok (.getfield 13, 3) := by decide +kernel
theorem dX11_shunned_14 : decode cX11_shunned 14 = .ok (.iconst 2, 1) := by decide +kernel
theorem dX11_shunned_15 : decode cX11_shunned 15 = .ok (.iaload, 1) := by decide +kernel
theorem dX11_shunned_16 : decode cX11_shunned 16 = .ok (.if_icmp .ge 66, 3) := by decide +kernel
theorem dX11_shunned_19 : decode cX11_shunned 19 = .ok (.iconst 1, 1) := by decide +kernel
theorem dX11_shunned_20 : decode cX11_shunned 20 = .ok (.istore_n 3, 1) := by decide +kernel
theorem dX11_shunned_21 : decode cX11_shunned 21 = .ok (.iconst 0, 1) := by decide +kernel
theorem dX11_shunned_22 : decode cX11_shunned 22 = .ok (.istore 4, 2) := by decide +kernel
theorem dX11_shunned_24 : decode cX11_shunned 24 = .ok (.iload 4, 2) := by decide +kernel
theorem dX11_shunned_26 : decode cX11_shunned 26 = .ok (.aload_n 0, 1) := by decide +kernel
theorem dX11_shunned_27 : decode cX11_shunned 27 = .ok (.getfield 13, 3) := by decide +kernel
theorem dX11_shunned_30 : decode cX11_shunned 30 = .ok (.iconst 3, 1) := by decide +kernel
theorem dX11_shunned_31 : decode cX11_shunned 31 = .ok (.iaload, 1) := by decide +kernel
theorem dX11_shunned_32 : decode cX11_shunned 32 = .ok (.if_icmp .ge 30, 3) := by decide +kernel
theorem dX11_shunned_35 : decode cX11_shunned 35 = .ok (.iload_n 3, 1) := by decide +kernel
theorem dX11_shunned_36 : decode cX11_shunned 36 = .ok (.aload_n 0, 1) := by decide +kernel
theorem dX11_shunned_37 : decode cX11_shunned 37 = .ok (.iconst 0, 1) := by decide +kernel
theorem dX11_shunned_38 : decode cX11_shunned 38 = .ok (.iload 4, 2) := by decide +kernel
theorem dX11_shunned_40 : decode cX11_shunned 40 = .ok (.iload_n 2, 1) := by decide +kernel
theorem dX11_shunned_41 : decode cX11_shunned 41 = .ok (.invokevirtual 378, 3) := by decide +kernel
theorem dX11_shunned_44 : decode cX11_shunned 44 = .ok (.bipush 30, 2) := by decide +kernel
theorem dX11_shunned_46 : decode cX11_shunned 46 = .ok (.if_icmp .ge 7, 3) := by decide +kernel
theorem dX11_shunned_49 : decode cX11_shunned 49 = .ok (.iconst 1, 1) := by decide +kernel
theorem dX11_shunned_50 : decode cX11_shunned 50 = .ok (.goto 4, 3) := by decide +kernel
theorem dX11_shunned_53 : decode cX11_shunned 53 = .ok (.iconst 0, 1) := by decide +kernel
theorem dX11_shunned_54 : decode cX11_shunned 54 = .ok (.iand, 1) := by decide +kernel
theorem dX11_shunned_55 : decode cX11_shunned 55 = .ok (.istore_n 3, 1) := by decide +kernel
theorem dX11_shunned_56 : decode cX11_shunned 56 = .ok (.iinc 4 1, 3) := by decide +kernel
theorem dX11_shunned_59 : decode cX11_shunned 59 = .ok (.goto (-35), 3) := by decide +kernel
theorem dX11_shunned_62 : decode cX11_shunned 62 = .ok (.iload_n 1, 1) := by decide +kernel
theorem dX11_shunned_63 : decode cX11_shunned 63 = .ok (.iload_n 3, 1) := by decide +kernel
theorem dX11_shunned_64 : decode cX11_shunned 64 = .ok (.ifCond .eq 9, 3) := by decide +kernel
theorem dX11_shunned_67 : decode cX11_shunned 67 = .ok (.iconst 1, 1) := by decide +kernel
theorem dX11_shunned_68 : decode cX11_shunned 68 = .ok (.iload_n 2, 1) := by decide +kernel
theorem dX11_shunned_69 : decode cX11_shunned 69 = .ok (.ishl, 1) := by decide +kernel
theorem dX11_shunned_70 : decode cX11_shunned 70 = .ok (.goto 4, 3) := by decide +kernel
theorem dX11_shunned_73 : decode cX11_shunned 73 = .ok (.iconst 0, 1) := by decide +kernel
theorem dX11_shunned_74 : decode cX11_shunned 74 = .ok (.ior, 1) := by decide +kernel
theorem dX11_shunned_75 : decode cX11_shunned 75 = .ok (.istore_n 1, 1) := by decide +kernel
theorem dX11_shunned_76 : decode cX11_shunned 76 = .ok (.iinc 2 1, 3) := by decide +kernel
theorem dX11_shunned_79 : decode cX11_shunned 79 = .ok (.goto (-70), 3) := by decide +kernel
theorem dX11_shunned_82 : decode cX11_shunned 82 = .ok (.iload_n 1, 1) := by decide +kernel
theorem dX11_shunned_83 : decode cX11_shunned 83 = .ok (.ireturn, 1) := by decide +kernel
theorem dX11_loved_0 : decode cX11_loved 0 = .ok (.aload_n 0, 1) := by decide +kernel
theorem dX11_loved_1 : decode cX11_loved 1 = .ok (.iconst 0, 1) := by decide +kernel
theorem dX11_loved_2 : decode cX11_loved 2 = .ok (.putfield 148, 3) := by decide +kernel
theorem dX11_loved_5 : decode cX11_loved 5 = .ok (.iload_n 1, 1) := by decide +kernel
theorem dX11_loved_6 : decode cX11_loved 6 = .ok (.ifCond .lt 17, 3) := by decide +kernel
theorem dX11_loved_9 : decode cX11_loved 9 = .ok (.iload_n 1, 1) := by decide +kernel
theorem dX11_loved_10 : decode cX11_loved 10 = .ok (.iconst 1, 1) := by decide +kernel
theorem dX11_loved_11 : decode cX11_loved 11 = .ok (.if_icmp .gt 12, 3) := by decide +kernel
theorem dX11_loved_14 : decode cX11_loved 14 = .ok (.aload_n 0, 1) := by decide +kernel
theorem dX11_loved_15 : decode cX11_loved 15 = .ok (.getfield 13, 3) := by decide +kernel
theorem dX11_loved_18 : decode cX11_loved 18 = .ok (.iconst 2, 1) := by decide +kernel
theorem dX11_loved_19 : decode cX11_loved 19 = .ok (.iaload, 1) := by decide +kernel
theorem dX11_loved_20 : decode cX11_loved 20 = .ok (.ifCond .ne 5, 3) := by decide +kernel
theorem dX11_loved_23 : decode cX11_loved 23 = .ok (.iconst (-1), 1) := by decide +kernel
theorem dX11_loved_24 : decode cX11_loved 24 = .ok (.ireturn, 1) := by decide +kernel
theorem dX11_loved_25 : decode cX11_loved 25 = .ok (.iconst 0, 1) := by decide +kernel
theorem dX11_loved_26 : decode cX11_loved 26 = .ok (.istore_n 2, 1) := by decide +kernel
theorem dX11_loved_27 : decode cX11_loved 27 = .ok (.iconst (-1), 1) := by decide +kernel
theorem dX11_loved_28 : decode cX11_loved 28 = .ok (.istore_n 3, 1) := by decide +kernel
theorem dX11_loved_29 : decode cX11_loved 29 = .ok (.iconst 0, 1) := by decide +kernel
theorem dX11_loved_30 : decode cX11_loved 30 = .ok (.istore 4, 2) := by decide +kernel
theorem dX11_loved_32 : decode cX11_loved 32 = .ok (.iload 4, 2) := by decide +kernel
theorem dX11_loved_34 : decode cX11_loved 34 = .ok (.aload_n 0, 1) := by decide +kernel
theorem dX11_loved_35 : decode cX11_loved 35 = .ok (.getfield 13, 3) := by decide +kernel
theorem dX11_loved_38 : decode cX11_loved 38 = .ok (.iconst 2, 1) := by decide +kernel
theorem dX11_loved_39 : decode cX11_loved 39 = .ok (.iaload, 1) := by decide +kernel
theorem dX11_loved_40 : decode cX11_loved 40 = .ok (.if_icmp .ge 61, 3) := by decide +kernel
theorem dX11_loved_43 : decode cX11_loved 43 = .ok (.iconst 0, 1) := by decide +kernel
theorem dX11_loved_44 : decode cX11_loved 44 = .ok (.istore 5, 2) := by decide +kernel
theorem dX11_loved_46 : decode cX11_loved 46 = .ok (.iconst 0, 1) := by decide +kernel
theorem dX11_loved_47 : decode cX11_loved 47 = .ok (.istore 6, 2) := by decide +kernel
theorem dX11_loved_49 : decode cX11_loved 49 = .ok (.iload 6, 2) := by decide +kernel
theorem dX11_loved_51 : decode cX11_loved 51 = .ok (.aload_n 0, 1) := by decide +kernel
theorem dX11_loved_52 : decode cX11_loved 52 = .ok (.getfield 13, 3) := by decide +kernel
theorem dX11_loved_55 : decode cX11_loved 55 = .ok (.iconst 3, 1) := by decide +kernel
theorem dX11_loved_56 : decode cX11_loved 56 = .ok (.iaload, 1) := by decide +kernel
theorem dX11_loved_57 : decode cX11_loved 57 = .ok (.if_icmp .ge 23, 3) := by decide +kernel
theorem dX11_loved_60 : decode cX11_loved 60 = .ok (.iload 5, 2) := by decide +kernel
theorem dX11_loved_62 : decode cX11_loved 62 = .ok (.aload_n 0, 1) := by decide +kernel
theorem dX11_loved_63 : decode cX11_loved 63 = .ok (.iconst 0, 1) := by decide +kernel
theorem dX11_loved_64 : decode cX11_loved 64 = .ok (.iload 6, 2) := by decide +kernel
theorem dX11_loved_66 : decode cX11_loved 66 = .ok (.iload 4, 2) := by decide +kernel
theorem dX11_loved_68 : decode cX11_loved 68 = .ok (.invokevirtual 378, 3) := by decide +kernel
theorem dX11_loved_71 : decode cX11_loved 71 = .ok (.iadd, 1) := by decide +kernel
theorem dX11_loved_72 : decode cX11_loved 72 = .ok (.istore 5, 2) := by decide +kernel
theorem dX11_loved_74 : decode cX11_loved 74 = .ok (.iinc 6 1, 3) := by decide +kernel
theorem dX11_loved_77 : decode cX11_loved 77 = .ok (.goto (-28), 3) := by decide +kernel
theorem dX11_loved_80 : decode cX11_loved 80 = .ok (.iload 5, 2) := by decide +kernel
theorem dX11_loved_82 : decode cX11_loved 82 = .ok (.iload_n 3, 1) := by decide +kernel
theorem dX11_loved_83 : decode cX11_loved 83 = .ok (.if_icmp .gt 6, 3) := by decide +kernel
theorem dX11_loved_86 : decode cX11_loved 86 = .ok (.goto 9, 3) := by decide +kernel
theorem dX11_loved_89 : decode cX11_loved 89 = .ok (.iload 4, 2) := by decide +kernel
theorem dX11_loved_91 : decode cX11_loved 91 = .ok (.istore_n 2, 1) := by decide +kernel
theorem dX11_loved_92 : decode cX11_loved 92 = .ok (.iload 5, 2) := by decide +kernel
theorem dX11_loved_94 : decode cX11_loved 94 = .ok (.istore_n 3, 1) := by decide +kernel
theorem dX11_loved_95 : decode cX11_loved 95 = .ok (.iinc 4 1, 3) := by decide +kernel
theorem dX11_loved_98 : decode cX11_loved 98 = .ok (.goto (-66), 3) := by decide +kernel
theorem dX11_loved_101 : decode cX11_loved 101 = .ok (.iload_n 1, 1) := by decide +kernel
theorem dX11_loved_102 : decode cX11_loved 102 = .ok (.ifCond .ne 7, 3) := by decide +kernel
theorem dX11_loved_105 : decode cX11_loved 105 = .ok (.iload_n 2, 1) := by decide +kernel
theorem dX11_loved_106 : decode cX11_loved 106 = .ok (.goto 4, 3) := by decide +kernel
theorem dX11_loved_109 : decode cX11_loved 109 = .ok (.iload_n 3, 1) := by decide +kernel
theorem dX11_loved_110 : decode cX11_loved 110 = .ok (.ireturn, 1) := by decide +kernel
theorem dX11_note_0 : decode cX11_note 0 = .ok (.aload_n 0, 1) := by decide +kernel
theorem dX11_note_1 : decode cX11_note 1 = .ok (.iconst 0, 1) := by decide +kernel
theorem dX11_note_2 : decode cX11_note 2 = .ok (.putfield 148, 3) := by decide +kernel
theorem dX11_note_5 : decode cX11_note 5 = .ok (.iload_n 1, 1) := by decide +kernel
theorem dX11_note_6 : decode cX11_note 6 = .ok (.iconst 1, 1) := by decide +kernel
theorem dX11_note_7 : decode cX11_note 7 = .ok (.if_icmp .lt 34, 3) := by decide +kernel
theorem dX11_note_10 : decode cX11_note 10 = .ok (.iload_n 1, 1) := by decide +kernel
theorem dX11_note_11 : decode cX11_note 11 = .ok (.bipush 30, 2) := by decide +kernel
theorem dX11_note_13 : decode cX11_note 13 = .ok (.if_icmp .gt 28, 3) := by decide +kernel
theorem dX11_note_16 : decode cX11_note 16 = .ok (.aload_n 0, 1) := by decide +kernel
theorem dX11_note_17 : decode cX11_note 17 = .ok (.iload_n 2, 1) := by decide +kernel
theorem dX11_note_18 : decode cX11_note 18 = .ok (.invokevirtual 416, 3) := by decide +kernel
theorem dX11_note_21 : decode cX11_note 21 = .ok (.ifCond .eq 20, 3) := by decide +kernel
theorem dX11_note_24 : decode cX11_note 24 = .ok (.aload_n 0, 1) := by decide +kernel
theorem dX11_note_25 : decode cX11_note 25 = .ok (.iload_n 3, 1) := by decide +kernel
theorem dX11_note_26 : decode cX11_note 26 = .ok (.invokevirtual 419, 3) := by decide +kernel
theorem dX11_note_29 : decode cX11_note 29 = .ok (.ifCond .eq 12, 3) := by decide +kernel
theorem dX11_note_32 : decode cX11_note 32 = .ok (.aload_n 0, 1) := by decide +kernel
theorem dX11_note_33 : decode cX11_note 33 = .ok (.getfield 304, 3) := by decide +kernel
theorem dX11_note_36 : decode cX11_note 36 = .ok (.bipush 24, 2) := by decide +kernel
theorem dX11_note_38 : decode cX11_note 38 = .ok (.if_icmp .ne 5, 3) := by decide +kernel
theorem dX11_note_41 : decode cX11_note 41 = .ok (.iconst (-1), 1) := by decide +kernel
theorem dX11_note_42 : decode cX11_note 42 = .ok (.ireturn, 1) := by decide +kernel
theorem dX11_note_43 : decode cX11_note 43 = .ok (.aload_n 0, 1) := by decide +kernel
theorem dX11_note_44 : decode cX11_note 44 = .ok (.getfield 126, 3) := by decide +kernel
theorem dX11_note_47 : decode cX11_note 47 = .ok (.aload_n 0, 1) := by decide +kernel
theorem dX11_note_48 : decode cX11_note 48 = .ok (.getfield 304, 3) := by decide +kernel
theorem dX11_note_51 : decode cX11_note 51 = .ok (.iload_n 1, 1) := by decide +kernel
theorem dX11_note_52 : decode cX11_note 52 = .ok (.iastore, 1) := by decide +kernel
theorem dX11_note_53 : decode cX11_note 53 = .ok (.aload_n 0, 1) := by decide +kernel
theorem dX11_note_54 : decode cX11_note 54 = .ok (.getfield 129, 3) := by decide +kernel
theorem dX11_note_57 : decode cX11_note 57 = .ok (.aload_n 0, 1) := by decide +kernel
theorem dX11_note_58 : decode cX11_note 58 = .ok (.getfield 304, 3) := by decide +kernel
theorem dX11_note_61 : decode cX11_note 61 = .ok (.iload_n 2, 1) := by decide +kernel
theorem dX11_note_62 : decode cX11_note 62 = .ok (.iastore, 1) := by decide +kernel
theorem dX11_note_63 : decode cX11_note 63 = .ok (.aload_n 0, 1) := by decide +kernel
theorem dX11_note_64 : decode cX11_note 64 = .ok (.getfield 132, 3) := by decide +kernel
theorem dX11_note_67 : decode cX11_note 67 = .ok (.aload_n 0, 1) := by decide +kernel
theorem dX11_note_68 : decode cX11_note 68 = .ok (.getfield 304, 3) := by decide +kernel
theorem dX11_note_71 : decode cX11_note 71 = .ok (.iload_n 3, 1) := by decide +kernel
theorem dX11_note_72 : decode cX11_note 72 = .ok (.iastore, 1) := by decide +kernel
theorem dX11_note_73 : decode cX11_note 73 = .ok (.aload_n 0, 1) := by decide +kernel
theorem dX11_note_74 : decode cX11_note 74 = .ok (.getfield 135, 3) := by decide +kernel
theorem dX11_note_77 : decode cX11_note 77 = .ok (.aload_n 0, 1) := by decide +kernel
theorem dX11_note_78 : decode cX11_note 78 = .ok (.getfield 304, 3) := by decide +kernel
theorem dX11_note_81 : decode cX11_note 81 = .ok (.iload 4, 2) := by decide +kernel
theorem dX11_note_83 : decode cX11_note 83 = .ok (.bastore, 1) := by decide +kernel
theorem dX11_note_84 : decode cX11_note 84 = .ok (.aload_n 0, 1) := by decide +kernel
theorem dX11_note_85 : decode cX11_note 85 = .ok (.getfield 139, 3) := by decide +kernel
theorem dX11_note_88 : decode cX11_note 88 = .ok (.aload_n 0, 1) := by decide +kernel
theorem dX11_note_89 : decode cX11_note 89 = .ok (.getfield 304, 3) := by decide +kernel
theorem dX11_note_92 : decode cX11_note 92 = .ok (.iconst (-1), 1) := by decide +kernel
theorem dX11_note_93 : decode cX11_note 93 = .ok (.iastore, 1) := by decide +kernel
theorem dX11_note_94 : decode cX11_note 94 = .ok (.aload_n 0, 1) := by decide +kernel
theorem dX11_note_95 : decode cX11_note 95 = .ok (.dup, 1) := by decide +kernel
theorem dX11_note_96 : decode cX11_note 96 = .ok (.getfield 304, 3) := by decide +kernel
theorem dX11_note_99 : decode cX11_note 99 = .ok (.iconst 1, 1) := by decide +kernel
theorem dX11_note_100 : decode cX11_note 100 = .ok (.iadd, 1) := by decide +kernel
theorem dX11_note_101 : decode cX11_note 101 = .ok (.putfield 304, 3) := by decide +kernel
theorem dX11_note_104 : decode cX11_note 104 = .ok (.aload_n 0, 1) := by decide +kernel
theorem dX11_note_105 : decode cX11_note 105 = .ok (.getfield 304, 3) := by decide +kernel
theorem dX11_note_108 : decode cX11_note 108 = .ok (.iconst 1, 1) := by decide +kernel
theorem dX11_note_109 : decode cX11_note 109 = .ok (.isub, 1) := by decide +kernel
theorem dX11_note_110 : decode cX11_note 110 = .ok (.ireturn, 1) := by decide +kernel
theorem dX11_out_0 : decode cX11_out 0 = .ok (.aload_n 0, 1) := by decide +kernel
theorem dX11_out_1 : decode cX11_out 1 = .ok (.iconst 0, 1) := by decide +kernel
theorem dX11_out_2 : decode cX11_out 2 = .ok (.putfield 148, 3) := by decide +kernel
theorem dX11_out_5 : decode cX11_out 5 = .ok (.iload_n 1, 1) := by decide +kernel
theorem dX11_out_6 : decode cX11_out 6 = .ok (.ifCond .lt 20, 3) := by decide +kernel
theorem dX11_out_9 : decode cX11_out 9 = .ok (.iload_n 1, 1) := by decide +kernel
theorem dX11_out_10 : decode cX11_out 10 = .ok (.aload_n 0, 1) := by decide +kernel
theorem dX11_out_11 : decode cX11_out 11 = .ok (.getfield 304, 3) := by decide +kernel
theorem dX11_out_14 : decode cX11_out 14 = .ok (.if_icmp .ge 12, 3) := by decide +kernel
theorem dX11_out_17 : decode cX11_out 17 = .ok (.aload_n 0, 1) := by decide +kernel
theorem dX11_out_18 : decode cX11_out 18 = .ok (.getfield 304, 3) := by decide +kernel
theorem dX11_out_21 : decode cX11_out 21 = .ok (.bipush 24, 2) := by decide +kernel
theorem dX11_out_23 : decode cX11_out 23 = .ok (.if_icmp .ne 5, 3) := by decide +kernel
theorem dX11_out_26 : decode cX11_out 26 = .ok (.iconst (-1), 1) := by decide +kernel
theorem dX11_out_27 : decode cX11_out 27 = .ok (.ireturn, 1) := by decide +kernel
theorem dX11_out_28 : decode cX11_out 28 = .ok (.aload_n 0, 1) := by decide +kernel
theorem dX11_out_29 : decode cX11_out 29 = .ok (.getfield 139, 3) := by decide +kernel
theorem dX11_out_32 : decode cX11_out 32 = .ok (.aload_n 0, 1) := by decide +kernel
theorem dX11_out_33 : decode cX11_out 33 = .ok (.getfield 304, 3) := by decide +kernel
theorem dX11_out_36 : decode cX11_out 36 = .ok (.iload_n 1, 1) := by decide +kernel
theorem dX11_out_37 : decode cX11_out 37 = .ok (.iastore, 1) := by decide +kernel
theorem dX11_out_38 : decode cX11_out 38 = .ok (.aload_n 0, 1) := by decide +kernel
theorem dX11_out_39 : decode cX11_out 39 = .ok (.dup, 1) := by decide +kernel
theorem dX11_out_40 : decode cX11_out 40 = .ok (.getfield 304, 3) := by decide +kernel
theorem dX11_out_43 : decode cX11_out 43 = .ok (.iconst 1, 1) := by decide +kernel
theorem dX11_out_44 : decode cX11_out 44 = .ok (.iadd, 1) := by decide +kernel
theorem dX11_out_45 : decode cX11_out 45 = .ok (.putfield 304, 3) := by decide +kernel
theorem dX11_out_48 : decode cX11_out 48 = .ok (.aload_n 0, 1) := by decide +kernel
theorem dX11_out_49 : decode cX11_out 49 = .ok (.getfield 304, 3) := by decide +kernel
theorem dX11_out_52 : decode cX11_out 52 = .ok (.iconst 1, 1) := by decide +kernel
theorem dX11_out_53 : decode cX11_out 53 = .ok (.isub, 1) := by decide +kernel
theorem dX11_out_54 : decode cX11_out 54 = .ok (.ireturn, 1) := by decide +kernel
theorem dX11_known_0 : decode cX11_known 0 = .ok (.aload_n 0, 1) := by decide +kernel
theorem dX11_known_1 : decode cX11_known 1 = .ok (.iconst 0, 1) := by decide +kernel
theorem dX11_known_2 : decode cX11_known 2 = .ok (.putfield 148, 3) := by decide +kernel
theorem dX11_known_5 : decode cX11_known 5 = .ok (.iload_n 1, 1) := by decide +kernel
theorem dX11_known_6 : decode cX11_known 6 = .ok (.iconst (-1), 1) := by decide +kernel
theorem dX11_known_7 : decode cX11_known 7 = .ok (.if_icmp .lt 11, 3) := by decide +kernel
theorem dX11_known_10 : decode cX11_known 10 = .ok (.iload_n 1, 1) := by decide +kernel
theorem dX11_known_11 : decode cX11_known 11 = .ok (.aload_n 0, 1) := by decide +kernel
theorem dX11_known_12 : decode cX11_known 12 = .ok (.getfield 304, 3) := by decide +kernel
theorem dX11_known_15 : decode cX11_known 15 = .ok (.if_icmp .le 5, 3) := by decide +kernel
theorem dX11_known_18 : decode cX11_known 18 = .ok (.iconst 0, 1) := by decide +kernel
theorem dX11_known_19 : decode cX11_known 19 = .ok (.ireturn, 1) := by decide +kernel
theorem dX11_known_20 : decode cX11_known 20 = .ok (.aload_n 0, 1) := by decide +kernel
theorem dX11_known_21 : decode cX11_known 21 = .ok (.iload_n 1, 1) := by decide +kernel
theorem dX11_known_22 : decode cX11_known 22 = .ok (.putfield 123, 3) := by decide +kernel
theorem dX11_known_25 : decode cX11_known 25 = .ok (.iconst 1, 1) := by decide +kernel
theorem dX11_known_26 : decode cX11_known 26 = .ok (.ireturn, 1) := by decide +kernel
theorem dX11_knownMany_0 : decode cX11_knownMany 0 = .ok (.aload_n 0, 1) := by decide +kernel
theorem dX11_knownMany_1 : decode cX11_knownMany 1 = .ok (.getfield 123, 3) := by decide +kernel
theorem dX11_knownMany_4 : decode cX11_knownMany 4 = .ok (.iconst (-1), 1) := by decide +kernel
theorem dX11_knownMany_5 : decode cX11_knownMany 5 = .ok (.if_icmp .ne 10, 3) := by decide +kernel
theorem dX11_knownMany_8 : decode cX11_knownMany 8 = .ok (.aload_n 0, 1) := by decide +kernel
theorem dX11_knownMany_9 : decode cX11_knownMany 9 = .ok (.getfield 304, 3) := by decide +kernel
theorem dX11_knownMany_12 : decode cX11_knownMany 12 = .ok (.goto 7, 3) := by decide +kernel
theorem dX11_knownMany_15 : decode cX11_knownMany 15 = .ok (.aload_n 0, 1) := by decide +kernel
theorem dX11_knownMany_16 : decode cX11_knownMany 16 = .ok (.getfield 123, 3) := by decide +kernel
theorem dX11_knownMany_19 : decode cX11_knownMany 19 = .ok (.ireturn, 1) := by decide +kernel
theorem dX11_isSo_0 : decode cX11_isSo 0 = .ok (.iconst 0, 1) := by decide +kernel
theorem dX11_isSo_1 : decode cX11_isSo 1 = .ok (.istore_n 2, 1) := by decide +kernel
theorem dX11_isSo_2 : decode cX11_isSo 2 = .ok (.iload_n 2, 1) := by decide +kernel
theorem dX11_isSo_3 : decode cX11_isSo 3 = .ok (.aload_n 0, 1) := by decide +kernel
theorem dX11_isSo_4 : decode cX11_isSo 4 = .ok (.invokevirtual 476, 3) := by decide +kernel
theorem dX11_isSo_7 : decode cX11_isSo 7 = .ok (.if_icmp .ge 80, 3) := by decide +kernel
theorem dX11_isSo_10 : decode cX11_isSo 10 = .ok (.aload_n 0, 1) := by decide +kernel
theorem dX11_isSo_11 : decode cX11_isSo 11 = .ok (.getfield 142, 3) := by decide +kernel
theorem dX11_isSo_14 : decode cX11_isSo 14 = .ok (.iload_n 2, 1) := by decide +kernel
theorem dX11_isSo_15 : decode cX11_isSo 15 = .ok (.baload, 1) := by decide +kernel
theorem dX11_isSo_16 : decode cX11_isSo 16 = .ok (.ifCond .ne 65, 3) := by decide +kernel
theorem dX11_isSo_19 : decode cX11_isSo 19 = .ok (.aload_n 0, 1) := by decide +kernel
theorem dX11_isSo_20 : decode cX11_isSo 20 = .ok (.getfield 139, 3) := by decide +kernel
theorem dX11_isSo_23 : decode cX11_isSo 23 = .ok (.iload_n 2, 1) := by decide +kernel
theorem dX11_isSo_24 : decode cX11_isSo 24 = .ok (.iaload, 1) := by decide +kernel
theorem dX11_isSo_25 : decode cX11_isSo 25 = .ok (.iconst (-1), 1) := by decide +kernel
theorem dX11_isSo_26 : decode cX11_isSo 26 = .ok (.if_icmp .ne 55, 3) := by decide +kernel
theorem dX11_isSo_29 : decode cX11_isSo 29 = .ok (.aload_n 0, 1) := by decide +kernel
theorem dX11_isSo_30 : decode cX11_isSo 30 = .ok (.getfield 126, 3) := by decide +kernel
theorem dX11_isSo_33 : decode cX11_isSo 33 = .ok (.iload_n 2, 1) := by decide +kernel
theorem dX11_isSo_34 : decode cX11_isSo 34 = .ok (.iaload, 1) := by decide +kernel
theorem dX11_isSo_35 : decode cX11_isSo 35 = .ok (.iload_n 1, 1) := by decide +kernel
theorem dX11_isSo_36 : decode cX11_isSo 36 = .ok (.if_icmp .eq 6, 3) := by decide +kernel
theorem dX11_isSo_39 : decode cX11_isSo 39 = .ok (.goto 42, 3) := by decide +kernel
theorem dX11_isSo_42 : decode cX11_isSo 42 = .ok (.aload_n 0, 1) := by decide +kernel
theorem dX11_isSo_43 : decode cX11_isSo 43 = .ok (.getfield 87, 3) := by decide +kernel
theorem dX11_isSo_46 : decode cX11_isSo 46 = .ok (.bipush 8, 2) := by decide +kernel
theorem dX11_isSo_48 : decode cX11_isSo 48 = .ok (.aload_n 0, 1) := by decide +kernel
theorem dX11_isSo_49 : decode cX11_isSo 49 = .ok (.getfield 129, 3) := by decide +kernel
theorem dX11_isSo_52 : decode cX11_isSo 52 = .ok (.iload_n 2, 1) := by decide +kernel
theorem dX11_isSo_53 : decode cX11_isSo 53 = .ok (.iaload, 1) := by decide +kernel
theorem dX11_isSo_54 : decode cX11_isSo 54 = .ok (.iadd, 1) := by decide +kernel
theorem dX11_isSo_55 : decode cX11_isSo 55 = .ok (.iaload, 1) := by decide +kernel
theorem dX11_isSo_56 : decode cX11_isSo 56 = .ok (.aload_n 0, 1) := by decide +kernel
theorem dX11_isSo_57 : decode cX11_isSo 57 = .ok (.getfield 132, 3) := by decide +kernel
theorem dX11_isSo_60 : decode cX11_isSo 60 = .ok (.iload_n 2, 1) := by decide +kernel
theorem dX11_isSo_61 : decode cX11_isSo 61 = .ok (.iaload, 1) := by decide +kernel
theorem dX11_isSo_62 : decode cX11_isSo 62 = .ok (.if_icmp .ne 7, 3) := by decide +kernel
theorem dX11_isSo_65 : decode cX11_isSo 65 = .ok (.iconst 1, 1) := by decide +kernel
theorem dX11_isSo_66 : decode cX11_isSo 66 = .ok (.goto 4, 3) := by decide +kernel
theorem dX11_isSo_69 : decode cX11_isSo 69 = .ok (.iconst 0, 1) := by decide +kernel
theorem dX11_isSo_70 : decode cX11_isSo 70 = .ok (.aload_n 0, 1) := by decide +kernel
theorem dX11_isSo_71 : decode cX11_isSo 71 = .ok (.getfield 135, 3) := by decide +kernel
theorem dX11_isSo_74 : decode cX11_isSo 74 = .ok (.iload_n 2, 1) := by decide +kernel
theorem dX11_isSo_75 : decode cX11_isSo 75 = .ok (.baload, 1) := by decide +kernel
theorem dX11_isSo_76 : decode cX11_isSo 76 = .ok (.if_icmp .eq 5, 3) := by decide +kernel
theorem dX11_isSo_79 : decode cX11_isSo 79 = .ok (.iconst 0, 1) := by decide +kernel
theorem dX11_isSo_80 : decode cX11_isSo 80 = .ok (.ireturn, 1) := by decide +kernel
theorem dX11_isSo_81 : decode cX11_isSo 81 = .ok (.iinc 2 1, 3) := by decide +kernel
theorem dX11_isSo_84 : decode cX11_isSo 84 = .ok (.goto (-82), 3) := by decide +kernel
theorem dX11_isSo_87 : decode cX11_isSo 87 = .ok (.iconst 1, 1) := by decide +kernel
theorem dX11_isSo_88 : decode cX11_isSo 88 = .ok (.ireturn, 1) := by decide +kernel
theorem dX11_fitsTaste_0 : decode cX11_fitsTaste 0 = .ok (.aload_n 0, 1) := by decide +kernel
theorem dX11_fitsTaste_1 : decode cX11_fitsTaste 1 = .ok (.iconst 1, 1) := by decide +kernel
theorem dX11_fitsTaste_2 : decode cX11_fitsTaste 2 = .ok (.invokevirtual 334, 3) := by decide +kernel
theorem dX11_fitsTaste_5 : decode cX11_fitsTaste 5 = .ok (.iconst 1, 1) := by decide +kernel
theorem dX11_fitsTaste_6 : decode cX11_fitsTaste 6 = .ok (.istore_n 2, 1) := by decide +kernel
theorem dX11_fitsTaste_7 : decode cX11_fitsTaste 7 = .ok (.iload_n 2, 1) := by decide +kernel
theorem dX11_fitsTaste_8 : decode cX11_fitsTaste 8 = .ok (.iload_n 1, 1) := by decide +kernel
theorem dX11_fitsTaste_9 : decode cX11_fitsTaste 9 = .ok (.if_icmp .gt 24, 3) := by decide +kernel
theorem dX11_fitsTaste_12 : decode cX11_fitsTaste 12 = .ok (.aload_n 0, 1) := by decide +kernel
theorem dX11_fitsTaste_13 : decode cX11_fitsTaste 13 = .ok (.iconst 1, 1) := by decide +kernel
theorem dX11_fitsTaste_14 : decode cX11_fitsTaste 14 = .ok (.invokevirtual 409, 3) := by decide +kernel
theorem dX11_fitsTaste_17 : decode cX11_fitsTaste 17 = .ok (.aload_n 0, 1) := by decide +kernel
theorem dX11_fitsTaste_18 : decode cX11_fitsTaste 18 = .ok (.iload_n 2, 1) := by decide +kernel
theorem dX11_fitsTaste_19 : decode cX11_fitsTaste 19 = .ok (.invokevirtual 479, 3) := by decide +kernel
theorem dX11_fitsTaste_22 : decode cX11_fitsTaste 22 = .ok (.ifCond .ne 5, 3) := by decide +kernel
theorem dX11_fitsTaste_25 : decode cX11_fitsTaste 25 = .ok (.iconst 0, 1) := by decide +kernel
theorem dX11_fitsTaste_26 : decode cX11_fitsTaste 26 = .ok (.ireturn, 1) := by decide +kernel
theorem dX11_fitsTaste_27 : decode cX11_fitsTaste 27 = .ok (.iinc 2 1, 3) := by decide +kernel
theorem dX11_fitsTaste_30 : decode cX11_fitsTaste 30 = .ok (.goto (-23), 3) := by decide +kernel
theorem dX11_fitsTaste_33 : decode cX11_fitsTaste 33 = .ok (.iconst 1, 1) := by decide +kernel
theorem dX11_fitsTaste_34 : decode cX11_fitsTaste 34 = .ok (.ireturn, 1) := by decide +kernel
theorem dX11_tastes_0 : decode cX11_tastes 0 = .ok (.aload_n 0, 1) := by decide +kernel
theorem dX11_tastes_1 : decode cX11_tastes 1 = .ok (.iconst 0, 1) := by decide +kernel
theorem dX11_tastes_2 : decode cX11_tastes 2 = .ok (.putfield 148, 3) := by decide +kernel
theorem dX11_tastes_5 : decode cX11_tastes 5 = .ok (.aload_n 0, 1) := by decide +kernel
theorem dX11_tastes_6 : decode cX11_tastes 6 = .ok (.iload_n 1, 1) := by decide +kernel
theorem dX11_tastes_7 : decode cX11_tastes 7 = .ok (.invokevirtual 428, 3) := by decide +kernel
theorem dX11_tastes_10 : decode cX11_tastes 10 = .ok (.ifCond .ne 5, 3) := by decide +kernel
theorem dX11_tastes_13 : decode cX11_tastes 13 = .ok (.iconst (-1), 1) := by decide +kernel
theorem dX11_tastes_14 : decode cX11_tastes 14 = .ok (.ireturn, 1) := by decide +kernel
theorem dX11_tastes_15 : decode cX11_tastes 15 = .ok (.iconst 0, 1) := by decide +kernel
theorem dX11_tastes_16 : decode cX11_tastes 16 = .ok (.istore_n 2, 1) := by decide +kernel
theorem dX11_tastes_17 : decode cX11_tastes 17 = .ok (.iconst 0, 1) := by decide +kernel
theorem dX11_tastes_18 : decode cX11_tastes 18 = .ok (.istore_n 3, 1) := by decide +kernel
theorem dX11_tastes_19 : decode cX11_tastes 19 = .ok (.iload_n 3, 1) := by decide +kernel
theorem dX11_tastes_20 : decode cX11_tastes 20 = .ok (.aload_n 0, 1) := by decide +kernel
theorem dX11_tastes_21 : decode cX11_tastes 21 = .ok (.invokevirtual 476, 3) := by decide +kernel
theorem dX11_tastes_24 : decode cX11_tastes 24 = .ok (.if_icmp .ge 16, 3) := by decide +kernel
theorem dX11_tastes_27 : decode cX11_tastes 27 = .ok (.aload_n 0, 1) := by decide +kernel
theorem dX11_tastes_28 : decode cX11_tastes 28 = .ok (.getfield 142, 3) := by decide +kernel
theorem dX11_tastes_31 : decode cX11_tastes 31 = .ok (.iload_n 3, 1) := by decide +kernel
theorem dX11_tastes_32 : decode cX11_tastes 32 = .ok (.iconst 0, 1) := by decide +kernel
theorem dX11_tastes_33 : decode cX11_tastes 33 = .ok (.bastore, 1) := by decide +kernel
theorem dX11_tastes_34 : decode cX11_tastes 34 = .ok (.iinc 3 1, 3) := by decide +kernel
theorem dX11_tastes_37 : decode cX11_tastes 37 = .ok (.goto (-18), 3) := by decide +kernel
theorem dX11_tastes_40 : decode cX11_tastes 40 = .ok (.aload_n 0, 1) := by decide +kernel
theorem dX11_tastes_41 : decode cX11_tastes 41 = .ok (.invokevirtual 476, 3) := by decide +kernel
theorem dX11_tastes_44 : decode cX11_tastes 44 = .ok (.iconst 1, 1) := by decide +kernel
theorem dX11_tastes_45 : decode cX11_tastes 45 = .ok (.isub, 1) := by decide +kernel
theorem dX11_tastes_46 : decode cX11_tastes 46 = .ok (.istore_n 3, 1) := by decide +kernel
theorem dX11_tastes_47 : decode cX11_tastes 47 = .ok (.iload_n 3, 1) := by decide +kernel
theorem dX11_tastes_48 : decode cX11_tastes 48 = .ok (.ifCond .lt 40, 3) := by decide +kernel
theorem dX11_tastes_51 : decode cX11_tastes 51 = .ok (.aload_n 0, 1) := by decide +kernel
theorem dX11_tastes_52 : decode cX11_tastes 52 = .ok (.getfield 142, 3) := by decide +kernel
theorem dX11_tastes_55 : decode cX11_tastes 55 = .ok (.iload_n 3, 1) := by decide +kernel
theorem dX11_tastes_56 : decode cX11_tastes 56 = .ok (.baload, 1) := by decide +kernel
theorem dX11_tastes_57 : decode cX11_tastes 57 = .ok (.ifCond .ne 25, 3) := by decide +kernel
theorem dX11_tastes_60 : decode cX11_tastes 60 = .ok (.aload_n 0, 1) := by decide +kernel
theorem dX11_tastes_61 : decode cX11_tastes 61 = .ok (.getfield 139, 3) := by decide +kernel
theorem dX11_tastes_64 : decode cX11_tastes 64 = .ok (.iload_n 3, 1) := by decide +kernel
theorem dX11_tastes_65 : decode cX11_tastes 65 = .ok (.iaload, 1) := by decide +kernel
theorem dX11_tastes_66 : decode cX11_tastes 66 = .ok (.iconst (-1), 1) := by decide +kernel
theorem dX11_tastes_67 : decode cX11_tastes 67 = .ok (.if_icmp .eq 15, 3) := by decide +kernel
theorem dX11_tastes_70 : decode cX11_tastes 70 = .ok (.aload_n 0, 1) := by decide +kernel
theorem dX11_tastes_71 : decode cX11_tastes 71 = .ok (.getfield 142, 3) := by decide +kernel
theorem dX11_tastes_74 : decode cX11_tastes 74 = .ok (.aload_n 0, 1) := by decide +kernel
theorem dX11_tastes_75 : decode cX11_tastes 75 = .ok (.getfield 139, 3) := by decide +kernel
theorem dX11_tastes_78 : decode cX11_tastes 78 = .ok (.iload_n 3, 1) := by decide +kernel
theorem dX11_tastes_79 : decode cX11_tastes 79 = .ok (.iaload, 1) := by decide +kernel
theorem dX11_tastes_80 : decode cX11_tastes 80 = .ok (.iconst 1, 1) := by decide +kernel
theorem dX11_tastes_81 : decode cX11_tastes 81 = .ok (.bastore, 1) := by decide +kernel
theorem dX11_tastes_82 : decode cX11_tastes 82 = .ok (.iinc 3 (-1), 3) := by decide +kernel
theorem dX11_tastes_85 : decode cX11_tastes 85 = .ok (.goto (-38), 3) := by decide +kernel
theorem dX11_tastes_88 : decode cX11_tastes 88 = .ok (.iconst 0, 1) := by decide +kernel
theorem dX11_tastes_89 : decode cX11_tastes 89 = .ok (.istore_n 3, 1) := by decide +kernel
theorem dX11_tastes_90 : decode cX11_tastes 90 = .ok (.iload_n 3, 1) := by decide +kernel
theorem dX11_tastes_91 : decode cX11_tastes 91 = .ok (.aload_n 0, 1) := by decide +kernel
theorem dX11_tastes_92 : decode cX11_tastes 92 = .ok (.invokevirtual 476, 3) := by decide +kernel
theorem dX11_tastes_95 : decode cX11_tastes 95 = .ok (.if_icmp .ge 39, 3) := by decide +kernel
theorem dX11_tastes_98 : decode cX11_tastes 98 = .ok (.aload_n 0, 1) := by decide +kernel
theorem dX11_tastes_99 : decode cX11_tastes 99 = .ok (.getfield 142, 3) := by decide +kernel
theorem dX11_tastes_102 : decode cX11_tastes 102 = .ok (.iload_n 3, 1) := by decide +kernel
theorem dX11_tastes_103 : decode cX11_tastes 103 = .ok (.baload, 1) := by decide +kernel
theorem dX11_tastes_104 : decode cX11_tastes 104 = .ok (.ifCond .ne 24, 3) := by decide +kernel
theorem dX11_tastes_107 : decode cX11_tastes 107 = .ok (.aload_n 0, 1) := by decide +kernel
theorem dX11_tastes_108 : decode cX11_tastes 108 = .ok (.getfield 139, 3) := by decide +kernel
theorem dX11_tastes_111 : decode cX11_tastes 111 = .ok (.iload_n 3, 1) := by decide +kernel
theorem dX11_tastes_112 : decode cX11_tastes 112 = .ok (.iaload, 1) := by decide +kernel
theorem dX11_tastes_113 : decode cX11_tastes 113 = .ok (.iconst (-1), 1) := by decide +kernel
theorem dX11_tastes_114 : decode cX11_tastes 114 = .ok (.if_icmp .ne 14, 3) := by decide +kernel
theorem dX11_tastes_117 : decode cX11_tastes 117 = .ok (.iload_n 2, 1) := by decide +kernel
theorem dX11_tastes_118 : decode cX11_tastes 118 = .ok (.aload_n 0, 1) := by decide +kernel
theorem dX11_tastes_119 : decode cX11_tastes 119 = .ok (.getfield 126, 3) := by decide +kernel
theorem dX11_tastes_122 : decode cX11_tastes 122 = .ok (.iload_n 3, 1) := by decide +kernel
theorem dX11_tastes_123 : decode cX11_tastes 123 = .ok (.iaload, 1) := by decide +kernel
theorem dX11_tastes_124 : decode cX11_tastes 124 = .ok (.invokestatic 474, 3) := by decide +kernel
theorem dX11_tastes_127 : decode cX11_tastes 127 = .ok (.istore_n 2, 1) := by decide +kernel
theorem dX11_tastes_128 : decode cX11_tastes 128 = .ok (.iinc 3 1, 3) := by decide +kernel
theorem dX11_tastes_131 : decode cX11_tastes 131 = .ok (.goto (-41), 3) := by decide +kernel
theorem dX11_tastes_134 : decode cX11_tastes 134 = .ok (.iconst 0, 1) := by decide +kernel
theorem dX11_tastes_135 : decode cX11_tastes 135 = .ok (.istore_n 3, 1) := by decide +kernel
theorem dX11_tastes_136 : decode cX11_tastes 136 = .ok (.aload_n 0, 1) := by decide +kernel
theorem dX11_tastes_137 : decode cX11_tastes 137 = .ok (.iload_n 1, 1) := by decide +kernel
theorem dX11_tastes_138 : decode cX11_tastes 138 = .ok (.putfield 108, 3) := by decide +kernel
theorem dX11_tastes_141 : decode cX11_tastes 141 = .ok (.iconst 0, 1) := by decide +kernel
theorem dX11_tastes_142 : decode cX11_tastes 142 = .ok (.istore 4, 2) := by decide +kernel
theorem dX11_tastes_144 : decode cX11_tastes 144 = .ok (.iload 4, 2) := by decide +kernel
theorem dX11_tastes_146 : decode cX11_tastes 146 = .ok (.bipush 9, 2) := by decide +kernel
theorem dX11_tastes_148 : decode cX11_tastes 148 = .ok (.if_icmp .gt 34, 3) := by decide +kernel
theorem dX11_tastes_151 : decode cX11_tastes 151 = .ok (.aload_n 0, 1) := by decide +kernel
theorem dX11_tastes_152 : decode cX11_tastes 152 = .ok (.iload 4, 2) := by decide +kernel
theorem dX11_tastes_154 : decode cX11_tastes 154 = .ok (.putfield 337, 3) := by decide +kernel
theorem dX11_tastes_157 : decode cX11_tastes 157 = .ok (.iload_n 3, 1) := by decide +kernel
theorem dX11_tastes_158 : decode cX11_tastes 158 = .ok (.aload_n 0, 1) := by decide +kernel
theorem dX11_tastes_159 : decode cX11_tastes 159 = .ok (.iload_n 2, 1) := by decide +kernel
theorem dX11_tastes_160 : decode cX11_tastes 160 = .ok (.invokevirtual 482, 3) := by decide +kernel
theorem dX11_tastes_163 : decode cX11_tastes 163 = .ok (.ifCond .eq 10, 3) := by decide +kernel
theorem dX11_tastes_166 : decode cX11_tastes 166 = .ok (.iconst 1, 1) := by decide +kernel
theorem dX11_tastes_167 : decode cX11_tastes 167 = .ok (.iload 4, 2) := by decide +kernel
theorem dX11_tastes_169 : decode cX11_tastes 169 = .ok (.ishl, 1) := by decide +kernel
theorem dX11_tastes_170 : decode cX11_tastes 170 = .ok (.goto 4, 3) := by decide +kernel
theorem dX11_tastes_173 : decode cX11_tastes 173 = .ok (.iconst 0, 1) := by decide +kernel
theorem dX11_tastes_174 : decode cX11_tastes 174 = .ok (.ior, 1) := by decide +kernel
theorem dX11_tastes_175 : decode cX11_tastes 175 = .ok (.istore_n 3, 1) := by decide +kernel
theorem dX11_tastes_176 : decode cX11_tastes 176 = .ok (.iinc 4 1, 3) := by decide +kernel
theorem dX11_tastes_179 : decode cX11_tastes 179 = .ok (.goto (-35), 3) := by decide +kernel
theorem dX11_tastes_182 : decode cX11_tastes 182 = .ok (.aload_n 0, 1) := by decide +kernel
theorem dX11_tastes_183 : decode cX11_tastes 183 = .ok (.iconst (-1), 1) := by decide +kernel
theorem dX11_tastes_184 : decode cX11_tastes 184 = .ok (.putfield 108, 3) := by decide +kernel
theorem dX11_tastes_187 : decode cX11_tastes 187 = .ok (.iload_n 3, 1) := by decide +kernel
theorem dX11_tastes_188 : decode cX11_tastes 188 = .ok (.ireturn, 1) := by decide +kernel
theorem dX11_chance_0 : decode cX11_chance 0 = .ok (.aload_n 0, 1) := by decide +kernel
theorem dX11_chance_1 : decode cX11_chance 1 = .ok (.iconst 0, 1) := by decide +kernel
theorem dX11_chance_2 : decode cX11_chance 2 = .ok (.putfield 148, 3) := by decide +kernel
theorem dX11_chance_5 : decode cX11_chance 5 = .ok (.iload_n 1, 1) := by decide +kernel
theorem dX11_chance_6 : decode cX11_chance 6 = .ok (.ifCond .lt 31, 3) := by decide +kernel
theorem dX11_chance_9 : decode cX11_chance 9 = .ok (.iload_n 2, 1) := by decide +kernel
theorem dX11_chance_10 : decode cX11_chance 10 = .ok (.iconst 1, 1) := by decide +kernel
theorem dX11_chance_11 : decode cX11_chance 11 = .ok (.if_icmp .lt 26, 3) := by decide +kernel
theorem dX11_chance_14 : decode cX11_chance 14 = .ok (.iload_n 2, 1) := by decide +kernel
theorem dX11_chance_15 : decode cX11_chance 15 = .ok (.bipush 60, 2) := by decide +kernel
theorem dX11_chance_17 : decode cX11_chance 17 = .ok (.if_icmp .gt 20, 3) := by decide +kernel
theorem dX11_chance_20 : decode cX11_chance 20 = .ok (.aload_n 0, 1) := by decide +kernel
theorem dX11_chance_21 : decode cX11_chance 21 = .ok (.iload_n 3, 1) := by decide +kernel
theorem dX11_chance_22 : decode cX11_chance 22 = .ok (.invokevirtual 416, 3) := by decide +kernel
theorem dX11_chance_25 : decode cX11_chance 25 = .ok (.ifCond .eq 12, 3) := by decide +kernel
theorem dX11_chance_28 : decode cX11_chance 28 = .ok (.aload_n 0, 1) := by decide +kernel
theorem dX11_chance_29 : decode cX11_chance 29 = .ok (.iload 4, 2) := by decide +kernel
theorem dX11_chance_31 : decode cX11_chance 31 = .ok (.invokevirtual 419, 3) := by decide +kernel
theorem dX11_chance_34 : decode cX11_chance 34 = .ok (.ifCond .ne 5, 3) := by decide +kernel
theorem dX11_chance_37 : decode cX11_chance 37 = .ok (.iconst (-1), 1) := by decide +kernel
theorem dX11_chance_38 : decode cX11_chance 38 = .ok (.ireturn, 1) := by decide +kernel
theorem dX11_chance_39 : decode cX11_chance 39 = .ok (.iload_n 1, 1) := by decide +kernel
theorem dX11_chance_40 : decode cX11_chance 40 = .ok (.istore 5, 2) := by decide +kernel
theorem dX11_chance_42 : decode cX11_chance 42 = .ok (.iconst 0, 1) := by decide +kernel
theorem dX11_chance_43 : decode cX11_chance 43 = .ok (.istore 6, 2) := by decide +kernel
theorem dX11_chance_45 : decode cX11_chance 45 = .ok (.iconst 0, 1) := by decide +kernel
theorem dX11_chance_46 : decode cX11_chance 46 = .ok (.istore 7, 2) := by decide +kernel
theorem dX11_chance_48 : decode cX11_chance 48 = .ok (.iload 7, 2) := by decide +kernel
theorem dX11_chance_50 : decode cX11_chance 50 = .ok (.bipush 10, 2) := by decide +kernel
theorem dX11_chance_52 : decode cX11_chance 52 = .ok (.if_icmp .ge 92, 3) := by decide +kernel
theorem dX11_chance_55 : decode cX11_chance 55 = .ok (.aload_n 0, 1) := by decide +kernel
theorem dX11_chance_56 : decode cX11_chance 56 = .ok (.iconst 1, 1) := by decide +kernel
theorem dX11_chance_57 : decode cX11_chance 57 = .ok (.iconst 0, 1) := by decide +kernel
theorem dX11_chance_58 : decode cX11_chance 58 = .ok (.invokevirtual 403, 3) := by decide +kernel
theorem dX11_chance_61 : decode cX11_chance 61 = .ok (.iconst 0, 1) := by decide +kernel
theorem dX11_chance_62 : decode cX11_chance 62 = .ok (.istore 8, 2) := by decide +kernel
theorem dX11_chance_64 : decode cX11_chance 64 = .ok (.iload 8, 2) := by decide +kernel
theorem dX11_chance_66 : decode cX11_chance 66 = .ok (.iload_n 2, 1) := by decide +kernel
theorem dX11_chance_67 : decode cX11_chance 67 = .ok (.if_icmp .ge 42, 3) := by decide +kernel
theorem dX11_chance_70 : decode cX11_chance 70 = .ok (.iload 5, 2) := by decide +kernel
theorem dX11_chance_72 : decode cX11_chance 72 = .ok (.ldc_w 485, 3) := by decide +kernel
theorem dX11_chance_75 : decode cX11_chance 75 = .ok (.imul, 1) := by decide +kernel
theorem dX11_chance_76 : decode cX11_chance 76 = .ok (.sipush 12345, 3) := by decide +kernel
theorem dX11_chance_79 : decode cX11_chance 79 = .ok (.iadd, 1) := by decide +kernel
theorem dX11_chance_80 : decode cX11_chance 80 = .ok (.ldc_w 488, 3) := by decide +kernel
theorem dX11_chance_83 : decode cX11_chance 83 = .ok (.iand, 1) := by decide +kernel
theorem dX11_chance_84 : decode cX11_chance 84 = .ok (.istore 5, 2) := by decide +kernel
theorem dX11_chance_86 : decode cX11_chance 86 = .ok (.aload_n 0, 1) := by decide +kernel
theorem dX11_chance_87 : decode cX11_chance 87 = .ok (.iload 5, 2) := by decide +kernel
theorem dX11_chance_89 : decode cX11_chance 89 = .ok (.bipush 16, 2) := by decide +kernel
theorem dX11_chance_91 : decode cX11_chance 91 = .ok (.ishr, 1) := by decide +kernel
theorem dX11_chance_92 : decode cX11_chance 92 = .ok (.bipush 100, 2) := by decide +kernel
theorem dX11_chance_94 : decode cX11_chance 94 = .ok (.irem, 1) := by decide +kernel
theorem dX11_chance_95 : decode cX11_chance 95 = .ok (.putfield 105, 3) := by decide +kernel
theorem dX11_chance_98 : decode cX11_chance 98 = .ok (.aload_n 0, 1) := by decide +kernel
theorem dX11_chance_99 : decode cX11_chance 99 = .ok (.iconst 1, 1) := by decide +kernel
theorem dX11_chance_100 : decode cX11_chance 100 = .ok (.invokevirtual 409, 3) := by decide +kernel
theorem dX11_chance_103 : decode cX11_chance 103 = .ok (.iinc 8 1, 3) := by decide +kernel
theorem dX11_chance_106 : decode cX11_chance 106 = .ok (.goto (-42), 3) := by decide +kernel
theorem dX11_chance_109 : decode cX11_chance 109 = .ok (.aload_n 0, 1) := by decide +kernel
theorem dX11_chance_110 : decode cX11_chance 110 = .ok (.iconst (-1), 1) := by decide +kernel
theorem dX11_chance_111 : decode cX11_chance 111 = .ok (.putfield 105, 3) := by decide +kernel
theorem dX11_chance_114 : decode cX11_chance 114 = .ok (.iload 6, 2) := by decide +kernel
theorem dX11_chance_116 : decode cX11_chance 116 = .ok (.aload_n 0, 1) := by decide +kernel
theorem dX11_chance_117 : decode cX11_chance 117 = .ok (.getfield 87, 3) := by decide +kernel
theorem dX11_chance_120 : decode cX11_chance 120 = .ok (.bipush 8, 2) := by decide +kernel
theorem dX11_chance_122 : decode cX11_chance 122 = .ok (.iload_n 3, 1) := by decide +kernel
theorem dX11_chance_123 : decode cX11_chance 123 = .ok (.iadd, 1) := by decide +kernel
theorem dX11_chance_124 : decode cX11_chance 124 = .ok (.iaload, 1) := by decide +kernel
theorem dX11_chance_125 : decode cX11_chance 125 = .ok (.iload 4, 2) := by decide +kernel
theorem dX11_chance_127 : decode cX11_chance 127 = .ok (.if_icmp .ne 7, 3) := by decide +kernel
theorem dX11_chance_130 : decode cX11_chance 130 = .ok (.iconst 1, 1) := by decide +kernel
theorem dX11_chance_131 : decode cX11_chance 131 = .ok (.goto 4, 3) := by decide +kernel
theorem dX11_chance_134 : decode cX11_chance 134 = .ok (.iconst 0, 1) := by decide +kernel
theorem dX11_chance_135 : decode cX11_chance 135 = .ok (.iadd, 1) := by decide +kernel
theorem dX11_chance_136 : decode cX11_chance 136 = .ok (.istore 6, 2) := by decide +kernel
theorem dX11_chance_138 : decode cX11_chance 138 = .ok (.iinc 7 1, 3) := by decide +kernel
theorem dX11_chance_141 : decode cX11_chance 141 = .ok (.goto (-93), 3) := by decide +kernel
theorem dX11_chance_144 : decode cX11_chance 144 = .ok (.iload 6, 2) := by decide +kernel
theorem dX11_chance_146 : decode cX11_chance 146 = .ok (.ireturn, 1) := by decide +kernel
theorem dX11_tried_0 : decode cX11_tried 0 = .ok (.aload_n 0, 1) := by decide +kernel
theorem dX11_tried_1 : decode cX11_tried 1 = .ok (.iconst 0, 1) := by decide +kernel
theorem dX11_tried_2 : decode cX11_tried 2 = .ok (.putfield 148, 3) := by decide +kernel
theorem dX11_tried_5 : decode cX11_tried 5 = .ok (.iload_n 1, 1) := by decide +kernel
theorem dX11_tried_6 : decode cX11_tried 6 = .ok (.iconst 2, 1) := by decide +kernel
theorem dX11_tried_7 : decode cX11_tried 7 = .ok (.if_icmp .ne 11, 3) := by decide +kernel
theorem dX11_tried_10 : decode cX11_tried 10 = .ok (.aload_n 0, 1) := by decide +kernel
theorem dX11_tried_11 : decode cX11_tried 11 = .ok (.iload_n 2, 1) := by decide +kernel
theorem dX11_tried_12 : decode cX11_tried 12 = .ok (.invokevirtual 428, 3) := by decide +kernel
theorem dX11_tried_15 : decode cX11_tried 15 = .ok (.goto 34, 3) := by decide +kernel
theorem dX11_tried_18 : decode cX11_tried 18 = .ok (.iload_n 1, 1) := by decide +kernel
theorem dX11_tried_19 : decode cX11_tried 19 = .ok (.iconst 5, 1) := by decide +kernel
theorem dX11_tried_20 : decode cX11_tried 20 = .ok (.if_icmp .ne 11, 3) := by decide +kernel
theorem dX11_tried_23 : decode cX11_tried 23 = .ok (.aload_n 0, 1) := by decide +kernel
theorem dX11_tried_24 : decode cX11_tried 24 = .ok (.iload_n 2, 1) := by decide +kernel
theorem dX11_tried_25 : decode cX11_tried 25 = .ok (.invokevirtual 416, 3) := by decide +kernel
theorem dX11_tried_28 : decode cX11_tried 28 = .ok (.goto 21, 3) := by decide +kernel
theorem dX11_tried_31 : decode cX11_tried 31 = .ok (.iload_n 1, 1) := by decide +kernel
theorem dX11_tried_32 : decode cX11_tried 32 = .ok (.ifCond .lt 16, 3) := by decide +kernel
theorem dX11_tried_35 : decode cX11_tried 35 = .ok (.iload_n 1, 1) := by decide +kernel
theorem dX11_tried_36 : decode cX11_tried 36 = .ok (.iconst 4, 1) := by decide +kernel
theorem dX11_tried_37 : decode cX11_tried 37 = .ok (.if_icmp .gt 11, 3) := by decide +kernel
theorem dX11_tried_40 : decode cX11_tried 40 = .ok (.iload_n 2, 1) := by decide +kernel
theorem dX11_tried_41 : decode cX11_tried 41 = .ok (.ifCond .ne 7, 3) := by decide +kernel
theorem dX11_tried_44 : decode cX11_tried 44 = .ok (.iconst 1, 1) := by decide +kernel
theorem dX11_tried_45 : decode cX11_tried 45 = .ok (.goto 4, 3) := by decide +kernel
theorem dX11_tried_48 : decode cX11_tried 48 = .ok (.iconst 0, 1) := by decide +kernel
theorem dX11_tried_49 : decode cX11_tried 49 = .ok (.istore 4, 2) := by decide +kernel
theorem dX11_tried_51 : decode cX11_tried 51 = .ok (.iload 4, 2) := by decide +kernel
theorem dX11_tried_53 : decode cX11_tried 53 = .ok (.ifCond .eq 13, 3) := by decide +kernel
theorem dX11_tried_56 : decode cX11_tried 56 = .ok (.iload_n 3, 1) := by decide +kernel
theorem dX11_tried_57 : decode cX11_tried 57 = .ok (.ifCond .lt 9, 3) := by decide +kernel
theorem dX11_tried_60 : decode cX11_tried 60 = .ok (.iload_n 3, 1) := by decide +kernel
theorem dX11_tried_61 : decode cX11_tried 61 = .ok (.bipush 60, 2) := by decide +kernel
theorem dX11_tried_63 : decode cX11_tried 63 = .ok (.if_icmp .le 5, 3) := by decide +kernel
theorem dX11_tried_66 : decode cX11_tried 66 = .ok (.iconst (-1), 1) := by decide +kernel
theorem dX11_tried_67 : decode cX11_tried 67 = .ok (.ireturn, 1) := by decide +kernel
theorem dX11_tried_68 : decode cX11_tried 68 = .ok (.aload_n 0, 1) := by decide +kernel
theorem dX11_tried_69 : decode cX11_tried 69 = .ok (.iload_n 1, 1) := by decide +kernel
theorem dX11_tried_70 : decode cX11_tried 70 = .ok (.putfield 343, 3) := by decide +kernel
theorem dX11_tried_73 : decode cX11_tried 73 = .ok (.aload_n 0, 1) := by decide +kernel
theorem dX11_tried_74 : decode cX11_tried 74 = .ok (.iload_n 2, 1) := by decide +kernel
theorem dX11_tried_75 : decode cX11_tried 75 = .ok (.putfield 102, 3) := by decide +kernel
theorem dX11_tried_78 : decode cX11_tried 78 = .ok (.aload_n 0, 1) := by decide +kernel
theorem dX11_tried_79 : decode cX11_tried 79 = .ok (.iload_n 3, 1) := by decide +kernel
theorem dX11_tried_80 : decode cX11_tried 80 = .ok (.invokevirtual 438, 3) := by decide +kernel
theorem dX11_tried_83 : decode cX11_tried 83 = .ok (.aload_n 0, 1) := by decide +kernel
theorem dX11_tried_84 : decode cX11_tried 84 = .ok (.iconst 0, 1) := by decide +kernel
theorem dX11_tried_85 : decode cX11_tried 85 = .ok (.putfield 343, 3) := by decide +kernel
theorem dX11_tried_88 : decode cX11_tried 88 = .ok (.aload_n 0, 1) := by decide +kernel
theorem dX11_tried_89 : decode cX11_tried 89 = .ok (.iconst (-1), 1) := by decide +kernel
theorem dX11_tried_90 : decode cX11_tried 90 = .ok (.putfield 102, 3) := by decide +kernel
theorem dX11_tried_93 : decode cX11_tried 93 = .ok (.aload_n 0, 1) := by decide +kernel
theorem dX11_tried_94 : decode cX11_tried 94 = .ok (.iconst 1, 1) := by decide +kernel
theorem dX11_tried_95 : decode cX11_tried 95 = .ok (.invokevirtual 444, 3) := by decide +kernel
theorem dX11_tried_98 : decode cX11_tried 98 = .ok (.aload_n 0, 1) := by decide +kernel
theorem dX11_tried_99 : decode cX11_tried 99 = .ok (.iconst 0, 1) := by decide +kernel
theorem dX11_tried_100 : decode cX11_tried 100 = .ok (.invokevirtual 444, 3) := by decide +kernel
theorem dX11_tried_103 : decode cX11_tried 103 = .ok (.isub, 1) := by decide +kernel
theorem dX11_tried_104 : decode cX11_tried 104 = .ok (.ireturn, 1) := by decide +kernel
theorem dX11_undo_0 : decode cX11_undo 0 = .ok (.aload_n 0, 1) := by decide +kernel
theorem dX11_undo_1 : decode cX11_undo 1 = .ok (.iconst 0, 1) := by decide +kernel
theorem dX11_undo_2 : decode cX11_undo 2 = .ok (.putfield 148, 3) := by decide +kernel
theorem dX11_undo_5 : decode cX11_undo 5 = .ok (.aload_n 0, 1) := by decide +kernel
theorem dX11_undo_6 : decode cX11_undo 6 = .ok (.getfield 311, 3) := by decide +kernel
theorem dX11_undo_9 : decode cX11_undo 9 = .ok (.ifCond .ne 5, 3) := by decide +kernel
theorem dX11_undo_12 : decode cX11_undo 12 = .ok (.iconst (-1), 1) := by decide +kernel
theorem dX11_undo_13 : decode cX11_undo 13 = .ok (.ireturn, 1) := by decide +kernel
theorem dX11_undo_14 : decode cX11_undo 14 = .ok (.aload_n 0, 1) := by decide +kernel
theorem dX11_undo_15 : decode cX11_undo 15 = .ok (.dup, 1) := by decide +kernel
theorem dX11_undo_16 : decode cX11_undo 16 = .ok (.getfield 311, 3) := by decide +kernel
theorem dX11_undo_19 : decode cX11_undo 19 = .ok (.iconst 1, 1) := by decide +kernel
theorem dX11_undo_20 : decode cX11_undo 20 = .ok (.isub, 1) := by decide +kernel
theorem dX11_undo_21 : decode cX11_undo 21 = .ok (.putfield 311, 3) := by decide +kernel
theorem dX11_undo_24 : decode cX11_undo 24 = .ok (.aload_n 0, 1) := by decide +kernel
theorem dX11_undo_25 : decode cX11_undo 25 = .ok (.iconst 0, 1) := by decide +kernel
theorem dX11_undo_26 : decode cX11_undo 26 = .ok (.iconst 3, 1) := by decide +kernel
theorem dX11_undo_27 : decode cX11_undo 27 = .ok (.aload_n 0, 1) := by decide +kernel
theorem dX11_undo_28 : decode cX11_undo 28 = .ok (.getfield 311, 3) := by decide +kernel
theorem dX11_undo_31 : decode cX11_undo 31 = .ok (.iadd, 1) := by decide +kernel
theorem dX11_undo_32 : decode cX11_undo 32 = .ok (.invokevirtual 403, 3) := by decide +kernel
theorem dX11_undo_35 : decode cX11_undo 35 = .ok (.aload_n 0, 1) := by decide +kernel
theorem dX11_undo_36 : decode cX11_undo 36 = .ok (.getfield 311, 3) := by decide +kernel
theorem dX11_undo_39 : decode cX11_undo 39 = .ok (.ireturn, 1) := by decide +kernel
theorem dX11_keep_0 : decode cX11_keep 0 = .ok (.aload_n 0, 1) := by decide +kernel
theorem dX11_keep_1 : decode cX11_keep 1 = .ok (.iconst 0, 1) := by decide +kernel
theorem dX11_keep_2 : decode cX11_keep 2 = .ok (.putfield 148, 3) := by decide +kernel
theorem dX11_keep_5 : decode cX11_keep 5 = .ok (.aload_n 0, 1) := by decide +kernel
theorem dX11_keep_6 : decode cX11_keep 6 = .ok (.iconst 2, 1) := by decide +kernel
theorem dX11_keep_7 : decode cX11_keep 7 = .ok (.iconst 0, 1) := by decide +kernel
theorem dX11_keep_8 : decode cX11_keep 8 = .ok (.invokevirtual 403, 3) := by decide +kernel
theorem dX11_keep_11 : decode cX11_keep 11 = .ok (.aload_n 0, 1) := by decide +kernel
theorem dX11_keep_12 : decode cX11_keep 12 = .ok (.iconst 1, 1) := by decide +kernel
theorem dX11_keep_13 : decode cX11_keep 13 = .ok (.putfield 307, 3) := by decide +kernel
theorem dX11_keep_16 : decode cX11_keep 16 = .ok (.aload_n 0, 1) := by decide +kernel
theorem dX11_keep_17 : decode cX11_keep 17 = .ok (.getfield 78, 3) := by decide +kernel
theorem dX11_keep_20 : decode cX11_keep 20 = .ok (.iconst 0, 1) := by decide +kernel
theorem dX11_keep_21 : decode cX11_keep 21 = .ok (.iaload, 1) := by decide +kernel
theorem dX11_keep_22 : decode cX11_keep 22 = .ok (.ireturn, 1) := by decide +kernel
theorem dX11_back_0 : decode cX11_back 0 = .ok (.aload_n 0, 1) := by decide +kernel
theorem dX11_back_1 : decode cX11_back 1 = .ok (.iconst 0, 1) := by decide +kernel
theorem dX11_back_2 : decode cX11_back 2 = .ok (.putfield 148, 3) := by decide +kernel
theorem dX11_back_5 : decode cX11_back 5 = .ok (.aload_n 0, 1) := by decide +kernel
theorem dX11_back_6 : decode cX11_back 6 = .ok (.getfield 307, 3) := by decide +kernel
theorem dX11_back_9 : decode cX11_back 9 = .ok (.ifCond .ne 5, 3) := by decide +kernel
theorem dX11_back_12 : decode cX11_back 12 = .ok (.iconst (-1), 1) := by decide +kernel
theorem dX11_back_13 : decode cX11_back 13 = .ok (.ireturn, 1) := by decide +kernel
theorem dX11_back_14 : decode cX11_back 14 = .ok (.aload_n 0, 1) := by decide +kernel
theorem dX11_back_15 : decode cX11_back 15 = .ok (.iconst 0, 1) := by decide +kernel
theorem dX11_back_16 : decode cX11_back 16 = .ok (.iconst 2, 1) := by decide +kernel
theorem dX11_back_17 : decode cX11_back 17 = .ok (.invokevirtual 403, 3) := by decide +kernel
theorem dX11_back_20 : decode cX11_back 20 = .ok (.aload_n 0, 1) := by decide +kernel
theorem dX11_back_21 : decode cX11_back 21 = .ok (.iconst 0, 1) := by decide +kernel
theorem dX11_back_22 : decode cX11_back 22 = .ok (.putfield 311, 3) := by decide +kernel
theorem dX11_back_25 : decode cX11_back 25 = .ok (.aload_n 0, 1) := by decide +kernel
theorem dX11_back_26 : decode cX11_back 26 = .ok (.getfield 78, 3) := by decide +kernel
theorem dX11_back_29 : decode cX11_back 29 = .ok (.iconst 0, 1) := by decide +kernel
theorem dX11_back_30 : decode cX11_back 30 = .ok (.iaload, 1) := by decide +kernel
theorem dX11_back_31 : decode cX11_back 31 = .ok (.ireturn, 1) := by decide +kernel
theorem dX11_count_0 : decode cX11_count 0 = .ok (.aload_n 0, 1) := by decide +kernel
theorem dX11_count_1 : decode cX11_count 1 = .ok (.iconst 0, 1) := by decide +kernel
theorem dX11_count_2 : decode cX11_count 2 = .ok (.putfield 148, 3) := by decide +kernel
theorem dX11_count_5 : decode cX11_count 5 = .ok (.iconst 0, 1) := by decide +kernel
theorem dX11_count_6 : decode cX11_count 6 = .ok (.istore_n 2, 1) := by decide +kernel
theorem dX11_count_7 : decode cX11_count 7 = .ok (.iload_n 1, 1) := by decide +kernel
theorem dX11_count_8 : decode cX11_count 8 = .ok (.tableswitch 182 0 12 #[68, 75, 82, 89, 96, 103, 111, 118, 128, 138, 167, 172, 177], 68) := by decide +kernel
theorem dX11_count_76 : decode cX11_count 76 = .ok (.aload_n 0, 1) := by decide +kernel
theorem dX11_count_77 : decode cX11_count 77 = .ok (.getfield 13, 3) := by decide +kernel
theorem dX11_count_80 : decode cX11_count 80 = .ok (.iconst 0, 1) := by decide +kernel
theorem dX11_count_81 : decode cX11_count 81 = .ok (.iaload, 1) := by decide +kernel
theorem dX11_count_82 : decode cX11_count 82 = .ok (.ireturn, 1) := by decide +kernel
theorem dX11_count_83 : decode cX11_count 83 = .ok (.aload_n 0, 1) := by decide +kernel
theorem dX11_count_84 : decode cX11_count 84 = .ok (.getfield 13, 3) := by decide +kernel
theorem dX11_count_87 : decode cX11_count 87 = .ok (.iconst 1, 1) := by decide +kernel
theorem dX11_count_88 : decode cX11_count 88 = .ok (.iaload, 1) := by decide +kernel
theorem dX11_count_89 : decode cX11_count 89 = .ok (.ireturn, 1) := by decide +kernel
theorem dX11_count_90 : decode cX11_count 90 = .ok (.aload_n 0, 1) := by decide +kernel
theorem dX11_count_91 : decode cX11_count 91 = .ok (.getfield 13, 3) := by decide +kernel
theorem dX11_count_94 : decode cX11_count 94 = .ok (.iconst 2, 1) := by decide +kernel
theorem dX11_count_95 : decode cX11_count 95 = .ok (.iaload, 1) := by decide +kernel
theorem dX11_count_96 : decode cX11_count 96 = .ok (.ireturn, 1) := by decide +kernel
theorem dX11_count_97 : decode cX11_count 97 = .ok (.aload_n 0, 1) := by decide +kernel
theorem dX11_count_98 : decode cX11_count 98 = .ok (.getfield 13, 3) := by decide +kernel
theorem dX11_count_101 : decode cX11_count 101 = .ok (.iconst 3, 1) := by decide +kernel
theorem dX11_count_102 : decode cX11_count 102 = .ok (.iaload, 1) := by decide +kernel
theorem dX11_count_103 : decode cX11_count 103 = .ok (.ireturn, 1) := by decide +kernel
theorem dX11_count_104 : decode cX11_count 104 = .ok (.aload_n 0, 1) := by decide +kernel
theorem dX11_count_105 : decode cX11_count 105 = .ok (.getfield 13, 3) := by decide +kernel
theorem dX11_count_108 : decode cX11_count 108 = .ok (.iconst 4, 1) := by decide +kernel
theorem dX11_count_109 : decode cX11_count 109 = .ok (.iaload, 1) := by decide +kernel
theorem dX11_count_110 : decode cX11_count 110 = .ok (.ireturn, 1) := by decide +kernel
theorem dX11_count_111 : decode cX11_count 111 = .ok (.aload_n 0, 1) := by decide +kernel
theorem dX11_count_112 : decode cX11_count 112 = .ok (.getfield 13, 3) := by decide +kernel
theorem dX11_count_115 : decode cX11_count 115 = .ok (.bipush 6, 2) := by decide +kernel
theorem dX11_count_117 : decode cX11_count 117 = .ok (.iaload, 1) := by decide +kernel
theorem dX11_count_118 : decode cX11_count 118 = .ok (.ireturn, 1) := by decide +kernel
theorem dX11_count_119 : decode cX11_count 119 = .ok (.aload_n 0, 1) := by decide +kernel
theorem dX11_count_120 : decode cX11_count 120 = .ok (.getfield 78, 3) := by decide +kernel
theorem dX11_count_123 : decode cX11_count 123 = .ok (.iconst 0, 1) := by decide +kernel
theorem dX11_count_124 : decode cX11_count 124 = .ok (.iaload, 1) := by decide +kernel
theorem dX11_count_125 : decode cX11_count 125 = .ok (.ireturn, 1) := by decide +kernel
theorem dX11_count_126 : decode cX11_count 126 = .ok (.aload_n 0, 1) := by decide +kernel
theorem dX11_count_127 : decode cX11_count 127 = .ok (.aload_n 0, 1) := by decide +kernel
theorem dX11_count_128 : decode cX11_count 128 = .ok (.getfield 90, 3) := by decide +kernel
theorem dX11_count_131 : decode cX11_count 131 = .ok (.iconst 0, 1) := by decide +kernel
theorem dX11_count_132 : decode cX11_count 132 = .ok (.invokevirtual 412, 3) := by decide +kernel
theorem dX11_count_135 : decode cX11_count 135 = .ok (.ireturn, 1) := by decide +kernel
theorem dX11_count_136 : decode cX11_count 136 = .ok (.aload_n 0, 1) := by decide +kernel
theorem dX11_count_137 : decode cX11_count 137 = .ok (.aload_n 0, 1) := by decide +kernel
theorem dX11_count_138 : decode cX11_count 138 = .ok (.getfield 93, 3) := by decide +kernel
theorem dX11_count_141 : decode cX11_count 141 = .ok (.iconst 0, 1) := by decide +kernel
theorem dX11_count_142 : decode cX11_count 142 = .ok (.invokevirtual 412, 3) := by decide +kernel
theorem dX11_count_145 : decode cX11_count 145 = .ok (.ireturn, 1) := by decide +kernel
theorem dX11_count_146 : decode cX11_count 146 = .ok (.iconst 0, 1) := by decide +kernel
theorem dX11_count_147 : decode cX11_count 147 = .ok (.istore_n 3, 1) := by decide +kernel
theorem dX11_count_148 : decode cX11_count 148 = .ok (.iload_n 3, 1) := by decide +kernel
theorem dX11_count_149 : decode cX11_count 149 = .ok (.aload_n 0, 1) := by decide +kernel
theorem dX11_count_150 : decode cX11_count 150 = .ok (.getfield 13, 3) := by decide +kernel
theorem dX11_count_153 : decode cX11_count 153 = .ok (.iconst 3, 1) := by decide +kernel
theorem dX11_count_154 : decode cX11_count 154 = .ok (.iaload, 1) := by decide +kernel
theorem dX11_count_155 : decode cX11_count 155 = .ok (.if_icmp .ge 18, 3) := by decide +kernel
theorem dX11_count_158 : decode cX11_count 158 = .ok (.iload_n 2, 1) := by decide +kernel
theorem dX11_count_159 : decode cX11_count 159 = .ok (.aload_n 0, 1) := by decide +kernel
theorem dX11_count_160 : decode cX11_count 160 = .ok (.getfield 99, 3) := by decide +kernel
theorem dX11_count_163 : decode cX11_count 163 = .ok (.iload_n 3, 1) := by decide +kernel
theorem dX11_count_164 : decode cX11_count 164 = .ok (.iaload, 1) := by decide +kernel
theorem dX11_count_165 : decode cX11_count 165 = .ok (.iadd, 1) := by decide +kernel
theorem dX11_count_166 : decode cX11_count 166 = .ok (.istore_n 2, 1) := by decide +kernel
theorem dX11_count_167 : decode cX11_count 167 = .ok (.iinc 3 1, 3) := by decide +kernel
theorem dX11_count_170 : decode cX11_count 170 = .ok (.goto (-22), 3) := by decide +kernel
theorem dX11_count_173 : decode cX11_count 173 = .ok (.iload_n 2, 1) := by decide +kernel
theorem dX11_count_174 : decode cX11_count 174 = .ok (.ireturn, 1) := by decide +kernel
theorem dX11_count_175 : decode cX11_count 175 = .ok (.aload_n 0, 1) := by decide +kernel
theorem dX11_count_176 : decode cX11_count 176 = .ok (.getfield 304, 3) := by decide +kernel
theorem dX11_count_179 : decode cX11_count 179 = .ok (.ireturn, 1) := by decide +kernel
theorem dX11_count_180 : decode cX11_count 180 = .ok (.aload_n 0, 1) := by decide +kernel
theorem dX11_count_181 : decode cX11_count 181 = .ok (.invokevirtual 476, 3) := by decide +kernel
theorem dX11_count_184 : decode cX11_count 184 = .ok (.ireturn, 1) := by decide +kernel
theorem dX11_count_185 : decode cX11_count 185 = .ok (.aload_n 0, 1) := by decide +kernel
theorem dX11_count_186 : decode cX11_count 186 = .ok (.getfield 311, 3) := by decide +kernel
theorem dX11_count_189 : decode cX11_count 189 = .ok (.ireturn, 1) := by decide +kernel
theorem dX11_count_190 : decode cX11_count 190 = .ok (.iconst (-1), 1) := by decide +kernel
theorem dX11_count_191 : decode cX11_count 191 = .ok (.ireturn, 1) := by decide +kernel
