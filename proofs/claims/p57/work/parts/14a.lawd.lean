theorem dL_law_0 : decode cL_law 0 = .ok ((.new 18), 3) := by decide +kernel
theorem dL_law_3 : decode cL_law 3 = .ok (.dup, 1) := by decide +kernel
theorem dL_law_4 : decode cL_law 4 = .ok ((.invokespecial 112), 3) := by decide +kernel
theorem dL_law_7 : decode cL_law 7 = .ok ((.astore_n 1), 1) := by decide +kernel
theorem dL_law_8 : decode cL_law 8 = .ok ((.bipush 24), 2) := by decide +kernel
theorem dL_law_10 : decode cL_law 10 = .ok ((.newarray .int), 2) := by decide +kernel
theorem dL_law_12 : decode cL_law 12 = .ok ((.astore_n 2), 1) := by decide +kernel
theorem dL_law_13 : decode cL_law 13 = .ok ((.bipush 29), 2) := by decide +kernel
theorem dL_law_15 : decode cL_law 15 = .ok ((.newarray .int), 2) := by decide +kernel
theorem dL_law_17 : decode cL_law 17 = .ok ((.astore_n 3), 1) := by decide +kernel
theorem dL_law_18 : decode cL_law 18 = .ok ((.aload_n 0), 1) := by decide +kernel
theorem dL_law_19 : decode cL_law 19 = .ok (.arraylength, 1) := by decide +kernel
theorem dL_law_20 : decode cL_law 20 = .ok ((.ifCond .ne 7), 3) := by decide +kernel
theorem dL_law_23 : decode cL_law 23 = .ok ((.iconst 5), 1) := by decide +kernel
theorem dL_law_24 : decode cL_law 24 = .ok ((.goto 9), 3) := by decide +kernel
theorem dL_law_27 : decode cL_law 27 = .ok ((.aload_n 0), 1) := by decide +kernel
theorem dL_law_28 : decode cL_law 28 = .ok ((.aload_n 0), 1) := by decide +kernel
theorem dL_law_29 : decode cL_law 29 = .ok (.arraylength, 1) := by decide +kernel
theorem dL_law_30 : decode cL_law 30 = .ok ((.iconst 1), 1) := by decide +kernel
theorem dL_law_31 : decode cL_law 31 = .ok (.isub, 1) := by decide +kernel
theorem dL_law_32 : decode cL_law 32 = .ok (.iaload, 1) := by decide +kernel
theorem dL_law_33 : decode cL_law 33 = .ok ((.istore 4), 2) := by decide +kernel
theorem dL_law_35 : decode cL_law 35 = .ok ((.aload_n 0), 1) := by decide +kernel
theorem dL_law_36 : decode cL_law 36 = .ok ((.aload_n 3), 1) := by decide +kernel
theorem dL_law_37 : decode cL_law 37 = .ok ((.invokestatic 113), 3) := by decide +kernel
theorem dL_law_40 : decode cL_law 40 = .ok ((.aload_n 1), 1) := by decide +kernel
theorem dL_law_41 : decode cL_law 41 = .ok ((.aload_n 2), 1) := by decide +kernel
theorem dL_law_42 : decode cL_law 42 = .ok ((.aload_n 3), 1) := by decide +kernel
theorem dL_law_43 : decode cL_law 43 = .ok ((.invokestatic 117), 3) := by decide +kernel
theorem dL_law_46 : decode cL_law 46 = .ok ((.ifCond .ne 5), 3) := by decide +kernel
theorem dL_law_49 : decode cL_law 49 = .ok ((.iconst 0), 1) := by decide +kernel
theorem dL_law_50 : decode cL_law 50 = .ok (.ireturn, 1) := by decide +kernel
theorem dL_law_51 : decode cL_law 51 = .ok ((.aload_n 1), 1) := by decide +kernel
theorem dL_law_52 : decode cL_law 52 = .ok ((.bipush 6), 2) := by decide +kernel
theorem dL_law_54 : decode cL_law 54 = .ok ((.invokevirtual 121), 3) := by decide +kernel
theorem dL_law_57 : decode cL_law 57 = .ok ((.istore 5), 2) := by decide +kernel
theorem dL_law_59 : decode cL_law 59 = .ok ((.iconst 0), 1) := by decide +kernel
theorem dL_law_60 : decode cL_law 60 = .ok ((.istore 6), 2) := by decide +kernel
theorem dL_law_62 : decode cL_law 62 = .ok ((.iload 6), 2) := by decide +kernel
theorem dL_law_64 : decode cL_law 64 = .ok ((.aload_n 3), 1) := by decide +kernel
theorem dL_law_65 : decode cL_law 65 = .ok ((.iconst 0), 1) := by decide +kernel
theorem dL_law_66 : decode cL_law 66 = .ok (.iaload, 1) := by decide +kernel
theorem dL_law_67 : decode cL_law 67 = .ok ((.if_icmp .ge 21), 3) := by decide +kernel
theorem dL_law_70 : decode cL_law 70 = .ok ((.iload 5), 2) := by decide +kernel
theorem dL_law_72 : decode cL_law 72 = .ok ((.aload_n 1), 1) := by decide +kernel
theorem dL_law_73 : decode cL_law 73 = .ok ((.iload 6), 2) := by decide +kernel
theorem dL_law_75 : decode cL_law 75 = .ok ((.iconst 0), 1) := by decide +kernel
theorem dL_law_76 : decode cL_law 76 = .ok ((.invokevirtual 124), 3) := by decide +kernel
theorem dL_law_79 : decode cL_law 79 = .ok (.iadd, 1) := by decide +kernel
theorem dL_law_80 : decode cL_law 80 = .ok ((.istore 5), 2) := by decide +kernel
theorem dL_law_82 : decode cL_law 82 = .ok ((.iinc 6 1), 3) := by decide +kernel
theorem dL_law_85 : decode cL_law 85 = .ok ((.goto (-23)), 3) := by decide +kernel
theorem dL_law_88 : decode cL_law 88 = .ok ((.iconst 0), 1) := by decide +kernel
theorem dL_law_89 : decode cL_law 89 = .ok ((.istore 6), 2) := by decide +kernel
theorem dL_law_91 : decode cL_law 91 = .ok ((.iload 6), 2) := by decide +kernel
theorem dL_law_93 : decode cL_law 93 = .ok ((.bipush 7), 2) := by decide +kernel
theorem dL_law_95 : decode cL_law 95 = .ok ((.if_icmp .ge 1469), 3) := by decide +kernel
theorem dL_law_98 : decode cL_law 98 = .ok ((.iload 6), 2) := by decide +kernel
theorem dL_law_100 : decode cL_law 100 = .ok ((.aload_n 0), 1) := by decide +kernel
theorem dL_law_101 : decode cL_law 101 = .ok (.arraylength, 1) := by decide +kernel
theorem dL_law_102 : decode cL_law 102 = .ok ((.if_icmp .ge 18), 3) := by decide +kernel
theorem dL_law_105 : decode cL_law 105 = .ok ((.aload_n 0), 1) := by decide +kernel
theorem dL_law_106 : decode cL_law 106 = .ok ((.iload 6), 2) := by decide +kernel
theorem dL_law_108 : decode cL_law 108 = .ok (.iaload, 1) := by decide +kernel
theorem dL_law_109 : decode cL_law 109 = .ok ((.iconst 1), 1) := by decide +kernel
theorem dL_law_110 : decode cL_law 110 = .ok (.ishr, 1) := by decide +kernel
theorem dL_law_111 : decode cL_law 111 = .ok ((.bipush 73), 2) := by decide +kernel
theorem dL_law_113 : decode cL_law 113 = .ok ((.iload 6), 2) := by decide +kernel
theorem dL_law_115 : decode cL_law 115 = .ok (.imul, 1) := by decide +kernel
theorem dL_law_116 : decode cL_law 116 = .ok (.ixor, 1) := by decide +kernel
theorem dL_law_117 : decode cL_law 117 = .ok ((.goto 12), 3) := by decide +kernel
theorem dL_law_120 : decode cL_law 120 = .ok ((.sipush 401), 3) := by decide +kernel
theorem dL_law_123 : decode cL_law 123 = .ok ((.iload 6), 2) := by decide +kernel
theorem dL_law_125 : decode cL_law 125 = .ok (.imul, 1) := by decide +kernel
theorem dL_law_126 : decode cL_law 126 = .ok ((.iload 4), 2) := by decide +kernel
theorem dL_law_128 : decode cL_law 128 = .ok (.iadd, 1) := by decide +kernel
theorem dL_law_129 : decode cL_law 129 = .ok ((.istore 7), 2) := by decide +kernel
theorem dL_law_131 : decode cL_law 131 = .ok ((.aload_n 1), 1) := by decide +kernel
theorem dL_law_132 : decode cL_law 132 = .ok ((.iconst 1), 1) := by decide +kernel
theorem dL_law_133 : decode cL_law 133 = .ok ((.invokevirtual 121), 3) := by decide +kernel
theorem dL_law_136 : decode cL_law 136 = .ok ((.istore 8), 2) := by decide +kernel
theorem dL_law_138 : decode cL_law 138 = .ok ((.aload_n 1), 1) := by decide +kernel
theorem dL_law_139 : decode cL_law 139 = .ok ((.bipush 7), 2) := by decide +kernel
theorem dL_law_141 : decode cL_law 141 = .ok ((.invokevirtual 121), 3) := by decide +kernel
theorem dL_law_144 : decode cL_law 144 = .ok ((.istore 9), 2) := by decide +kernel
theorem dL_law_146 : decode cL_law 146 = .ok ((.aload_n 1), 1) := by decide +kernel
theorem dL_law_147 : decode cL_law 147 = .ok ((.bipush 6), 2) := by decide +kernel
theorem dL_law_149 : decode cL_law 149 = .ok ((.invokevirtual 121), 3) := by decide +kernel
theorem dL_law_152 : decode cL_law 152 = .ok ((.istore 10), 2) := by decide +kernel
theorem dL_law_154 : decode cL_law 154 = .ok ((.iconst 0), 1) := by decide +kernel
theorem dL_law_155 : decode cL_law 155 = .ok ((.istore 11), 2) := by decide +kernel
theorem dL_law_157 : decode cL_law 157 = .ok ((.iload 11), 2) := by decide +kernel
theorem dL_law_159 : decode cL_law 159 = .ok ((.aload_n 3), 1) := by decide +kernel
theorem dL_law_160 : decode cL_law 160 = .ok ((.iconst 0), 1) := by decide +kernel
theorem dL_law_161 : decode cL_law 161 = .ok (.iaload, 1) := by decide +kernel
theorem dL_law_162 : decode cL_law 162 = .ok ((.if_icmp .ge 21), 3) := by decide +kernel
theorem dL_law_165 : decode cL_law 165 = .ok ((.iload 10), 2) := by decide +kernel
theorem dL_law_167 : decode cL_law 167 = .ok ((.aload_n 1), 1) := by decide +kernel
theorem dL_law_168 : decode cL_law 168 = .ok ((.iload 11), 2) := by decide +kernel
theorem dL_law_170 : decode cL_law 170 = .ok ((.iconst 0), 1) := by decide +kernel
theorem dL_law_171 : decode cL_law 171 = .ok ((.invokevirtual 124), 3) := by decide +kernel
theorem dL_law_174 : decode cL_law 174 = .ok (.iadd, 1) := by decide +kernel
theorem dL_law_175 : decode cL_law 175 = .ok ((.istore 10), 2) := by decide +kernel
theorem dL_law_177 : decode cL_law 177 = .ok ((.iinc 11 1), 3) := by decide +kernel
theorem dL_law_180 : decode cL_law 180 = .ok ((.goto (-23)), 3) := by decide +kernel
theorem dL_law_183 : decode cL_law 183 = .ok ((.iload 10), 2) := by decide +kernel
theorem dL_law_185 : decode cL_law 185 = .ok ((.iload 5), 2) := by decide +kernel
theorem dL_law_187 : decode cL_law 187 = .ok ((.if_icmp .ne 27), 3) := by decide +kernel
theorem dL_law_190 : decode cL_law 190 = .ok ((.iload 9), 2) := by decide +kernel
theorem dL_law_192 : decode cL_law 192 = .ok ((.aload_n 1), 1) := by decide +kernel
theorem dL_law_193 : decode cL_law 193 = .ok ((.bipush 8), 2) := by decide +kernel
theorem dL_law_195 : decode cL_law 195 = .ok ((.invokevirtual 121), 3) := by decide +kernel
theorem dL_law_198 : decode cL_law 198 = .ok (.iand, 1) := by decide +kernel
theorem dL_law_199 : decode cL_law 199 = .ok ((.ifCond .ne 15), 3) := by decide +kernel
theorem dL_law_202 : decode cL_law 202 = .ok ((.aload_n 1), 1) := by decide +kernel
theorem dL_law_203 : decode cL_law 203 = .ok ((.invokevirtual 127), 3) := by decide +kernel
theorem dL_law_206 : decode cL_law 206 = .ok ((.iload 9), 2) := by decide +kernel
theorem dL_law_208 : decode cL_law 208 = .ok ((.iconst (-1)), 1) := by decide +kernel
theorem dL_law_209 : decode cL_law 209 = .ok (.ixor, 1) := by decide +kernel
theorem dL_law_210 : decode cL_law 210 = .ok (.iand, 1) := by decide +kernel
theorem dL_law_211 : decode cL_law 211 = .ok ((.ifCond .eq 5), 3) := by decide +kernel
theorem dL_law_214 : decode cL_law 214 = .ok ((.iconst 0), 1) := by decide +kernel
theorem dL_law_215 : decode cL_law 215 = .ok (.ireturn, 1) := by decide +kernel
theorem dL_law_216 : decode cL_law 216 = .ok ((.aload_n 1), 1) := by decide +kernel
theorem dL_law_217 : decode cL_law 217 = .ok ((.aload_n 1), 1) := by decide +kernel
theorem dL_law_218 : decode cL_law 218 = .ok ((.iconst 5), 1) := by decide +kernel
theorem dL_law_219 : decode cL_law 219 = .ok ((.invokevirtual 121), 3) := by decide +kernel
theorem dL_law_222 : decode cL_law 222 = .ok ((.aload_n 1), 1) := by decide +kernel
theorem dL_law_223 : decode cL_law 223 = .ok ((.iconst 4), 1) := by decide +kernel
theorem dL_law_224 : decode cL_law 224 = .ok ((.invokevirtual 121), 3) := by decide +kernel
theorem dL_law_227 : decode cL_law 227 = .ok ((.invokevirtual 130), 3) := by decide +kernel
theorem dL_law_230 : decode cL_law 230 = .ok ((.istore 11), 2) := by decide +kernel
theorem dL_law_232 : decode cL_law 232 = .ok ((.iload 11), 2) := by decide +kernel
theorem dL_law_234 : decode cL_law 234 = .ok ((.aload_n 1), 1) := by decide +kernel
theorem dL_law_235 : decode cL_law 235 = .ok ((.invokevirtual 127), 3) := by decide +kernel
theorem dL_law_238 : decode cL_law 238 = .ok (.iand, 1) := by decide +kernel
theorem dL_law_239 : decode cL_law 239 = .ok ((.ifCond .ne 15), 3) := by decide +kernel
theorem dL_law_242 : decode cL_law 242 = .ok ((.iload 11), 2) := by decide +kernel
theorem dL_law_244 : decode cL_law 244 = .ok ((.aload_n 1), 1) := by decide +kernel
theorem dL_law_245 : decode cL_law 245 = .ok ((.invokevirtual 127), 3) := by decide +kernel
theorem dL_law_248 : decode cL_law 248 = .ok (.ior, 1) := by decide +kernel
theorem dL_law_249 : decode cL_law 249 = .ok ((.iload 9), 2) := by decide +kernel
theorem dL_law_251 : decode cL_law 251 = .ok ((.if_icmp .eq 5), 3) := by decide +kernel
theorem dL_law_254 : decode cL_law 254 = .ok ((.iconst 0), 1) := by decide +kernel
theorem dL_law_255 : decode cL_law 255 = .ok (.ireturn, 1) := by decide +kernel
theorem dL_law_256 : decode cL_law 256 = .ok ((.iconst 0), 1) := by decide +kernel
theorem dL_law_257 : decode cL_law 257 = .ok ((.istore 12), 2) := by decide +kernel
theorem dL_law_259 : decode cL_law 259 = .ok ((.iload 12), 2) := by decide +kernel
theorem dL_law_261 : decode cL_law 261 = .ok ((.iload 8), 2) := by decide +kernel
theorem dL_law_263 : decode cL_law 263 = .ok ((.if_icmp .ge 421), 3) := by decide +kernel
theorem dL_law_266 : decode cL_law 266 = .ok ((.iload 11), 2) := by decide +kernel
theorem dL_law_268 : decode cL_law 268 = .ok ((.iload 12), 2) := by decide +kernel
theorem dL_law_270 : decode cL_law 270 = .ok (.ishr, 1) := by decide +kernel
theorem dL_law_271 : decode cL_law 271 = .ok ((.iconst 1), 1) := by decide +kernel
theorem dL_law_272 : decode cL_law 272 = .ok (.iand, 1) := by decide +kernel
theorem dL_law_273 : decode cL_law 273 = .ok ((.iconst 1), 1) := by decide +kernel
theorem dL_law_274 : decode cL_law 274 = .ok ((.if_icmp .ne 7), 3) := by decide +kernel
theorem dL_law_277 : decode cL_law 277 = .ok ((.iconst 1), 1) := by decide +kernel
theorem dL_law_278 : decode cL_law 278 = .ok ((.goto 4), 3) := by decide +kernel
theorem dL_law_281 : decode cL_law 281 = .ok ((.iconst 0), 1) := by decide +kernel
theorem dL_law_282 : decode cL_law 282 = .ok ((.istore 13), 2) := by decide +kernel
theorem dL_law_284 : decode cL_law 284 = .ok ((.aload_n 1), 1) := by decide +kernel
theorem dL_law_285 : decode cL_law 285 = .ok ((.iload 12), 2) := by decide +kernel
theorem dL_law_287 : decode cL_law 287 = .ok ((.invokevirtual 133), 3) := by decide +kernel
theorem dL_law_290 : decode cL_law 290 = .ok ((.istore 14), 2) := by decide +kernel
theorem dL_law_292 : decode cL_law 292 = .ok ((.iload 13), 2) := by decide +kernel
theorem dL_law_294 : decode cL_law 294 = .ok ((.iload 14), 2) := by decide +kernel
theorem dL_law_296 : decode cL_law 296 = .ok ((.ifCond .lt 7), 3) := by decide +kernel
theorem dL_law_299 : decode cL_law 299 = .ok ((.iconst 1), 1) := by decide +kernel
theorem dL_law_300 : decode cL_law 300 = .ok ((.goto 4), 3) := by decide +kernel
theorem dL_law_303 : decode cL_law 303 = .ok ((.iconst 0), 1) := by decide +kernel
theorem dL_law_304 : decode cL_law 304 = .ok ((.if_icmp .ne 61), 3) := by decide +kernel
theorem dL_law_307 : decode cL_law 307 = .ok ((.iload 13), 2) := by decide +kernel
theorem dL_law_309 : decode cL_law 309 = .ok ((.ifCond .eq 58), 3) := by decide +kernel
theorem dL_law_312 : decode cL_law 312 = .ok ((.aload_n 1), 1) := by decide +kernel
theorem dL_law_313 : decode cL_law 313 = .ok ((.iload 12), 2) := by decide +kernel
theorem dL_law_315 : decode cL_law 315 = .ok ((.invokevirtual 136), 3) := by decide +kernel
theorem dL_law_318 : decode cL_law 318 = .ok ((.aload_n 1), 1) := by decide +kernel
theorem dL_law_319 : decode cL_law 319 = .ok ((.iconst 5), 1) := by decide +kernel
theorem dL_law_320 : decode cL_law 320 = .ok ((.invokevirtual 121), 3) := by decide +kernel
theorem dL_law_323 : decode cL_law 323 = .ok ((.if_icmp .gt 42), 3) := by decide +kernel
theorem dL_law_326 : decode cL_law 326 = .ok ((.aload_n 1), 1) := by decide +kernel
theorem dL_law_327 : decode cL_law 327 = .ok ((.iload 12), 2) := by decide +kernel
theorem dL_law_329 : decode cL_law 329 = .ok ((.invokevirtual 139), 3) := by decide +kernel
theorem dL_law_332 : decode cL_law 332 = .ok ((.aload_n 1), 1) := by decide +kernel
theorem dL_law_333 : decode cL_law 333 = .ok ((.iconst 4), 1) := by decide +kernel
theorem dL_law_334 : decode cL_law 334 = .ok ((.invokevirtual 121), 3) := by decide +kernel
theorem dL_law_337 : decode cL_law 337 = .ok ((.if_icmp .lt 28), 3) := by decide +kernel
theorem dL_law_340 : decode cL_law 340 = .ok ((.aload_n 1), 1) := by decide +kernel
theorem dL_law_341 : decode cL_law 341 = .ok ((.iload 12), 2) := by decide +kernel
theorem dL_law_343 : decode cL_law 343 = .ok ((.invokevirtual 142), 3) := by decide +kernel
theorem dL_law_346 : decode cL_law 346 = .ok ((.aload_n 1), 1) := by decide +kernel
theorem dL_law_347 : decode cL_law 347 = .ok ((.iload 12), 2) := by decide +kernel
theorem dL_law_349 : decode cL_law 349 = .ok ((.iconst 1), 1) := by decide +kernel
theorem dL_law_350 : decode cL_law 350 = .ok ((.invokevirtual 145), 3) := by decide +kernel
theorem dL_law_353 : decode cL_law 353 = .ok ((.if_icmp .gt 12), 3) := by decide +kernel
theorem dL_law_356 : decode cL_law 356 = .ok ((.aload_n 1), 1) := by decide +kernel
theorem dL_law_357 : decode cL_law 357 = .ok ((.iload 12), 2) := by decide +kernel
theorem dL_law_359 : decode cL_law 359 = .ok ((.invokevirtual 147), 3) := by decide +kernel
theorem dL_law_362 : decode cL_law 362 = .ok ((.ifCond .ge 5), 3) := by decide +kernel
theorem dL_law_365 : decode cL_law 365 = .ok ((.iconst 0), 1) := by decide +kernel
theorem dL_law_366 : decode cL_law 366 = .ok (.ireturn, 1) := by decide +kernel
theorem dL_law_367 : decode cL_law 367 = .ok ((.iconst 0), 1) := by decide +kernel
theorem dL_law_368 : decode cL_law 368 = .ok ((.istore 15), 2) := by decide +kernel
theorem dL_law_370 : decode cL_law 370 = .ok ((.iload 15), 2) := by decide +kernel
theorem dL_law_372 : decode cL_law 372 = .ok ((.aload_n 3), 1) := by decide +kernel
theorem dL_law_373 : decode cL_law 373 = .ok ((.iconst 0), 1) := by decide +kernel
theorem dL_law_374 : decode cL_law 374 = .ok (.iaload, 1) := by decide +kernel
theorem dL_law_375 : decode cL_law 375 = .ok ((.if_icmp .ge 303), 3) := by decide +kernel
theorem dL_law_378 : decode cL_law 378 = .ok ((.aload_n 1), 1) := by decide +kernel
theorem dL_law_379 : decode cL_law 379 = .ok ((.iload 15), 2) := by decide +kernel
theorem dL_law_381 : decode cL_law 381 = .ok ((.iload 12), 2) := by decide +kernel
theorem dL_law_383 : decode cL_law 383 = .ok ((.invokevirtual 150), 3) := by decide +kernel
theorem dL_law_386 : decode cL_law 386 = .ok ((.ifCond .ne 6), 3) := by decide +kernel
theorem dL_law_389 : decode cL_law 389 = .ok ((.goto 283), 3) := by decide +kernel
theorem dL_law_392 : decode cL_law 392 = .ok ((.aload_n 1), 1) := by decide +kernel
theorem dL_law_393 : decode cL_law 393 = .ok ((.iload 15), 2) := by decide +kernel
theorem dL_law_395 : decode cL_law 395 = .ok ((.iload 12), 2) := by decide +kernel
theorem dL_law_397 : decode cL_law 397 = .ok ((.invokevirtual 153), 3) := by decide +kernel
theorem dL_law_400 : decode cL_law 400 = .ok ((.ifCond .ne 5), 3) := by decide +kernel
theorem dL_law_403 : decode cL_law 403 = .ok ((.iconst 0), 1) := by decide +kernel
theorem dL_law_404 : decode cL_law 404 = .ok (.ireturn, 1) := by decide +kernel
theorem dL_law_405 : decode cL_law 405 = .ok ((.aload_n 1), 1) := by decide +kernel
theorem dL_law_406 : decode cL_law 406 = .ok ((.invokevirtual 109), 3) := by decide +kernel
theorem dL_law_409 : decode cL_law 409 = .ok ((.lstore 16), 2) := by decide +kernel
theorem dL_law_411 : decode cL_law 411 = .ok ((.aload_n 1), 1) := by decide +kernel
theorem dL_law_412 : decode cL_law 412 = .ok ((.invokevirtual 105), 3) := by decide +kernel
theorem dL_law_415 : decode cL_law 415 = .ok ((.lstore 18), 2) := by decide +kernel
theorem dL_law_417 : decode cL_law 417 = .ok ((.aload_n 1), 1) := by decide +kernel
theorem dL_law_418 : decode cL_law 418 = .ok ((.iload 15), 2) := by decide +kernel
theorem dL_law_420 : decode cL_law 420 = .ok ((.iload 12), 2) := by decide +kernel
theorem dL_law_422 : decode cL_law 422 = .ok ((.invokevirtual 157), 3) := by decide +kernel
theorem dL_law_425 : decode cL_law 425 = .ok ((.ifCond .eq 24), 3) := by decide +kernel
theorem dL_law_428 : decode cL_law 428 = .ok ((.aload_n 1), 1) := by decide +kernel
theorem dL_law_429 : decode cL_law 429 = .ok ((.invokevirtual 109), 3) := by decide +kernel
theorem dL_law_432 : decode cL_law 432 = .ok ((.lload 18), 2) := by decide +kernel
theorem dL_law_434 : decode cL_law 434 = .ok (.lmul, 1) := by decide +kernel
theorem dL_law_435 : decode cL_law 435 = .ok ((.lload 18), 2) := by decide +kernel
theorem dL_law_437 : decode cL_law 437 = .ok ((.lload 16), 2) := by decide +kernel
theorem dL_law_439 : decode cL_law 439 = .ok (.lsub, 1) := by decide +kernel
theorem dL_law_440 : decode cL_law 440 = .ok ((.aload_n 1), 1) := by decide +kernel
theorem dL_law_441 : decode cL_law 441 = .ok ((.invokevirtual 105), 3) := by decide +kernel
theorem dL_law_444 : decode cL_law 444 = .ok (.lmul, 1) := by decide +kernel
theorem dL_law_445 : decode cL_law 445 = .ok (.lcmp, 1) := by decide +kernel
theorem dL_law_446 : decode cL_law 446 = .ok ((.ifCond .le 5), 3) := by decide +kernel
theorem dL_law_449 : decode cL_law 449 = .ok ((.iconst 0), 1) := by decide +kernel
theorem dL_law_450 : decode cL_law 450 = .ok (.ireturn, 1) := by decide +kernel
theorem dL_law_451 : decode cL_law 451 = .ok ((.aload_n 1), 1) := by decide +kernel
theorem dL_law_452 : decode cL_law 452 = .ok ((.iload 15), 2) := by decide +kernel
theorem dL_law_454 : decode cL_law 454 = .ok ((.iload 12), 2) := by decide +kernel
theorem dL_law_456 : decode cL_law 456 = .ok ((.invokevirtual 160), 3) := by decide +kernel
theorem dL_law_459 : decode cL_law 459 = .ok ((.ifCond .ne 5), 3) := by decide +kernel
theorem dL_law_462 : decode cL_law 462 = .ok ((.iconst 0), 1) := by decide +kernel
theorem dL_law_463 : decode cL_law 463 = .ok (.ireturn, 1) := by decide +kernel
theorem dL_law_464 : decode cL_law 464 = .ok ((.aload_n 1), 1) := by decide +kernel
theorem dL_law_465 : decode cL_law 465 = .ok ((.invokevirtual 109), 3) := by decide +kernel
theorem dL_law_468 : decode cL_law 468 = .ok ((.lstore 20), 2) := by decide +kernel
theorem dL_law_470 : decode cL_law 470 = .ok ((.aload_n 1), 1) := by decide +kernel
theorem dL_law_471 : decode cL_law 471 = .ok ((.invokevirtual 105), 3) := by decide +kernel
theorem dL_law_474 : decode cL_law 474 = .ok ((.lstore 22), 2) := by decide +kernel
theorem dL_law_476 : decode cL_law 476 = .ok ((.lload 20), 2) := by decide +kernel
theorem dL_law_478 : decode cL_law 478 = .ok ((.lconst 0), 1) := by decide +kernel
theorem dL_law_479 : decode cL_law 479 = .ok (.lcmp, 1) := by decide +kernel
theorem dL_law_480 : decode cL_law 480 = .ok ((.ifCond .le 8), 3) := by decide +kernel
theorem dL_law_483 : decode cL_law 483 = .ok ((.iload 14), 2) := by decide +kernel
theorem dL_law_485 : decode cL_law 485 = .ok ((.ifCond .lt 41), 3) := by decide +kernel
theorem dL_law_488 : decode cL_law 488 = .ok ((.aload_n 1), 1) := by decide +kernel
theorem dL_law_489 : decode cL_law 489 = .ok ((.iload 15), 2) := by decide +kernel
theorem dL_law_491 : decode cL_law 491 = .ok ((.iload 12), 2) := by decide +kernel
theorem dL_law_493 : decode cL_law 493 = .ok ((.invokevirtual 163), 3) := by decide +kernel
theorem dL_law_496 : decode cL_law 496 = .ok ((.ifCond .eq 30), 3) := by decide +kernel
theorem dL_law_499 : decode cL_law 499 = .ok ((.aload_n 1), 1) := by decide +kernel
theorem dL_law_500 : decode cL_law 500 = .ok ((.invokevirtual 109), 3) := by decide +kernel
theorem dL_law_503 : decode cL_law 503 = .ok ((.lconst 0), 1) := by decide +kernel
theorem dL_law_504 : decode cL_law 504 = .ok (.lcmp, 1) := by decide +kernel
theorem dL_law_505 : decode cL_law 505 = .ok ((.ifCond .lt 21), 3) := by decide +kernel
theorem dL_law_508 : decode cL_law 508 = .ok ((.aload_n 1), 1) := by decide +kernel
theorem dL_law_509 : decode cL_law 509 = .ok ((.invokevirtual 109), 3) := by decide +kernel
theorem dL_law_512 : decode cL_law 512 = .ok ((.lload 22), 2) := by decide +kernel
theorem dL_law_514 : decode cL_law 514 = .ok (.lmul, 1) := by decide +kernel
theorem dL_law_515 : decode cL_law 515 = .ok ((.lload 20), 2) := by decide +kernel
theorem dL_law_517 : decode cL_law 517 = .ok ((.aload_n 1), 1) := by decide +kernel
theorem dL_law_518 : decode cL_law 518 = .ok ((.invokevirtual 105), 3) := by decide +kernel
theorem dL_law_521 : decode cL_law 521 = .ok (.lmul, 1) := by decide +kernel
theorem dL_law_522 : decode cL_law 522 = .ok (.lcmp, 1) := by decide +kernel
theorem dL_law_523 : decode cL_law 523 = .ok ((.ifCond .ge 5), 3) := by decide +kernel
theorem dL_law_526 : decode cL_law 526 = .ok ((.iconst 0), 1) := by decide +kernel
theorem dL_law_527 : decode cL_law 527 = .ok (.ireturn, 1) := by decide +kernel
theorem dL_law_528 : decode cL_law 528 = .ok ((.iload 14), 2) := by decide +kernel
theorem dL_law_530 : decode cL_law 530 = .ok ((.ifCond .lt 34), 3) := by decide +kernel
theorem dL_law_533 : decode cL_law 533 = .ok ((.aload_n 1), 1) := by decide +kernel
theorem dL_law_534 : decode cL_law 534 = .ok ((.iload 14), 2) := by decide +kernel
theorem dL_law_536 : decode cL_law 536 = .ok ((.iload 12), 2) := by decide +kernel
theorem dL_law_538 : decode cL_law 538 = .ok ((.invokevirtual 160), 3) := by decide +kernel
theorem dL_law_541 : decode cL_law 541 = .ok ((.ifCond .eq 21), 3) := by decide +kernel
theorem dL_law_544 : decode cL_law 544 = .ok ((.aload_n 1), 1) := by decide +kernel
theorem dL_law_545 : decode cL_law 545 = .ok ((.invokevirtual 109), 3) := by decide +kernel
theorem dL_law_548 : decode cL_law 548 = .ok ((.lload 22), 2) := by decide +kernel
theorem dL_law_550 : decode cL_law 550 = .ok (.lmul, 1) := by decide +kernel
theorem dL_law_551 : decode cL_law 551 = .ok ((.lload 20), 2) := by decide +kernel
theorem dL_law_553 : decode cL_law 553 = .ok ((.aload_n 1), 1) := by decide +kernel
theorem dL_law_554 : decode cL_law 554 = .ok ((.invokevirtual 105), 3) := by decide +kernel
theorem dL_law_557 : decode cL_law 557 = .ok (.lmul, 1) := by decide +kernel
theorem dL_law_558 : decode cL_law 558 = .ok (.lcmp, 1) := by decide +kernel
theorem dL_law_559 : decode cL_law 559 = .ok ((.ifCond .ge 5), 3) := by decide +kernel
theorem dL_law_562 : decode cL_law 562 = .ok ((.iconst 0), 1) := by decide +kernel
theorem dL_law_563 : decode cL_law 563 = .ok (.ireturn, 1) := by decide +kernel
theorem dL_law_564 : decode cL_law 564 = .ok ((.aload_n 1), 1) := by decide +kernel
theorem dL_law_565 : decode cL_law 565 = .ok ((.iload 15), 2) := by decide +kernel
theorem dL_law_567 : decode cL_law 567 = .ok ((.iload 12), 2) := by decide +kernel
theorem dL_law_569 : decode cL_law 569 = .ok ((.iconst 0), 1) := by decide +kernel
theorem dL_law_570 : decode cL_law 570 = .ok ((.invokevirtual 166), 3) := by decide +kernel
theorem dL_law_573 : decode cL_law 573 = .ok ((.istore 24), 2) := by decide +kernel
theorem dL_law_575 : decode cL_law 575 = .ok ((.iload 24), 2) := by decide +kernel
theorem dL_law_577 : decode cL_law 577 = .ok ((.ifCond .lt 31), 3) := by decide +kernel
theorem dL_law_580 : decode cL_law 580 = .ok ((.iload 24), 2) := by decide +kernel
theorem dL_law_582 : decode cL_law 582 = .ok ((.aload_n 1), 1) := by decide +kernel
theorem dL_law_583 : decode cL_law 583 = .ok ((.iload 15), 2) := by decide +kernel
theorem dL_law_585 : decode cL_law 585 = .ok ((.iload 12), 2) := by decide +kernel
theorem dL_law_587 : decode cL_law 587 = .ok ((.iconst 1), 1) := by decide +kernel
theorem dL_law_588 : decode cL_law 588 = .ok ((.invokevirtual 166), 3) := by decide +kernel
theorem dL_law_591 : decode cL_law 591 = .ok ((.if_icmp .gt 15), 3) := by decide +kernel
theorem dL_law_594 : decode cL_law 594 = .ok ((.lload 20), 2) := by decide +kernel
theorem dL_law_596 : decode cL_law 596 = .ok ((.iload 24), 2) := by decide +kernel
theorem dL_law_598 : decode cL_law 598 = .ok (.i2l, 1) := by decide +kernel
theorem dL_law_599 : decode cL_law 599 = .ok ((.lload 22), 2) := by decide +kernel
theorem dL_law_601 : decode cL_law 601 = .ok (.lmul, 1) := by decide +kernel
theorem dL_law_602 : decode cL_law 602 = .ok (.lcmp, 1) := by decide +kernel
theorem dL_law_603 : decode cL_law 603 = .ok ((.ifCond .le 5), 3) := by decide +kernel
theorem dL_law_606 : decode cL_law 606 = .ok ((.iconst 0), 1) := by decide +kernel
theorem dL_law_607 : decode cL_law 607 = .ok (.ireturn, 1) := by decide +kernel
theorem dL_law_608 : decode cL_law 608 = .ok ((.aload_n 1), 1) := by decide +kernel
theorem dL_law_609 : decode cL_law 609 = .ok ((.iload 12), 2) := by decide +kernel
theorem dL_law_611 : decode cL_law 611 = .ok ((.invokevirtual 147), 3) := by decide +kernel
theorem dL_law_614 : decode cL_law 614 = .ok ((.istore 25), 2) := by decide +kernel
theorem dL_law_616 : decode cL_law 616 = .ok ((.aload_n 1), 1) := by decide +kernel
theorem dL_law_617 : decode cL_law 617 = .ok ((.iload 15), 2) := by decide +kernel
theorem dL_law_619 : decode cL_law 619 = .ok ((.iload 12), 2) := by decide +kernel
theorem dL_law_621 : decode cL_law 621 = .ok ((.invokevirtual 163), 3) := by decide +kernel
theorem dL_law_624 : decode cL_law 624 = .ok ((.ifCond .ne 5), 3) := by decide +kernel
theorem dL_law_627 : decode cL_law 627 = .ok ((.iconst 0), 1) := by decide +kernel
theorem dL_law_628 : decode cL_law 628 = .ok (.ireturn, 1) := by decide +kernel
theorem dL_law_629 : decode cL_law 629 = .ok ((.aload_n 1), 1) := by decide +kernel
theorem dL_law_630 : decode cL_law 630 = .ok ((.invokevirtual 109), 3) := by decide +kernel
theorem dL_law_633 : decode cL_law 633 = .ok ((.lstore 20), 2) := by decide +kernel
theorem dL_law_635 : decode cL_law 635 = .ok ((.aload_n 1), 1) := by decide +kernel
theorem dL_law_636 : decode cL_law 636 = .ok ((.invokevirtual 105), 3) := by decide +kernel
theorem dL_law_639 : decode cL_law 639 = .ok ((.lstore 22), 2) := by decide +kernel
theorem dL_law_641 : decode cL_law 641 = .ok ((.aload_n 1), 1) := by decide +kernel
theorem dL_law_642 : decode cL_law 642 = .ok ((.iload 25), 2) := by decide +kernel
theorem dL_law_644 : decode cL_law 644 = .ok ((.iload 12), 2) := by decide +kernel
theorem dL_law_646 : decode cL_law 646 = .ok ((.invokevirtual 163), 3) := by decide +kernel
theorem dL_law_649 : decode cL_law 649 = .ok ((.ifCond .eq 21), 3) := by decide +kernel
theorem dL_law_652 : decode cL_law 652 = .ok ((.aload_n 1), 1) := by decide +kernel
theorem dL_law_653 : decode cL_law 653 = .ok ((.invokevirtual 109), 3) := by decide +kernel
theorem dL_law_656 : decode cL_law 656 = .ok ((.lload 22), 2) := by decide +kernel
theorem dL_law_658 : decode cL_law 658 = .ok (.lmul, 1) := by decide +kernel
theorem dL_law_659 : decode cL_law 659 = .ok ((.lload 20), 2) := by decide +kernel
theorem dL_law_661 : decode cL_law 661 = .ok ((.aload_n 1), 1) := by decide +kernel
theorem dL_law_662 : decode cL_law 662 = .ok ((.invokevirtual 105), 3) := by decide +kernel
theorem dL_law_665 : decode cL_law 665 = .ok (.lmul, 1) := by decide +kernel
theorem dL_law_666 : decode cL_law 666 = .ok (.lcmp, 1) := by decide +kernel
theorem dL_law_667 : decode cL_law 667 = .ok ((.ifCond .le 5), 3) := by decide +kernel
theorem dL_law_670 : decode cL_law 670 = .ok ((.iconst 0), 1) := by decide +kernel
theorem dL_law_671 : decode cL_law 671 = .ok (.ireturn, 1) := by decide +kernel
theorem dL_law_672 : decode cL_law 672 = .ok ((.iinc 15 1), 3) := by decide +kernel
theorem dL_law_675 : decode cL_law 675 = .ok ((.goto (-305)), 3) := by decide +kernel
theorem dL_law_678 : decode cL_law 678 = .ok ((.iinc 12 1), 3) := by decide +kernel
theorem dL_law_681 : decode cL_law 681 = .ok ((.goto (-422)), 3) := by decide +kernel
theorem dL_law_684 : decode cL_law 684 = .ok ((.iconst 0), 1) := by decide +kernel
theorem dL_law_685 : decode cL_law 685 = .ok ((.istore 12), 2) := by decide +kernel
theorem dL_law_687 : decode cL_law 687 = .ok ((.iload 12), 2) := by decide +kernel
theorem dL_law_689 : decode cL_law 689 = .ok ((.aload_n 3), 1) := by decide +kernel
theorem dL_law_690 : decode cL_law 690 = .ok ((.iconst 0), 1) := by decide +kernel
theorem dL_law_691 : decode cL_law 691 = .ok (.iaload, 1) := by decide +kernel
theorem dL_law_692 : decode cL_law 692 = .ok ((.if_icmp .ge 299), 3) := by decide +kernel
theorem dL_law_695 : decode cL_law 695 = .ok ((.aload_n 1), 1) := by decide +kernel
theorem dL_law_696 : decode cL_law 696 = .ok ((.iload 12), 2) := by decide +kernel
theorem dL_law_698 : decode cL_law 698 = .ok ((.invokevirtual 170), 3) := by decide +kernel
theorem dL_law_701 : decode cL_law 701 = .ok ((.istore 13), 2) := by decide +kernel
theorem dL_law_703 : decode cL_law 703 = .ok ((.aload_n 1), 1) := by decide +kernel
theorem dL_law_704 : decode cL_law 704 = .ok ((.iload 12), 2) := by decide +kernel
theorem dL_law_706 : decode cL_law 706 = .ok ((.iconst 1), 1) := by decide +kernel
theorem dL_law_707 : decode cL_law 707 = .ok ((.invokevirtual 173), 3) := by decide +kernel
theorem dL_law_710 : decode cL_law 710 = .ok ((.ifCond .ne 5), 3) := by decide +kernel
theorem dL_law_713 : decode cL_law 713 = .ok ((.iconst 0), 1) := by decide +kernel
theorem dL_law_714 : decode cL_law 714 = .ok (.ireturn, 1) := by decide +kernel
theorem dL_law_715 : decode cL_law 715 = .ok ((.aload_n 1), 1) := by decide +kernel
theorem dL_law_716 : decode cL_law 716 = .ok ((.invokevirtual 109), 3) := by decide +kernel
theorem dL_law_719 : decode cL_law 719 = .ok ((.lstore 14), 2) := by decide +kernel
theorem dL_law_721 : decode cL_law 721 = .ok ((.aload_n 1), 1) := by decide +kernel
theorem dL_law_722 : decode cL_law 722 = .ok ((.invokevirtual 105), 3) := by decide +kernel
theorem dL_law_725 : decode cL_law 725 = .ok ((.lstore 16), 2) := by decide +kernel
theorem dL_law_727 : decode cL_law 727 = .ok ((.iload 13), 2) := by decide +kernel
theorem dL_law_729 : decode cL_law 729 = .ok ((.ifCond .lt 7), 3) := by decide +kernel
theorem dL_law_732 : decode cL_law 732 = .ok ((.iconst 1), 1) := by decide +kernel
theorem dL_law_733 : decode cL_law 733 = .ok ((.goto 4), 3) := by decide +kernel
theorem dL_law_736 : decode cL_law 736 = .ok ((.iconst 0), 1) := by decide +kernel
theorem dL_law_737 : decode cL_law 737 = .ok ((.lload 14), 2) := by decide +kernel
theorem dL_law_739 : decode cL_law 739 = .ok ((.lconst 0), 1) := by decide +kernel
theorem dL_law_740 : decode cL_law 740 = .ok (.lcmp, 1) := by decide +kernel
theorem dL_law_741 : decode cL_law 741 = .ok ((.ifCond .le 7), 3) := by decide +kernel
theorem dL_law_744 : decode cL_law 744 = .ok ((.iconst 1), 1) := by decide +kernel
theorem dL_law_745 : decode cL_law 745 = .ok ((.goto 4), 3) := by decide +kernel
theorem dL_law_748 : decode cL_law 748 = .ok ((.iconst 0), 1) := by decide +kernel
theorem dL_law_749 : decode cL_law 749 = .ok ((.if_icmp .ne 51), 3) := by decide +kernel
theorem dL_law_752 : decode cL_law 752 = .ok ((.iload 13), 2) := by decide +kernel
theorem dL_law_754 : decode cL_law 754 = .ok ((.ifCond .lt 48), 3) := by decide +kernel
theorem dL_law_757 : decode cL_law 757 = .ok ((.aload_n 1), 1) := by decide +kernel
theorem dL_law_758 : decode cL_law 758 = .ok ((.iload 12), 2) := by decide +kernel
theorem dL_law_760 : decode cL_law 760 = .ok ((.iload 13), 2) := by decide +kernel
theorem dL_law_762 : decode cL_law 762 = .ok ((.invokevirtual 150), 3) := by decide +kernel
theorem dL_law_765 : decode cL_law 765 = .ok ((.iconst 1), 1) := by decide +kernel
theorem dL_law_766 : decode cL_law 766 = .ok ((.if_icmp .ne 34), 3) := by decide +kernel
theorem dL_law_769 : decode cL_law 769 = .ok ((.aload_n 1), 1) := by decide +kernel
theorem dL_law_770 : decode cL_law 770 = .ok ((.iload 12), 2) := by decide +kernel
theorem dL_law_772 : decode cL_law 772 = .ok ((.iload 13), 2) := by decide +kernel
theorem dL_law_774 : decode cL_law 774 = .ok ((.invokevirtual 160), 3) := by decide +kernel
theorem dL_law_777 : decode cL_law 777 = .ok ((.ifCond .eq 23), 3) := by decide +kernel
theorem dL_law_780 : decode cL_law 780 = .ok ((.aload_n 1), 1) := by decide +kernel
theorem dL_law_781 : decode cL_law 781 = .ok ((.invokevirtual 109), 3) := by decide +kernel
theorem dL_law_784 : decode cL_law 784 = .ok ((.lload 14), 2) := by decide +kernel
theorem dL_law_786 : decode cL_law 786 = .ok (.lcmp, 1) := by decide +kernel
theorem dL_law_787 : decode cL_law 787 = .ok ((.ifCond .ne 13), 3) := by decide +kernel
theorem dL_law_790 : decode cL_law 790 = .ok ((.aload_n 1), 1) := by decide +kernel
theorem dL_law_791 : decode cL_law 791 = .ok ((.invokevirtual 105), 3) := by decide +kernel
theorem dL_law_794 : decode cL_law 794 = .ok ((.lload 16), 2) := by decide +kernel
theorem dL_law_796 : decode cL_law 796 = .ok (.lcmp, 1) := by decide +kernel
theorem dL_law_797 : decode cL_law 797 = .ok ((.ifCond .eq 5), 3) := by decide +kernel
theorem dL_law_800 : decode cL_law 800 = .ok ((.iconst 0), 1) := by decide +kernel
theorem dL_law_801 : decode cL_law 801 = .ok (.ireturn, 1) := by decide +kernel
theorem dL_law_802 : decode cL_law 802 = .ok ((.aload_n 1), 1) := by decide +kernel
theorem dL_law_803 : decode cL_law 803 = .ok ((.iload 12), 2) := by decide +kernel
theorem dL_law_805 : decode cL_law 805 = .ok ((.bipush 10), 2) := by decide +kernel
theorem dL_law_807 : decode cL_law 807 = .ok ((.invokevirtual 173), 3) := by decide +kernel
theorem dL_law_810 : decode cL_law 810 = .ok ((.ifCond .eq 21), 3) := by decide +kernel
theorem dL_law_813 : decode cL_law 813 = .ok ((.aload_n 1), 1) := by decide +kernel
theorem dL_law_814 : decode cL_law 814 = .ok ((.invokevirtual 109), 3) := by decide +kernel
theorem dL_law_817 : decode cL_law 817 = .ok ((.lload 16), 2) := by decide +kernel
theorem dL_law_819 : decode cL_law 819 = .ok (.lmul, 1) := by decide +kernel
theorem dL_law_820 : decode cL_law 820 = .ok ((.lload 14), 2) := by decide +kernel
theorem dL_law_822 : decode cL_law 822 = .ok ((.aload_n 1), 1) := by decide +kernel
theorem dL_law_823 : decode cL_law 823 = .ok ((.invokevirtual 105), 3) := by decide +kernel
theorem dL_law_826 : decode cL_law 826 = .ok (.lmul, 1) := by decide +kernel
theorem dL_law_827 : decode cL_law 827 = .ok (.lcmp, 1) := by decide +kernel
theorem dL_law_828 : decode cL_law 828 = .ok ((.ifCond .ge 5), 3) := by decide +kernel
theorem dL_law_831 : decode cL_law 831 = .ok ((.iconst 0), 1) := by decide +kernel
theorem dL_law_832 : decode cL_law 832 = .ok (.ireturn, 1) := by decide +kernel
theorem dL_law_833 : decode cL_law 833 = .ok ((.aload_n 1), 1) := by decide +kernel
theorem dL_law_834 : decode cL_law 834 = .ok ((.iload 12), 2) := by decide +kernel
theorem dL_law_836 : decode cL_law 836 = .ok ((.iconst 0), 1) := by decide +kernel
theorem dL_law_837 : decode cL_law 837 = .ok ((.invokevirtual 176), 3) := by decide +kernel
theorem dL_law_840 : decode cL_law 840 = .ok ((.ifCond .lt 70), 3) := by decide +kernel
theorem dL_law_843 : decode cL_law 843 = .ok ((.aload_n 1), 1) := by decide +kernel
theorem dL_law_844 : decode cL_law 844 = .ok ((.iload 12), 2) := by decide +kernel
theorem dL_law_846 : decode cL_law 846 = .ok ((.iconst 1), 1) := by decide +kernel
theorem dL_law_847 : decode cL_law 847 = .ok ((.invokevirtual 176), 3) := by decide +kernel
theorem dL_law_850 : decode cL_law 850 = .ok ((.ifCond .gt 60), 3) := by decide +kernel
theorem dL_law_853 : decode cL_law 853 = .ok ((.aload_n 1), 1) := by decide +kernel
theorem dL_law_854 : decode cL_law 854 = .ok ((.iload 12), 2) := by decide +kernel
theorem dL_law_856 : decode cL_law 856 = .ok ((.aload_n 1), 1) := by decide +kernel
theorem dL_law_857 : decode cL_law 857 = .ok ((.iload 12), 2) := by decide +kernel
theorem dL_law_859 : decode cL_law 859 = .ok ((.iconst 0), 1) := by decide +kernel
theorem dL_law_860 : decode cL_law 860 = .ok ((.invokevirtual 176), 3) := by decide +kernel
theorem dL_law_863 : decode cL_law 863 = .ok ((.invokevirtual 179), 3) := by decide +kernel
theorem dL_law_866 : decode cL_law 866 = .ok ((.iconst 1), 1) := by decide +kernel
theorem dL_law_867 : decode cL_law 867 = .ok ((.if_icmp .lt 43), 3) := by decide +kernel
theorem dL_law_870 : decode cL_law 870 = .ok ((.aload_n 1), 1) := by decide +kernel
theorem dL_law_871 : decode cL_law 871 = .ok ((.iload 12), 2) := by decide +kernel
theorem dL_law_873 : decode cL_law 873 = .ok ((.iconst 0), 1) := by decide +kernel
theorem dL_law_874 : decode cL_law 874 = .ok ((.invokevirtual 179), 3) := by decide +kernel
theorem dL_law_877 : decode cL_law 877 = .ok ((.iconst 1), 1) := by decide +kernel
theorem dL_law_878 : decode cL_law 878 = .ok ((.if_icmp .lt 32), 3) := by decide +kernel
theorem dL_law_881 : decode cL_law 881 = .ok ((.aload_n 1), 1) := by decide +kernel
theorem dL_law_882 : decode cL_law 882 = .ok ((.iload 12), 2) := by decide +kernel
theorem dL_law_884 : decode cL_law 884 = .ok ((.iconst 0), 1) := by decide +kernel
theorem dL_law_885 : decode cL_law 885 = .ok ((.invokevirtual 182), 3) := by decide +kernel
theorem dL_law_888 : decode cL_law 888 = .ok ((.iconst 1), 1) := by decide +kernel
theorem dL_law_889 : decode cL_law 889 = .ok ((.iload 8), 2) := by decide +kernel
theorem dL_law_891 : decode cL_law 891 = .ok (.ishl, 1) := by decide +kernel
theorem dL_law_892 : decode cL_law 892 = .ok ((.iconst 1), 1) := by decide +kernel
theorem dL_law_893 : decode cL_law 893 = .ok (.isub, 1) := by decide +kernel
theorem dL_law_894 : decode cL_law 894 = .ok ((.aload_n 1), 1) := by decide +kernel
theorem dL_law_895 : decode cL_law 895 = .ok ((.iload 12), 2) := by decide +kernel
theorem dL_law_897 : decode cL_law 897 = .ok ((.iconst 4), 1) := by decide +kernel
theorem dL_law_898 : decode cL_law 898 = .ok ((.invokevirtual 124), 3) := by decide +kernel
theorem dL_law_901 : decode cL_law 901 = .ok ((.iconst (-1)), 1) := by decide +kernel
theorem dL_law_902 : decode cL_law 902 = .ok (.ixor, 1) := by decide +kernel
theorem dL_law_903 : decode cL_law 903 = .ok (.iand, 1) := by decide +kernel
theorem dL_law_904 : decode cL_law 904 = .ok ((.iconst (-1)), 1) := by decide +kernel
theorem dL_law_905 : decode cL_law 905 = .ok (.ixor, 1) := by decide +kernel
theorem dL_law_906 : decode cL_law 906 = .ok (.iand, 1) := by decide +kernel
theorem dL_law_907 : decode cL_law 907 = .ok ((.ifCond .eq 5), 3) := by decide +kernel
theorem dL_law_910 : decode cL_law 910 = .ok ((.iconst 0), 1) := by decide +kernel
theorem dL_law_911 : decode cL_law 911 = .ok (.ireturn, 1) := by decide +kernel
theorem dL_law_912 : decode cL_law 912 = .ok ((.aload_n 1), 1) := by decide +kernel
theorem dL_law_913 : decode cL_law 913 = .ok ((.iload 12), 2) := by decide +kernel
theorem dL_law_915 : decode cL_law 915 = .ok ((.invokevirtual 185), 3) := by decide +kernel
theorem dL_law_918 : decode cL_law 918 = .ok ((.istore 18), 2) := by decide +kernel
theorem dL_law_920 : decode cL_law 920 = .ok ((.aload_n 1), 1) := by decide +kernel
theorem dL_law_921 : decode cL_law 921 = .ok ((.iload 12), 2) := by decide +kernel
theorem dL_law_923 : decode cL_law 923 = .ok ((.invokevirtual 188), 3) := by decide +kernel
theorem dL_law_926 : decode cL_law 926 = .ok ((.ifCond .eq 57), 3) := by decide +kernel
theorem dL_law_929 : decode cL_law 929 = .ok ((.iload 18), 2) := by decide +kernel
theorem dL_law_931 : decode cL_law 931 = .ok ((.ifCond .lt 7), 3) := by decide +kernel
theorem dL_law_934 : decode cL_law 934 = .ok ((.iconst 1), 1) := by decide +kernel
theorem dL_law_935 : decode cL_law 935 = .ok ((.goto 4), 3) := by decide +kernel
theorem dL_law_938 : decode cL_law 938 = .ok ((.iconst 0), 1) := by decide +kernel
theorem dL_law_939 : decode cL_law 939 = .ok ((.aload_n 1), 1) := by decide +kernel
theorem dL_law_940 : decode cL_law 940 = .ok ((.invokevirtual 109), 3) := by decide +kernel
theorem dL_law_943 : decode cL_law 943 = .ok ((.lconst 0), 1) := by decide +kernel
theorem dL_law_944 : decode cL_law 944 = .ok (.lcmp, 1) := by decide +kernel
theorem dL_law_945 : decode cL_law 945 = .ok ((.ifCond .le 7), 3) := by decide +kernel
theorem dL_law_948 : decode cL_law 948 = .ok ((.iconst 1), 1) := by decide +kernel
theorem dL_law_949 : decode cL_law 949 = .ok ((.goto 4), 3) := by decide +kernel
theorem dL_law_952 : decode cL_law 952 = .ok ((.iconst 0), 1) := by decide +kernel
theorem dL_law_953 : decode cL_law 953 = .ok ((.if_icmp .ne 30), 3) := by decide +kernel
theorem dL_law_956 : decode cL_law 956 = .ok ((.iload 18), 2) := by decide +kernel
theorem dL_law_958 : decode cL_law 958 = .ok ((.ifCond .lt 27), 3) := by decide +kernel
theorem dL_law_961 : decode cL_law 961 = .ok ((.aload_n 1), 1) := by decide +kernel
theorem dL_law_962 : decode cL_law 962 = .ok ((.iload 18), 2) := by decide +kernel
theorem dL_law_964 : decode cL_law 964 = .ok ((.iconst 0), 1) := by decide +kernel
theorem dL_law_965 : decode cL_law 965 = .ok ((.invokevirtual 145), 3) := by decide +kernel
theorem dL_law_968 : decode cL_law 968 = .ok ((.iload 12), 2) := by decide +kernel
theorem dL_law_970 : decode cL_law 970 = .ok ((.if_icmp .ne 13), 3) := by decide +kernel
theorem dL_law_973 : decode cL_law 973 = .ok ((.iload 11), 2) := by decide +kernel
theorem dL_law_975 : decode cL_law 975 = .ok ((.iload 18), 2) := by decide +kernel
theorem dL_law_977 : decode cL_law 977 = .ok (.ishr, 1) := by decide +kernel
theorem dL_law_978 : decode cL_law 978 = .ok ((.iconst 1), 1) := by decide +kernel
theorem dL_law_979 : decode cL_law 979 = .ok (.iand, 1) := by decide +kernel
theorem dL_law_980 : decode cL_law 980 = .ok ((.ifCond .ne 5), 3) := by decide +kernel
theorem dL_law_983 : decode cL_law 983 = .ok ((.iconst 0), 1) := by decide +kernel
theorem dL_law_984 : decode cL_law 984 = .ok (.ireturn, 1) := by decide +kernel
theorem dL_law_985 : decode cL_law 985 = .ok ((.iinc 12 1), 3) := by decide +kernel
theorem dL_law_988 : decode cL_law 988 = .ok ((.goto (-301)), 3) := by decide +kernel
theorem dL_law_991 : decode cL_law 991 = .ok ((.iconst 1), 1) := by decide +kernel
theorem dL_law_992 : decode cL_law 992 = .ok ((.aload_n 3), 1) := by decide +kernel
theorem dL_law_993 : decode cL_law 993 = .ok ((.iconst 0), 1) := by decide +kernel
theorem dL_law_994 : decode cL_law 994 = .ok (.iaload, 1) := by decide +kernel
theorem dL_law_995 : decode cL_law 995 = .ok (.ishl, 1) := by decide +kernel
theorem dL_law_996 : decode cL_law 996 = .ok ((.iconst 1), 1) := by decide +kernel
theorem dL_law_997 : decode cL_law 997 = .ok (.isub, 1) := by decide +kernel
theorem dL_law_998 : decode cL_law 998 = .ok ((.istore 12), 2) := by decide +kernel
theorem dL_law_1000 : decode cL_law 1000 = .ok ((.iconst 0), 1) := by decide +kernel
theorem dL_law_1001 : decode cL_law 1001 = .ok ((.istore 13), 2) := by decide +kernel
theorem dL_law_1003 : decode cL_law 1003 = .ok ((.iload 13), 2) := by decide +kernel
theorem dL_law_1005 : decode cL_law 1005 = .ok ((.iload 12), 2) := by decide +kernel
theorem dL_law_1007 : decode cL_law 1007 = .ok ((.if_icmp .gt 151), 3) := by decide +kernel
theorem dL_law_1010 : decode cL_law 1010 = .ok ((.aload_n 1), 1) := by decide +kernel
theorem dL_law_1011 : decode cL_law 1011 = .ok ((.iload 13), 2) := by decide +kernel
theorem dL_law_1013 : decode cL_law 1013 = .ok ((.invokevirtual 192), 3) := by decide +kernel
theorem dL_law_1016 : decode cL_law 1016 = .ok ((.istore 14), 2) := by decide +kernel
theorem dL_law_1018 : decode cL_law 1018 = .ok ((.iload 14), 2) := by decide +kernel
theorem dL_law_1020 : decode cL_law 1020 = .ok ((.iload 13), 2) := by decide +kernel
theorem dL_law_1022 : decode cL_law 1022 = .ok ((.iconst (-1)), 1) := by decide +kernel
theorem dL_law_1023 : decode cL_law 1023 = .ok (.ixor, 1) := by decide +kernel
theorem dL_law_1024 : decode cL_law 1024 = .ok (.iand, 1) := by decide +kernel
theorem dL_law_1025 : decode cL_law 1025 = .ok ((.ifCond .ne 37), 3) := by decide +kernel
theorem dL_law_1028 : decode cL_law 1028 = .ok ((.aload_n 1), 1) := by decide +kernel
theorem dL_law_1029 : decode cL_law 1029 = .ok ((.iload 14), 2) := by decide +kernel
theorem dL_law_1031 : decode cL_law 1031 = .ok ((.invokevirtual 192), 3) := by decide +kernel
theorem dL_law_1034 : decode cL_law 1034 = .ok ((.iload 14), 2) := by decide +kernel
theorem dL_law_1036 : decode cL_law 1036 = .ok ((.if_icmp .ne 26), 3) := by decide +kernel
theorem dL_law_1039 : decode cL_law 1039 = .ok ((.iload 14), 2) := by decide +kernel
theorem dL_law_1041 : decode cL_law 1041 = .ok ((.ifCond .ne 7), 3) := by decide +kernel
theorem dL_law_1044 : decode cL_law 1044 = .ok ((.iconst 1), 1) := by decide +kernel
theorem dL_law_1045 : decode cL_law 1045 = .ok ((.goto 4), 3) := by decide +kernel
theorem dL_law_1048 : decode cL_law 1048 = .ok ((.iconst 0), 1) := by decide +kernel
theorem dL_law_1049 : decode cL_law 1049 = .ok ((.iload 13), 2) := by decide +kernel
theorem dL_law_1051 : decode cL_law 1051 = .ok ((.ifCond .ne 7), 3) := by decide +kernel
theorem dL_law_1054 : decode cL_law 1054 = .ok ((.iconst 1), 1) := by decide +kernel
theorem dL_law_1055 : decode cL_law 1055 = .ok ((.goto 4), 3) := by decide +kernel
theorem dL_law_1058 : decode cL_law 1058 = .ok ((.iconst 0), 1) := by decide +kernel
theorem dL_law_1059 : decode cL_law 1059 = .ok ((.if_icmp .eq 5), 3) := by decide +kernel
theorem dL_law_1062 : decode cL_law 1062 = .ok ((.iconst 0), 1) := by decide +kernel
theorem dL_law_1063 : decode cL_law 1063 = .ok (.ireturn, 1) := by decide +kernel
theorem dL_law_1064 : decode cL_law 1064 = .ok ((.iload 14), 2) := by decide +kernel
theorem dL_law_1066 : decode cL_law 1066 = .ok ((.ifCond .ne 6), 3) := by decide +kernel
theorem dL_law_1069 : decode cL_law 1069 = .ok ((.goto 83), 3) := by decide +kernel
theorem dL_law_1072 : decode cL_law 1072 = .ok ((.aload_n 1), 1) := by decide +kernel
theorem dL_law_1073 : decode cL_law 1073 = .ok ((.iload 14), 2) := by decide +kernel
theorem dL_law_1075 : decode cL_law 1075 = .ok ((.invokevirtual 195), 3) := by decide +kernel
theorem dL_law_1078 : decode cL_law 1078 = .ok ((.ifCond .ne 5), 3) := by decide +kernel
theorem dL_law_1081 : decode cL_law 1081 = .ok ((.iconst 0), 1) := by decide +kernel
theorem dL_law_1082 : decode cL_law 1082 = .ok (.ireturn, 1) := by decide +kernel
theorem dL_law_1083 : decode cL_law 1083 = .ok ((.aload_n 1), 1) := by decide +kernel
theorem dL_law_1084 : decode cL_law 1084 = .ok ((.invokevirtual 109), 3) := by decide +kernel
theorem dL_law_1087 : decode cL_law 1087 = .ok ((.lstore 15), 2) := by decide +kernel
theorem dL_law_1089 : decode cL_law 1089 = .ok ((.aload_n 1), 1) := by decide +kernel
theorem dL_law_1090 : decode cL_law 1090 = .ok ((.invokevirtual 105), 3) := by decide +kernel
theorem dL_law_1093 : decode cL_law 1093 = .ok ((.lstore 17), 2) := by decide +kernel
theorem dL_law_1095 : decode cL_law 1095 = .ok ((.iconst 0), 1) := by decide +kernel
theorem dL_law_1096 : decode cL_law 1096 = .ok ((.istore 19), 2) := by decide +kernel
theorem dL_law_1098 : decode cL_law 1098 = .ok ((.iload 19), 2) := by decide +kernel
theorem dL_law_1100 : decode cL_law 1100 = .ok ((.aload_n 3), 1) := by decide +kernel
theorem dL_law_1101 : decode cL_law 1101 = .ok ((.iconst 0), 1) := by decide +kernel
theorem dL_law_1102 : decode cL_law 1102 = .ok (.iaload, 1) := by decide +kernel
theorem dL_law_1103 : decode cL_law 1103 = .ok ((.if_icmp .ge 49), 3) := by decide +kernel
theorem dL_law_1106 : decode cL_law 1106 = .ok ((.iload 14), 2) := by decide +kernel
theorem dL_law_1108 : decode cL_law 1108 = .ok ((.iload 19), 2) := by decide +kernel
theorem dL_law_1110 : decode cL_law 1110 = .ok (.ishr, 1) := by decide +kernel
theorem dL_law_1111 : decode cL_law 1111 = .ok ((.iconst 1), 1) := by decide +kernel
theorem dL_law_1112 : decode cL_law 1112 = .ok (.iand, 1) := by decide +kernel
theorem dL_law_1113 : decode cL_law 1113 = .ok ((.iconst 1), 1) := by decide +kernel
theorem dL_law_1114 : decode cL_law 1114 = .ok ((.if_icmp .ne 32), 3) := by decide +kernel
theorem dL_law_1117 : decode cL_law 1117 = .ok ((.aload_n 1), 1) := by decide +kernel
theorem dL_law_1118 : decode cL_law 1118 = .ok ((.iload 19), 2) := by decide +kernel
theorem dL_law_1120 : decode cL_law 1120 = .ok ((.invokevirtual 188), 3) := by decide +kernel
theorem dL_law_1123 : decode cL_law 1123 = .ok ((.ifCond .eq 21), 3) := by decide +kernel
theorem dL_law_1126 : decode cL_law 1126 = .ok ((.aload_n 1), 1) := by decide +kernel
theorem dL_law_1127 : decode cL_law 1127 = .ok ((.invokevirtual 109), 3) := by decide +kernel
theorem dL_law_1130 : decode cL_law 1130 = .ok ((.lload 17), 2) := by decide +kernel
theorem dL_law_1132 : decode cL_law 1132 = .ok (.lmul, 1) := by decide +kernel
theorem dL_law_1133 : decode cL_law 1133 = .ok ((.lload 15), 2) := by decide +kernel
theorem dL_law_1135 : decode cL_law 1135 = .ok ((.aload_n 1), 1) := by decide +kernel
theorem dL_law_1136 : decode cL_law 1136 = .ok ((.invokevirtual 105), 3) := by decide +kernel
theorem dL_law_1139 : decode cL_law 1139 = .ok (.lmul, 1) := by decide +kernel
theorem dL_law_1140 : decode cL_law 1140 = .ok (.lcmp, 1) := by decide +kernel
theorem dL_law_1141 : decode cL_law 1141 = .ok ((.ifCond .ge 5), 3) := by decide +kernel
theorem dL_law_1144 : decode cL_law 1144 = .ok ((.iconst 0), 1) := by decide +kernel
theorem dL_law_1145 : decode cL_law 1145 = .ok (.ireturn, 1) := by decide +kernel
theorem dL_law_1146 : decode cL_law 1146 = .ok ((.iinc 19 1), 3) := by decide +kernel
theorem dL_law_1149 : decode cL_law 1149 = .ok ((.goto (-51)), 3) := by decide +kernel
theorem dL_law_1152 : decode cL_law 1152 = .ok ((.iinc 13 1), 3) := by decide +kernel
theorem dL_law_1155 : decode cL_law 1155 = .ok ((.goto (-152)), 3) := by decide +kernel
theorem dL_law_1158 : decode cL_law 1158 = .ok ((.aload_n 3), 1) := by decide +kernel
theorem dL_law_1159 : decode cL_law 1159 = .ok ((.iconst 0), 1) := by decide +kernel
theorem dL_law_1160 : decode cL_law 1160 = .ok (.iaload, 1) := by decide +kernel
theorem dL_law_1161 : decode cL_law 1161 = .ok ((.iconst 1), 1) := by decide +kernel
theorem dL_law_1162 : decode cL_law 1162 = .ok ((.if_icmp .le 114), 3) := by decide +kernel
theorem dL_law_1165 : decode cL_law 1165 = .ok ((.aload_n 1), 1) := by decide +kernel
theorem dL_law_1166 : decode cL_law 1166 = .ok ((.iconst 0), 1) := by decide +kernel
theorem dL_law_1167 : decode cL_law 1167 = .ok ((.iconst 1), 1) := by decide +kernel
theorem dL_law_1168 : decode cL_law 1168 = .ok ((.iconst 1), 1) := by decide +kernel
theorem dL_law_1169 : decode cL_law 1169 = .ok ((.invokevirtual 198), 3) := by decide +kernel
theorem dL_law_1172 : decode cL_law 1172 = .ok ((.ifCond .ne 5), 3) := by decide +kernel
theorem dL_law_1175 : decode cL_law 1175 = .ok ((.iconst 0), 1) := by decide +kernel
theorem dL_law_1176 : decode cL_law 1176 = .ok (.ireturn, 1) := by decide +kernel
theorem dL_law_1177 : decode cL_law 1177 = .ok ((.aload_n 1), 1) := by decide +kernel
theorem dL_law_1178 : decode cL_law 1178 = .ok ((.invokevirtual 109), 3) := by decide +kernel
theorem dL_law_1181 : decode cL_law 1181 = .ok ((.lstore 13), 2) := by decide +kernel
theorem dL_law_1183 : decode cL_law 1183 = .ok ((.aload_n 1), 1) := by decide +kernel
theorem dL_law_1184 : decode cL_law 1184 = .ok ((.invokevirtual 105), 3) := by decide +kernel
theorem dL_law_1187 : decode cL_law 1187 = .ok ((.lstore 15), 2) := by decide +kernel
theorem dL_law_1189 : decode cL_law 1189 = .ok ((.aload_n 1), 1) := by decide +kernel
theorem dL_law_1190 : decode cL_law 1190 = .ok ((.iconst 0), 1) := by decide +kernel
theorem dL_law_1191 : decode cL_law 1191 = .ok ((.iconst 1), 1) := by decide +kernel
theorem dL_law_1192 : decode cL_law 1192 = .ok ((.iconst 1), 1) := by decide +kernel
theorem dL_law_1193 : decode cL_law 1193 = .ok ((.invokevirtual 202), 3) := by decide +kernel
theorem dL_law_1196 : decode cL_law 1196 = .ok ((.istore 17), 2) := by decide +kernel
theorem dL_law_1198 : decode cL_law 1198 = .ok ((.lload 13), 2) := by decide +kernel
theorem dL_law_1200 : decode cL_law 1200 = .ok ((.lconst 0), 1) := by decide +kernel
theorem dL_law_1201 : decode cL_law 1201 = .ok (.lcmp, 1) := by decide +kernel
theorem dL_law_1202 : decode cL_law 1202 = .ok ((.ifCond .lt 42), 3) := by decide +kernel
theorem dL_law_1205 : decode cL_law 1205 = .ok ((.lload 13), 2) := by decide +kernel
theorem dL_law_1207 : decode cL_law 1207 = .ok ((.lconst 0), 1) := by decide +kernel
theorem dL_law_1208 : decode cL_law 1208 = .ok (.lcmp, 1) := by decide +kernel
theorem dL_law_1209 : decode cL_law 1209 = .ok ((.ifCond .le 8), 3) := by decide +kernel
theorem dL_law_1212 : decode cL_law 1212 = .ok ((.iload 17), 2) := by decide +kernel
theorem dL_law_1214 : decode cL_law 1214 = .ok ((.ifCond .lt 30), 3) := by decide +kernel
theorem dL_law_1217 : decode cL_law 1217 = .ok ((.iload 17), 2) := by decide +kernel
theorem dL_law_1219 : decode cL_law 1219 = .ok ((.ifCond .lt 27), 3) := by decide +kernel
theorem dL_law_1222 : decode cL_law 1222 = .ok ((.aload_n 1), 1) := by decide +kernel
theorem dL_law_1223 : decode cL_law 1223 = .ok ((.iload 17), 2) := by decide +kernel
theorem dL_law_1225 : decode cL_law 1225 = .ok ((.iconst 0), 1) := by decide +kernel
theorem dL_law_1226 : decode cL_law 1226 = .ok ((.invokevirtual 145), 3) := by decide +kernel
theorem dL_law_1229 : decode cL_law 1229 = .ok ((.iconst 1), 1) := by decide +kernel
theorem dL_law_1230 : decode cL_law 1230 = .ok ((.if_icmp .ne 14), 3) := by decide +kernel
theorem dL_law_1233 : decode cL_law 1233 = .ok ((.aload_n 1), 1) := by decide +kernel
theorem dL_law_1234 : decode cL_law 1234 = .ok ((.iconst 0), 1) := by decide +kernel
theorem dL_law_1235 : decode cL_law 1235 = .ok ((.iload 17), 2) := by decide +kernel
theorem dL_law_1237 : decode cL_law 1237 = .ok ((.invokevirtual 150), 3) := by decide +kernel
theorem dL_law_1240 : decode cL_law 1240 = .ok ((.iconst 1), 1) := by decide +kernel
theorem dL_law_1241 : decode cL_law 1241 = .ok ((.if_icmp .eq 5), 3) := by decide +kernel
theorem dL_law_1244 : decode cL_law 1244 = .ok ((.iconst 0), 1) := by decide +kernel
theorem dL_law_1245 : decode cL_law 1245 = .ok (.ireturn, 1) := by decide +kernel
theorem dL_law_1246 : decode cL_law 1246 = .ok ((.aload_n 1), 1) := by decide +kernel
theorem dL_law_1247 : decode cL_law 1247 = .ok ((.iconst 0), 1) := by decide +kernel
theorem dL_law_1248 : decode cL_law 1248 = .ok ((.iconst 1), 1) := by decide +kernel
theorem dL_law_1249 : decode cL_law 1249 = .ok ((.iconst 2), 1) := by decide +kernel
theorem dL_law_1250 : decode cL_law 1250 = .ok ((.invokevirtual 198), 3) := by decide +kernel
theorem dL_law_1253 : decode cL_law 1253 = .ok ((.ifCond .eq 21), 3) := by decide +kernel
theorem dL_law_1256 : decode cL_law 1256 = .ok ((.aload_n 1), 1) := by decide +kernel
theorem dL_law_1257 : decode cL_law 1257 = .ok ((.invokevirtual 109), 3) := by decide +kernel
theorem dL_law_1260 : decode cL_law 1260 = .ok ((.lload 15), 2) := by decide +kernel
theorem dL_law_1262 : decode cL_law 1262 = .ok (.lmul, 1) := by decide +kernel
theorem dL_law_1263 : decode cL_law 1263 = .ok ((.lload 13), 2) := by decide +kernel
theorem dL_law_1265 : decode cL_law 1265 = .ok ((.aload_n 1), 1) := by decide +kernel
theorem dL_law_1266 : decode cL_law 1266 = .ok ((.invokevirtual 105), 3) := by decide +kernel
theorem dL_law_1269 : decode cL_law 1269 = .ok (.lmul, 1) := by decide +kernel
theorem dL_law_1270 : decode cL_law 1270 = .ok (.lcmp, 1) := by decide +kernel
theorem dL_law_1271 : decode cL_law 1271 = .ok ((.ifCond .le 5), 3) := by decide +kernel
theorem dL_law_1274 : decode cL_law 1274 = .ok ((.iconst 0), 1) := by decide +kernel
theorem dL_law_1275 : decode cL_law 1275 = .ok (.ireturn, 1) := by decide +kernel
theorem dL_law_1276 : decode cL_law 1276 = .ok ((.iload 8), 2) := by decide +kernel
theorem dL_law_1278 : decode cL_law 1278 = .ok ((.ifCond .ne 6), 3) := by decide +kernel
theorem dL_law_1281 : decode cL_law 1281 = .ok ((.goto 277), 3) := by decide +kernel
theorem dL_law_1284 : decode cL_law 1284 = .ok ((.iload 7), 2) := by decide +kernel
theorem dL_law_1286 : decode cL_law 1286 = .ok ((.iconst 3), 1) := by decide +kernel
theorem dL_law_1287 : decode cL_law 1287 = .ok (.iand, 1) := by decide +kernel
theorem dL_law_1288 : decode cL_law 1288 = .ok ((.aload_n 3), 1) := by decide +kernel
theorem dL_law_1289 : decode cL_law 1289 = .ok ((.iconst 0), 1) := by decide +kernel
theorem dL_law_1290 : decode cL_law 1290 = .ok (.iaload, 1) := by decide +kernel
theorem dL_law_1291 : decode cL_law 1291 = .ok (.irem, 1) := by decide +kernel
theorem dL_law_1292 : decode cL_law 1292 = .ok ((.istore 13), 2) := by decide +kernel
theorem dL_law_1294 : decode cL_law 1294 = .ok ((.iload 7), 2) := by decide +kernel
theorem dL_law_1296 : decode cL_law 1296 = .ok ((.iconst 2), 1) := by decide +kernel
theorem dL_law_1297 : decode cL_law 1297 = .ok (.ishr, 1) := by decide +kernel
theorem dL_law_1298 : decode cL_law 1298 = .ok ((.bipush 15), 2) := by decide +kernel
theorem dL_law_1300 : decode cL_law 1300 = .ok (.iand, 1) := by decide +kernel
theorem dL_law_1301 : decode cL_law 1301 = .ok ((.iload 8), 2) := by decide +kernel
theorem dL_law_1303 : decode cL_law 1303 = .ok (.irem, 1) := by decide +kernel
theorem dL_law_1304 : decode cL_law 1304 = .ok ((.istore 14), 2) := by decide +kernel
theorem dL_law_1306 : decode cL_law 1306 = .ok ((.aload_n 1), 1) := by decide +kernel
theorem dL_law_1307 : decode cL_law 1307 = .ok ((.invokevirtual 205), 3) := by decide +kernel
theorem dL_law_1310 : decode cL_law 1310 = .ok ((.iconst 1), 1) := by decide +kernel
theorem dL_law_1311 : decode cL_law 1311 = .ok ((.if_icmp .eq 5), 3) := by decide +kernel
theorem dL_law_1314 : decode cL_law 1314 = .ok ((.iconst 0), 1) := by decide +kernel
theorem dL_law_1315 : decode cL_law 1315 = .ok (.ireturn, 1) := by decide +kernel
theorem dL_law_1316 : decode cL_law 1316 = .ok ((.aload_n 1), 1) := by decide +kernel
theorem dL_law_1317 : decode cL_law 1317 = .ok ((.iload 13), 2) := by decide +kernel
theorem dL_law_1319 : decode cL_law 1319 = .ok ((.iload 14), 2) := by decide +kernel
theorem dL_law_1321 : decode cL_law 1321 = .ok ((.iload 7), 2) := by decide +kernel
theorem dL_law_1323 : decode cL_law 1323 = .ok ((.iconst 1), 1) := by decide +kernel
theorem dL_law_1324 : decode cL_law 1324 = .ok (.ishr, 1) := by decide +kernel
theorem dL_law_1325 : decode cL_law 1325 = .ok ((.sipush 4095), 3) := by decide +kernel
theorem dL_law_1328 : decode cL_law 1328 = .ok (.iand, 1) := by decide +kernel
theorem dL_law_1329 : decode cL_law 1329 = .ok ((.invokevirtual 208), 3) := by decide +kernel
theorem dL_law_1332 : decode cL_law 1332 = .ok ((.istore 15), 2) := by decide +kernel
theorem dL_law_1334 : decode cL_law 1334 = .ok ((.iload 15), 2) := by decide +kernel
theorem dL_law_1336 : decode cL_law 1336 = .ok ((.ifCond .lt 7), 3) := by decide +kernel
theorem dL_law_1339 : decode cL_law 1339 = .ok ((.iconst 1), 1) := by decide +kernel
theorem dL_law_1340 : decode cL_law 1340 = .ok ((.goto 4), 3) := by decide +kernel
theorem dL_law_1343 : decode cL_law 1343 = .ok ((.iconst 0), 1) := by decide +kernel
theorem dL_law_1344 : decode cL_law 1344 = .ok ((.iload 9), 2) := by decide +kernel
theorem dL_law_1346 : decode cL_law 1346 = .ok ((.iload 14), 2) := by decide +kernel
theorem dL_law_1348 : decode cL_law 1348 = .ok (.ishr, 1) := by decide +kernel
theorem dL_law_1349 : decode cL_law 1349 = .ok ((.iconst 1), 1) := by decide +kernel
theorem dL_law_1350 : decode cL_law 1350 = .ok (.iand, 1) := by decide +kernel
theorem dL_law_1351 : decode cL_law 1351 = .ok ((.iconst 1), 1) := by decide +kernel
theorem dL_law_1352 : decode cL_law 1352 = .ok ((.if_icmp .ne 31), 3) := by decide +kernel
theorem dL_law_1355 : decode cL_law 1355 = .ok ((.aload_n 1), 1) := by decide +kernel
theorem dL_law_1356 : decode cL_law 1356 = .ok ((.iload 14), 2) := by decide +kernel
theorem dL_law_1358 : decode cL_law 1358 = .ok ((.iconst 5), 1) := by decide +kernel
theorem dL_law_1359 : decode cL_law 1359 = .ok ((.invokevirtual 145), 3) := by decide +kernel
theorem dL_law_1362 : decode cL_law 1362 = .ok ((.iload 15), 2) := by decide +kernel
theorem dL_law_1364 : decode cL_law 1364 = .ok ((.if_icmp .ne 19), 3) := by decide +kernel
theorem dL_law_1367 : decode cL_law 1367 = .ok ((.aload_n 1), 1) := by decide +kernel
theorem dL_law_1368 : decode cL_law 1368 = .ok ((.iload 14), 2) := by decide +kernel
theorem dL_law_1370 : decode cL_law 1370 = .ok ((.iconst 4), 1) := by decide +kernel
theorem dL_law_1371 : decode cL_law 1371 = .ok ((.invokevirtual 145), 3) := by decide +kernel
theorem dL_law_1374 : decode cL_law 1374 = .ok ((.iload 13), 2) := by decide +kernel
theorem dL_law_1376 : decode cL_law 1376 = .ok ((.if_icmp .ne 7), 3) := by decide +kernel
theorem dL_law_1379 : decode cL_law 1379 = .ok ((.iconst 1), 1) := by decide +kernel
theorem dL_law_1380 : decode cL_law 1380 = .ok ((.goto 4), 3) := by decide +kernel
theorem dL_law_1383 : decode cL_law 1383 = .ok ((.iconst 0), 1) := by decide +kernel
theorem dL_law_1384 : decode cL_law 1384 = .ok ((.if_icmp .eq 5), 3) := by decide +kernel
theorem dL_law_1387 : decode cL_law 1387 = .ok ((.iconst 0), 1) := by decide +kernel
theorem dL_law_1388 : decode cL_law 1388 = .ok (.ireturn, 1) := by decide +kernel
theorem dL_law_1389 : decode cL_law 1389 = .ok ((.iload 15), 2) := by decide +kernel
theorem dL_law_1391 : decode cL_law 1391 = .ok ((.ifCond .lt 39), 3) := by decide +kernel
theorem dL_law_1394 : decode cL_law 1394 = .ok ((.aload_n 1), 1) := by decide +kernel
theorem dL_law_1395 : decode cL_law 1395 = .ok ((.iload 14), 2) := by decide +kernel
theorem dL_law_1397 : decode cL_law 1397 = .ok ((.iconst 3), 1) := by decide +kernel
theorem dL_law_1398 : decode cL_law 1398 = .ok ((.invokevirtual 145), 3) := by decide +kernel
theorem dL_law_1401 : decode cL_law 1401 = .ok ((.iconst 1), 1) := by decide +kernel
theorem dL_law_1402 : decode cL_law 1402 = .ok ((.if_icmp .ne 7), 3) := by decide +kernel
theorem dL_law_1405 : decode cL_law 1405 = .ok ((.iconst 1), 1) := by decide +kernel
theorem dL_law_1406 : decode cL_law 1406 = .ok ((.goto 4), 3) := by decide +kernel
theorem dL_law_1409 : decode cL_law 1409 = .ok ((.iconst 0), 1) := by decide +kernel
theorem dL_law_1410 : decode cL_law 1410 = .ok ((.iconst 2), 1) := by decide +kernel
theorem dL_law_1411 : decode cL_law 1411 = .ok ((.iload 15), 2) := by decide +kernel
theorem dL_law_1413 : decode cL_law 1413 = .ok (.imul, 1) := by decide +kernel
theorem dL_law_1414 : decode cL_law 1414 = .ok ((.aload_n 1), 1) := by decide +kernel
theorem dL_law_1415 : decode cL_law 1415 = .ok ((.iconst 2), 1) := by decide +kernel
theorem dL_law_1416 : decode cL_law 1416 = .ok ((.invokevirtual 121), 3) := by decide +kernel
theorem dL_law_1419 : decode cL_law 1419 = .ok ((.if_icmp .le 7), 3) := by decide +kernel
theorem dL_law_1422 : decode cL_law 1422 = .ok ((.iconst 1), 1) := by decide +kernel
theorem dL_law_1423 : decode cL_law 1423 = .ok ((.goto 4), 3) := by decide +kernel
theorem dL_law_1426 : decode cL_law 1426 = .ok ((.iconst 0), 1) := by decide +kernel
theorem dL_law_1427 : decode cL_law 1427 = .ok ((.if_icmp .ne 10), 3) := by decide +kernel
theorem dL_law_1430 : decode cL_law 1430 = .ok ((.aload_n 1), 1) := by decide +kernel
theorem dL_law_1431 : decode cL_law 1431 = .ok ((.invokevirtual 211), 3) := by decide +kernel
theorem dL_law_1434 : decode cL_law 1434 = .ok ((.ifCond .eq 5), 3) := by decide +kernel
theorem dL_law_1437 : decode cL_law 1437 = .ok ((.iconst 0), 1) := by decide +kernel
theorem dL_law_1438 : decode cL_law 1438 = .ok (.ireturn, 1) := by decide +kernel
theorem dL_law_1439 : decode cL_law 1439 = .ok ((.iload 7), 2) := by decide +kernel
theorem dL_law_1441 : decode cL_law 1441 = .ok ((.bipush 6), 2) := by decide +kernel
theorem dL_law_1443 : decode cL_law 1443 = .ok (.ishr, 1) := by decide +kernel
theorem dL_law_1444 : decode cL_law 1444 = .ok ((.iconst 1), 1) := by decide +kernel
theorem dL_law_1445 : decode cL_law 1445 = .ok (.iand, 1) := by decide +kernel
theorem dL_law_1446 : decode cL_law 1446 = .ok ((.ifCond .ne 30), 3) := by decide +kernel
theorem dL_law_1449 : decode cL_law 1449 = .ok ((.aload_n 1), 1) := by decide +kernel
theorem dL_law_1450 : decode cL_law 1450 = .ok ((.iload 13), 2) := by decide +kernel
theorem dL_law_1452 : decode cL_law 1452 = .ok ((.iload 14), 2) := by decide +kernel
theorem dL_law_1454 : decode cL_law 1454 = .ok ((.iload 7), 2) := by decide +kernel
theorem dL_law_1456 : decode cL_law 1456 = .ok ((.iconst 4), 1) := by decide +kernel
theorem dL_law_1457 : decode cL_law 1457 = .ok (.ishr, 1) := by decide +kernel
theorem dL_law_1458 : decode cL_law 1458 = .ok ((.bipush 7), 2) := by decide +kernel
theorem dL_law_1460 : decode cL_law 1460 = .ok (.iand, 1) := by decide +kernel
theorem dL_law_1461 : decode cL_law 1461 = .ok ((.aload_n 1), 1) := by decide +kernel
theorem dL_law_1462 : decode cL_law 1462 = .ok ((.iconst 2), 1) := by decide +kernel
theorem dL_law_1463 : decode cL_law 1463 = .ok ((.invokevirtual 121), 3) := by decide +kernel
theorem dL_law_1466 : decode cL_law 1466 = .ok ((.iconst 1), 1) := by decide +kernel
theorem dL_law_1467 : decode cL_law 1467 = .ok (.iadd, 1) := by decide +kernel
theorem dL_law_1468 : decode cL_law 1468 = .ok (.irem, 1) := by decide +kernel
theorem dL_law_1469 : decode cL_law 1469 = .ok ((.invokevirtual 214), 3) := by decide +kernel
theorem dL_law_1472 : decode cL_law 1472 = .ok (.pop, 1) := by decide +kernel
theorem dL_law_1473 : decode cL_law 1473 = .ok ((.goto 19), 3) := by decide +kernel
theorem dL_law_1476 : decode cL_law 1476 = .ok ((.aload_n 1), 1) := by decide +kernel
theorem dL_law_1477 : decode cL_law 1477 = .ok ((.iload 13), 2) := by decide +kernel
theorem dL_law_1479 : decode cL_law 1479 = .ok ((.iload 14), 2) := by decide +kernel
theorem dL_law_1481 : decode cL_law 1481 = .ok ((.iload 7), 2) := by decide +kernel
theorem dL_law_1483 : decode cL_law 1483 = .ok ((.iconst 5), 1) := by decide +kernel
theorem dL_law_1484 : decode cL_law 1484 = .ok (.ishr, 1) := by decide +kernel
theorem dL_law_1485 : decode cL_law 1485 = .ok ((.bipush 31), 2) := by decide +kernel
theorem dL_law_1487 : decode cL_law 1487 = .ok (.iand, 1) := by decide +kernel
theorem dL_law_1488 : decode cL_law 1488 = .ok ((.invokevirtual 217), 3) := by decide +kernel
theorem dL_law_1491 : decode cL_law 1491 = .ok (.pop, 1) := by decide +kernel
theorem dL_law_1492 : decode cL_law 1492 = .ok ((.iload 7), 2) := by decide +kernel
theorem dL_law_1494 : decode cL_law 1494 = .ok ((.bipush 7), 2) := by decide +kernel
theorem dL_law_1496 : decode cL_law 1496 = .ok (.ishr, 1) := by decide +kernel
theorem dL_law_1497 : decode cL_law 1497 = .ok ((.iconst 1), 1) := by decide +kernel
theorem dL_law_1498 : decode cL_law 1498 = .ok (.iand, 1) := by decide +kernel
theorem dL_law_1499 : decode cL_law 1499 = .ok ((.ifCond .ne 18), 3) := by decide +kernel
theorem dL_law_1502 : decode cL_law 1502 = .ok ((.aload_n 1), 1) := by decide +kernel
theorem dL_law_1503 : decode cL_law 1503 = .ok ((.iload 7), 2) := by decide +kernel
theorem dL_law_1505 : decode cL_law 1505 = .ok ((.iconst 3), 1) := by decide +kernel
theorem dL_law_1506 : decode cL_law 1506 = .ok (.ishr, 1) := by decide +kernel
theorem dL_law_1507 : decode cL_law 1507 = .ok ((.bipush 7), 2) := by decide +kernel
theorem dL_law_1509 : decode cL_law 1509 = .ok (.iand, 1) := by decide +kernel
theorem dL_law_1510 : decode cL_law 1510 = .ok ((.iload 8), 2) := by decide +kernel
theorem dL_law_1512 : decode cL_law 1512 = .ok (.irem, 1) := by decide +kernel
theorem dL_law_1513 : decode cL_law 1513 = .ok ((.invokevirtual 220), 3) := by decide +kernel
theorem dL_law_1516 : decode cL_law 1516 = .ok (.pop, 1) := by decide +kernel
theorem dL_law_1517 : decode cL_law 1517 = .ok ((.iload 7), 2) := by decide +kernel
theorem dL_law_1519 : decode cL_law 1519 = .ok ((.iconst 5), 1) := by decide +kernel
theorem dL_law_1520 : decode cL_law 1520 = .ok (.ishr, 1) := by decide +kernel
theorem dL_law_1521 : decode cL_law 1521 = .ok ((.iconst 3), 1) := by decide +kernel
theorem dL_law_1522 : decode cL_law 1522 = .ok (.iand, 1) := by decide +kernel
theorem dL_law_1523 : decode cL_law 1523 = .ok ((.iconst 1), 1) := by decide +kernel
theorem dL_law_1524 : decode cL_law 1524 = .ok ((.if_icmp .ne 34), 3) := by decide +kernel
theorem dL_law_1527 : decode cL_law 1527 = .ok ((.iload 8), 2) := by decide +kernel
theorem dL_law_1529 : decode cL_law 1529 = .ok ((.bipush 8), 2) := by decide +kernel
theorem dL_law_1531 : decode cL_law 1531 = .ok ((.if_icmp .ge 27), 3) := by decide +kernel
theorem dL_law_1534 : decode cL_law 1534 = .ok ((.aload_n 1), 1) := by decide +kernel
theorem dL_law_1535 : decode cL_law 1535 = .ok ((.iload 13), 2) := by decide +kernel
theorem dL_law_1537 : decode cL_law 1537 = .ok ((.iconst 1), 1) := by decide +kernel
theorem dL_law_1538 : decode cL_law 1538 = .ok ((.iload 7), 2) := by decide +kernel
theorem dL_law_1540 : decode cL_law 1540 = .ok ((.bipush 63), 2) := by decide +kernel
theorem dL_law_1542 : decode cL_law 1542 = .ok (.iand, 1) := by decide +kernel
theorem dL_law_1543 : decode cL_law 1543 = .ok (.iadd, 1) := by decide +kernel
theorem dL_law_1544 : decode cL_law 1544 = .ok ((.iload 7), 2) := by decide +kernel
theorem dL_law_1546 : decode cL_law 1546 = .ok ((.iconst 2), 1) := by decide +kernel
theorem dL_law_1547 : decode cL_law 1547 = .ok (.ishr, 1) := by decide +kernel
theorem dL_law_1548 : decode cL_law 1548 = .ok ((.bipush 31), 2) := by decide +kernel
theorem dL_law_1550 : decode cL_law 1550 = .ok (.iand, 1) := by decide +kernel
theorem dL_law_1551 : decode cL_law 1551 = .ok ((.bipush 17), 2) := by decide +kernel
theorem dL_law_1553 : decode cL_law 1553 = .ok (.irem, 1) := by decide +kernel
theorem dL_law_1554 : decode cL_law 1554 = .ok ((.invokevirtual 223), 3) := by decide +kernel
theorem dL_law_1557 : decode cL_law 1557 = .ok (.pop, 1) := by decide +kernel
theorem dL_law_1558 : decode cL_law 1558 = .ok ((.iinc 6 1), 3) := by decide +kernel
theorem dL_law_1561 : decode cL_law 1561 = .ok ((.goto (-1470)), 3) := by decide +kernel
theorem dL_law_1564 : decode cL_law 1564 = .ok ((.iconst 1), 1) := by decide +kernel
theorem dL_law_1565 : decode cL_law 1565 = .ok (.ireturn, 1) := by decide +kernel
theorem k_RL_105 : Cond.methodLink RL 105 yX10_bottom ∈ wsL_law := v_r32 _ (List.mem_of_getElem? (i := 21) rfl)
theorem k_RL_109 : Cond.methodLink RL 109 yX10_top ∈ wsL_law := v_r32 _ (List.mem_of_getElem? (i := 17) rfl)
theorem k_RL_113 : Cond.methodLink RL 113 yL_draw ∈ wsL_law := v_r8 _ (List.mem_of_getElem? (i := 8) rfl)
theorem k_RL_117 : Cond.methodLink RL 117 yL_lay ∈ wsL_law := v_r8 _ (List.mem_of_getElem? (i := 12) rfl)
theorem k_RL_121 : Cond.methodLink RL 121 yX10_many ∈ wsL_law := v_r22 _ (List.mem_of_getElem? (i := 22) rfl)
theorem k_RL_124 : Cond.methodLink RL 124 yX10_person ∈ wsL_law := v_r23 _ (List.mem_of_getElem? (i := 22) rfl)
theorem k_RL_127 : Cond.methodLink RL 127 yX10_quiet ∈ wsL_law := v_r24 _ (List.mem_of_getElem? (i := 18) rfl)
theorem k_RL_130 : Cond.methodLink RL 130 yX10_gladBy ∈ wsL_law := v_r27 _ (List.mem_of_getElem? (i := 21) rfl)
theorem k_RL_133 : Cond.methodLink RL 133 yX10_accuser ∈ wsL_law := v_r28 _ (List.mem_of_getElem? (i := 1) rfl)
theorem k_RL_136 : Cond.methodLink RL 136 yX10_leastShare ∈ wsL_law := v_r29 _ (List.mem_of_getElem? (i := 4) rfl)
theorem k_RL_139 : Cond.methodLink RL 139 yX10_mostPenalty ∈ wsL_law := v_r29 _ (List.mem_of_getElem? (i := 12) rfl)
theorem k_RL_142 : Cond.methodLink RL 142 yX10_leastFine ∈ wsL_law := v_r29 _ (List.mem_of_getElem? (i := 20) rfl)
theorem k_RL_145 : Cond.methodLink RL 145 yX10_deed ∈ wsL_law := v_r30 _ (List.mem_of_getElem? (i := 4) rfl)
theorem k_RL_147 : Cond.methodLink RL 147 yX10_friend ∈ wsL_law := v_r30 _ (List.mem_of_getElem? (i := 13) rfl)
theorem k_RL_150 : Cond.methodLink RL 150 yX10_can ∈ wsL_law := v_r31 _ (List.mem_of_getElem? (i := 1) rfl)
theorem k_RL_153 : Cond.methodLink RL 153 yX10_wins ∈ wsL_law := v_r31 _ (List.mem_of_getElem? (i := 10) rfl)
theorem k_RL_157 : Cond.methodLink RL 157 yX10_owes ∈ wsL_law := v_r33 _ (List.mem_of_getElem? (i := 1) rfl)
theorem k_RL_160 : Cond.methodLink RL 160 yX10_gain ∈ wsL_law := v_r33 _ (List.mem_of_getElem? (i := 6) rfl)
theorem k_RL_163 : Cond.methodLink RL 163 yX10_loss ∈ wsL_law := v_r33 _ (List.mem_of_getElem? (i := 16) rfl)
theorem k_RL_166 : Cond.methodLink RL 166 yX10_trade ∈ wsL_law := v_r33 _ (List.mem_of_getElem? (i := 21) rfl)
theorem k_RL_170 : Cond.methodLink RL 170 yX10_best ∈ wsL_law := v_r34 _ (List.mem_of_getElem? (i := 10) rfl)
theorem k_RL_173 : Cond.methodLink RL 173 yX10_plan ∈ wsL_law := v_r34 _ (List.mem_of_getElem? (i := 18) rfl)
theorem k_RL_176 : Cond.methodLink RL 176 yX10_bound ∈ wsL_law := v_r35 _ (List.mem_of_getElem? (i := 6) rfl)
theorem k_RL_179 : Cond.methodLink RL 179 yX10_gained ∈ wsL_law := v_r36 _ (List.mem_of_getElem? (i := 8) rfl)
theorem k_RL_182 : Cond.methodLink RL 182 yX10_sure ∈ wsL_law := v_r37 _ (List.mem_of_getElem? (i := 13) rfl)
theorem k_RL_185 : Cond.methodLink RL 185 yX10_dreaded ∈ wsL_law := v_r37 _ (List.mem_of_getElem? (i := 18) rfl)
theorem k_RL_188 : Cond.methodLink RL 188 yX10_dread ∈ wsL_law := v_r38 _ (List.mem_of_getElem? (i := 7) rfl)
theorem k_RL_192 : Cond.methodLink RL 192 yX10_club ∈ wsL_law := v_r38 _ (List.mem_of_getElem? (i := 15) rfl)
theorem k_RL_195 : Cond.methodLink RL 195 yX10_clubPart ∈ wsL_law := v_r39 _ (List.mem_of_getElem? (i := 18) rfl)
theorem k_RL_198 : Cond.methodLink RL 198 yX10_game ∈ wsL_law := v_r40 _ (List.mem_of_getElem? (i := 0) rfl)
theorem k_RL_202 : Cond.methodLink RL 202 yX10_moveOf ∈ wsL_law := v_r41 _ (List.mem_of_getElem? (i := 5) rfl)
theorem k_RL_205 : Cond.methodLink RL 205 yX10_mark ∈ wsL_law := v_r41 _ (List.mem_of_getElem? (i := 14) rfl)
theorem k_RL_208 : Cond.methodLink RL 208 yX10_hear ∈ wsL_law := v_r41 _ (List.mem_of_getElem? (i := 19) rfl)
theorem k_RL_211 : Cond.methodLink RL 211 yX10_back ∈ wsL_law := v_r43 _ (List.mem_of_getElem? (i := 8) rfl)
theorem k_RL_214 : Cond.methodLink RL 214 yX10_charge ∈ wsL_law := v_r43 _ (List.mem_of_getElem? (i := 12) rfl)
theorem k_RL_217 : Cond.methodLink RL 217 yX10_drop ∈ wsL_law := v_r43 _ (List.mem_of_getElem? (i := 18) rfl)
theorem k_RL_220 : Cond.methodLink RL 220 yX10_reopen ∈ wsL_law := v_r44 _ (List.mem_of_getElem? (i := 7) rfl)
theorem k_RL_223 : Cond.methodLink RL 223 yX10_commit ∈ wsL_law := v_r44 _ (List.mem_of_getElem? (i := 15) rfl)
theorem KV_L_draw : v_KS yL_draw cL_draw 5 none 2 := ⟨v_r8 _ (List.mem_of_getElem? (i := 9) rfl), v_r8 _ (List.mem_of_getElem? (i := 10) rfl), v_r8 _ (List.mem_of_getElem? (i := 11) rfl), by decide +kernel⟩
theorem KV_L_lay : v_KS yL_lay cL_lay 4 (some .boolean) 3 := ⟨v_r8 _ (List.mem_of_getElem? (i := 13) rfl), v_r8 _ (List.mem_of_getElem? (i := 10) rfl), v_r8 _ (List.mem_of_getElem? (i := 14) rfl), by decide +kernel⟩
theorem KV_X10_accuser : v_KV RX10 yX10_accuser cX10_accuser 2 (some .int) 1 := ⟨v_r28 _ (List.mem_of_getElem? (i := 2) rfl), v_r28 _ (List.mem_of_getElem? (i := 3) rfl), v_r1 _ (List.mem_of_getElem? (i := 2) rfl), v_r28 _ (List.mem_of_getElem? (i := 4) rfl), by decide +kernel⟩
theorem KV_X10_back : v_KV RX10 yX10_back cX10_back 3 (some .int) 0 := ⟨v_r43 _ (List.mem_of_getElem? (i := 9) rfl), v_r43 _ (List.mem_of_getElem? (i := 10) rfl), v_r1 _ (List.mem_of_getElem? (i := 2) rfl), v_r43 _ (List.mem_of_getElem? (i := 11) rfl), by decide +kernel⟩
theorem KV_X10_best : v_KV RX10 yX10_best cX10_best 2 (some .int) 1 := ⟨v_r34 _ (List.mem_of_getElem? (i := 11) rfl), v_r34 _ (List.mem_of_getElem? (i := 12) rfl), v_r1 _ (List.mem_of_getElem? (i := 2) rfl), v_r34 _ (List.mem_of_getElem? (i := 13) rfl), by decide +kernel⟩
theorem KV_X10_bottom : v_KV RX10 yX10_bottom cX10_bottom 1 (some .long) 0 := ⟨v_r32 _ (List.mem_of_getElem? (i := 22) rfl), v_r32 _ (List.mem_of_getElem? (i := 23) rfl), v_r1 _ (List.mem_of_getElem? (i := 2) rfl), v_r33 _ (List.mem_of_getElem? (i := 0) rfl), by decide +kernel⟩
theorem KV_X10_bound : v_KV RX10 yX10_bound cX10_bound 3 (some .int) 2 := ⟨v_r35 _ (List.mem_of_getElem? (i := 7) rfl), v_r35 _ (List.mem_of_getElem? (i := 8) rfl), v_r1 _ (List.mem_of_getElem? (i := 2) rfl), v_r35 _ (List.mem_of_getElem? (i := 9) rfl), by decide +kernel⟩
theorem KV_X10_can : v_KV RX10 yX10_can cX10_can 3 (some .int) 2 := ⟨v_r31 _ (List.mem_of_getElem? (i := 2) rfl), v_r31 _ (List.mem_of_getElem? (i := 3) rfl), v_r1 _ (List.mem_of_getElem? (i := 2) rfl), v_r31 _ (List.mem_of_getElem? (i := 4) rfl), by decide +kernel⟩
theorem KV_X10_charge : v_KV RX10 yX10_charge cX10_charge 4 (some .int) 3 := ⟨v_r43 _ (List.mem_of_getElem? (i := 13) rfl), v_r43 _ (List.mem_of_getElem? (i := 14) rfl), v_r1 _ (List.mem_of_getElem? (i := 2) rfl), v_r43 _ (List.mem_of_getElem? (i := 15) rfl), by decide +kernel⟩
theorem KV_X10_club : v_KV RX10 yX10_club cX10_club 2 (some .int) 1 := ⟨v_r38 _ (List.mem_of_getElem? (i := 16) rfl), v_r38 _ (List.mem_of_getElem? (i := 17) rfl), v_r1 _ (List.mem_of_getElem? (i := 2) rfl), v_r38 _ (List.mem_of_getElem? (i := 18) rfl), by decide +kernel⟩
theorem KV_X10_clubPart : v_KV RX10 yX10_clubPart cX10_clubPart 2 (some .boolean) 1 := ⟨v_r39 _ (List.mem_of_getElem? (i := 19) rfl), v_r39 _ (List.mem_of_getElem? (i := 20) rfl), v_r1 _ (List.mem_of_getElem? (i := 2) rfl), v_r39 _ (List.mem_of_getElem? (i := 21) rfl), by decide +kernel⟩
theorem KV_X10_commit : v_KV RX10 yX10_commit cX10_commit 4 (some .int) 3 := ⟨v_r44 _ (List.mem_of_getElem? (i := 16) rfl), v_r44 _ (List.mem_of_getElem? (i := 17) rfl), v_r1 _ (List.mem_of_getElem? (i := 2) rfl), v_r44 _ (List.mem_of_getElem? (i := 18) rfl), by decide +kernel⟩
theorem KV_X10_deed : v_KV RX10 yX10_deed cX10_deed 3 (some .int) 2 := ⟨v_r30 _ (List.mem_of_getElem? (i := 5) rfl), v_r30 _ (List.mem_of_getElem? (i := 6) rfl), v_r1 _ (List.mem_of_getElem? (i := 2) rfl), v_r30 _ (List.mem_of_getElem? (i := 7) rfl), by decide +kernel⟩
theorem KV_X10_dread : v_KV RX10 yX10_dread cX10_dread 2 (some .boolean) 1 := ⟨v_r38 _ (List.mem_of_getElem? (i := 8) rfl), v_r38 _ (List.mem_of_getElem? (i := 9) rfl), v_r1 _ (List.mem_of_getElem? (i := 2) rfl), v_r38 _ (List.mem_of_getElem? (i := 10) rfl), by decide +kernel⟩
theorem KV_X10_dreaded : v_KV RX10 yX10_dreaded cX10_dreaded 2 (some .int) 1 := ⟨v_r37 _ (List.mem_of_getElem? (i := 19) rfl), v_r37 _ (List.mem_of_getElem? (i := 20) rfl), v_r1 _ (List.mem_of_getElem? (i := 2) rfl), v_r37 _ (List.mem_of_getElem? (i := 21) rfl), by decide +kernel⟩
theorem KV_X10_drop : v_KV RX10 yX10_drop cX10_drop 4 (some .int) 3 := ⟨v_r43 _ (List.mem_of_getElem? (i := 19) rfl), v_r43 _ (List.mem_of_getElem? (i := 20) rfl), v_r1 _ (List.mem_of_getElem? (i := 2) rfl), v_r43 _ (List.mem_of_getElem? (i := 21) rfl), by decide +kernel⟩
theorem KV_X10_friend : v_KV RX10 yX10_friend cX10_friend 2 (some .int) 1 := ⟨v_r30 _ (List.mem_of_getElem? (i := 14) rfl), v_r30 _ (List.mem_of_getElem? (i := 15) rfl), v_r1 _ (List.mem_of_getElem? (i := 2) rfl), v_r30 _ (List.mem_of_getElem? (i := 16) rfl), by decide +kernel⟩
theorem KV_X10_gain : v_KV RX10 yX10_gain cX10_gain 4 (some .boolean) 2 := ⟨v_r33 _ (List.mem_of_getElem? (i := 7) rfl), v_r33 _ (List.mem_of_getElem? (i := 8) rfl), v_r1 _ (List.mem_of_getElem? (i := 2) rfl), v_r33 _ (List.mem_of_getElem? (i := 9) rfl), by decide +kernel⟩
theorem KV_X10_gained : v_KV RX10 yX10_gained cX10_gained 4 (some .int) 2 := ⟨v_r36 _ (List.mem_of_getElem? (i := 9) rfl), v_r36 _ (List.mem_of_getElem? (i := 10) rfl), v_r1 _ (List.mem_of_getElem? (i := 2) rfl), v_r36 _ (List.mem_of_getElem? (i := 11) rfl), by decide +kernel⟩
theorem KV_X10_game : v_KV RX10 yX10_game cX10_game 5 (some .boolean) 3 := ⟨v_r40 _ (List.mem_of_getElem? (i := 1) rfl), v_r40 _ (List.mem_of_getElem? (i := 2) rfl), v_r1 _ (List.mem_of_getElem? (i := 2) rfl), v_r40 _ (List.mem_of_getElem? (i := 3) rfl), by decide +kernel⟩
theorem KV_X10_gladBy : v_KV RX10 yX10_gladBy cX10_gladBy 3 (some .int) 2 := ⟨v_r27 _ (List.mem_of_getElem? (i := 22) rfl), v_r27 _ (List.mem_of_getElem? (i := 23) rfl), v_r1 _ (List.mem_of_getElem? (i := 2) rfl), v_r28 _ (List.mem_of_getElem? (i := 0) rfl), by decide +kernel⟩
theorem KV_X10_hear : v_KV RX10 yX10_hear cX10_hear 5 (some .int) 3 := ⟨v_r41 _ (List.mem_of_getElem? (i := 20) rfl), v_r41 _ (List.mem_of_getElem? (i := 21) rfl), v_r1 _ (List.mem_of_getElem? (i := 2) rfl), v_r41 _ (List.mem_of_getElem? (i := 22) rfl), by decide +kernel⟩
theorem KV_X10_leastFine : v_KV RX10 yX10_leastFine cX10_leastFine 2 (some .int) 1 := ⟨v_r29 _ (List.mem_of_getElem? (i := 21) rfl), v_r29 _ (List.mem_of_getElem? (i := 22) rfl), v_r1 _ (List.mem_of_getElem? (i := 2) rfl), v_r29 _ (List.mem_of_getElem? (i := 23) rfl), by decide +kernel⟩
theorem KV_X10_leastShare : v_KV RX10 yX10_leastShare cX10_leastShare 2 (some .int) 1 := ⟨v_r29 _ (List.mem_of_getElem? (i := 5) rfl), v_r29 _ (List.mem_of_getElem? (i := 6) rfl), v_r1 _ (List.mem_of_getElem? (i := 2) rfl), v_r29 _ (List.mem_of_getElem? (i := 7) rfl), by decide +kernel⟩
theorem KV_X10_loss : v_KV RX10 yX10_loss cX10_loss 4 (some .boolean) 2 := ⟨v_r33 _ (List.mem_of_getElem? (i := 17) rfl), v_r33 _ (List.mem_of_getElem? (i := 18) rfl), v_r1 _ (List.mem_of_getElem? (i := 2) rfl), v_r33 _ (List.mem_of_getElem? (i := 19) rfl), by decide +kernel⟩
theorem KV_X10_many : v_KV RX10 yX10_many cX10_many 2 (some .int) 1 := ⟨v_r22 _ (List.mem_of_getElem? (i := 23) rfl), v_r23 _ (List.mem_of_getElem? (i := 0) rfl), v_r1 _ (List.mem_of_getElem? (i := 2) rfl), v_r23 _ (List.mem_of_getElem? (i := 1) rfl), by decide +kernel⟩
theorem KV_X10_mark : v_KV RX10 yX10_mark cX10_mark 2 (some .int) 0 := ⟨v_r41 _ (List.mem_of_getElem? (i := 15) rfl), v_r41 _ (List.mem_of_getElem? (i := 16) rfl), v_r1 _ (List.mem_of_getElem? (i := 2) rfl), v_r41 _ (List.mem_of_getElem? (i := 17) rfl), by decide +kernel⟩
theorem KV_X10_mostPenalty : v_KV RX10 yX10_mostPenalty cX10_mostPenalty 2 (some .int) 1 := ⟨v_r29 _ (List.mem_of_getElem? (i := 13) rfl), v_r29 _ (List.mem_of_getElem? (i := 14) rfl), v_r1 _ (List.mem_of_getElem? (i := 2) rfl), v_r29 _ (List.mem_of_getElem? (i := 15) rfl), by decide +kernel⟩
theorem KV_X10_moveOf : v_KV RX10 yX10_moveOf cX10_moveOf 5 (some .int) 3 := ⟨v_r41 _ (List.mem_of_getElem? (i := 6) rfl), v_r41 _ (List.mem_of_getElem? (i := 7) rfl), v_r1 _ (List.mem_of_getElem? (i := 2) rfl), v_r41 _ (List.mem_of_getElem? (i := 8) rfl), by decide +kernel⟩
theorem KV_X10_owes : v_KV RX10 yX10_owes cX10_owes 4 (some .boolean) 2 := ⟨v_r33 _ (List.mem_of_getElem? (i := 2) rfl), v_r33 _ (List.mem_of_getElem? (i := 3) rfl), v_r1 _ (List.mem_of_getElem? (i := 2) rfl), v_r33 _ (List.mem_of_getElem? (i := 4) rfl), by decide +kernel⟩
theorem KV_X10_person : v_KV RX10 yX10_person cX10_person 3 (some .int) 2 := ⟨v_r23 _ (List.mem_of_getElem? (i := 23) rfl), v_r24 _ (List.mem_of_getElem? (i := 0) rfl), v_r1 _ (List.mem_of_getElem? (i := 2) rfl), v_r24 _ (List.mem_of_getElem? (i := 1) rfl), by decide +kernel⟩
theorem KV_X10_plan : v_KV RX10 yX10_plan cX10_plan 3 (some .boolean) 2 := ⟨v_r34 _ (List.mem_of_getElem? (i := 19) rfl), v_r34 _ (List.mem_of_getElem? (i := 20) rfl), v_r1 _ (List.mem_of_getElem? (i := 2) rfl), v_r34 _ (List.mem_of_getElem? (i := 21) rfl), by decide +kernel⟩
theorem KV_X10_quiet : v_KV RX10 yX10_quiet cX10_quiet 1 (some .int) 0 := ⟨v_r24 _ (List.mem_of_getElem? (i := 19) rfl), v_r24 _ (List.mem_of_getElem? (i := 20) rfl), v_r1 _ (List.mem_of_getElem? (i := 2) rfl), v_r24 _ (List.mem_of_getElem? (i := 21) rfl), by decide +kernel⟩
theorem KV_X10_reopen : v_KV RX10 yX10_reopen cX10_reopen 2 (some .boolean) 1 := ⟨v_r44 _ (List.mem_of_getElem? (i := 8) rfl), v_r44 _ (List.mem_of_getElem? (i := 9) rfl), v_r1 _ (List.mem_of_getElem? (i := 2) rfl), v_r44 _ (List.mem_of_getElem? (i := 10) rfl), by decide +kernel⟩
theorem KV_X10_sure : v_KV RX10 yX10_sure cX10_sure 4 (some .int) 2 := ⟨v_r37 _ (List.mem_of_getElem? (i := 14) rfl), v_r37 _ (List.mem_of_getElem? (i := 15) rfl), v_r1 _ (List.mem_of_getElem? (i := 2) rfl), v_r37 _ (List.mem_of_getElem? (i := 16) rfl), by decide +kernel⟩
theorem KV_X10_top : v_KV RX10 yX10_top cX10_top 1 (some .long) 0 := ⟨v_r32 _ (List.mem_of_getElem? (i := 18) rfl), v_r32 _ (List.mem_of_getElem? (i := 19) rfl), v_r1 _ (List.mem_of_getElem? (i := 2) rfl), v_r32 _ (List.mem_of_getElem? (i := 20) rfl), by decide +kernel⟩
theorem KV_X10_trade : v_KV RX10 yX10_trade cX10_trade 6 (some .int) 3 := ⟨v_r33 _ (List.mem_of_getElem? (i := 22) rfl), v_r33 _ (List.mem_of_getElem? (i := 23) rfl), v_r1 _ (List.mem_of_getElem? (i := 2) rfl), v_r34 _ (List.mem_of_getElem? (i := 0) rfl), by decide +kernel⟩
theorem KV_X10_wins : v_KV RX10 yX10_wins cX10_wins 4 (some .boolean) 2 := ⟨v_r31 _ (List.mem_of_getElem? (i := 11) rfl), v_r31 _ (List.mem_of_getElem? (i := 12) rfl), v_r1 _ (List.mem_of_getElem? (i := 2) rfl), v_r31 _ (List.mem_of_getElem? (i := 13) rfl), by decide +kernel⟩
