theorem d_law_0 : decode code 0 = .ok (.new 8, 3) := by decide +kernel
theorem d_law_3 : decode code 3 = .ok (.dup, 1) := by decide +kernel
theorem d_law_4 : decode code 4 = .ok (.invokespecial 32, 3) := by decide +kernel
theorem d_law_7 : decode code 7 = .ok (.astore_n 1, 1) := by decide +kernel
theorem d_law_8 : decode code 8 = .ok (.new 33, 3) := by decide +kernel
theorem d_law_11 : decode code 11 = .ok (.dup, 1) := by decide +kernel
theorem d_law_12 : decode code 12 = .ok (.invokespecial 35, 3) := by decide +kernel
theorem d_law_15 : decode code 15 = .ok (.astore_n 2, 1) := by decide +kernel
theorem d_law_16 : decode code 16 = .ok (.iconst 1, 1) := by decide +kernel
theorem d_law_17 : decode code 17 = .ok (.newarray .long, 2) := by decide +kernel
theorem d_law_19 : decode code 19 = .ok (.astore_n 3, 1) := by decide +kernel
theorem d_law_20 : decode code 20 = .ok (.iconst 0, 1) := by decide +kernel
theorem d_law_21 : decode code 21 = .ok (.istore 4, 2) := by decide +kernel
theorem d_law_23 : decode code 23 = .ok (.iload 4, 2) := by decide +kernel
theorem d_law_25 : decode code 25 = .ok (.aload_n 0, 1) := by decide +kernel
theorem d_law_26 : decode code 26 = .ok (.arraylength, 1) := by decide +kernel
theorem d_law_27 : decode code 27 = .ok (.iconst 4, 1) := by decide +kernel
theorem d_law_28 : decode code 28 = .ok (.isub, 1) := by decide +kernel
theorem d_law_29 : decode code 29 = .ok (.if_icmp .gt 420, 3) := by decide +kernel
theorem d_law_32 : decode code 32 = .ok (.aload_n 0, 1) := by decide +kernel
theorem d_law_33 : decode code 33 = .ok (.iload 4, 2) := by decide +kernel
theorem d_law_35 : decode code 35 = .ok (.iaload, 1) := by decide +kernel
theorem d_law_36 : decode code 36 = .ok (.bipush 15, 2) := by decide +kernel
theorem d_law_38 : decode code 38 = .ok (.iand, 1) := by decide +kernel
theorem d_law_39 : decode code 39 = .ok (.tableswitch 404 0 10 #[57, 157, 170, 214, 227, 240, 296, 309, 353, 366, 391], 57) := by decide +kernel
theorem d_law_96 : decode code 96 = .ok (.aload_n 1, 1) := by decide +kernel
theorem d_law_97 : decode code 97 = .ok (.aload_n 0, 1) := by decide +kernel
theorem d_law_98 : decode code 98 = .ok (.iload 4, 2) := by decide +kernel
theorem d_law_100 : decode code 100 = .ok (.iconst 1, 1) := by decide +kernel
theorem d_law_101 : decode code 101 = .ok (.iadd, 1) := by decide +kernel
theorem d_law_102 : decode code 102 = .ok (.iaload, 1) := by decide +kernel
theorem d_law_103 : decode code 103 = .ok (.i2l, 1) := by decide +kernel
theorem d_law_104 : decode code 104 = .ok (.bipush 32, 2) := by decide +kernel
theorem d_law_106 : decode code 106 = .ok (.lshl, 1) := by decide +kernel
theorem d_law_107 : decode code 107 = .ok (.aload_n 0, 1) := by decide +kernel
theorem d_law_108 : decode code 108 = .ok (.iload 4, 2) := by decide +kernel
theorem d_law_110 : decode code 110 = .ok (.iconst 2, 1) := by decide +kernel
theorem d_law_111 : decode code 111 = .ok (.iadd, 1) := by decide +kernel
theorem d_law_112 : decode code 112 = .ok (.iaload, 1) := by decide +kernel
theorem d_law_113 : decode code 113 = .ok (.i2l, 1) := by decide +kernel
theorem d_law_114 : decode code 114 = .ok (.ldc2_w 36, 3) := by decide +kernel
theorem d_law_117 : decode code 117 = .ok (.land, 1) := by decide +kernel
theorem d_law_118 : decode code 118 = .ok (.lor, 1) := by decide +kernel
theorem d_law_119 : decode code 119 = .ok (.aload_n 0, 1) := by decide +kernel
theorem d_law_120 : decode code 120 = .ok (.iload 4, 2) := by decide +kernel
theorem d_law_122 : decode code 122 = .ok (.iconst 3, 1) := by decide +kernel
theorem d_law_123 : decode code 123 = .ok (.iadd, 1) := by decide +kernel
theorem d_law_124 : decode code 124 = .ok (.iaload, 1) := by decide +kernel
theorem d_law_125 : decode code 125 = .ok (.aload_n 3, 1) := by decide +kernel
theorem d_law_126 : decode code 126 = .ok (.invokestatic 38, 3) := by decide +kernel
theorem d_law_129 : decode code 129 = .ok (.istore 5, 2) := by decide +kernel
theorem d_law_131 : decode code 131 = .ok (.aload_n 2, 1) := by decide +kernel
theorem d_law_132 : decode code 132 = .ok (.aload_n 0, 1) := by decide +kernel
theorem d_law_133 : decode code 133 = .ok (.iload 4, 2) := by decide +kernel
theorem d_law_135 : decode code 135 = .ok (.iconst 1, 1) := by decide +kernel
theorem d_law_136 : decode code 136 = .ok (.iadd, 1) := by decide +kernel
theorem d_law_137 : decode code 137 = .ok (.iaload, 1) := by decide +kernel
theorem d_law_138 : decode code 138 = .ok (.i2l, 1) := by decide +kernel
theorem d_law_139 : decode code 139 = .ok (.bipush 32, 2) := by decide +kernel
theorem d_law_141 : decode code 141 = .ok (.lshl, 1) := by decide +kernel
theorem d_law_142 : decode code 142 = .ok (.aload_n 0, 1) := by decide +kernel
theorem d_law_143 : decode code 143 = .ok (.iload 4, 2) := by decide +kernel
theorem d_law_145 : decode code 145 = .ok (.iconst 2, 1) := by decide +kernel
theorem d_law_146 : decode code 146 = .ok (.iadd, 1) := by decide +kernel
theorem d_law_147 : decode code 147 = .ok (.iaload, 1) := by decide +kernel
theorem d_law_148 : decode code 148 = .ok (.i2l, 1) := by decide +kernel
theorem d_law_149 : decode code 149 = .ok (.ldc2_w 36, 3) := by decide +kernel
theorem d_law_152 : decode code 152 = .ok (.land, 1) := by decide +kernel
theorem d_law_153 : decode code 153 = .ok (.lor, 1) := by decide +kernel
theorem d_law_154 : decode code 154 = .ok (.aload_n 0, 1) := by decide +kernel
theorem d_law_155 : decode code 155 = .ok (.iload 4, 2) := by decide +kernel
theorem d_law_157 : decode code 157 = .ok (.iconst 3, 1) := by decide +kernel
theorem d_law_158 : decode code 158 = .ok (.iadd, 1) := by decide +kernel
theorem d_law_159 : decode code 159 = .ok (.iaload, 1) := by decide +kernel
theorem d_law_160 : decode code 160 = .ok (.invokevirtual 43, 3) := by decide +kernel
theorem d_law_163 : decode code 163 = .ok (.istore 6, 2) := by decide +kernel
theorem d_law_165 : decode code 165 = .ok (.aload_n 2, 1) := by decide +kernel
theorem d_law_166 : decode code 166 = .ok (.invokevirtual 44, 3) := by decide +kernel
theorem d_law_169 : decode code 169 = .ok (.iload 5, 2) := by decide +kernel
theorem d_law_171 : decode code 171 = .ok (.if_icmp .eq 5, 3) := by decide +kernel
theorem d_law_174 : decode code 174 = .ok (.iconst 0, 1) := by decide +kernel
theorem d_law_175 : decode code 175 = .ok (.ireturn, 1) := by decide +kernel
theorem d_law_176 : decode code 176 = .ok (.iload 5, 2) := by decide +kernel
theorem d_law_178 : decode code 178 = .ok (.ifCond .ne 15, 3) := by decide +kernel
theorem d_law_181 : decode code 181 = .ok (.aload_n 3, 1) := by decide +kernel
theorem d_law_182 : decode code 182 = .ok (.iconst 0, 1) := by decide +kernel
theorem d_law_183 : decode code 183 = .ok (.laload, 1) := by decide +kernel
theorem d_law_184 : decode code 184 = .ok (.iload 6, 2) := by decide +kernel
theorem d_law_186 : decode code 186 = .ok (.i2l, 1) := by decide +kernel
theorem d_law_187 : decode code 187 = .ok (.lcmp, 1) := by decide +kernel
theorem d_law_188 : decode code 188 = .ok (.ifCond .eq 5, 3) := by decide +kernel
theorem d_law_191 : decode code 191 = .ok (.iconst 0, 1) := by decide +kernel
theorem d_law_192 : decode code 192 = .ok (.ireturn, 1) := by decide +kernel
theorem d_law_193 : decode code 193 = .ok (.goto 250, 3) := by decide +kernel
theorem d_law_196 : decode code 196 = .ok (.aload_n 1, 1) := by decide +kernel
theorem d_law_197 : decode code 197 = .ok (.invokevirtual 47, 3) := by decide +kernel
theorem d_law_200 : decode code 200 = .ok (.aload_n 2, 1) := by decide +kernel
theorem d_law_201 : decode code 201 = .ok (.invokevirtual 50, 3) := by decide +kernel
theorem d_law_204 : decode code 204 = .ok (.if_icmp .eq 239, 3) := by decide +kernel
theorem d_law_207 : decode code 207 = .ok (.iconst 0, 1) := by decide +kernel
theorem d_law_208 : decode code 208 = .ok (.ireturn, 1) := by decide +kernel
theorem d_law_209 : decode code 209 = .ok (.aload_n 1, 1) := by decide +kernel
theorem d_law_210 : decode code 210 = .ok (.aload_n 3, 1) := by decide +kernel
theorem d_law_211 : decode code 211 = .ok (.invokestatic 51, 3) := by decide +kernel
theorem d_law_214 : decode code 214 = .ok (.istore 5, 2) := by decide +kernel
theorem d_law_216 : decode code 216 = .ok (.aload_n 2, 1) := by decide +kernel
theorem d_law_217 : decode code 217 = .ok (.invokevirtual 54, 3) := by decide +kernel
theorem d_law_220 : decode code 220 = .ok (.istore 6, 2) := by decide +kernel
theorem d_law_222 : decode code 222 = .ok (.aload_n 2, 1) := by decide +kernel
theorem d_law_223 : decode code 223 = .ok (.invokevirtual 44, 3) := by decide +kernel
theorem d_law_226 : decode code 226 = .ok (.iload 5, 2) := by decide +kernel
theorem d_law_228 : decode code 228 = .ok (.if_icmp .eq 5, 3) := by decide +kernel
theorem d_law_231 : decode code 231 = .ok (.iconst 0, 1) := by decide +kernel
theorem d_law_232 : decode code 232 = .ok (.ireturn, 1) := by decide +kernel
theorem d_law_233 : decode code 233 = .ok (.iload 5, 2) := by decide +kernel
theorem d_law_235 : decode code 235 = .ok (.ifCond .ne 15, 3) := by decide +kernel
theorem d_law_238 : decode code 238 = .ok (.aload_n 3, 1) := by decide +kernel
theorem d_law_239 : decode code 239 = .ok (.iconst 0, 1) := by decide +kernel
theorem d_law_240 : decode code 240 = .ok (.laload, 1) := by decide +kernel
theorem d_law_241 : decode code 241 = .ok (.iload 6, 2) := by decide +kernel
theorem d_law_243 : decode code 243 = .ok (.i2l, 1) := by decide +kernel
theorem d_law_244 : decode code 244 = .ok (.lcmp, 1) := by decide +kernel
theorem d_law_245 : decode code 245 = .ok (.ifCond .eq 5, 3) := by decide +kernel
theorem d_law_248 : decode code 248 = .ok (.iconst 0, 1) := by decide +kernel
theorem d_law_249 : decode code 249 = .ok (.ireturn, 1) := by decide +kernel
theorem d_law_250 : decode code 250 = .ok (.goto 193, 3) := by decide +kernel
theorem d_law_253 : decode code 253 = .ok (.aload_n 1, 1) := by decide +kernel
theorem d_law_254 : decode code 254 = .ok (.invokevirtual 55, 3) := by decide +kernel
theorem d_law_257 : decode code 257 = .ok (.aload_n 2, 1) := by decide +kernel
theorem d_law_258 : decode code 258 = .ok (.invokevirtual 58, 3) := by decide +kernel
theorem d_law_261 : decode code 261 = .ok (.if_icmp .eq 182, 3) := by decide +kernel
theorem d_law_264 : decode code 264 = .ok (.iconst 0, 1) := by decide +kernel
theorem d_law_265 : decode code 265 = .ok (.ireturn, 1) := by decide +kernel
theorem d_law_266 : decode code 266 = .ok (.aload_n 1, 1) := by decide +kernel
theorem d_law_267 : decode code 267 = .ok (.invokevirtual 59, 3) := by decide +kernel
theorem d_law_270 : decode code 270 = .ok (.aload_n 2, 1) := by decide +kernel
theorem d_law_271 : decode code 271 = .ok (.invokevirtual 62, 3) := by decide +kernel
theorem d_law_274 : decode code 274 = .ok (.if_icmp .eq 169, 3) := by decide +kernel
theorem d_law_277 : decode code 277 = .ok (.iconst 0, 1) := by decide +kernel
theorem d_law_278 : decode code 278 = .ok (.ireturn, 1) := by decide +kernel
theorem d_law_279 : decode code 279 = .ok (.aload_n 1, 1) := by decide +kernel
theorem d_law_280 : decode code 280 = .ok (.aload_n 0, 1) := by decide +kernel
theorem d_law_281 : decode code 281 = .ok (.iload 4, 2) := by decide +kernel
theorem d_law_283 : decode code 283 = .ok (.iconst 1, 1) := by decide +kernel
theorem d_law_284 : decode code 284 = .ok (.iadd, 1) := by decide +kernel
theorem d_law_285 : decode code 285 = .ok (.iaload, 1) := by decide +kernel
theorem d_law_286 : decode code 286 = .ok (.aload_n 3, 1) := by decide +kernel
theorem d_law_287 : decode code 287 = .ok (.invokestatic 63, 3) := by decide +kernel
theorem d_law_290 : decode code 290 = .ok (.istore 5, 2) := by decide +kernel
theorem d_law_292 : decode code 292 = .ok (.aload_n 2, 1) := by decide +kernel
theorem d_law_293 : decode code 293 = .ok (.aload_n 0, 1) := by decide +kernel
theorem d_law_294 : decode code 294 = .ok (.iload 4, 2) := by decide +kernel
theorem d_law_296 : decode code 296 = .ok (.iconst 1, 1) := by decide +kernel
theorem d_law_297 : decode code 297 = .ok (.iadd, 1) := by decide +kernel
theorem d_law_298 : decode code 298 = .ok (.iaload, 1) := by decide +kernel
theorem d_law_299 : decode code 299 = .ok (.invokevirtual 66, 3) := by decide +kernel
theorem d_law_302 : decode code 302 = .ok (.istore 6, 2) := by decide +kernel
theorem d_law_304 : decode code 304 = .ok (.aload_n 2, 1) := by decide +kernel
theorem d_law_305 : decode code 305 = .ok (.invokevirtual 44, 3) := by decide +kernel
theorem d_law_308 : decode code 308 = .ok (.iload 5, 2) := by decide +kernel
theorem d_law_310 : decode code 310 = .ok (.if_icmp .eq 5, 3) := by decide +kernel
theorem d_law_313 : decode code 313 = .ok (.iconst 0, 1) := by decide +kernel
theorem d_law_314 : decode code 314 = .ok (.ireturn, 1) := by decide +kernel
theorem d_law_315 : decode code 315 = .ok (.iload 5, 2) := by decide +kernel
theorem d_law_317 : decode code 317 = .ok (.ifCond .ne 15, 3) := by decide +kernel
theorem d_law_320 : decode code 320 = .ok (.aload_n 3, 1) := by decide +kernel
theorem d_law_321 : decode code 321 = .ok (.iconst 0, 1) := by decide +kernel
theorem d_law_322 : decode code 322 = .ok (.laload, 1) := by decide +kernel
theorem d_law_323 : decode code 323 = .ok (.iload 6, 2) := by decide +kernel
theorem d_law_325 : decode code 325 = .ok (.i2l, 1) := by decide +kernel
theorem d_law_326 : decode code 326 = .ok (.lcmp, 1) := by decide +kernel
theorem d_law_327 : decode code 327 = .ok (.ifCond .eq 5, 3) := by decide +kernel
theorem d_law_330 : decode code 330 = .ok (.iconst 0, 1) := by decide +kernel
theorem d_law_331 : decode code 331 = .ok (.ireturn, 1) := by decide +kernel
theorem d_law_332 : decode code 332 = .ok (.goto 111, 3) := by decide +kernel
theorem d_law_335 : decode code 335 = .ok (.aload_n 1, 1) := by decide +kernel
theorem d_law_336 : decode code 336 = .ok (.invokevirtual 67, 3) := by decide +kernel
theorem d_law_339 : decode code 339 = .ok (.aload_n 2, 1) := by decide +kernel
theorem d_law_340 : decode code 340 = .ok (.invokevirtual 70, 3) := by decide +kernel
theorem d_law_343 : decode code 343 = .ok (.if_icmp .eq 100, 3) := by decide +kernel
theorem d_law_346 : decode code 346 = .ok (.iconst 0, 1) := by decide +kernel
theorem d_law_347 : decode code 347 = .ok (.ireturn, 1) := by decide +kernel
theorem d_law_348 : decode code 348 = .ok (.aload_n 1, 1) := by decide +kernel
theorem d_law_349 : decode code 349 = .ok (.aload_n 3, 1) := by decide +kernel
theorem d_law_350 : decode code 350 = .ok (.invokestatic 71, 3) := by decide +kernel
theorem d_law_353 : decode code 353 = .ok (.istore 5, 2) := by decide +kernel
theorem d_law_355 : decode code 355 = .ok (.aload_n 2, 1) := by decide +kernel
theorem d_law_356 : decode code 356 = .ok (.invokevirtual 73, 3) := by decide +kernel
theorem d_law_359 : decode code 359 = .ok (.istore 6, 2) := by decide +kernel
theorem d_law_361 : decode code 361 = .ok (.aload_n 2, 1) := by decide +kernel
theorem d_law_362 : decode code 362 = .ok (.invokevirtual 44, 3) := by decide +kernel
theorem d_law_365 : decode code 365 = .ok (.iload 5, 2) := by decide +kernel
theorem d_law_367 : decode code 367 = .ok (.if_icmp .eq 5, 3) := by decide +kernel
theorem d_law_370 : decode code 370 = .ok (.iconst 0, 1) := by decide +kernel
theorem d_law_371 : decode code 371 = .ok (.ireturn, 1) := by decide +kernel
theorem d_law_372 : decode code 372 = .ok (.iload 5, 2) := by decide +kernel
theorem d_law_374 : decode code 374 = .ok (.ifCond .ne 15, 3) := by decide +kernel
theorem d_law_377 : decode code 377 = .ok (.aload_n 3, 1) := by decide +kernel
theorem d_law_378 : decode code 378 = .ok (.iconst 0, 1) := by decide +kernel
theorem d_law_379 : decode code 379 = .ok (.laload, 1) := by decide +kernel
theorem d_law_380 : decode code 380 = .ok (.iload 6, 2) := by decide +kernel
theorem d_law_382 : decode code 382 = .ok (.i2l, 1) := by decide +kernel
theorem d_law_383 : decode code 383 = .ok (.lcmp, 1) := by decide +kernel
theorem d_law_384 : decode code 384 = .ok (.ifCond .eq 5, 3) := by decide +kernel
theorem d_law_387 : decode code 387 = .ok (.iconst 0, 1) := by decide +kernel
theorem d_law_388 : decode code 388 = .ok (.ireturn, 1) := by decide +kernel
theorem d_law_389 : decode code 389 = .ok (.goto 54, 3) := by decide +kernel
theorem d_law_392 : decode code 392 = .ok (.aload_n 1, 1) := by decide +kernel
theorem d_law_393 : decode code 393 = .ok (.invokevirtual 74, 3) := by decide +kernel
theorem d_law_396 : decode code 396 = .ok (.aload_n 2, 1) := by decide +kernel
theorem d_law_397 : decode code 397 = .ok (.invokevirtual 77, 3) := by decide +kernel
theorem d_law_400 : decode code 400 = .ok (.if_icmp .eq 43, 3) := by decide +kernel
theorem d_law_403 : decode code 403 = .ok (.iconst 0, 1) := by decide +kernel
theorem d_law_404 : decode code 404 = .ok (.ireturn, 1) := by decide +kernel
theorem d_law_405 : decode code 405 = .ok (.aload_n 1, 1) := by decide +kernel
theorem d_law_406 : decode code 406 = .ok (.aload_n 0, 1) := by decide +kernel
theorem d_law_407 : decode code 407 = .ok (.iload 4, 2) := by decide +kernel
theorem d_law_409 : decode code 409 = .ok (.iconst 1, 1) := by decide +kernel
theorem d_law_410 : decode code 410 = .ok (.iadd, 1) := by decide +kernel
theorem d_law_411 : decode code 411 = .ok (.iaload, 1) := by decide +kernel
theorem d_law_412 : decode code 412 = .ok (.invokevirtual 78, 3) := by decide +kernel
theorem d_law_415 : decode code 415 = .ok (.aload_n 2, 1) := by decide +kernel
theorem d_law_416 : decode code 416 = .ok (.aload_n 0, 1) := by decide +kernel
theorem d_law_417 : decode code 417 = .ok (.iload 4, 2) := by decide +kernel
theorem d_law_419 : decode code 419 = .ok (.iconst 1, 1) := by decide +kernel
theorem d_law_420 : decode code 420 = .ok (.iadd, 1) := by decide +kernel
theorem d_law_421 : decode code 421 = .ok (.iaload, 1) := by decide +kernel
theorem d_law_422 : decode code 422 = .ok (.invokevirtual 81, 3) := by decide +kernel
theorem d_law_425 : decode code 425 = .ok (.if_icmp .eq 18, 3) := by decide +kernel
theorem d_law_428 : decode code 428 = .ok (.iconst 0, 1) := by decide +kernel
theorem d_law_429 : decode code 429 = .ok (.ireturn, 1) := by decide +kernel
theorem d_law_430 : decode code 430 = .ok (.aload_n 1, 1) := by decide +kernel
theorem d_law_431 : decode code 431 = .ok (.invokevirtual 82, 3) := by decide +kernel
theorem d_law_434 : decode code 434 = .ok (.aload_n 2, 1) := by decide +kernel
theorem d_law_435 : decode code 435 = .ok (.invokevirtual 85, 3) := by decide +kernel
theorem d_law_438 : decode code 438 = .ok (.if_icmp .eq 5, 3) := by decide +kernel
theorem d_law_441 : decode code 441 = .ok (.iconst 0, 1) := by decide +kernel
theorem d_law_442 : decode code 442 = .ok (.ireturn, 1) := by decide +kernel
theorem d_law_443 : decode code 443 = .ok (.iinc 4 4, 3) := by decide +kernel
theorem d_law_446 : decode code 446 = .ok (.goto (-423), 3) := by decide +kernel
theorem d_law_449 : decode code 449 = .ok (.iconst 1, 1) := by decide +kernel
theorem d_law_450 : decode code 450 = .ok (.ireturn, 1) := by decide +kernel
def tLaw_b (L : Nat) (xs : Nat → Int32) (k : St → Int32 → Option Unit) (σ : St) (x1 : Int32) : Option Unit := if ((Int32.ofNat L) - 4) < x1 then some () else gd (inB x1 L) (if ((xs x1.toNatClampNeg) &&& 15) = 0 then gd (inB (x1 + 1) L) (gd (inB (x1 + 2) L) (gd (inB (x1 + 3) L) (b2 (tLaw_type σ (((((xs (x1 + 1).toNatClampNeg) : Int32).toInt64) <<< ((32 : Int32).toInt64 &&& 63)) ||| ((((xs (x1 + 2).toNatClampNeg) : Int32).toInt64) &&& 4294967295)) (xs (x1 + 3).toNatClampNeg)) (fun r7 u7 => gd (inB (x1 + 1) L) (gd (inB (x1 + 2) L) (gd (inB (x1 + 3) L) (b2 (tModel_type u7 (((((xs (x1 + 1).toNatClampNeg) : Int32).toInt64) <<< ((32 : Int32).toInt64 &&& 63)) ||| ((((xs (x1 + 2).toNatClampNeg) : Int32).toInt64) &&& 4294967295)) (xs (x1 + 3).toNatClampNeg)) (fun r11 u11 => b1 (tModel_thrown u11) (fun r12 => if r12 = r7 then if r7 = 0 then gd (inB 0 1) (if (lg_cmp ((u11.2.2.2 3) (0 : Int32).toNatClampNeg) ((r11 : Int32).toInt64)) = 0 then k u11 (x1 + 4) else none) else k u11 (x1 + 4) else none))))))))) else if ((xs x1.toNatClampNeg) &&& 15) = 1 then b2 (tForge_clear σ) (fun r18 u18 => b2 (tModel_clear u18) (fun r19 u19 => if r18 = r19 then k u19 (x1 + 4) else none)) else if ((xs x1.toNatClampNeg) &&& 15) = 2 then b2 (tLaw_forge σ) (fun r22 u22 => b2 (tModel_forge u22) (fun r23 u23 => b1 (tModel_thrown u23) (fun r24 => if r24 = r22 then if r22 = 0 then gd (inB 0 1) (if (lg_cmp ((u23.2.2.2 3) (0 : Int32).toNatClampNeg) ((r23 : Int32).toInt64)) = 0 then k u23 (x1 + 4) else none) else k u23 (x1 + 4) else none))) else if ((xs x1.toNatClampNeg) &&& 15) = 3 then b1 (tForge_why σ) (fun r30 => b2 (tModel_why σ) (fun r31 u31 => if r30 = r31 then k u31 (x1 + 4) else none)) else if ((xs x1.toNatClampNeg) &&& 15) = 4 then b1 (tForge_where σ) (fun r34 => b2 (tModel_where σ) (fun r35 u35 => if r34 = r35 then k u35 (x1 + 4) else none)) else if ((xs x1.toNatClampNeg) &&& 15) = 5 then gd (inB (x1 + 1) L) (b2 (tLaw_give σ (xs (x1 + 1).toNatClampNeg)) (fun r39 u39 => gd (inB (x1 + 1) L) (b2 (tModel_give u39 (xs (x1 + 1).toNatClampNeg)) (fun r41 u41 => b1 (tModel_thrown u41) (fun r42 => if r42 = r39 then if r39 = 0 then gd (inB 0 1) (if (lg_cmp ((u41.2.2.2 3) (0 : Int32).toNatClampNeg) ((r41 : Int32).toInt64)) = 0 then k u41 (x1 + 4) else none) else k u41 (x1 + 4) else none))))) else if ((xs x1.toNatClampNeg) &&& 15) = 6 then b2 (tForge_empty σ) (fun r48 u48 => b2 (tModel_empty u48) (fun r49 u49 => if r48 = r49 then k u49 (x1 + 4) else none)) else if ((xs x1.toNatClampNeg) &&& 15) = 7 then b2 (tLaw_run σ) (fun r52 u52 => b2 (tModel_run u52) (fun r53 u53 => b1 (tModel_thrown u53) (fun r54 => if r54 = r52 then if r52 = 0 then gd (inB 0 1) (if (lg_cmp ((u53.2.2.2 3) (0 : Int32).toNatClampNeg) ((r53 : Int32).toInt64)) = 0 then k u53 (x1 + 4) else none) else k u53 (x1 + 4) else none))) else if ((xs x1.toNatClampNeg) &&& 15) = 8 then b1 (tForge_result σ) (fun r60 => b2 (tModel_result σ) (fun r61 u61 => if r60 = r61 then k u61 (x1 + 4) else none)) else if ((xs x1.toNatClampNeg) &&& 15) = 9 then gd (inB (x1 + 1) L) (b1 (tForge_output σ (xs (x1 + 1).toNatClampNeg)) (fun r65 => gd (inB (x1 + 1) L) (b2 (tModel_output σ (xs (x1 + 1).toNatClampNeg)) (fun r67 u67 => if r65 = r67 then k u67 (x1 + 4) else none)))) else if ((xs x1.toNatClampNeg) &&& 15) = 10 then b1 (tForge_ticks σ) (fun r70 => b2 (tModel_ticks σ) (fun r71 u71 => if r70 = r71 then k u71 (x1 + 4) else none)) else k σ (x1 + 4))
def tLaw_L (L : Nat) (xs : Nat → Int32) : Nat → St → Int32 → Option Unit
  | 0, _, _ => none
  | n + 1, σ, x1 => tLaw_b L xs (tLaw_L L xs n) σ x1
set_option maxHeartbeats 4000000 in
set_option maxRecDepth 100000 in
theorem tLaw_blk {p : Program} {e : Env} {s : State} {m : MethodId} {below : List Frame} {meth : Method} {c : Code} {A : Nat → Prop} {b L : Nat} {xs : Nat → Int32} (l : Launch) (htr : l.stackTraces = false) (dC : Nat → ClassId) (dI : Nat → Nat → Nat) (ad : Nat → Nat) (cA : Nat → ClassId) (X : Cx p s m #[Value.ref b] meth c code 7 ret "TinyForgeLaw" (dC, dI) (ttys cA) ad A) (hS0 : th_S A s s.heap) (hNc : va_Nc (exn 2) (exn 1) s) (hX : va_X b L xs s s.heap) (hbl : b < s.heap.size) (hbA : ¬ A b) (hAs : ∀ q, A q → s.heap.size ≤ q) : ∀ (n C S : Nat) (σ : St) (x1 : Int32) (H : Heap) (locs : List Loc) (ls : Array Slot), C + n ≤ 601024 → S + 6 * n ≤ 7293034 → tLaw_L L xs n σ x1 = some () → va_P (dC, dI) vwCl (tcw ad cA σ) H → va_D A (tcw ad cA σ) → va_S A s.heap H locs → lv_has ls 7 [(0, .ref b), (1, .ref (ad 10)), (2, .ref (ad 11)), (3, .ref (ad 59)), (4, .int x1)] → W p l e room_1 s m #[Value.ref b] below meth c H locs C S (lw_Z below #[Value.ref b] s) (F0 m 23 ls []) := by
  obtain ⟨hx, hb, hr, hml, hown, hlocks, hts, hA, hK, hZ⟩ := id X
  intro n
  induction n with
  | zero => intro C S σ x1 H locs ls _ _ hF; cases hF
  | succ n ihn =>
    intro C S σ x1 H locs ls hC1 hS1 hF hP hD hS hl
    have hcC : C + 1 ≤ room_1.cells := by show C + 1 ≤ 601024; omega
    have hcS : S + 6 ≤ room_1.slots := by show S + 6 ≤ 7293034; omega
    have hcC0 : C ≤ room_1.cells := by omega
    have hcS0 : S ≤ room_1.slots := by omega
    have hF : tLaw_b L xs (tLaw_L L xs n) σ x1 = some () := hF
    unfold tLaw_b at hF
    refine lv_iload hx hb d_law_23 (lv_at hl 4 rfl) ?_
    refine lv_aload_n hx hb d_law_25 rfl (lv_at hl 0 rfl) ?_
    refine va_slen hx hb hX hbl hbA hS d_law_26 ?_
    refine lv_iconst (v := 4) hx hb d_law_27 (by decide) ?_
    refine lv_isub hx hb d_law_28 ?_
    refine lv_icmp_gt (tgt := 449) hx hb d_law_29 (by decide) (fun c_1 => ?_) (fun c_1 => ?_)
    · have hF := ifp hF c_1
      refine lv_iconst (v := 1) hx hb d_law_449 (by decide) ?_
      cases hF
      refine va_forget (fun q hq => hAs _ (hS.2.2 q hq)) ?_
      refine W.widen (k := 601024) (n := 7293034) (by omega) (by omega) ?_
      exact lw_ret hx hb hr hlocks d_law_450
    · have hF := ifn hF c_1
      refine lv_aload_n hx hb d_law_32 rfl (lv_at hl 0 rfl) ?_
      refine lv_iload hx hb d_law_33 (lv_at hl 4 rfl) ?_
      obtain ⟨g_2, hF⟩ := gdE hF
      refine va_sld hx hb hX hbl hbA hS (inE g_2) d_law_35 ?_
      refine lv_bipush (v := 15) hx hb d_law_36 (by decide) ?_
      refine lv_iand hx hb d_law_38 ?_
      by_cases c_3 : ((xs x1.toNatClampNeg) &&& 15) = 0
      · have hF := ifp hF c_3
        refine lv_tableIn (tgt := 96) (off := 57) hx hb d_law_39 (by rw [c_3]; decide) (by rw [c_3]; decide) (by rw [c_3]; rfl) (by decide) ?_
        refine lv_aload_n hx hb d_law_96 rfl (lv_at hl 1 rfl) ?_
        refine lv_aload_n hx hb d_law_97 rfl (lv_at hl 0 rfl) ?_
        refine lv_iload hx hb d_law_98 (lv_at hl 4 rfl) ?_
        refine lv_iconst (v := 1) hx hb d_law_100 (by decide) ?_
        refine lv_iadd hx hb d_law_101 ?_
        obtain ⟨g_4, hF⟩ := gdE hF
        refine va_sld hx hb hX hbl hbA hS (inE g_4) d_law_102 ?_
        refine lv_i2l (v := ((xs (x1 + 1).toNatClampNeg) : Int32).toInt64) hx hb d_law_103 rfl ?_
        refine lv_bipush (v := 32) hx hb d_law_104 (by decide) ?_
        refine lv_lshl (v := ((((xs (x1 + 1).toNatClampNeg) : Int32).toInt64) <<< ((32 : Int32).toInt64 &&& 63))) hx hb d_law_106 rfl ?_
        refine lv_aload_n hx hb d_law_107 rfl (lv_at hl 0 rfl) ?_
        refine lv_iload hx hb d_law_108 (lv_at hl 4 rfl) ?_
        refine lv_iconst (v := 2) hx hb d_law_110 (by decide) ?_
        refine lv_iadd hx hb d_law_111 ?_
        obtain ⟨g_5, hF⟩ := gdE hF
        refine va_sld hx hb hX hbl hbA hS (inE g_5) d_law_112 ?_
        refine lv_i2l (v := ((xs (x1 + 2).toNatClampNeg) : Int32).toInt64) hx hb d_law_113 rfl ?_
        refine lv_ldc2 (v := 4294967295) hx hb hown (hts _ w_fee197f06a) d_law_114 ?_
        refine lv_land hx hb d_law_117 ?_
        refine lv_lor hx hb d_law_118 ?_
        refine lv_aload_n hx hb d_law_119 rfl (lv_at hl 0 rfl) ?_
        refine lv_iload hx hb d_law_120 (lv_at hl 4 rfl) ?_
        refine lv_iconst (v := 3) hx hb d_law_122 (by decide) ?_
        refine lv_iadd hx hb d_law_123 ?_
        obtain ⟨g_6, hF⟩ := gdE hF
        refine va_sld hx hb hX hbl hbA hS (inE g_6) d_law_124 ?_
        refine lv_aload_n hx hb d_law_125 rfl (lv_at hl 3 rfl) ?_
        obtain ⟨r7, u7, h7, hF⟩ := b2E hF
        refine callSH (As := [.ref (ad 10), .long (((((xs (x1 + 1).toNatClampNeg) : Int32).toInt64) <<< ((32 : Int32).toInt64 &&& 63)) ||| ((((xs (x1 + 2).toNatClampNeg) : Int32).toInt64) &&& 4294967295)), .int (xs (x1 + 3).toNatClampNeg), .ref (ad 59)]) X hS0 hNc (ct_Law_type l htr dC dI ad cA H.size h7) lk_Law_38 ⟨rfl, rfl, Nat.le_of_ble_eq_true rfl, Nat.le_of_ble_eq_true rfl⟩ ⟨hcC, hcS⟩ hP hD hS hl.1 rfl rfl (Nat.le_of_ble_eq_true rfl) d_law_126 (fun H locs hP hD hS => ?_)
        refine lv_istore (lv' := [(5, .int r7), (0, .ref b), (1, .ref (ad 10)), (2, .ref (ad 11)), (3, .ref (ad 59)), (4, .int x1)]) hx hb d_law_129 hl (by decide) rfl (fun ls hl => ?_)
        refine lv_aload_n hx hb d_law_131 rfl (lv_at hl 3 rfl) ?_
        refine lv_aload_n hx hb d_law_132 rfl (lv_at hl 1 rfl) ?_
        refine lv_iload hx hb d_law_133 (lv_at hl 5 rfl) ?_
        refine lv_iconst (v := 1) hx hb d_law_135 (by decide) ?_
        refine lv_iadd hx hb d_law_136 ?_
        obtain ⟨g_8, hF⟩ := gdE hF
        refine va_sld hx hb hX hbl hbA hS (inE g_8) d_law_137 ?_
        refine lv_i2l (v := ((xs (x1 + 1).toNatClampNeg) : Int32).toInt64) hx hb d_law_138 rfl ?_
        refine lv_bipush (v := 32) hx hb d_law_139 (by decide) ?_
        refine lv_lshl (v := ((((xs (x1 + 1).toNatClampNeg) : Int32).toInt64) <<< ((32 : Int32).toInt64 &&& 63))) hx hb d_law_141 rfl ?_
        refine lv_aload_n hx hb d_law_142 rfl (lv_at hl 1 rfl) ?_
        refine lv_iload hx hb d_law_143 (lv_at hl 5 rfl) ?_
        refine lv_iconst (v := 2) hx hb d_law_145 (by decide) ?_
        refine lv_iadd hx hb d_law_146 ?_
        obtain ⟨g_9, hF⟩ := gdE hF
        refine va_sld hx hb hX hbl hbA hS (inE g_9) d_law_147 ?_
        refine lv_i2l (v := ((xs (x1 + 2).toNatClampNeg) : Int32).toInt64) hx hb d_law_148 rfl ?_
        refine lv_ldc2 (v := 4294967295) hx hb hown (hts _ w_fee197f06a) d_law_149 ?_
        refine lv_land hx hb d_law_152 ?_
        refine lv_lor hx hb d_law_153 ?_
        refine lv_aload_n hx hb d_law_154 rfl (lv_at hl 1 rfl) ?_
        refine lv_iload hx hb d_law_155 (lv_at hl 5 rfl) ?_
        refine lv_iconst (v := 3) hx hb d_law_157 (by decide) ?_
        refine lv_iadd hx hb d_law_158 ?_
        obtain ⟨g_10, hF⟩ := gdE hF
        refine va_sld hx hb hX hbl hbA hS (inE g_10) d_law_159 ?_
        obtain ⟨r11, u11, h11, hF⟩ := b2E hF
        refine callVI2 (As := [.long (((((xs (x1 + 1).toNatClampNeg) : Int32).toInt64) <<< ((32 : Int32).toInt64 &&& 63)) ||| ((((xs (x1 + 2).toNatClampNeg) : Int32).toInt64) &&& 4294967295)), .int (xs (x1 + 3).toNatClampNeg)]) X (ct_Model_type l dC dI ad cA H.size h11) lk_Law_43 ⟨rfl, rfl, Nat.le_of_ble_eq_true rfl, Nat.le_of_ble_eq_true rfl⟩ ⟨hcC, hcS⟩ 11 rfl rfl hP hD hS hl.1 rfl rfl (Nat.le_of_ble_eq_true rfl) d_law_160 (fun H locs hP hD hS => ?_)
        refine lv_istore (lv' := [(6, .int r11), (5, .int r7), (0, .ref b), (1, .ref (ad 10)), (2, .ref (ad 11)), (3, .ref (ad 59)), (4, .int x1)]) hx hb d_law_163 hl (by decide) rfl (fun ls hl => ?_)
        refine lv_aload_n hx hb d_law_165 rfl (lv_at hl 4 rfl) ?_
        obtain ⟨r12, h12, hF⟩ := b1E hF
        refine callVI2 (As := []) X (ct_Model_thrown l dC dI ad cA H.size h12) lk_Law_44 ⟨rfl, rfl, Nat.le_of_ble_eq_true rfl, Nat.le_of_ble_eq_true rfl⟩ ⟨hcC, hcS⟩ 11 rfl rfl hP hD hS hl.1 rfl rfl (Nat.le_of_ble_eq_true rfl) d_law_166 (fun H locs hP hD hS => ?_)
        refine lv_iload hx hb d_law_169 (lv_at hl 1 rfl) ?_
        refine lv_icmp_eq (tgt := 176) hx hb d_law_171 (by decide) (fun c_13 => ?_) (fun c_13 => ?_)
        · have hF := ifp hF c_13
          refine lv_iload hx hb d_law_176 (lv_at hl 1 rfl) ?_
          refine lv_if_ne (tgt := 193) hx hb d_law_178 (by decide) (fun c_14 => ?_) (fun c_14 => ?_)
          · have hF := ifn hF c_14
            refine lv_goto (tgt := 443) hx hb d_law_193 (by decide) ?_
            refine lv_iinc (v := (x1 + 4)) (lv' := [(4, .int (x1 + 4)), (6, .int r11), (5, .int r7), (0, .ref b), (1, .ref (ad 10)), (2, .ref (ad 11)), (3, .ref (ad 59))]) hx hb d_law_443 hl (k := 6) rfl rfl (by decide) rfl (fun ls hl => ?_)
            refine lv_goto (tgt := 23) hx hb d_law_446 (by decide) ?_
            refine W.widen (k := C + 1) (n := S + 6) (by omega) (by omega) ?_
            exact ihn (C + 1) (S + 6) u11 (x1 + 4) H locs ls (by omega) (by omega) hF hP hD hS (lv_sub hl [3, 4, 5, 6, 0] rfl)
          · have hF := ifp hF c_14
            refine lv_aload_n hx hb d_law_181 rfl (lv_at hl 5 rfl) ?_
            refine lv_iconst (v := 0) hx hb d_law_182 (by decide) ?_
            obtain ⟨g_15, hF⟩ := gdE hF
            refine va_lald (f := (u11.2.2.2 3)) hx hb hK hP 59 1 rfl rfl (inE g_15) d_law_183 ?_
            refine lv_iload hx hb d_law_184 (lv_at hl 0 rfl) ?_
            refine lv_i2l (v := (r11 : Int32).toInt64) hx hb d_law_186 rfl ?_
            refine W.lcmp hx hb d_law_187 ?_
            refine lv_if_eq (tgt := 193) hx hb d_law_188 (by decide) (fun c_16 => ?_) (fun c_16 => ?_)
            · have hF := ifp hF c_16
              refine lv_goto (tgt := 443) hx hb d_law_193 (by decide) ?_
              refine lv_iinc (v := (x1 + 4)) (lv' := [(4, .int (x1 + 4)), (6, .int r11), (5, .int r7), (0, .ref b), (1, .ref (ad 10)), (2, .ref (ad 11)), (3, .ref (ad 59))]) hx hb d_law_443 hl (k := 6) rfl rfl (by decide) rfl (fun ls hl => ?_)
              refine lv_goto (tgt := 23) hx hb d_law_446 (by decide) ?_
              refine W.widen (k := C + 1) (n := S + 6) (by omega) (by omega) ?_
              exact ihn (C + 1) (S + 6) u11 (x1 + 4) H locs ls (by omega) (by omega) hF hP hD hS (lv_sub hl [3, 4, 5, 6, 0] rfl)
            · have hF := ifn hF c_16
              refine lv_iconst (v := 0) hx hb d_law_191 (by decide) ?_
              cases hF
        · have hF := ifn hF c_13
          refine lv_iconst (v := 0) hx hb d_law_174 (by decide) ?_
          cases hF
      · have hF := ifn hF c_3
        by_cases c_17 : ((xs x1.toNatClampNeg) &&& 15) = 1
        · have hF := ifp hF c_17
          refine lv_tableIn (tgt := 196) (off := 157) hx hb d_law_39 (by rw [c_17]; decide) (by rw [c_17]; decide) (by rw [c_17]; rfl) (by decide) ?_
          refine lv_aload_n hx hb d_law_196 rfl (lv_at hl 1 rfl) ?_
          obtain ⟨r18, u18, h18, hF⟩ := b2E hF
          refine callVI2 (As := []) X (ct_Forge_clear l dC dI ad cA H.size h18) lk_Law_47 ⟨rfl, rfl, Nat.le_of_ble_eq_true rfl, Nat.le_of_ble_eq_true rfl⟩ ⟨hcC0, hcS0⟩ 10 rfl rfl hP hD hS hl.1 rfl rfl (Nat.le_of_ble_eq_true rfl) d_law_197 (fun H locs hP hD hS => ?_)
          refine lv_aload_n hx hb d_law_200 rfl (lv_at hl 2 rfl) ?_
          obtain ⟨r19, u19, h19, hF⟩ := b2E hF
          refine callVI2 (As := []) X (ct_Model_clear l dC dI ad cA H.size h19) lk_Law_50 ⟨rfl, rfl, Nat.le_of_ble_eq_true rfl, Nat.le_of_ble_eq_true rfl⟩ ⟨hcC0, hcS0⟩ 11 rfl rfl hP hD hS hl.1 rfl rfl (Nat.le_of_ble_eq_true rfl) d_law_201 (fun H locs hP hD hS => ?_)
          refine lv_icmp_eq (tgt := 443) hx hb d_law_204 (by decide) (fun c_20 => ?_) (fun c_20 => ?_)
          · have hF := ifp hF c_20
            refine lv_iinc (v := (x1 + 4)) (lv' := [(4, .int (x1 + 4)), (0, .ref b), (1, .ref (ad 10)), (2, .ref (ad 11)), (3, .ref (ad 59))]) hx hb d_law_443 hl (k := 4) rfl rfl (by decide) rfl (fun ls hl => ?_)
            refine lv_goto (tgt := 23) hx hb d_law_446 (by decide) ?_
            refine W.widen (k := C + 1) (n := S + 6) (by omega) (by omega) ?_
            exact ihn (C + 1) (S + 6) u19 (x1 + 4) H locs ls (by omega) (by omega) hF hP hD hS (lv_sub hl [1, 2, 3, 4, 0] rfl)
          · have hF := ifn hF c_20
            refine lv_iconst (v := 0) hx hb d_law_207 (by decide) ?_
            cases hF
        · have hF := ifn hF c_17
          by_cases c_21 : ((xs x1.toNatClampNeg) &&& 15) = 2
          · have hF := ifp hF c_21
            refine lv_tableIn (tgt := 209) (off := 170) hx hb d_law_39 (by rw [c_21]; decide) (by rw [c_21]; decide) (by rw [c_21]; rfl) (by decide) ?_
            refine lv_aload_n hx hb d_law_209 rfl (lv_at hl 1 rfl) ?_
            refine lv_aload_n hx hb d_law_210 rfl (lv_at hl 3 rfl) ?_
            obtain ⟨r22, u22, h22, hF⟩ := b2E hF
            refine callSH (As := [.ref (ad 10), .ref (ad 59)]) X hS0 hNc (ct_Law_forge l htr dC dI ad cA H.size h22) lk_Law_51 ⟨rfl, rfl, Nat.le_of_ble_eq_true rfl, Nat.le_of_ble_eq_true rfl⟩ ⟨hcC, hcS⟩ hP hD hS hl.1 rfl rfl (Nat.le_of_ble_eq_true rfl) d_law_211 (fun H locs hP hD hS => ?_)
            refine lv_istore (lv' := [(5, .int r22), (0, .ref b), (1, .ref (ad 10)), (2, .ref (ad 11)), (3, .ref (ad 59)), (4, .int x1)]) hx hb d_law_214 hl (by decide) rfl (fun ls hl => ?_)
            refine lv_aload_n hx hb d_law_216 rfl (lv_at hl 3 rfl) ?_
            obtain ⟨r23, u23, h23, hF⟩ := b2E hF
            refine callVI2 (As := []) X (ct_Model_forge l dC dI ad cA H.size h23) lk_Law_54 ⟨rfl, rfl, Nat.le_of_ble_eq_true rfl, Nat.le_of_ble_eq_true rfl⟩ ⟨hcC, hcS⟩ 11 rfl rfl hP hD hS hl.1 rfl rfl (Nat.le_of_ble_eq_true rfl) d_law_217 (fun H locs hP hD hS => ?_)
            refine lv_istore (lv' := [(6, .int r23), (5, .int r22), (0, .ref b), (1, .ref (ad 10)), (2, .ref (ad 11)), (3, .ref (ad 59)), (4, .int x1)]) hx hb d_law_220 hl (by decide) rfl (fun ls hl => ?_)
            refine lv_aload_n hx hb d_law_222 rfl (lv_at hl 4 rfl) ?_
            obtain ⟨r24, h24, hF⟩ := b1E hF
            refine callVI2 (As := []) X (ct_Model_thrown l dC dI ad cA H.size h24) lk_Law_44 ⟨rfl, rfl, Nat.le_of_ble_eq_true rfl, Nat.le_of_ble_eq_true rfl⟩ ⟨hcC, hcS⟩ 11 rfl rfl hP hD hS hl.1 rfl rfl (Nat.le_of_ble_eq_true rfl) d_law_223 (fun H locs hP hD hS => ?_)
            refine lv_iload hx hb d_law_226 (lv_at hl 1 rfl) ?_
            refine lv_icmp_eq (tgt := 233) hx hb d_law_228 (by decide) (fun c_25 => ?_) (fun c_25 => ?_)
            · have hF := ifp hF c_25
              refine lv_iload hx hb d_law_233 (lv_at hl 1 rfl) ?_
              refine lv_if_ne (tgt := 250) hx hb d_law_235 (by decide) (fun c_26 => ?_) (fun c_26 => ?_)
              · have hF := ifn hF c_26
                refine lv_goto (tgt := 443) hx hb d_law_250 (by decide) ?_
                refine lv_iinc (v := (x1 + 4)) (lv' := [(4, .int (x1 + 4)), (6, .int r23), (5, .int r22), (0, .ref b), (1, .ref (ad 10)), (2, .ref (ad 11)), (3, .ref (ad 59))]) hx hb d_law_443 hl (k := 6) rfl rfl (by decide) rfl (fun ls hl => ?_)
                refine lv_goto (tgt := 23) hx hb d_law_446 (by decide) ?_
                refine W.widen (k := C + 1) (n := S + 6) (by omega) (by omega) ?_
                exact ihn (C + 1) (S + 6) u23 (x1 + 4) H locs ls (by omega) (by omega) hF hP hD hS (lv_sub hl [3, 4, 5, 6, 0] rfl)
              · have hF := ifp hF c_26
                refine lv_aload_n hx hb d_law_238 rfl (lv_at hl 5 rfl) ?_
                refine lv_iconst (v := 0) hx hb d_law_239 (by decide) ?_
                obtain ⟨g_27, hF⟩ := gdE hF
                refine va_lald (f := (u23.2.2.2 3)) hx hb hK hP 59 1 rfl rfl (inE g_27) d_law_240 ?_
                refine lv_iload hx hb d_law_241 (lv_at hl 0 rfl) ?_
                refine lv_i2l (v := (r23 : Int32).toInt64) hx hb d_law_243 rfl ?_
                refine W.lcmp hx hb d_law_244 ?_
                refine lv_if_eq (tgt := 250) hx hb d_law_245 (by decide) (fun c_28 => ?_) (fun c_28 => ?_)
                · have hF := ifp hF c_28
                  refine lv_goto (tgt := 443) hx hb d_law_250 (by decide) ?_
                  refine lv_iinc (v := (x1 + 4)) (lv' := [(4, .int (x1 + 4)), (6, .int r23), (5, .int r22), (0, .ref b), (1, .ref (ad 10)), (2, .ref (ad 11)), (3, .ref (ad 59))]) hx hb d_law_443 hl (k := 6) rfl rfl (by decide) rfl (fun ls hl => ?_)
                  refine lv_goto (tgt := 23) hx hb d_law_446 (by decide) ?_
                  refine W.widen (k := C + 1) (n := S + 6) (by omega) (by omega) ?_
                  exact ihn (C + 1) (S + 6) u23 (x1 + 4) H locs ls (by omega) (by omega) hF hP hD hS (lv_sub hl [3, 4, 5, 6, 0] rfl)
                · have hF := ifn hF c_28
                  refine lv_iconst (v := 0) hx hb d_law_248 (by decide) ?_
                  cases hF
            · have hF := ifn hF c_25
              refine lv_iconst (v := 0) hx hb d_law_231 (by decide) ?_
              cases hF
          · have hF := ifn hF c_21
            by_cases c_29 : ((xs x1.toNatClampNeg) &&& 15) = 3
            · have hF := ifp hF c_29
              refine lv_tableIn (tgt := 253) (off := 214) hx hb d_law_39 (by rw [c_29]; decide) (by rw [c_29]; decide) (by rw [c_29]; rfl) (by decide) ?_
              refine lv_aload_n hx hb d_law_253 rfl (lv_at hl 1 rfl) ?_
              obtain ⟨r30, h30, hF⟩ := b1E hF
              refine callVI2 (As := []) X (ct_Forge_why l dC dI ad cA H.size h30) lk_Law_55 ⟨rfl, rfl, Nat.le_of_ble_eq_true rfl, Nat.le_of_ble_eq_true rfl⟩ ⟨hcC0, hcS0⟩ 10 rfl rfl hP hD hS hl.1 rfl rfl (Nat.le_of_ble_eq_true rfl) d_law_254 (fun H locs hP hD hS => ?_)
              refine lv_aload_n hx hb d_law_257 rfl (lv_at hl 2 rfl) ?_
              obtain ⟨r31, u31, h31, hF⟩ := b2E hF
              refine callVI2 (As := []) X (ct_Model_why l dC dI ad cA H.size h31) lk_Law_58 ⟨rfl, rfl, Nat.le_of_ble_eq_true rfl, Nat.le_of_ble_eq_true rfl⟩ ⟨hcC0, hcS0⟩ 11 rfl rfl hP hD hS hl.1 rfl rfl (Nat.le_of_ble_eq_true rfl) d_law_258 (fun H locs hP hD hS => ?_)
              refine lv_icmp_eq (tgt := 443) hx hb d_law_261 (by decide) (fun c_32 => ?_) (fun c_32 => ?_)
              · have hF := ifp hF c_32
                refine lv_iinc (v := (x1 + 4)) (lv' := [(4, .int (x1 + 4)), (0, .ref b), (1, .ref (ad 10)), (2, .ref (ad 11)), (3, .ref (ad 59))]) hx hb d_law_443 hl (k := 4) rfl rfl (by decide) rfl (fun ls hl => ?_)
                refine lv_goto (tgt := 23) hx hb d_law_446 (by decide) ?_
                refine W.widen (k := C + 1) (n := S + 6) (by omega) (by omega) ?_
                exact ihn (C + 1) (S + 6) u31 (x1 + 4) H locs ls (by omega) (by omega) hF hP hD hS (lv_sub hl [1, 2, 3, 4, 0] rfl)
              · have hF := ifn hF c_32
                refine lv_iconst (v := 0) hx hb d_law_264 (by decide) ?_
                cases hF
            · have hF := ifn hF c_29
              by_cases c_33 : ((xs x1.toNatClampNeg) &&& 15) = 4
              · have hF := ifp hF c_33
                refine lv_tableIn (tgt := 266) (off := 227) hx hb d_law_39 (by rw [c_33]; decide) (by rw [c_33]; decide) (by rw [c_33]; rfl) (by decide) ?_
                refine lv_aload_n hx hb d_law_266 rfl (lv_at hl 1 rfl) ?_
                obtain ⟨r34, h34, hF⟩ := b1E hF
                refine callVI2 (As := []) X (ct_Forge_where l dC dI ad cA H.size h34) lk_Law_59 ⟨rfl, rfl, Nat.le_of_ble_eq_true rfl, Nat.le_of_ble_eq_true rfl⟩ ⟨hcC0, hcS0⟩ 10 rfl rfl hP hD hS hl.1 rfl rfl (Nat.le_of_ble_eq_true rfl) d_law_267 (fun H locs hP hD hS => ?_)
                refine lv_aload_n hx hb d_law_270 rfl (lv_at hl 2 rfl) ?_
                obtain ⟨r35, u35, h35, hF⟩ := b2E hF
                refine callVI2 (As := []) X (ct_Model_where l dC dI ad cA H.size h35) lk_Law_62 ⟨rfl, rfl, Nat.le_of_ble_eq_true rfl, Nat.le_of_ble_eq_true rfl⟩ ⟨hcC0, hcS0⟩ 11 rfl rfl hP hD hS hl.1 rfl rfl (Nat.le_of_ble_eq_true rfl) d_law_271 (fun H locs hP hD hS => ?_)
                refine lv_icmp_eq (tgt := 443) hx hb d_law_274 (by decide) (fun c_36 => ?_) (fun c_36 => ?_)
                · have hF := ifp hF c_36
                  refine lv_iinc (v := (x1 + 4)) (lv' := [(4, .int (x1 + 4)), (0, .ref b), (1, .ref (ad 10)), (2, .ref (ad 11)), (3, .ref (ad 59))]) hx hb d_law_443 hl (k := 4) rfl rfl (by decide) rfl (fun ls hl => ?_)
                  refine lv_goto (tgt := 23) hx hb d_law_446 (by decide) ?_
                  refine W.widen (k := C + 1) (n := S + 6) (by omega) (by omega) ?_
                  exact ihn (C + 1) (S + 6) u35 (x1 + 4) H locs ls (by omega) (by omega) hF hP hD hS (lv_sub hl [1, 2, 3, 4, 0] rfl)
                · have hF := ifn hF c_36
                  refine lv_iconst (v := 0) hx hb d_law_277 (by decide) ?_
                  cases hF
              · have hF := ifn hF c_33
                by_cases c_37 : ((xs x1.toNatClampNeg) &&& 15) = 5
                · have hF := ifp hF c_37
                  refine lv_tableIn (tgt := 279) (off := 240) hx hb d_law_39 (by rw [c_37]; decide) (by rw [c_37]; decide) (by rw [c_37]; rfl) (by decide) ?_
                  refine lv_aload_n hx hb d_law_279 rfl (lv_at hl 1 rfl) ?_
                  refine lv_aload_n hx hb d_law_280 rfl (lv_at hl 0 rfl) ?_
                  refine lv_iload hx hb d_law_281 (lv_at hl 4 rfl) ?_
                  refine lv_iconst (v := 1) hx hb d_law_283 (by decide) ?_
                  refine lv_iadd hx hb d_law_284 ?_
                  obtain ⟨g_38, hF⟩ := gdE hF
                  refine va_sld hx hb hX hbl hbA hS (inE g_38) d_law_285 ?_
                  refine lv_aload_n hx hb d_law_286 rfl (lv_at hl 3 rfl) ?_
                  obtain ⟨r39, u39, h39, hF⟩ := b2E hF
                  refine callSH (As := [.ref (ad 10), .int (xs (x1 + 1).toNatClampNeg), .ref (ad 59)]) X hS0 hNc (ct_Law_give l htr dC dI ad cA H.size h39) lk_Law_63 ⟨rfl, rfl, Nat.le_of_ble_eq_true rfl, Nat.le_of_ble_eq_true rfl⟩ ⟨hcC, hcS⟩ hP hD hS hl.1 rfl rfl (Nat.le_of_ble_eq_true rfl) d_law_287 (fun H locs hP hD hS => ?_)
                  refine lv_istore (lv' := [(5, .int r39), (0, .ref b), (1, .ref (ad 10)), (2, .ref (ad 11)), (3, .ref (ad 59)), (4, .int x1)]) hx hb d_law_290 hl (by decide) rfl (fun ls hl => ?_)
                  refine lv_aload_n hx hb d_law_292 rfl (lv_at hl 3 rfl) ?_
                  refine lv_aload_n hx hb d_law_293 rfl (lv_at hl 1 rfl) ?_
                  refine lv_iload hx hb d_law_294 (lv_at hl 5 rfl) ?_
                  refine lv_iconst (v := 1) hx hb d_law_296 (by decide) ?_
                  refine lv_iadd hx hb d_law_297 ?_
                  obtain ⟨g_40, hF⟩ := gdE hF
                  refine va_sld hx hb hX hbl hbA hS (inE g_40) d_law_298 ?_
                  obtain ⟨r41, u41, h41, hF⟩ := b2E hF
                  refine callVI2 (As := [.int (xs (x1 + 1).toNatClampNeg)]) X (ct_Model_give l dC dI ad cA H.size h41) lk_Law_66 ⟨rfl, rfl, Nat.le_of_ble_eq_true rfl, Nat.le_of_ble_eq_true rfl⟩ ⟨hcC, hcS⟩ 11 rfl rfl hP hD hS hl.1 rfl rfl (Nat.le_of_ble_eq_true rfl) d_law_299 (fun H locs hP hD hS => ?_)
                  refine lv_istore (lv' := [(6, .int r41), (5, .int r39), (0, .ref b), (1, .ref (ad 10)), (2, .ref (ad 11)), (3, .ref (ad 59)), (4, .int x1)]) hx hb d_law_302 hl (by decide) rfl (fun ls hl => ?_)
                  refine lv_aload_n hx hb d_law_304 rfl (lv_at hl 4 rfl) ?_
                  obtain ⟨r42, h42, hF⟩ := b1E hF
                  refine callVI2 (As := []) X (ct_Model_thrown l dC dI ad cA H.size h42) lk_Law_44 ⟨rfl, rfl, Nat.le_of_ble_eq_true rfl, Nat.le_of_ble_eq_true rfl⟩ ⟨hcC, hcS⟩ 11 rfl rfl hP hD hS hl.1 rfl rfl (Nat.le_of_ble_eq_true rfl) d_law_305 (fun H locs hP hD hS => ?_)
                  refine lv_iload hx hb d_law_308 (lv_at hl 1 rfl) ?_
                  refine lv_icmp_eq (tgt := 315) hx hb d_law_310 (by decide) (fun c_43 => ?_) (fun c_43 => ?_)
                  · have hF := ifp hF c_43
                    refine lv_iload hx hb d_law_315 (lv_at hl 1 rfl) ?_
                    refine lv_if_ne (tgt := 332) hx hb d_law_317 (by decide) (fun c_44 => ?_) (fun c_44 => ?_)
                    · have hF := ifn hF c_44
                      refine lv_goto (tgt := 443) hx hb d_law_332 (by decide) ?_
                      refine lv_iinc (v := (x1 + 4)) (lv' := [(4, .int (x1 + 4)), (6, .int r41), (5, .int r39), (0, .ref b), (1, .ref (ad 10)), (2, .ref (ad 11)), (3, .ref (ad 59))]) hx hb d_law_443 hl (k := 6) rfl rfl (by decide) rfl (fun ls hl => ?_)
                      refine lv_goto (tgt := 23) hx hb d_law_446 (by decide) ?_
                      refine W.widen (k := C + 1) (n := S + 6) (by omega) (by omega) ?_
                      exact ihn (C + 1) (S + 6) u41 (x1 + 4) H locs ls (by omega) (by omega) hF hP hD hS (lv_sub hl [3, 4, 5, 6, 0] rfl)
                    · have hF := ifp hF c_44
                      refine lv_aload_n hx hb d_law_320 rfl (lv_at hl 5 rfl) ?_
                      refine lv_iconst (v := 0) hx hb d_law_321 (by decide) ?_
                      obtain ⟨g_45, hF⟩ := gdE hF
                      refine va_lald (f := (u41.2.2.2 3)) hx hb hK hP 59 1 rfl rfl (inE g_45) d_law_322 ?_
                      refine lv_iload hx hb d_law_323 (lv_at hl 0 rfl) ?_
                      refine lv_i2l (v := (r41 : Int32).toInt64) hx hb d_law_325 rfl ?_
                      refine W.lcmp hx hb d_law_326 ?_
                      refine lv_if_eq (tgt := 332) hx hb d_law_327 (by decide) (fun c_46 => ?_) (fun c_46 => ?_)
                      · have hF := ifp hF c_46
                        refine lv_goto (tgt := 443) hx hb d_law_332 (by decide) ?_
                        refine lv_iinc (v := (x1 + 4)) (lv' := [(4, .int (x1 + 4)), (6, .int r41), (5, .int r39), (0, .ref b), (1, .ref (ad 10)), (2, .ref (ad 11)), (3, .ref (ad 59))]) hx hb d_law_443 hl (k := 6) rfl rfl (by decide) rfl (fun ls hl => ?_)
                        refine lv_goto (tgt := 23) hx hb d_law_446 (by decide) ?_
                        refine W.widen (k := C + 1) (n := S + 6) (by omega) (by omega) ?_
                        exact ihn (C + 1) (S + 6) u41 (x1 + 4) H locs ls (by omega) (by omega) hF hP hD hS (lv_sub hl [3, 4, 5, 6, 0] rfl)
                      · have hF := ifn hF c_46
                        refine lv_iconst (v := 0) hx hb d_law_330 (by decide) ?_
                        cases hF
                  · have hF := ifn hF c_43
                    refine lv_iconst (v := 0) hx hb d_law_313 (by decide) ?_
                    cases hF
                · have hF := ifn hF c_37
                  by_cases c_47 : ((xs x1.toNatClampNeg) &&& 15) = 6
                  · have hF := ifp hF c_47
                    refine lv_tableIn (tgt := 335) (off := 296) hx hb d_law_39 (by rw [c_47]; decide) (by rw [c_47]; decide) (by rw [c_47]; rfl) (by decide) ?_
                    refine lv_aload_n hx hb d_law_335 rfl (lv_at hl 1 rfl) ?_
                    obtain ⟨r48, u48, h48, hF⟩ := b2E hF
                    refine callVI2 (As := []) X (ct_Forge_empty l dC dI ad cA H.size h48) lk_Law_67 ⟨rfl, rfl, Nat.le_of_ble_eq_true rfl, Nat.le_of_ble_eq_true rfl⟩ ⟨hcC0, hcS0⟩ 10 rfl rfl hP hD hS hl.1 rfl rfl (Nat.le_of_ble_eq_true rfl) d_law_336 (fun H locs hP hD hS => ?_)
                    refine lv_aload_n hx hb d_law_339 rfl (lv_at hl 2 rfl) ?_
                    obtain ⟨r49, u49, h49, hF⟩ := b2E hF
                    refine callVI2 (As := []) X (ct_Model_empty l dC dI ad cA H.size h49) lk_Law_70 ⟨rfl, rfl, Nat.le_of_ble_eq_true rfl, Nat.le_of_ble_eq_true rfl⟩ ⟨hcC0, hcS0⟩ 11 rfl rfl hP hD hS hl.1 rfl rfl (Nat.le_of_ble_eq_true rfl) d_law_340 (fun H locs hP hD hS => ?_)
                    refine lv_icmp_eq (tgt := 443) hx hb d_law_343 (by decide) (fun c_50 => ?_) (fun c_50 => ?_)
                    · have hF := ifp hF c_50
                      refine lv_iinc (v := (x1 + 4)) (lv' := [(4, .int (x1 + 4)), (0, .ref b), (1, .ref (ad 10)), (2, .ref (ad 11)), (3, .ref (ad 59))]) hx hb d_law_443 hl (k := 4) rfl rfl (by decide) rfl (fun ls hl => ?_)
                      refine lv_goto (tgt := 23) hx hb d_law_446 (by decide) ?_
                      refine W.widen (k := C + 1) (n := S + 6) (by omega) (by omega) ?_
                      exact ihn (C + 1) (S + 6) u49 (x1 + 4) H locs ls (by omega) (by omega) hF hP hD hS (lv_sub hl [1, 2, 3, 4, 0] rfl)
                    · have hF := ifn hF c_50
                      refine lv_iconst (v := 0) hx hb d_law_346 (by decide) ?_
                      cases hF
                  · have hF := ifn hF c_47
                    by_cases c_51 : ((xs x1.toNatClampNeg) &&& 15) = 7
                    · have hF := ifp hF c_51
                      refine lv_tableIn (tgt := 348) (off := 309) hx hb d_law_39 (by rw [c_51]; decide) (by rw [c_51]; decide) (by rw [c_51]; rfl) (by decide) ?_
                      refine lv_aload_n hx hb d_law_348 rfl (lv_at hl 1 rfl) ?_
                      refine lv_aload_n hx hb d_law_349 rfl (lv_at hl 3 rfl) ?_
                      obtain ⟨r52, u52, h52, hF⟩ := b2E hF
                      refine callSH (As := [.ref (ad 10), .ref (ad 59)]) X hS0 hNc (ct_Law_run l htr dC dI ad cA H.size h52) lk_Law_71 ⟨rfl, rfl, Nat.le_of_ble_eq_true rfl, Nat.le_of_ble_eq_true rfl⟩ ⟨hcC, hcS⟩ hP hD hS hl.1 rfl rfl (Nat.le_of_ble_eq_true rfl) d_law_350 (fun H locs hP hD hS => ?_)
                      refine lv_istore (lv' := [(5, .int r52), (0, .ref b), (1, .ref (ad 10)), (2, .ref (ad 11)), (3, .ref (ad 59)), (4, .int x1)]) hx hb d_law_353 hl (by decide) rfl (fun ls hl => ?_)
                      refine lv_aload_n hx hb d_law_355 rfl (lv_at hl 3 rfl) ?_
                      obtain ⟨r53, u53, h53, hF⟩ := b2E hF
                      refine callVI2 (As := []) X (ct_Model_run l dC dI ad cA H.size h53) lk_Law_73 ⟨rfl, rfl, Nat.le_of_ble_eq_true rfl, Nat.le_of_ble_eq_true rfl⟩ ⟨hcC, hcS⟩ 11 rfl rfl hP hD hS hl.1 rfl rfl (Nat.le_of_ble_eq_true rfl) d_law_356 (fun H locs hP hD hS => ?_)
                      refine lv_istore (lv' := [(6, .int r53), (5, .int r52), (0, .ref b), (1, .ref (ad 10)), (2, .ref (ad 11)), (3, .ref (ad 59)), (4, .int x1)]) hx hb d_law_359 hl (by decide) rfl (fun ls hl => ?_)
                      refine lv_aload_n hx hb d_law_361 rfl (lv_at hl 4 rfl) ?_
                      obtain ⟨r54, h54, hF⟩ := b1E hF
                      refine callVI2 (As := []) X (ct_Model_thrown l dC dI ad cA H.size h54) lk_Law_44 ⟨rfl, rfl, Nat.le_of_ble_eq_true rfl, Nat.le_of_ble_eq_true rfl⟩ ⟨hcC, hcS⟩ 11 rfl rfl hP hD hS hl.1 rfl rfl (Nat.le_of_ble_eq_true rfl) d_law_362 (fun H locs hP hD hS => ?_)
                      refine lv_iload hx hb d_law_365 (lv_at hl 1 rfl) ?_
                      refine lv_icmp_eq (tgt := 372) hx hb d_law_367 (by decide) (fun c_55 => ?_) (fun c_55 => ?_)
                      · have hF := ifp hF c_55
                        refine lv_iload hx hb d_law_372 (lv_at hl 1 rfl) ?_
                        refine lv_if_ne (tgt := 389) hx hb d_law_374 (by decide) (fun c_56 => ?_) (fun c_56 => ?_)
                        · have hF := ifn hF c_56
                          refine lv_goto (tgt := 443) hx hb d_law_389 (by decide) ?_
                          refine lv_iinc (v := (x1 + 4)) (lv' := [(4, .int (x1 + 4)), (6, .int r53), (5, .int r52), (0, .ref b), (1, .ref (ad 10)), (2, .ref (ad 11)), (3, .ref (ad 59))]) hx hb d_law_443 hl (k := 6) rfl rfl (by decide) rfl (fun ls hl => ?_)
                          refine lv_goto (tgt := 23) hx hb d_law_446 (by decide) ?_
                          refine W.widen (k := C + 1) (n := S + 6) (by omega) (by omega) ?_
                          exact ihn (C + 1) (S + 6) u53 (x1 + 4) H locs ls (by omega) (by omega) hF hP hD hS (lv_sub hl [3, 4, 5, 6, 0] rfl)
                        · have hF := ifp hF c_56
                          refine lv_aload_n hx hb d_law_377 rfl (lv_at hl 5 rfl) ?_
                          refine lv_iconst (v := 0) hx hb d_law_378 (by decide) ?_
                          obtain ⟨g_57, hF⟩ := gdE hF
                          refine va_lald (f := (u53.2.2.2 3)) hx hb hK hP 59 1 rfl rfl (inE g_57) d_law_379 ?_
                          refine lv_iload hx hb d_law_380 (lv_at hl 0 rfl) ?_
                          refine lv_i2l (v := (r53 : Int32).toInt64) hx hb d_law_382 rfl ?_
                          refine W.lcmp hx hb d_law_383 ?_
                          refine lv_if_eq (tgt := 389) hx hb d_law_384 (by decide) (fun c_58 => ?_) (fun c_58 => ?_)
                          · have hF := ifp hF c_58
                            refine lv_goto (tgt := 443) hx hb d_law_389 (by decide) ?_
                            refine lv_iinc (v := (x1 + 4)) (lv' := [(4, .int (x1 + 4)), (6, .int r53), (5, .int r52), (0, .ref b), (1, .ref (ad 10)), (2, .ref (ad 11)), (3, .ref (ad 59))]) hx hb d_law_443 hl (k := 6) rfl rfl (by decide) rfl (fun ls hl => ?_)
                            refine lv_goto (tgt := 23) hx hb d_law_446 (by decide) ?_
                            refine W.widen (k := C + 1) (n := S + 6) (by omega) (by omega) ?_
                            exact ihn (C + 1) (S + 6) u53 (x1 + 4) H locs ls (by omega) (by omega) hF hP hD hS (lv_sub hl [3, 4, 5, 6, 0] rfl)
                          · have hF := ifn hF c_58
                            refine lv_iconst (v := 0) hx hb d_law_387 (by decide) ?_
                            cases hF
                      · have hF := ifn hF c_55
                        refine lv_iconst (v := 0) hx hb d_law_370 (by decide) ?_
                        cases hF
                    · have hF := ifn hF c_51
                      by_cases c_59 : ((xs x1.toNatClampNeg) &&& 15) = 8
                      · have hF := ifp hF c_59
                        refine lv_tableIn (tgt := 392) (off := 353) hx hb d_law_39 (by rw [c_59]; decide) (by rw [c_59]; decide) (by rw [c_59]; rfl) (by decide) ?_
                        refine lv_aload_n hx hb d_law_392 rfl (lv_at hl 1 rfl) ?_
                        obtain ⟨r60, h60, hF⟩ := b1E hF
                        refine callVI2 (As := []) X (ct_Forge_result l dC dI ad cA H.size h60) lk_Law_74 ⟨rfl, rfl, Nat.le_of_ble_eq_true rfl, Nat.le_of_ble_eq_true rfl⟩ ⟨hcC0, hcS0⟩ 10 rfl rfl hP hD hS hl.1 rfl rfl (Nat.le_of_ble_eq_true rfl) d_law_393 (fun H locs hP hD hS => ?_)
                        refine lv_aload_n hx hb d_law_396 rfl (lv_at hl 2 rfl) ?_
                        obtain ⟨r61, u61, h61, hF⟩ := b2E hF
                        refine callVI2 (As := []) X (ct_Model_result l dC dI ad cA H.size h61) lk_Law_77 ⟨rfl, rfl, Nat.le_of_ble_eq_true rfl, Nat.le_of_ble_eq_true rfl⟩ ⟨hcC0, hcS0⟩ 11 rfl rfl hP hD hS hl.1 rfl rfl (Nat.le_of_ble_eq_true rfl) d_law_397 (fun H locs hP hD hS => ?_)
                        refine lv_icmp_eq (tgt := 443) hx hb d_law_400 (by decide) (fun c_62 => ?_) (fun c_62 => ?_)
                        · have hF := ifp hF c_62
                          refine lv_iinc (v := (x1 + 4)) (lv' := [(4, .int (x1 + 4)), (0, .ref b), (1, .ref (ad 10)), (2, .ref (ad 11)), (3, .ref (ad 59))]) hx hb d_law_443 hl (k := 4) rfl rfl (by decide) rfl (fun ls hl => ?_)
                          refine lv_goto (tgt := 23) hx hb d_law_446 (by decide) ?_
                          refine W.widen (k := C + 1) (n := S + 6) (by omega) (by omega) ?_
                          exact ihn (C + 1) (S + 6) u61 (x1 + 4) H locs ls (by omega) (by omega) hF hP hD hS (lv_sub hl [1, 2, 3, 4, 0] rfl)
                        · have hF := ifn hF c_62
                          refine lv_iconst (v := 0) hx hb d_law_403 (by decide) ?_
                          cases hF
                      · have hF := ifn hF c_59
                        by_cases c_63 : ((xs x1.toNatClampNeg) &&& 15) = 9
                        · have hF := ifp hF c_63
                          refine lv_tableIn (tgt := 405) (off := 366) hx hb d_law_39 (by rw [c_63]; decide) (by rw [c_63]; decide) (by rw [c_63]; rfl) (by decide) ?_
                          refine lv_aload_n hx hb d_law_405 rfl (lv_at hl 1 rfl) ?_
                          refine lv_aload_n hx hb d_law_406 rfl (lv_at hl 0 rfl) ?_
                          refine lv_iload hx hb d_law_407 (lv_at hl 4 rfl) ?_
                          refine lv_iconst (v := 1) hx hb d_law_409 (by decide) ?_
                          refine lv_iadd hx hb d_law_410 ?_
                          obtain ⟨g_64, hF⟩ := gdE hF
                          refine va_sld hx hb hX hbl hbA hS (inE g_64) d_law_411 ?_
                          obtain ⟨r65, h65, hF⟩ := b1E hF
                          refine callVI2 (As := [.int (xs (x1 + 1).toNatClampNeg)]) X (ct_Forge_output l dC dI ad cA H.size h65) lk_Law_78 ⟨rfl, rfl, Nat.le_of_ble_eq_true rfl, Nat.le_of_ble_eq_true rfl⟩ ⟨hcC0, hcS0⟩ 10 rfl rfl hP hD hS hl.1 rfl rfl (Nat.le_of_ble_eq_true rfl) d_law_412 (fun H locs hP hD hS => ?_)
                          refine lv_aload_n hx hb d_law_415 rfl (lv_at hl 2 rfl) ?_
                          refine lv_aload_n hx hb d_law_416 rfl (lv_at hl 0 rfl) ?_
                          refine lv_iload hx hb d_law_417 (lv_at hl 4 rfl) ?_
                          refine lv_iconst (v := 1) hx hb d_law_419 (by decide) ?_
                          refine lv_iadd hx hb d_law_420 ?_
                          obtain ⟨g_66, hF⟩ := gdE hF
                          refine va_sld hx hb hX hbl hbA hS (inE g_66) d_law_421 ?_
                          obtain ⟨r67, u67, h67, hF⟩ := b2E hF
                          refine callVI2 (As := [.int (xs (x1 + 1).toNatClampNeg)]) X (ct_Model_output l dC dI ad cA H.size h67) lk_Law_81 ⟨rfl, rfl, Nat.le_of_ble_eq_true rfl, Nat.le_of_ble_eq_true rfl⟩ ⟨hcC0, hcS0⟩ 11 rfl rfl hP hD hS hl.1 rfl rfl (Nat.le_of_ble_eq_true rfl) d_law_422 (fun H locs hP hD hS => ?_)
                          refine lv_icmp_eq (tgt := 443) hx hb d_law_425 (by decide) (fun c_68 => ?_) (fun c_68 => ?_)
                          · have hF := ifp hF c_68
                            refine lv_iinc (v := (x1 + 4)) (lv' := [(4, .int (x1 + 4)), (0, .ref b), (1, .ref (ad 10)), (2, .ref (ad 11)), (3, .ref (ad 59))]) hx hb d_law_443 hl (k := 4) rfl rfl (by decide) rfl (fun ls hl => ?_)
                            refine lv_goto (tgt := 23) hx hb d_law_446 (by decide) ?_
                            refine W.widen (k := C + 1) (n := S + 6) (by omega) (by omega) ?_
                            exact ihn (C + 1) (S + 6) u67 (x1 + 4) H locs ls (by omega) (by omega) hF hP hD hS (lv_sub hl [1, 2, 3, 4, 0] rfl)
                          · have hF := ifn hF c_68
                            refine lv_iconst (v := 0) hx hb d_law_428 (by decide) ?_
                            cases hF
                        · have hF := ifn hF c_63
                          by_cases c_69 : ((xs x1.toNatClampNeg) &&& 15) = 10
                          · have hF := ifp hF c_69
                            refine lv_tableIn (tgt := 430) (off := 391) hx hb d_law_39 (by rw [c_69]; decide) (by rw [c_69]; decide) (by rw [c_69]; rfl) (by decide) ?_
                            refine lv_aload_n hx hb d_law_430 rfl (lv_at hl 1 rfl) ?_
                            obtain ⟨r70, h70, hF⟩ := b1E hF
                            refine callVI2 (As := []) X (ct_Forge_ticks l dC dI ad cA H.size h70) lk_Law_82 ⟨rfl, rfl, Nat.le_of_ble_eq_true rfl, Nat.le_of_ble_eq_true rfl⟩ ⟨hcC0, hcS0⟩ 10 rfl rfl hP hD hS hl.1 rfl rfl (Nat.le_of_ble_eq_true rfl) d_law_431 (fun H locs hP hD hS => ?_)
                            refine lv_aload_n hx hb d_law_434 rfl (lv_at hl 2 rfl) ?_
                            obtain ⟨r71, u71, h71, hF⟩ := b2E hF
                            refine callVI2 (As := []) X (ct_Model_ticks l dC dI ad cA H.size h71) lk_Law_85 ⟨rfl, rfl, Nat.le_of_ble_eq_true rfl, Nat.le_of_ble_eq_true rfl⟩ ⟨hcC0, hcS0⟩ 11 rfl rfl hP hD hS hl.1 rfl rfl (Nat.le_of_ble_eq_true rfl) d_law_435 (fun H locs hP hD hS => ?_)
                            refine lv_icmp_eq (tgt := 443) hx hb d_law_438 (by decide) (fun c_72 => ?_) (fun c_72 => ?_)
                            · have hF := ifp hF c_72
                              refine lv_iinc (v := (x1 + 4)) (lv' := [(4, .int (x1 + 4)), (0, .ref b), (1, .ref (ad 10)), (2, .ref (ad 11)), (3, .ref (ad 59))]) hx hb d_law_443 hl (k := 4) rfl rfl (by decide) rfl (fun ls hl => ?_)
                              refine lv_goto (tgt := 23) hx hb d_law_446 (by decide) ?_
                              refine W.widen (k := C + 1) (n := S + 6) (by omega) (by omega) ?_
                              exact ihn (C + 1) (S + 6) u71 (x1 + 4) H locs ls (by omega) (by omega) hF hP hD hS (lv_sub hl [1, 2, 3, 4, 0] rfl)
                            · have hF := ifn hF c_72
                              refine lv_iconst (v := 0) hx hb d_law_441 (by decide) ?_
                              cases hF
                          · have hF := ifn hF c_69
                            refine lv_tableOut (tgt := 443) hx hb d_law_39 (by have hc_3 := lv_neT (a := 0) c_3 (by decide); have hc_17 := lv_neT (a := 1) c_17 (by decide); have hc_21 := lv_neT (a := 2) c_21 (by decide); have hc_29 := lv_neT (a := 3) c_29 (by decide); have hc_33 := lv_neT (a := 4) c_33 (by decide); have hc_37 := lv_neT (a := 5) c_37 (by decide); have hc_47 := lv_neT (a := 6) c_47 (by decide); have hc_51 := lv_neT (a := 7) c_51 (by decide); have hc_59 := lv_neT (a := 8) c_59 (by decide); have hc_63 := lv_neT (a := 9) c_63 (by decide); have hc_69 := lv_neT (a := 10) c_69 (by decide); omega) (by decide) ?_
                            refine lv_iinc (v := (x1 + 4)) (lv' := [(4, .int (x1 + 4)), (0, .ref b), (1, .ref (ad 10)), (2, .ref (ad 11)), (3, .ref (ad 59))]) hx hb d_law_443 hl (k := 4) rfl rfl (by decide) rfl (fun ls hl => ?_)
                            refine lv_goto (tgt := 23) hx hb d_law_446 (by decide) ?_
                            refine W.widen (k := C + 1) (n := S + 6) (by omega) (by omega) ?_
                            exact ihn (C + 1) (S + 6) σ (x1 + 4) H locs ls (by omega) (by omega) hF hP hD hS (lv_sub hl [1, 2, 3, 4, 0] rfl)
