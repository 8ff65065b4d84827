theorem d_law_law_0 : decode code 0 = .ok (.new 8, 3) := by decide +kernel
theorem d_law_law_3 : decode code 3 = .ok (.dup, 1) := by decide +kernel
theorem d_law_law_4 : decode code 4 = .ok (.invokespecial 55, 3) := by decide +kernel
theorem d_law_law_7 : decode code 7 = .ok (.astore_n 1, 1) := by decide +kernel
theorem d_law_law_8 : decode code 8 = .ok (.new 56, 3) := by decide +kernel
theorem d_law_law_11 : decode code 11 = .ok (.dup, 1) := by decide +kernel
theorem d_law_law_12 : decode code 12 = .ok (.invokespecial 58, 3) := by decide +kernel
theorem d_law_law_15 : decode code 15 = .ok (.astore_n 2, 1) := by decide +kernel
theorem d_law_law_16 : decode code 16 = .ok (.iconst 1, 1) := by decide +kernel
theorem d_law_law_17 : decode code 17 = .ok (.newarray .long, 2) := by decide +kernel
theorem d_law_law_19 : decode code 19 = .ok (.astore_n 3, 1) := by decide +kernel
theorem d_law_law_20 : decode code 20 = .ok (.iconst 0, 1) := by decide +kernel
theorem d_law_law_21 : decode code 21 = .ok (.istore 4, 2) := by decide +kernel
theorem d_law_law_23 : decode code 23 = .ok (.iload 4, 2) := by decide +kernel
theorem d_law_law_25 : decode code 25 = .ok (.aload_n 0, 1) := by decide +kernel
theorem d_law_law_26 : decode code 26 = .ok (.arraylength, 1) := by decide +kernel
theorem d_law_law_27 : decode code 27 = .ok (.bipush 7, 2) := by decide +kernel
theorem d_law_law_29 : decode code 29 = .ok (.isub, 1) := by decide +kernel
theorem d_law_law_30 : decode code 30 = .ok (.if_icmp .gt 949, 3) := by decide +kernel
theorem d_law_law_33 : decode code 33 = .ok (.aload_n 0, 1) := by decide +kernel
theorem d_law_law_34 : decode code 34 = .ok (.iload 4, 2) := by decide +kernel
theorem d_law_law_36 : decode code 36 = .ok (.iaload, 1) := by decide +kernel
theorem d_law_law_37 : decode code 37 = .ok (.bipush 15, 2) := by decide +kernel
theorem d_law_law_39 : decode code 39 = .ok (.iand, 1) := by decide +kernel
theorem d_law_law_40 : decode code 40 = .ok (.tableswitch 933 0 13 #[72, 176, 212, 225, 281, 435, 527, 590, 646, 714, 782, 850, 864, 877], 72) := by decide +kernel
theorem d_law_law_112 : decode code 112 = .ok (.aload_n 1, 1) := by decide +kernel
theorem d_law_law_113 : decode code 113 = .ok (.aload_n 0, 1) := by decide +kernel
theorem d_law_law_114 : decode code 114 = .ok (.iload 4, 2) := by decide +kernel
theorem d_law_law_116 : decode code 116 = .ok (.iconst 1, 1) := by decide +kernel
theorem d_law_law_117 : decode code 117 = .ok (.iadd, 1) := by decide +kernel
theorem d_law_law_118 : decode code 118 = .ok (.iaload, 1) := by decide +kernel
theorem d_law_law_119 : decode code 119 = .ok (.aload_n 0, 1) := by decide +kernel
theorem d_law_law_120 : decode code 120 = .ok (.iload 4, 2) := by decide +kernel
theorem d_law_law_122 : decode code 122 = .ok (.iconst 2, 1) := by decide +kernel
theorem d_law_law_123 : decode code 123 = .ok (.iadd, 1) := by decide +kernel
theorem d_law_law_124 : decode code 124 = .ok (.iaload, 1) := by decide +kernel
theorem d_law_law_125 : decode code 125 = .ok (.aload_n 0, 1) := by decide +kernel
theorem d_law_law_126 : decode code 126 = .ok (.iload 4, 2) := by decide +kernel
theorem d_law_law_128 : decode code 128 = .ok (.iconst 3, 1) := by decide +kernel
theorem d_law_law_129 : decode code 129 = .ok (.iadd, 1) := by decide +kernel
theorem d_law_law_130 : decode code 130 = .ok (.iaload, 1) := by decide +kernel
theorem d_law_law_131 : decode code 131 = .ok (.aload_n 0, 1) := by decide +kernel
theorem d_law_law_132 : decode code 132 = .ok (.iload 4, 2) := by decide +kernel
theorem d_law_law_134 : decode code 134 = .ok (.iconst 4, 1) := by decide +kernel
theorem d_law_law_135 : decode code 135 = .ok (.iadd, 1) := by decide +kernel
theorem d_law_law_136 : decode code 136 = .ok (.iaload, 1) := by decide +kernel
theorem d_law_law_137 : decode code 137 = .ok (.aload_n 0, 1) := by decide +kernel
theorem d_law_law_138 : decode code 138 = .ok (.iload 4, 2) := by decide +kernel
theorem d_law_law_140 : decode code 140 = .ok (.iconst 5, 1) := by decide +kernel
theorem d_law_law_141 : decode code 141 = .ok (.iadd, 1) := by decide +kernel
theorem d_law_law_142 : decode code 142 = .ok (.iaload, 1) := by decide +kernel
theorem d_law_law_143 : decode code 143 = .ok (.aload_n 3, 1) := by decide +kernel
theorem d_law_law_144 : decode code 144 = .ok (.invokestatic 59, 3) := by decide +kernel
theorem d_law_law_147 : decode code 147 = .ok (.istore 5, 2) := by decide +kernel
theorem d_law_law_149 : decode code 149 = .ok (.aload_n 2, 1) := by decide +kernel
theorem d_law_law_150 : decode code 150 = .ok (.aload_n 0, 1) := by decide +kernel
theorem d_law_law_151 : decode code 151 = .ok (.iload 4, 2) := by decide +kernel
theorem d_law_law_153 : decode code 153 = .ok (.iconst 1, 1) := by decide +kernel
theorem d_law_law_154 : decode code 154 = .ok (.iadd, 1) := by decide +kernel
theorem d_law_law_155 : decode code 155 = .ok (.iaload, 1) := by decide +kernel
theorem d_law_law_156 : decode code 156 = .ok (.aload_n 0, 1) := by decide +kernel
theorem d_law_law_157 : decode code 157 = .ok (.iload 4, 2) := by decide +kernel
theorem d_law_law_159 : decode code 159 = .ok (.iconst 2, 1) := by decide +kernel
theorem d_law_law_160 : decode code 160 = .ok (.iadd, 1) := by decide +kernel
theorem d_law_law_161 : decode code 161 = .ok (.iaload, 1) := by decide +kernel
theorem d_law_law_162 : decode code 162 = .ok (.aload_n 0, 1) := by decide +kernel
theorem d_law_law_163 : decode code 163 = .ok (.iload 4, 2) := by decide +kernel
theorem d_law_law_165 : decode code 165 = .ok (.iconst 3, 1) := by decide +kernel
theorem d_law_law_166 : decode code 166 = .ok (.iadd, 1) := by decide +kernel
theorem d_law_law_167 : decode code 167 = .ok (.iaload, 1) := by decide +kernel
theorem d_law_law_168 : decode code 168 = .ok (.aload_n 0, 1) := by decide +kernel
theorem d_law_law_169 : decode code 169 = .ok (.iload 4, 2) := by decide +kernel
theorem d_law_law_171 : decode code 171 = .ok (.iconst 4, 1) := by decide +kernel
theorem d_law_law_172 : decode code 172 = .ok (.iadd, 1) := by decide +kernel
theorem d_law_law_173 : decode code 173 = .ok (.iaload, 1) := by decide +kernel
theorem d_law_law_174 : decode code 174 = .ok (.aload_n 0, 1) := by decide +kernel
theorem d_law_law_175 : decode code 175 = .ok (.iload 4, 2) := by decide +kernel
theorem d_law_law_177 : decode code 177 = .ok (.iconst 5, 1) := by decide +kernel
theorem d_law_law_178 : decode code 178 = .ok (.iadd, 1) := by decide +kernel
theorem d_law_law_179 : decode code 179 = .ok (.iaload, 1) := by decide +kernel
theorem d_law_law_180 : decode code 180 = .ok (.invokevirtual 64, 3) := by decide +kernel
theorem d_law_law_183 : decode code 183 = .ok (.istore 6, 2) := by decide +kernel
theorem d_law_law_185 : decode code 185 = .ok (.aload_n 2, 1) := by decide +kernel
theorem d_law_law_186 : decode code 186 = .ok (.invokevirtual 65, 3) := by decide +kernel
theorem d_law_law_189 : decode code 189 = .ok (.iload 5, 2) := by decide +kernel
theorem d_law_law_191 : decode code 191 = .ok (.if_icmp .eq 5, 3) := by decide +kernel
theorem d_law_law_194 : decode code 194 = .ok (.iconst 0, 1) := by decide +kernel
theorem d_law_law_195 : decode code 195 = .ok (.ireturn, 1) := by decide +kernel
theorem d_law_law_196 : decode code 196 = .ok (.iload 5, 2) := by decide +kernel
theorem d_law_law_198 : decode code 198 = .ok (.ifCond .ne 15, 3) := by decide +kernel
theorem d_law_law_201 : decode code 201 = .ok (.aload_n 3, 1) := by decide +kernel
theorem d_law_law_202 : decode code 202 = .ok (.iconst 0, 1) := by decide +kernel
theorem d_law_law_203 : decode code 203 = .ok (.laload, 1) := by decide +kernel
theorem d_law_law_204 : decode code 204 = .ok (.iload 6, 2) := by decide +kernel
theorem d_law_law_206 : decode code 206 = .ok (.i2l, 1) := by decide +kernel
theorem d_law_law_207 : decode code 207 = .ok (.lcmp, 1) := by decide +kernel
theorem d_law_law_208 : decode code 208 = .ok (.ifCond .eq 5, 3) := by decide +kernel
theorem d_law_law_211 : decode code 211 = .ok (.iconst 0, 1) := by decide +kernel
theorem d_law_law_212 : decode code 212 = .ok (.ireturn, 1) := by decide +kernel
theorem d_law_law_213 : decode code 213 = .ok (.goto 760, 3) := by decide +kernel
theorem d_law_law_216 : decode code 216 = .ok (.aload_n 1, 1) := by decide +kernel
theorem d_law_law_217 : decode code 217 = .ok (.aload_n 0, 1) := by decide +kernel
theorem d_law_law_218 : decode code 218 = .ok (.iload 4, 2) := by decide +kernel
theorem d_law_law_220 : decode code 220 = .ok (.iconst 1, 1) := by decide +kernel
theorem d_law_law_221 : decode code 221 = .ok (.iadd, 1) := by decide +kernel
theorem d_law_law_222 : decode code 222 = .ok (.iaload, 1) := by decide +kernel
theorem d_law_law_223 : decode code 223 = .ok (.invokestatic 69, 3) := by decide +kernel
theorem d_law_law_226 : decode code 226 = .ok (.istore 5, 2) := by decide +kernel
theorem d_law_law_228 : decode code 228 = .ok (.aload_n 2, 1) := by decide +kernel
theorem d_law_law_229 : decode code 229 = .ok (.aload_n 0, 1) := by decide +kernel
theorem d_law_law_230 : decode code 230 = .ok (.iload 4, 2) := by decide +kernel
theorem d_law_law_232 : decode code 232 = .ok (.iconst 1, 1) := by decide +kernel
theorem d_law_law_233 : decode code 233 = .ok (.iadd, 1) := by decide +kernel
theorem d_law_law_234 : decode code 234 = .ok (.iaload, 1) := by decide +kernel
theorem d_law_law_235 : decode code 235 = .ok (.invokevirtual 72, 3) := by decide +kernel
theorem d_law_law_238 : decode code 238 = .ok (.aload_n 2, 1) := by decide +kernel
theorem d_law_law_239 : decode code 239 = .ok (.invokevirtual 65, 3) := by decide +kernel
theorem d_law_law_242 : decode code 242 = .ok (.iload 5, 2) := by decide +kernel
theorem d_law_law_244 : decode code 244 = .ok (.if_icmp .eq 5, 3) := by decide +kernel
theorem d_law_law_247 : decode code 247 = .ok (.iconst 0, 1) := by decide +kernel
theorem d_law_law_248 : decode code 248 = .ok (.ireturn, 1) := by decide +kernel
theorem d_law_law_249 : decode code 249 = .ok (.goto 724, 3) := by decide +kernel
theorem d_law_law_252 : decode code 252 = .ok (.aload_n 1, 1) := by decide +kernel
theorem d_law_law_253 : decode code 253 = .ok (.invokevirtual 73, 3) := by decide +kernel
theorem d_law_law_256 : decode code 256 = .ok (.aload_n 2, 1) := by decide +kernel
theorem d_law_law_257 : decode code 257 = .ok (.invokevirtual 76, 3) := by decide +kernel
theorem d_law_law_260 : decode code 260 = .ok (.if_icmp .eq 713, 3) := by decide +kernel
theorem d_law_law_263 : decode code 263 = .ok (.iconst 0, 1) := by decide +kernel
theorem d_law_law_264 : decode code 264 = .ok (.ireturn, 1) := by decide +kernel
theorem d_law_law_265 : decode code 265 = .ok (.aload_n 1, 1) := by decide +kernel
theorem d_law_law_266 : decode code 266 = .ok (.aload_n 0, 1) := by decide +kernel
theorem d_law_law_267 : decode code 267 = .ok (.iload 4, 2) := by decide +kernel
theorem d_law_law_269 : decode code 269 = .ok (.iconst 1, 1) := by decide +kernel
theorem d_law_law_270 : decode code 270 = .ok (.iadd, 1) := by decide +kernel
theorem d_law_law_271 : decode code 271 = .ok (.iaload, 1) := by decide +kernel
theorem d_law_law_272 : decode code 272 = .ok (.aload_n 3, 1) := by decide +kernel
theorem d_law_law_273 : decode code 273 = .ok (.invokestatic 77, 3) := by decide +kernel
theorem d_law_law_276 : decode code 276 = .ok (.istore 5, 2) := by decide +kernel
theorem d_law_law_278 : decode code 278 = .ok (.aload_n 2, 1) := by decide +kernel
theorem d_law_law_279 : decode code 279 = .ok (.aload_n 0, 1) := by decide +kernel
theorem d_law_law_280 : decode code 280 = .ok (.iload 4, 2) := by decide +kernel
theorem d_law_law_282 : decode code 282 = .ok (.iconst 1, 1) := by decide +kernel
theorem d_law_law_283 : decode code 283 = .ok (.iadd, 1) := by decide +kernel
theorem d_law_law_284 : decode code 284 = .ok (.iaload, 1) := by decide +kernel
theorem d_law_law_285 : decode code 285 = .ok (.invokevirtual 80, 3) := by decide +kernel
theorem d_law_law_288 : decode code 288 = .ok (.istore 6, 2) := by decide +kernel
theorem d_law_law_290 : decode code 290 = .ok (.aload_n 2, 1) := by decide +kernel
theorem d_law_law_291 : decode code 291 = .ok (.invokevirtual 65, 3) := by decide +kernel
theorem d_law_law_294 : decode code 294 = .ok (.iload 5, 2) := by decide +kernel
theorem d_law_law_296 : decode code 296 = .ok (.if_icmp .eq 5, 3) := by decide +kernel
theorem d_law_law_299 : decode code 299 = .ok (.iconst 0, 1) := by decide +kernel
theorem d_law_law_300 : decode code 300 = .ok (.ireturn, 1) := by decide +kernel
theorem d_law_law_301 : decode code 301 = .ok (.iload 5, 2) := by decide +kernel
theorem d_law_law_303 : decode code 303 = .ok (.ifCond .ne 15, 3) := by decide +kernel
theorem d_law_law_306 : decode code 306 = .ok (.aload_n 3, 1) := by decide +kernel
theorem d_law_law_307 : decode code 307 = .ok (.iconst 0, 1) := by decide +kernel
theorem d_law_law_308 : decode code 308 = .ok (.laload, 1) := by decide +kernel
theorem d_law_law_309 : decode code 309 = .ok (.iload 6, 2) := by decide +kernel
theorem d_law_law_311 : decode code 311 = .ok (.i2l, 1) := by decide +kernel
theorem d_law_law_312 : decode code 312 = .ok (.lcmp, 1) := by decide +kernel
theorem d_law_law_313 : decode code 313 = .ok (.ifCond .eq 5, 3) := by decide +kernel
theorem d_law_law_316 : decode code 316 = .ok (.iconst 0, 1) := by decide +kernel
theorem d_law_law_317 : decode code 317 = .ok (.ireturn, 1) := by decide +kernel
theorem d_law_law_318 : decode code 318 = .ok (.goto 655, 3) := by decide +kernel
theorem d_law_law_321 : decode code 321 = .ok (.aload_n 1, 1) := by decide +kernel
theorem d_law_law_322 : decode code 322 = .ok (.aload_n 0, 1) := by decide +kernel
theorem d_law_law_323 : decode code 323 = .ok (.iload 4, 2) := by decide +kernel
theorem d_law_law_325 : decode code 325 = .ok (.iconst 1, 1) := by decide +kernel
theorem d_law_law_326 : decode code 326 = .ok (.iadd, 1) := by decide +kernel
theorem d_law_law_327 : decode code 327 = .ok (.iaload, 1) := by decide +kernel
theorem d_law_law_328 : decode code 328 = .ok (.aload_n 0, 1) := by decide +kernel
theorem d_law_law_329 : decode code 329 = .ok (.iload 4, 2) := by decide +kernel
theorem d_law_law_331 : decode code 331 = .ok (.iconst 2, 1) := by decide +kernel
theorem d_law_law_332 : decode code 332 = .ok (.iadd, 1) := by decide +kernel
theorem d_law_law_333 : decode code 333 = .ok (.iaload, 1) := by decide +kernel
theorem d_law_law_334 : decode code 334 = .ok (.aload_n 0, 1) := by decide +kernel
theorem d_law_law_335 : decode code 335 = .ok (.iload 4, 2) := by decide +kernel
theorem d_law_law_337 : decode code 337 = .ok (.iconst 3, 1) := by decide +kernel
theorem d_law_law_338 : decode code 338 = .ok (.iadd, 1) := by decide +kernel
theorem d_law_law_339 : decode code 339 = .ok (.iaload, 1) := by decide +kernel
theorem d_law_law_340 : decode code 340 = .ok (.aload_n 0, 1) := by decide +kernel
theorem d_law_law_341 : decode code 341 = .ok (.iload 4, 2) := by decide +kernel
theorem d_law_law_343 : decode code 343 = .ok (.iconst 4, 1) := by decide +kernel
theorem d_law_law_344 : decode code 344 = .ok (.iadd, 1) := by decide +kernel
theorem d_law_law_345 : decode code 345 = .ok (.iaload, 1) := by decide +kernel
theorem d_law_law_346 : decode code 346 = .ok (.ifCond .eq 7, 3) := by decide +kernel
theorem d_law_law_349 : decode code 349 = .ok (.iconst 1, 1) := by decide +kernel
theorem d_law_law_350 : decode code 350 = .ok (.goto 4, 3) := by decide +kernel
theorem d_law_law_353 : decode code 353 = .ok (.iconst 0, 1) := by decide +kernel
theorem d_law_law_354 : decode code 354 = .ok (.aload_n 0, 1) := by decide +kernel
theorem d_law_law_355 : decode code 355 = .ok (.iload 4, 2) := by decide +kernel
theorem d_law_law_357 : decode code 357 = .ok (.iconst 5, 1) := by decide +kernel
theorem d_law_law_358 : decode code 358 = .ok (.iadd, 1) := by decide +kernel
theorem d_law_law_359 : decode code 359 = .ok (.iaload, 1) := by decide +kernel
theorem d_law_law_360 : decode code 360 = .ok (.i2l, 1) := by decide +kernel
theorem d_law_law_361 : decode code 361 = .ok (.bipush 32, 2) := by decide +kernel
theorem d_law_law_363 : decode code 363 = .ok (.lshl, 1) := by decide +kernel
theorem d_law_law_364 : decode code 364 = .ok (.aload_n 0, 1) := by decide +kernel
theorem d_law_law_365 : decode code 365 = .ok (.iload 4, 2) := by decide +kernel
theorem d_law_law_367 : decode code 367 = .ok (.bipush 6, 2) := by decide +kernel
theorem d_law_law_369 : decode code 369 = .ok (.iadd, 1) := by decide +kernel
theorem d_law_law_370 : decode code 370 = .ok (.iaload, 1) := by decide +kernel
theorem d_law_law_371 : decode code 371 = .ok (.i2l, 1) := by decide +kernel
theorem d_law_law_372 : decode code 372 = .ok (.ldc2_w 81, 3) := by decide +kernel
theorem d_law_law_375 : decode code 375 = .ok (.land, 1) := by decide +kernel
theorem d_law_law_376 : decode code 376 = .ok (.lor, 1) := by decide +kernel
theorem d_law_law_377 : decode code 377 = .ok (.aload_n 3, 1) := by decide +kernel
theorem d_law_law_378 : decode code 378 = .ok (.invokestatic 83, 3) := by decide +kernel
theorem d_law_law_381 : decode code 381 = .ok (.istore 5, 2) := by decide +kernel
theorem d_law_law_383 : decode code 383 = .ok (.aload_n 2, 1) := by decide +kernel
theorem d_law_law_384 : decode code 384 = .ok (.aload_n 0, 1) := by decide +kernel
theorem d_law_law_385 : decode code 385 = .ok (.iload 4, 2) := by decide +kernel
theorem d_law_law_387 : decode code 387 = .ok (.iconst 1, 1) := by decide +kernel
theorem d_law_law_388 : decode code 388 = .ok (.iadd, 1) := by decide +kernel
theorem d_law_law_389 : decode code 389 = .ok (.iaload, 1) := by decide +kernel
theorem d_law_law_390 : decode code 390 = .ok (.aload_n 0, 1) := by decide +kernel
theorem d_law_law_391 : decode code 391 = .ok (.iload 4, 2) := by decide +kernel
theorem d_law_law_393 : decode code 393 = .ok (.iconst 2, 1) := by decide +kernel
theorem d_law_law_394 : decode code 394 = .ok (.iadd, 1) := by decide +kernel
theorem d_law_law_395 : decode code 395 = .ok (.iaload, 1) := by decide +kernel
theorem d_law_law_396 : decode code 396 = .ok (.aload_n 0, 1) := by decide +kernel
theorem d_law_law_397 : decode code 397 = .ok (.iload 4, 2) := by decide +kernel
theorem d_law_law_399 : decode code 399 = .ok (.iconst 3, 1) := by decide +kernel
theorem d_law_law_400 : decode code 400 = .ok (.iadd, 1) := by decide +kernel
theorem d_law_law_401 : decode code 401 = .ok (.iaload, 1) := by decide +kernel
theorem d_law_law_402 : decode code 402 = .ok (.aload_n 0, 1) := by decide +kernel
theorem d_law_law_403 : decode code 403 = .ok (.iload 4, 2) := by decide +kernel
theorem d_law_law_405 : decode code 405 = .ok (.iconst 4, 1) := by decide +kernel
theorem d_law_law_406 : decode code 406 = .ok (.iadd, 1) := by decide +kernel
theorem d_law_law_407 : decode code 407 = .ok (.iaload, 1) := by decide +kernel
theorem d_law_law_408 : decode code 408 = .ok (.ifCond .eq 7, 3) := by decide +kernel
theorem d_law_law_411 : decode code 411 = .ok (.iconst 1, 1) := by decide +kernel
theorem d_law_law_412 : decode code 412 = .ok (.goto 4, 3) := by decide +kernel
theorem d_law_law_415 : decode code 415 = .ok (.iconst 0, 1) := by decide +kernel
theorem d_law_law_416 : decode code 416 = .ok (.aload_n 0, 1) := by decide +kernel
theorem d_law_law_417 : decode code 417 = .ok (.iload 4, 2) := by decide +kernel
theorem d_law_law_419 : decode code 419 = .ok (.iconst 5, 1) := by decide +kernel
theorem d_law_law_420 : decode code 420 = .ok (.iadd, 1) := by decide +kernel
theorem d_law_law_421 : decode code 421 = .ok (.iaload, 1) := by decide +kernel
theorem d_law_law_422 : decode code 422 = .ok (.i2l, 1) := by decide +kernel
theorem d_law_law_423 : decode code 423 = .ok (.bipush 32, 2) := by decide +kernel
theorem d_law_law_425 : decode code 425 = .ok (.lshl, 1) := by decide +kernel
theorem d_law_law_426 : decode code 426 = .ok (.aload_n 0, 1) := by decide +kernel
theorem d_law_law_427 : decode code 427 = .ok (.iload 4, 2) := by decide +kernel
theorem d_law_law_429 : decode code 429 = .ok (.bipush 6, 2) := by decide +kernel
theorem d_law_law_431 : decode code 431 = .ok (.iadd, 1) := by decide +kernel
theorem d_law_law_432 : decode code 432 = .ok (.iaload, 1) := by decide +kernel
theorem d_law_law_433 : decode code 433 = .ok (.i2l, 1) := by decide +kernel
theorem d_law_law_434 : decode code 434 = .ok (.ldc2_w 81, 3) := by decide +kernel
theorem d_law_law_437 : decode code 437 = .ok (.land, 1) := by decide +kernel
theorem d_law_law_438 : decode code 438 = .ok (.lor, 1) := by decide +kernel
theorem d_law_law_439 : decode code 439 = .ok (.invokevirtual 86, 3) := by decide +kernel
theorem d_law_law_442 : decode code 442 = .ok (.istore 6, 2) := by decide +kernel
theorem d_law_law_444 : decode code 444 = .ok (.aload_n 2, 1) := by decide +kernel
theorem d_law_law_445 : decode code 445 = .ok (.invokevirtual 65, 3) := by decide +kernel
theorem d_law_law_448 : decode code 448 = .ok (.iload 5, 2) := by decide +kernel
theorem d_law_law_450 : decode code 450 = .ok (.if_icmp .eq 5, 3) := by decide +kernel
theorem d_law_law_453 : decode code 453 = .ok (.iconst 0, 1) := by decide +kernel
theorem d_law_law_454 : decode code 454 = .ok (.ireturn, 1) := by decide +kernel
theorem d_law_law_455 : decode code 455 = .ok (.iload 5, 2) := by decide +kernel
theorem d_law_law_457 : decode code 457 = .ok (.ifCond .ne 15, 3) := by decide +kernel
theorem d_law_law_460 : decode code 460 = .ok (.aload_n 3, 1) := by decide +kernel
theorem d_law_law_461 : decode code 461 = .ok (.iconst 0, 1) := by decide +kernel
theorem d_law_law_462 : decode code 462 = .ok (.laload, 1) := by decide +kernel
theorem d_law_law_463 : decode code 463 = .ok (.iload 6, 2) := by decide +kernel
theorem d_law_law_465 : decode code 465 = .ok (.i2l, 1) := by decide +kernel
theorem d_law_law_466 : decode code 466 = .ok (.lcmp, 1) := by decide +kernel
theorem d_law_law_467 : decode code 467 = .ok (.ifCond .eq 5, 3) := by decide +kernel
theorem d_law_law_470 : decode code 470 = .ok (.iconst 0, 1) := by decide +kernel
theorem d_law_law_471 : decode code 471 = .ok (.ireturn, 1) := by decide +kernel
theorem d_law_law_472 : decode code 472 = .ok (.goto 501, 3) := by decide +kernel
theorem d_law_law_475 : decode code 475 = .ok (.aload_n 1, 1) := by decide +kernel
theorem d_law_law_476 : decode code 476 = .ok (.aload_n 0, 1) := by decide +kernel
theorem d_law_law_477 : decode code 477 = .ok (.iload 4, 2) := by decide +kernel
theorem d_law_law_479 : decode code 479 = .ok (.iconst 1, 1) := by decide +kernel
theorem d_law_law_480 : decode code 480 = .ok (.iadd, 1) := by decide +kernel
theorem d_law_law_481 : decode code 481 = .ok (.iaload, 1) := by decide +kernel
theorem d_law_law_482 : decode code 482 = .ok (.aload_n 0, 1) := by decide +kernel
theorem d_law_law_483 : decode code 483 = .ok (.iload 4, 2) := by decide +kernel
theorem d_law_law_485 : decode code 485 = .ok (.iconst 2, 1) := by decide +kernel
theorem d_law_law_486 : decode code 486 = .ok (.iadd, 1) := by decide +kernel
theorem d_law_law_487 : decode code 487 = .ok (.iaload, 1) := by decide +kernel
theorem d_law_law_488 : decode code 488 = .ok (.aload_n 0, 1) := by decide +kernel
theorem d_law_law_489 : decode code 489 = .ok (.iload 4, 2) := by decide +kernel
theorem d_law_law_491 : decode code 491 = .ok (.iconst 3, 1) := by decide +kernel
theorem d_law_law_492 : decode code 492 = .ok (.iadd, 1) := by decide +kernel
theorem d_law_law_493 : decode code 493 = .ok (.iaload, 1) := by decide +kernel
theorem d_law_law_494 : decode code 494 = .ok (.aload_n 0, 1) := by decide +kernel
theorem d_law_law_495 : decode code 495 = .ok (.iload 4, 2) := by decide +kernel
theorem d_law_law_497 : decode code 497 = .ok (.iconst 4, 1) := by decide +kernel
theorem d_law_law_498 : decode code 498 = .ok (.iadd, 1) := by decide +kernel
theorem d_law_law_499 : decode code 499 = .ok (.iaload, 1) := by decide +kernel
theorem d_law_law_500 : decode code 500 = .ok (.aload_n 3, 1) := by decide +kernel
theorem d_law_law_501 : decode code 501 = .ok (.invokestatic 87, 3) := by decide +kernel
theorem d_law_law_504 : decode code 504 = .ok (.istore 5, 2) := by decide +kernel
theorem d_law_law_506 : decode code 506 = .ok (.aload_n 2, 1) := by decide +kernel
theorem d_law_law_507 : decode code 507 = .ok (.aload_n 0, 1) := by decide +kernel
theorem d_law_law_508 : decode code 508 = .ok (.iload 4, 2) := by decide +kernel
theorem d_law_law_510 : decode code 510 = .ok (.iconst 1, 1) := by decide +kernel
