/-! ===== part 23: the law, case by case, and its loop: written by wip/whole/law.py ===== -/
def ML : mm_M := (RL, x, code, 4, ret, 100)
theorem dL_0 : decode (mm_cc ML) 0 = .ok (.new 7, 3) := by decide +kernel
theorem dL_3 : decode (mm_cc ML) 3 = .ok (.dup, 1) := by decide +kernel
theorem dL_4 : decode (mm_cc ML) 4 = .ok (.invokespecial 9, 3) := by decide +kernel
theorem dL_7 : decode (mm_cc ML) 7 = .ok (.astore_n 1, 1) := by decide +kernel
theorem dL_8 : decode (mm_cc ML) 8 = .ok (.new 10, 3) := by decide +kernel
theorem dL_11 : decode (mm_cc ML) 11 = .ok (.dup, 1) := by decide +kernel
theorem dL_12 : decode (mm_cc ML) 12 = .ok (.invokespecial 12, 3) := by decide +kernel
theorem dL_15 : decode (mm_cc ML) 15 = .ok (.astore_n 2, 1) := by decide +kernel
theorem dL_16 : decode (mm_cc ML) 16 = .ok (.iconst 0, 1) := by decide +kernel
theorem dL_17 : decode (mm_cc ML) 17 = .ok (.istore_n 3, 1) := by decide +kernel
theorem dL_18 : decode (mm_cc ML) 18 = .ok (.iload_n 3, 1) := by decide +kernel
theorem dL_19 : decode (mm_cc ML) 19 = .ok (.aload_n 0, 1) := by decide +kernel
theorem dL_20 : decode (mm_cc ML) 20 = .ok (.arraylength, 1) := by decide +kernel
theorem dL_21 : decode (mm_cc ML) 21 = .ok (.iconst 5, 1) := by decide +kernel
theorem dL_22 : decode (mm_cc ML) 22 = .ok (.isub, 1) := by decide +kernel
theorem dL_23 : decode (mm_cc ML) 23 = .ok (.if_icmp .gt 1001, 3) := by decide +kernel
theorem dL_26 : decode (mm_cc ML) 26 = .ok (.aload_n 0, 1) := by decide +kernel
theorem dL_27 : decode (mm_cc ML) 27 = .ok (.iload_n 3, 1) := by decide +kernel
theorem dL_28 : decode (mm_cc ML) 28 = .ok (.iaload, 1) := by decide +kernel
theorem dL_29 : decode (mm_cc ML) 29 = .ok (.bipush 31, 2) := by decide +kernel
theorem dL_31 : decode (mm_cc ML) 31 = .ok (.iand, 1) := by decide +kernel
theorem dL_32 : decode (mm_cc ML) 32 = .ok (.tableswitch 986 0 29 #[136, 199, 212, 225, 238, 261, 294, 327, 360, 393, 446, 479, 512, 535, 568, 611, 624, 657, 680, 703, 736, 759, 792, 815, 848, 891, 904, 917, 940, 963], 136) := by decide +kernel
theorem dL_168 : decode (mm_cc ML) 168 = .ok (.aload_n 1, 1) := by decide +kernel
theorem dL_169 : decode (mm_cc ML) 169 = .ok (.aload_n 0, 1) := by decide +kernel
theorem dL_170 : decode (mm_cc ML) 170 = .ok (.iload_n 3, 1) := by decide +kernel
theorem dL_171 : decode (mm_cc ML) 171 = .ok (.iconst 1, 1) := by decide +kernel
theorem dL_172 : decode (mm_cc ML) 172 = .ok (.iadd, 1) := by decide +kernel
theorem dL_173 : decode (mm_cc ML) 173 = .ok (.iaload, 1) := by decide +kernel
theorem dL_174 : decode (mm_cc ML) 174 = .ok (.aload_n 0, 1) := by decide +kernel
theorem dL_175 : decode (mm_cc ML) 175 = .ok (.iload_n 3, 1) := by decide +kernel
theorem dL_176 : decode (mm_cc ML) 176 = .ok (.iconst 2, 1) := by decide +kernel
theorem dL_177 : decode (mm_cc ML) 177 = .ok (.iadd, 1) := by decide +kernel
theorem dL_178 : decode (mm_cc ML) 178 = .ok (.iaload, 1) := by decide +kernel
theorem dL_179 : decode (mm_cc ML) 179 = .ok (.i2l, 1) := by decide +kernel
theorem dL_180 : decode (mm_cc ML) 180 = .ok (.bipush 32, 2) := by decide +kernel
theorem dL_182 : decode (mm_cc ML) 182 = .ok (.lshl, 1) := by decide +kernel
theorem dL_183 : decode (mm_cc ML) 183 = .ok (.aload_n 0, 1) := by decide +kernel
theorem dL_184 : decode (mm_cc ML) 184 = .ok (.iload_n 3, 1) := by decide +kernel
theorem dL_185 : decode (mm_cc ML) 185 = .ok (.iconst 3, 1) := by decide +kernel
theorem dL_186 : decode (mm_cc ML) 186 = .ok (.iadd, 1) := by decide +kernel
theorem dL_187 : decode (mm_cc ML) 187 = .ok (.iaload, 1) := by decide +kernel
theorem dL_188 : decode (mm_cc ML) 188 = .ok (.i2l, 1) := by decide +kernel
theorem dL_189 : decode (mm_cc ML) 189 = .ok (.ldc2_w 13, 3) := by decide +kernel
theorem dL_192 : decode (mm_cc ML) 192 = .ok (.land, 1) := by decide +kernel
theorem dL_193 : decode (mm_cc ML) 193 = .ok (.lor, 1) := by decide +kernel
theorem dL_194 : decode (mm_cc ML) 194 = .ok (.invokevirtual 15, 3) := by decide +kernel
theorem dL_197 : decode (mm_cc ML) 197 = .ok (.aload_n 2, 1) := by decide +kernel
theorem dL_198 : decode (mm_cc ML) 198 = .ok (.aload_n 0, 1) := by decide +kernel
theorem dL_199 : decode (mm_cc ML) 199 = .ok (.iload_n 3, 1) := by decide +kernel
theorem dL_200 : decode (mm_cc ML) 200 = .ok (.iconst 1, 1) := by decide +kernel
theorem dL_201 : decode (mm_cc ML) 201 = .ok (.iadd, 1) := by decide +kernel
theorem dL_202 : decode (mm_cc ML) 202 = .ok (.iaload, 1) := by decide +kernel
theorem dL_203 : decode (mm_cc ML) 203 = .ok (.aload_n 0, 1) := by decide +kernel
theorem dL_204 : decode (mm_cc ML) 204 = .ok (.iload_n 3, 1) := by decide +kernel
theorem dL_205 : decode (mm_cc ML) 205 = .ok (.iconst 2, 1) := by decide +kernel
theorem dL_206 : decode (mm_cc ML) 206 = .ok (.iadd, 1) := by decide +kernel
theorem dL_207 : decode (mm_cc ML) 207 = .ok (.iaload, 1) := by decide +kernel
theorem dL_208 : decode (mm_cc ML) 208 = .ok (.i2l, 1) := by decide +kernel
theorem dL_209 : decode (mm_cc ML) 209 = .ok (.bipush 32, 2) := by decide +kernel
theorem dL_211 : decode (mm_cc ML) 211 = .ok (.lshl, 1) := by decide +kernel
theorem dL_212 : decode (mm_cc ML) 212 = .ok (.aload_n 0, 1) := by decide +kernel
theorem dL_213 : decode (mm_cc ML) 213 = .ok (.iload_n 3, 1) := by decide +kernel
theorem dL_214 : decode (mm_cc ML) 214 = .ok (.iconst 3, 1) := by decide +kernel
theorem dL_215 : decode (mm_cc ML) 215 = .ok (.iadd, 1) := by decide +kernel
theorem dL_216 : decode (mm_cc ML) 216 = .ok (.iaload, 1) := by decide +kernel
theorem dL_217 : decode (mm_cc ML) 217 = .ok (.i2l, 1) := by decide +kernel
theorem dL_218 : decode (mm_cc ML) 218 = .ok (.ldc2_w 13, 3) := by decide +kernel
theorem dL_221 : decode (mm_cc ML) 221 = .ok (.land, 1) := by decide +kernel
theorem dL_222 : decode (mm_cc ML) 222 = .ok (.lor, 1) := by decide +kernel
theorem dL_223 : decode (mm_cc ML) 223 = .ok (.invokevirtual 19, 3) := by decide +kernel
theorem dL_226 : decode (mm_cc ML) 226 = .ok (.if_icmp .eq 792, 3) := by decide +kernel
theorem dL_229 : decode (mm_cc ML) 229 = .ok (.iconst 0, 1) := by decide +kernel
theorem dL_230 : decode (mm_cc ML) 230 = .ok (.ireturn, 1) := by decide +kernel
theorem dL_231 : decode (mm_cc ML) 231 = .ok (.aload_n 1, 1) := by decide +kernel
theorem dL_232 : decode (mm_cc ML) 232 = .ok (.invokevirtual 20, 3) := by decide +kernel
theorem dL_235 : decode (mm_cc ML) 235 = .ok (.aload_n 2, 1) := by decide +kernel
theorem dL_236 : decode (mm_cc ML) 236 = .ok (.invokevirtual 24, 3) := by decide +kernel
theorem dL_239 : decode (mm_cc ML) 239 = .ok (.if_icmp .eq 779, 3) := by decide +kernel
theorem dL_242 : decode (mm_cc ML) 242 = .ok (.iconst 0, 1) := by decide +kernel
theorem dL_243 : decode (mm_cc ML) 243 = .ok (.ireturn, 1) := by decide +kernel
theorem dL_244 : decode (mm_cc ML) 244 = .ok (.aload_n 1, 1) := by decide +kernel
theorem dL_245 : decode (mm_cc ML) 245 = .ok (.invokevirtual 25, 3) := by decide +kernel
theorem dL_248 : decode (mm_cc ML) 248 = .ok (.aload_n 2, 1) := by decide +kernel
theorem dL_249 : decode (mm_cc ML) 249 = .ok (.invokevirtual 28, 3) := by decide +kernel
theorem dL_252 : decode (mm_cc ML) 252 = .ok (.if_icmp .eq 766, 3) := by decide +kernel
theorem dL_255 : decode (mm_cc ML) 255 = .ok (.iconst 0, 1) := by decide +kernel
theorem dL_256 : decode (mm_cc ML) 256 = .ok (.ireturn, 1) := by decide +kernel
theorem dL_257 : decode (mm_cc ML) 257 = .ok (.aload_n 1, 1) := by decide +kernel
theorem dL_258 : decode (mm_cc ML) 258 = .ok (.invokevirtual 29, 3) := by decide +kernel
theorem dL_261 : decode (mm_cc ML) 261 = .ok (.aload_n 2, 1) := by decide +kernel
theorem dL_262 : decode (mm_cc ML) 262 = .ok (.invokevirtual 32, 3) := by decide +kernel
theorem dL_265 : decode (mm_cc ML) 265 = .ok (.if_icmp .eq 753, 3) := by decide +kernel
theorem dL_268 : decode (mm_cc ML) 268 = .ok (.iconst 0, 1) := by decide +kernel
theorem dL_269 : decode (mm_cc ML) 269 = .ok (.ireturn, 1) := by decide +kernel
theorem dL_270 : decode (mm_cc ML) 270 = .ok (.aload_n 1, 1) := by decide +kernel
theorem dL_271 : decode (mm_cc ML) 271 = .ok (.aload_n 0, 1) := by decide +kernel
theorem dL_272 : decode (mm_cc ML) 272 = .ok (.iload_n 3, 1) := by decide +kernel
theorem dL_273 : decode (mm_cc ML) 273 = .ok (.iconst 1, 1) := by decide +kernel
theorem dL_274 : decode (mm_cc ML) 274 = .ok (.iadd, 1) := by decide +kernel
theorem dL_275 : decode (mm_cc ML) 275 = .ok (.iaload, 1) := by decide +kernel
theorem dL_276 : decode (mm_cc ML) 276 = .ok (.invokevirtual 33, 3) := by decide +kernel
theorem dL_279 : decode (mm_cc ML) 279 = .ok (.aload_n 2, 1) := by decide +kernel
theorem dL_280 : decode (mm_cc ML) 280 = .ok (.aload_n 0, 1) := by decide +kernel
theorem dL_281 : decode (mm_cc ML) 281 = .ok (.iload_n 3, 1) := by decide +kernel
theorem dL_282 : decode (mm_cc ML) 282 = .ok (.iconst 1, 1) := by decide +kernel
theorem dL_283 : decode (mm_cc ML) 283 = .ok (.iadd, 1) := by decide +kernel
theorem dL_284 : decode (mm_cc ML) 284 = .ok (.iaload, 1) := by decide +kernel
theorem dL_285 : decode (mm_cc ML) 285 = .ok (.invokevirtual 37, 3) := by decide +kernel
theorem dL_288 : decode (mm_cc ML) 288 = .ok (.if_icmp .eq 730, 3) := by decide +kernel
theorem dL_291 : decode (mm_cc ML) 291 = .ok (.iconst 0, 1) := by decide +kernel
theorem dL_292 : decode (mm_cc ML) 292 = .ok (.ireturn, 1) := by decide +kernel
theorem dL_293 : decode (mm_cc ML) 293 = .ok (.aload_n 1, 1) := by decide +kernel
theorem dL_294 : decode (mm_cc ML) 294 = .ok (.aload_n 0, 1) := by decide +kernel
theorem dL_295 : decode (mm_cc ML) 295 = .ok (.iload_n 3, 1) := by decide +kernel
theorem dL_296 : decode (mm_cc ML) 296 = .ok (.iconst 1, 1) := by decide +kernel
theorem dL_297 : decode (mm_cc ML) 297 = .ok (.iadd, 1) := by decide +kernel
theorem dL_298 : decode (mm_cc ML) 298 = .ok (.iaload, 1) := by decide +kernel
theorem dL_299 : decode (mm_cc ML) 299 = .ok (.aload_n 0, 1) := by decide +kernel
theorem dL_300 : decode (mm_cc ML) 300 = .ok (.iload_n 3, 1) := by decide +kernel
theorem dL_301 : decode (mm_cc ML) 301 = .ok (.iconst 2, 1) := by decide +kernel
theorem dL_302 : decode (mm_cc ML) 302 = .ok (.iadd, 1) := by decide +kernel
theorem dL_303 : decode (mm_cc ML) 303 = .ok (.iaload, 1) := by decide +kernel
theorem dL_304 : decode (mm_cc ML) 304 = .ok (.invokevirtual 38, 3) := by decide +kernel
theorem dL_307 : decode (mm_cc ML) 307 = .ok (.aload_n 2, 1) := by decide +kernel
theorem dL_308 : decode (mm_cc ML) 308 = .ok (.aload_n 0, 1) := by decide +kernel
theorem dL_309 : decode (mm_cc ML) 309 = .ok (.iload_n 3, 1) := by decide +kernel
theorem dL_310 : decode (mm_cc ML) 310 = .ok (.iconst 1, 1) := by decide +kernel
theorem dL_311 : decode (mm_cc ML) 311 = .ok (.iadd, 1) := by decide +kernel
theorem dL_312 : decode (mm_cc ML) 312 = .ok (.iaload, 1) := by decide +kernel
theorem dL_313 : decode (mm_cc ML) 313 = .ok (.aload_n 0, 1) := by decide +kernel
theorem dL_314 : decode (mm_cc ML) 314 = .ok (.iload_n 3, 1) := by decide +kernel
theorem dL_315 : decode (mm_cc ML) 315 = .ok (.iconst 2, 1) := by decide +kernel
theorem dL_316 : decode (mm_cc ML) 316 = .ok (.iadd, 1) := by decide +kernel
theorem dL_317 : decode (mm_cc ML) 317 = .ok (.iaload, 1) := by decide +kernel
theorem dL_318 : decode (mm_cc ML) 318 = .ok (.invokevirtual 42, 3) := by decide +kernel
theorem dL_321 : decode (mm_cc ML) 321 = .ok (.if_icmp .eq 697, 3) := by decide +kernel
theorem dL_324 : decode (mm_cc ML) 324 = .ok (.iconst 0, 1) := by decide +kernel
theorem dL_325 : decode (mm_cc ML) 325 = .ok (.ireturn, 1) := by decide +kernel
theorem dL_326 : decode (mm_cc ML) 326 = .ok (.aload_n 1, 1) := by decide +kernel
theorem dL_327 : decode (mm_cc ML) 327 = .ok (.aload_n 0, 1) := by decide +kernel
theorem dL_328 : decode (mm_cc ML) 328 = .ok (.iload_n 3, 1) := by decide +kernel
theorem dL_329 : decode (mm_cc ML) 329 = .ok (.iconst 1, 1) := by decide +kernel
theorem dL_330 : decode (mm_cc ML) 330 = .ok (.iadd, 1) := by decide +kernel
theorem dL_331 : decode (mm_cc ML) 331 = .ok (.iaload, 1) := by decide +kernel
theorem dL_332 : decode (mm_cc ML) 332 = .ok (.aload_n 0, 1) := by decide +kernel
theorem dL_333 : decode (mm_cc ML) 333 = .ok (.iload_n 3, 1) := by decide +kernel
theorem dL_334 : decode (mm_cc ML) 334 = .ok (.iconst 2, 1) := by decide +kernel
theorem dL_335 : decode (mm_cc ML) 335 = .ok (.iadd, 1) := by decide +kernel
theorem dL_336 : decode (mm_cc ML) 336 = .ok (.iaload, 1) := by decide +kernel
theorem dL_337 : decode (mm_cc ML) 337 = .ok (.invokevirtual 43, 3) := by decide +kernel
theorem dL_340 : decode (mm_cc ML) 340 = .ok (.aload_n 2, 1) := by decide +kernel
theorem dL_341 : decode (mm_cc ML) 341 = .ok (.aload_n 0, 1) := by decide +kernel
theorem dL_342 : decode (mm_cc ML) 342 = .ok (.iload_n 3, 1) := by decide +kernel
theorem dL_343 : decode (mm_cc ML) 343 = .ok (.iconst 1, 1) := by decide +kernel
theorem dL_344 : decode (mm_cc ML) 344 = .ok (.iadd, 1) := by decide +kernel
theorem dL_345 : decode (mm_cc ML) 345 = .ok (.iaload, 1) := by decide +kernel
theorem dL_346 : decode (mm_cc ML) 346 = .ok (.aload_n 0, 1) := by decide +kernel
theorem dL_347 : decode (mm_cc ML) 347 = .ok (.iload_n 3, 1) := by decide +kernel
theorem dL_348 : decode (mm_cc ML) 348 = .ok (.iconst 2, 1) := by decide +kernel
theorem dL_349 : decode (mm_cc ML) 349 = .ok (.iadd, 1) := by decide +kernel
theorem dL_350 : decode (mm_cc ML) 350 = .ok (.iaload, 1) := by decide +kernel
theorem dL_351 : decode (mm_cc ML) 351 = .ok (.invokevirtual 46, 3) := by decide +kernel
theorem dL_354 : decode (mm_cc ML) 354 = .ok (.if_icmp .eq 664, 3) := by decide +kernel
theorem dL_357 : decode (mm_cc ML) 357 = .ok (.iconst 0, 1) := by decide +kernel
theorem dL_358 : decode (mm_cc ML) 358 = .ok (.ireturn, 1) := by decide +kernel
theorem dL_359 : decode (mm_cc ML) 359 = .ok (.aload_n 1, 1) := by decide +kernel
theorem dL_360 : decode (mm_cc ML) 360 = .ok (.aload_n 0, 1) := by decide +kernel
theorem dL_361 : decode (mm_cc ML) 361 = .ok (.iload_n 3, 1) := by decide +kernel
theorem dL_362 : decode (mm_cc ML) 362 = .ok (.iconst 1, 1) := by decide +kernel
theorem dL_363 : decode (mm_cc ML) 363 = .ok (.iadd, 1) := by decide +kernel
theorem dL_364 : decode (mm_cc ML) 364 = .ok (.iaload, 1) := by decide +kernel
theorem dL_365 : decode (mm_cc ML) 365 = .ok (.aload_n 0, 1) := by decide +kernel
theorem dL_366 : decode (mm_cc ML) 366 = .ok (.iload_n 3, 1) := by decide +kernel
theorem dL_367 : decode (mm_cc ML) 367 = .ok (.iconst 2, 1) := by decide +kernel
theorem dL_368 : decode (mm_cc ML) 368 = .ok (.iadd, 1) := by decide +kernel
theorem dL_369 : decode (mm_cc ML) 369 = .ok (.iaload, 1) := by decide +kernel
theorem dL_370 : decode (mm_cc ML) 370 = .ok (.invokevirtual 47, 3) := by decide +kernel
theorem dL_373 : decode (mm_cc ML) 373 = .ok (.aload_n 2, 1) := by decide +kernel
theorem dL_374 : decode (mm_cc ML) 374 = .ok (.aload_n 0, 1) := by decide +kernel
theorem dL_375 : decode (mm_cc ML) 375 = .ok (.iload_n 3, 1) := by decide +kernel
theorem dL_376 : decode (mm_cc ML) 376 = .ok (.iconst 1, 1) := by decide +kernel
theorem dL_377 : decode (mm_cc ML) 377 = .ok (.iadd, 1) := by decide +kernel
theorem dL_378 : decode (mm_cc ML) 378 = .ok (.iaload, 1) := by decide +kernel
theorem dL_379 : decode (mm_cc ML) 379 = .ok (.aload_n 0, 1) := by decide +kernel
theorem dL_380 : decode (mm_cc ML) 380 = .ok (.iload_n 3, 1) := by decide +kernel
theorem dL_381 : decode (mm_cc ML) 381 = .ok (.iconst 2, 1) := by decide +kernel
theorem dL_382 : decode (mm_cc ML) 382 = .ok (.iadd, 1) := by decide +kernel
theorem dL_383 : decode (mm_cc ML) 383 = .ok (.iaload, 1) := by decide +kernel
theorem dL_384 : decode (mm_cc ML) 384 = .ok (.invokevirtual 50, 3) := by decide +kernel
theorem dL_387 : decode (mm_cc ML) 387 = .ok (.if_icmp .eq 631, 3) := by decide +kernel
theorem dL_390 : decode (mm_cc ML) 390 = .ok (.iconst 0, 1) := by decide +kernel
theorem dL_391 : decode (mm_cc ML) 391 = .ok (.ireturn, 1) := by decide +kernel
theorem dL_392 : decode (mm_cc ML) 392 = .ok (.aload_n 1, 1) := by decide +kernel
theorem dL_393 : decode (mm_cc ML) 393 = .ok (.aload_n 0, 1) := by decide +kernel
theorem dL_394 : decode (mm_cc ML) 394 = .ok (.iload_n 3, 1) := by decide +kernel
theorem dL_395 : decode (mm_cc ML) 395 = .ok (.iconst 1, 1) := by decide +kernel
theorem dL_396 : decode (mm_cc ML) 396 = .ok (.iadd, 1) := by decide +kernel
theorem dL_397 : decode (mm_cc ML) 397 = .ok (.iaload, 1) := by decide +kernel
theorem dL_398 : decode (mm_cc ML) 398 = .ok (.aload_n 0, 1) := by decide +kernel
theorem dL_399 : decode (mm_cc ML) 399 = .ok (.iload_n 3, 1) := by decide +kernel
theorem dL_400 : decode (mm_cc ML) 400 = .ok (.iconst 2, 1) := by decide +kernel
theorem dL_401 : decode (mm_cc ML) 401 = .ok (.iadd, 1) := by decide +kernel
theorem dL_402 : decode (mm_cc ML) 402 = .ok (.iaload, 1) := by decide +kernel
theorem dL_403 : decode (mm_cc ML) 403 = .ok (.invokevirtual 51, 3) := by decide +kernel
theorem dL_406 : decode (mm_cc ML) 406 = .ok (.aload_n 2, 1) := by decide +kernel
theorem dL_407 : decode (mm_cc ML) 407 = .ok (.aload_n 0, 1) := by decide +kernel
theorem dL_408 : decode (mm_cc ML) 408 = .ok (.iload_n 3, 1) := by decide +kernel
theorem dL_409 : decode (mm_cc ML) 409 = .ok (.iconst 1, 1) := by decide +kernel
theorem dL_410 : decode (mm_cc ML) 410 = .ok (.iadd, 1) := by decide +kernel
theorem dL_411 : decode (mm_cc ML) 411 = .ok (.iaload, 1) := by decide +kernel
theorem dL_412 : decode (mm_cc ML) 412 = .ok (.aload_n 0, 1) := by decide +kernel
theorem dL_413 : decode (mm_cc ML) 413 = .ok (.iload_n 3, 1) := by decide +kernel
theorem dL_414 : decode (mm_cc ML) 414 = .ok (.iconst 2, 1) := by decide +kernel
theorem dL_415 : decode (mm_cc ML) 415 = .ok (.iadd, 1) := by decide +kernel
theorem dL_416 : decode (mm_cc ML) 416 = .ok (.iaload, 1) := by decide +kernel
theorem dL_417 : decode (mm_cc ML) 417 = .ok (.invokevirtual 54, 3) := by decide +kernel
theorem dL_420 : decode (mm_cc ML) 420 = .ok (.if_icmp .eq 598, 3) := by decide +kernel
theorem dL_423 : decode (mm_cc ML) 423 = .ok (.iconst 0, 1) := by decide +kernel
theorem dL_424 : decode (mm_cc ML) 424 = .ok (.ireturn, 1) := by decide +kernel
theorem dL_425 : decode (mm_cc ML) 425 = .ok (.aload_n 1, 1) := by decide +kernel
theorem dL_426 : decode (mm_cc ML) 426 = .ok (.aload_n 0, 1) := by decide +kernel
theorem dL_427 : decode (mm_cc ML) 427 = .ok (.iload_n 3, 1) := by decide +kernel
theorem dL_428 : decode (mm_cc ML) 428 = .ok (.iconst 1, 1) := by decide +kernel
theorem dL_429 : decode (mm_cc ML) 429 = .ok (.iadd, 1) := by decide +kernel
theorem dL_430 : decode (mm_cc ML) 430 = .ok (.iaload, 1) := by decide +kernel
theorem dL_431 : decode (mm_cc ML) 431 = .ok (.aload_n 0, 1) := by decide +kernel
theorem dL_432 : decode (mm_cc ML) 432 = .ok (.iload_n 3, 1) := by decide +kernel
theorem dL_433 : decode (mm_cc ML) 433 = .ok (.iconst 2, 1) := by decide +kernel
theorem dL_434 : decode (mm_cc ML) 434 = .ok (.iadd, 1) := by decide +kernel
theorem dL_435 : decode (mm_cc ML) 435 = .ok (.iaload, 1) := by decide +kernel
theorem dL_436 : decode (mm_cc ML) 436 = .ok (.aload_n 0, 1) := by decide +kernel
theorem dL_437 : decode (mm_cc ML) 437 = .ok (.iload_n 3, 1) := by decide +kernel
theorem dL_438 : decode (mm_cc ML) 438 = .ok (.iconst 3, 1) := by decide +kernel
theorem dL_439 : decode (mm_cc ML) 439 = .ok (.iadd, 1) := by decide +kernel
theorem dL_440 : decode (mm_cc ML) 440 = .ok (.iaload, 1) := by decide +kernel
theorem dL_441 : decode (mm_cc ML) 441 = .ok (.aload_n 0, 1) := by decide +kernel
theorem dL_442 : decode (mm_cc ML) 442 = .ok (.iload_n 3, 1) := by decide +kernel
theorem dL_443 : decode (mm_cc ML) 443 = .ok (.iconst 4, 1) := by decide +kernel
theorem dL_444 : decode (mm_cc ML) 444 = .ok (.iadd, 1) := by decide +kernel
theorem dL_445 : decode (mm_cc ML) 445 = .ok (.iaload, 1) := by decide +kernel
theorem dL_446 : decode (mm_cc ML) 446 = .ok (.invokevirtual 55, 3) := by decide +kernel
theorem dL_449 : decode (mm_cc ML) 449 = .ok (.aload_n 2, 1) := by decide +kernel
theorem dL_450 : decode (mm_cc ML) 450 = .ok (.aload_n 0, 1) := by decide +kernel
theorem dL_451 : decode (mm_cc ML) 451 = .ok (.iload_n 3, 1) := by decide +kernel
theorem dL_452 : decode (mm_cc ML) 452 = .ok (.iconst 1, 1) := by decide +kernel
theorem dL_453 : decode (mm_cc ML) 453 = .ok (.iadd, 1) := by decide +kernel
theorem dL_454 : decode (mm_cc ML) 454 = .ok (.iaload, 1) := by decide +kernel
theorem dL_455 : decode (mm_cc ML) 455 = .ok (.aload_n 0, 1) := by decide +kernel
theorem dL_456 : decode (mm_cc ML) 456 = .ok (.iload_n 3, 1) := by decide +kernel
theorem dL_457 : decode (mm_cc ML) 457 = .ok (.iconst 2, 1) := by decide +kernel
theorem dL_458 : decode (mm_cc ML) 458 = .ok (.iadd, 1) := by decide +kernel
theorem dL_459 : decode (mm_cc ML) 459 = .ok (.iaload, 1) := by decide +kernel
theorem dL_460 : decode (mm_cc ML) 460 = .ok (.aload_n 0, 1) := by decide +kernel
theorem dL_461 : decode (mm_cc ML) 461 = .ok (.iload_n 3, 1) := by decide +kernel
theorem dL_462 : decode (mm_cc ML) 462 = .ok (.iconst 3, 1) := by decide +kernel
theorem dL_463 : decode (mm_cc ML) 463 = .ok (.iadd, 1) := by decide +kernel
theorem dL_464 : decode (mm_cc ML) 464 = .ok (.iaload, 1) := by decide +kernel
theorem dL_465 : decode (mm_cc ML) 465 = .ok (.aload_n 0, 1) := by decide +kernel
theorem dL_466 : decode (mm_cc ML) 466 = .ok (.iload_n 3, 1) := by decide +kernel
theorem dL_467 : decode (mm_cc ML) 467 = .ok (.iconst 4, 1) := by decide +kernel
theorem dL_468 : decode (mm_cc ML) 468 = .ok (.iadd, 1) := by decide +kernel
theorem dL_469 : decode (mm_cc ML) 469 = .ok (.iaload, 1) := by decide +kernel
theorem dL_470 : decode (mm_cc ML) 470 = .ok (.invokevirtual 59, 3) := by decide +kernel
theorem dL_473 : decode (mm_cc ML) 473 = .ok (.if_icmp .eq 545, 3) := by decide +kernel
theorem dL_476 : decode (mm_cc ML) 476 = .ok (.iconst 0, 1) := by decide +kernel
theorem dL_477 : decode (mm_cc ML) 477 = .ok (.ireturn, 1) := by decide +kernel
theorem dL_478 : decode (mm_cc ML) 478 = .ok (.aload_n 1, 1) := by decide +kernel
theorem dL_479 : decode (mm_cc ML) 479 = .ok (.aload_n 0, 1) := by decide +kernel
theorem dL_480 : decode (mm_cc ML) 480 = .ok (.iload_n 3, 1) := by decide +kernel
theorem dL_481 : decode (mm_cc ML) 481 = .ok (.iconst 1, 1) := by decide +kernel
theorem dL_482 : decode (mm_cc ML) 482 = .ok (.iadd, 1) := by decide +kernel
theorem dL_483 : decode (mm_cc ML) 483 = .ok (.iaload, 1) := by decide +kernel
theorem dL_484 : decode (mm_cc ML) 484 = .ok (.aload_n 0, 1) := by decide +kernel
theorem dL_485 : decode (mm_cc ML) 485 = .ok (.iload_n 3, 1) := by decide +kernel
theorem dL_486 : decode (mm_cc ML) 486 = .ok (.iconst 2, 1) := by decide +kernel
theorem dL_487 : decode (mm_cc ML) 487 = .ok (.iadd, 1) := by decide +kernel
theorem dL_488 : decode (mm_cc ML) 488 = .ok (.iaload, 1) := by decide +kernel
theorem dL_489 : decode (mm_cc ML) 489 = .ok (.invokevirtual 60, 3) := by decide +kernel
theorem dL_492 : decode (mm_cc ML) 492 = .ok (.aload_n 2, 1) := by decide +kernel
theorem dL_493 : decode (mm_cc ML) 493 = .ok (.aload_n 0, 1) := by decide +kernel
theorem dL_494 : decode (mm_cc ML) 494 = .ok (.iload_n 3, 1) := by decide +kernel
theorem dL_495 : decode (mm_cc ML) 495 = .ok (.iconst 1, 1) := by decide +kernel
theorem dL_496 : decode (mm_cc ML) 496 = .ok (.iadd, 1) := by decide +kernel
theorem dL_497 : decode (mm_cc ML) 497 = .ok (.iaload, 1) := by decide +kernel
theorem dL_498 : decode (mm_cc ML) 498 = .ok (.aload_n 0, 1) := by decide +kernel
theorem dL_499 : decode (mm_cc ML) 499 = .ok (.iload_n 3, 1) := by decide +kernel
theorem dL_500 : decode (mm_cc ML) 500 = .ok (.iconst 2, 1) := by decide +kernel
theorem dL_501 : decode (mm_cc ML) 501 = .ok (.iadd, 1) := by decide +kernel
theorem dL_502 : decode (mm_cc ML) 502 = .ok (.iaload, 1) := by decide +kernel
theorem dL_503 : decode (mm_cc ML) 503 = .ok (.invokevirtual 63, 3) := by decide +kernel
theorem dL_506 : decode (mm_cc ML) 506 = .ok (.if_icmp .eq 512, 3) := by decide +kernel
theorem dL_509 : decode (mm_cc ML) 509 = .ok (.iconst 0, 1) := by decide +kernel
theorem dL_510 : decode (mm_cc ML) 510 = .ok (.ireturn, 1) := by decide +kernel
theorem dL_511 : decode (mm_cc ML) 511 = .ok (.aload_n 1, 1) := by decide +kernel
theorem dL_512 : decode (mm_cc ML) 512 = .ok (.aload_n 0, 1) := by decide +kernel
theorem dL_513 : decode (mm_cc ML) 513 = .ok (.iload_n 3, 1) := by decide +kernel
theorem dL_514 : decode (mm_cc ML) 514 = .ok (.iconst 1, 1) := by decide +kernel
theorem dL_515 : decode (mm_cc ML) 515 = .ok (.iadd, 1) := by decide +kernel
theorem dL_516 : decode (mm_cc ML) 516 = .ok (.iaload, 1) := by decide +kernel
theorem dL_517 : decode (mm_cc ML) 517 = .ok (.aload_n 0, 1) := by decide +kernel
theorem dL_518 : decode (mm_cc ML) 518 = .ok (.iload_n 3, 1) := by decide +kernel
theorem dL_519 : decode (mm_cc ML) 519 = .ok (.iconst 2, 1) := by decide +kernel
theorem dL_520 : decode (mm_cc ML) 520 = .ok (.iadd, 1) := by decide +kernel
theorem dL_521 : decode (mm_cc ML) 521 = .ok (.iaload, 1) := by decide +kernel
theorem dL_522 : decode (mm_cc ML) 522 = .ok (.invokevirtual 64, 3) := by decide +kernel
theorem dL_525 : decode (mm_cc ML) 525 = .ok (.aload_n 2, 1) := by decide +kernel
theorem dL_526 : decode (mm_cc ML) 526 = .ok (.aload_n 0, 1) := by decide +kernel
theorem dL_527 : decode (mm_cc ML) 527 = .ok (.iload_n 3, 1) := by decide +kernel
theorem dL_528 : decode (mm_cc ML) 528 = .ok (.iconst 1, 1) := by decide +kernel
theorem dL_529 : decode (mm_cc ML) 529 = .ok (.iadd, 1) := by decide +kernel
theorem dL_530 : decode (mm_cc ML) 530 = .ok (.iaload, 1) := by decide +kernel
theorem dL_531 : decode (mm_cc ML) 531 = .ok (.aload_n 0, 1) := by decide +kernel
theorem dL_532 : decode (mm_cc ML) 532 = .ok (.iload_n 3, 1) := by decide +kernel
theorem dL_533 : decode (mm_cc ML) 533 = .ok (.iconst 2, 1) := by decide +kernel
theorem dL_534 : decode (mm_cc ML) 534 = .ok (.iadd, 1) := by decide +kernel
theorem dL_535 : decode (mm_cc ML) 535 = .ok (.iaload, 1) := by decide +kernel
theorem dL_536 : decode (mm_cc ML) 536 = .ok (.invokevirtual 67, 3) := by decide +kernel
theorem dL_539 : decode (mm_cc ML) 539 = .ok (.if_icmp .eq 479, 3) := by decide +kernel
theorem dL_542 : decode (mm_cc ML) 542 = .ok (.iconst 0, 1) := by decide +kernel
theorem dL_543 : decode (mm_cc ML) 543 = .ok (.ireturn, 1) := by decide +kernel
theorem dL_544 : decode (mm_cc ML) 544 = .ok (.aload_n 1, 1) := by decide +kernel
theorem dL_545 : decode (mm_cc ML) 545 = .ok (.aload_n 0, 1) := by decide +kernel
theorem dL_546 : decode (mm_cc ML) 546 = .ok (.iload_n 3, 1) := by decide +kernel
theorem dL_547 : decode (mm_cc ML) 547 = .ok (.iconst 1, 1) := by decide +kernel
theorem dL_548 : decode (mm_cc ML) 548 = .ok (.iadd, 1) := by decide +kernel
theorem dL_549 : decode (mm_cc ML) 549 = .ok (.iaload, 1) := by decide +kernel
theorem dL_550 : decode (mm_cc ML) 550 = .ok (.invokevirtual 68, 3) := by decide +kernel
theorem dL_553 : decode (mm_cc ML) 553 = .ok (.aload_n 2, 1) := by decide +kernel
theorem dL_554 : decode (mm_cc ML) 554 = .ok (.aload_n 0, 1) := by decide +kernel
theorem dL_555 : decode (mm_cc ML) 555 = .ok (.iload_n 3, 1) := by decide +kernel
theorem dL_556 : decode (mm_cc ML) 556 = .ok (.iconst 1, 1) := by decide +kernel
theorem dL_557 : decode (mm_cc ML) 557 = .ok (.iadd, 1) := by decide +kernel
theorem dL_558 : decode (mm_cc ML) 558 = .ok (.iaload, 1) := by decide +kernel
theorem dL_559 : decode (mm_cc ML) 559 = .ok (.invokevirtual 71, 3) := by decide +kernel
theorem dL_562 : decode (mm_cc ML) 562 = .ok (.if_icmp .eq 456, 3) := by decide +kernel
theorem dL_565 : decode (mm_cc ML) 565 = .ok (.iconst 0, 1) := by decide +kernel
theorem dL_566 : decode (mm_cc ML) 566 = .ok (.ireturn, 1) := by decide +kernel
theorem dL_567 : decode (mm_cc ML) 567 = .ok (.aload_n 1, 1) := by decide +kernel
theorem dL_568 : decode (mm_cc ML) 568 = .ok (.aload_n 0, 1) := by decide +kernel
theorem dL_569 : decode (mm_cc ML) 569 = .ok (.iload_n 3, 1) := by decide +kernel
theorem dL_570 : decode (mm_cc ML) 570 = .ok (.iconst 1, 1) := by decide +kernel
theorem dL_571 : decode (mm_cc ML) 571 = .ok (.iadd, 1) := by decide +kernel
theorem dL_572 : decode (mm_cc ML) 572 = .ok (.iaload, 1) := by decide +kernel
theorem dL_573 : decode (mm_cc ML) 573 = .ok (.aload_n 0, 1) := by decide +kernel
theorem dL_574 : decode (mm_cc ML) 574 = .ok (.iload_n 3, 1) := by decide +kernel
theorem dL_575 : decode (mm_cc ML) 575 = .ok (.iconst 2, 1) := by decide +kernel
theorem dL_576 : decode (mm_cc ML) 576 = .ok (.iadd, 1) := by decide +kernel
theorem dL_577 : decode (mm_cc ML) 577 = .ok (.iaload, 1) := by decide +kernel
theorem dL_578 : decode (mm_cc ML) 578 = .ok (.invokevirtual 72, 3) := by decide +kernel
theorem dL_581 : decode (mm_cc ML) 581 = .ok (.aload_n 2, 1) := by decide +kernel
theorem dL_582 : decode (mm_cc ML) 582 = .ok (.aload_n 0, 1) := by decide +kernel
theorem dL_583 : decode (mm_cc ML) 583 = .ok (.iload_n 3, 1) := by decide +kernel
theorem dL_584 : decode (mm_cc ML) 584 = .ok (.iconst 1, 1) := by decide +kernel
theorem dL_585 : decode (mm_cc ML) 585 = .ok (.iadd, 1) := by decide +kernel
theorem dL_586 : decode (mm_cc ML) 586 = .ok (.iaload, 1) := by decide +kernel
theorem dL_587 : decode (mm_cc ML) 587 = .ok (.aload_n 0, 1) := by decide +kernel
theorem dL_588 : decode (mm_cc ML) 588 = .ok (.iload_n 3, 1) := by decide +kernel
theorem dL_589 : decode (mm_cc ML) 589 = .ok (.iconst 2, 1) := by decide +kernel
theorem dL_590 : decode (mm_cc ML) 590 = .ok (.iadd, 1) := by decide +kernel
theorem dL_591 : decode (mm_cc ML) 591 = .ok (.iaload, 1) := by decide +kernel
theorem dL_592 : decode (mm_cc ML) 592 = .ok (.invokevirtual 75, 3) := by decide +kernel
theorem dL_595 : decode (mm_cc ML) 595 = .ok (.if_icmp .eq 423, 3) := by decide +kernel
theorem dL_598 : decode (mm_cc ML) 598 = .ok (.iconst 0, 1) := by decide +kernel
theorem dL_599 : decode (mm_cc ML) 599 = .ok (.ireturn, 1) := by decide +kernel
theorem dL_600 : decode (mm_cc ML) 600 = .ok (.aload_n 1, 1) := by decide +kernel
theorem dL_601 : decode (mm_cc ML) 601 = .ok (.aload_n 0, 1) := by decide +kernel
theorem dL_602 : decode (mm_cc ML) 602 = .ok (.iload_n 3, 1) := by decide +kernel
theorem dL_603 : decode (mm_cc ML) 603 = .ok (.iconst 1, 1) := by decide +kernel
theorem dL_604 : decode (mm_cc ML) 604 = .ok (.iadd, 1) := by decide +kernel
theorem dL_605 : decode (mm_cc ML) 605 = .ok (.iaload, 1) := by decide +kernel
theorem dL_606 : decode (mm_cc ML) 606 = .ok (.aload_n 0, 1) := by decide +kernel
theorem dL_607 : decode (mm_cc ML) 607 = .ok (.iload_n 3, 1) := by decide +kernel
theorem dL_608 : decode (mm_cc ML) 608 = .ok (.iconst 2, 1) := by decide +kernel
theorem dL_609 : decode (mm_cc ML) 609 = .ok (.iadd, 1) := by decide +kernel
theorem dL_610 : decode (mm_cc ML) 610 = .ok (.iaload, 1) := by decide +kernel
theorem dL_611 : decode (mm_cc ML) 611 = .ok (.aload_n 0, 1) := by decide +kernel
theorem dL_612 : decode (mm_cc ML) 612 = .ok (.iload_n 3, 1) := by decide +kernel
theorem dL_613 : decode (mm_cc ML) 613 = .ok (.iconst 3, 1) := by decide +kernel
theorem dL_614 : decode (mm_cc ML) 614 = .ok (.iadd, 1) := by decide +kernel
theorem dL_615 : decode (mm_cc ML) 615 = .ok (.iaload, 1) := by decide +kernel
theorem dL_616 : decode (mm_cc ML) 616 = .ok (.invokevirtual 76, 3) := by decide +kernel
theorem dL_619 : decode (mm_cc ML) 619 = .ok (.aload_n 2, 1) := by decide +kernel
theorem dL_620 : decode (mm_cc ML) 620 = .ok (.aload_n 0, 1) := by decide +kernel
theorem dL_621 : decode (mm_cc ML) 621 = .ok (.iload_n 3, 1) := by decide +kernel
theorem dL_622 : decode (mm_cc ML) 622 = .ok (.iconst 1, 1) := by decide +kernel
theorem dL_623 : decode (mm_cc ML) 623 = .ok (.iadd, 1) := by decide +kernel
theorem dL_624 : decode (mm_cc ML) 624 = .ok (.iaload, 1) := by decide +kernel
theorem dL_625 : decode (mm_cc ML) 625 = .ok (.aload_n 0, 1) := by decide +kernel
theorem dL_626 : decode (mm_cc ML) 626 = .ok (.iload_n 3, 1) := by decide +kernel
theorem dL_627 : decode (mm_cc ML) 627 = .ok (.iconst 2, 1) := by decide +kernel
theorem dL_628 : decode (mm_cc ML) 628 = .ok (.iadd, 1) := by decide +kernel
theorem dL_629 : decode (mm_cc ML) 629 = .ok (.iaload, 1) := by decide +kernel
theorem dL_630 : decode (mm_cc ML) 630 = .ok (.aload_n 0, 1) := by decide +kernel
theorem dL_631 : decode (mm_cc ML) 631 = .ok (.iload_n 3, 1) := by decide +kernel
theorem dL_632 : decode (mm_cc ML) 632 = .ok (.iconst 3, 1) := by decide +kernel
theorem dL_633 : decode (mm_cc ML) 633 = .ok (.iadd, 1) := by decide +kernel
theorem dL_634 : decode (mm_cc ML) 634 = .ok (.iaload, 1) := by decide +kernel
theorem dL_635 : decode (mm_cc ML) 635 = .ok (.invokevirtual 80, 3) := by decide +kernel
theorem dL_638 : decode (mm_cc ML) 638 = .ok (.if_icmp .eq 380, 3) := by decide +kernel
theorem dL_641 : decode (mm_cc ML) 641 = .ok (.iconst 0, 1) := by decide +kernel
theorem dL_642 : decode (mm_cc ML) 642 = .ok (.ireturn, 1) := by decide +kernel
theorem dL_643 : decode (mm_cc ML) 643 = .ok (.aload_n 1, 1) := by decide +kernel
theorem dL_644 : decode (mm_cc ML) 644 = .ok (.invokevirtual 81, 3) := by decide +kernel
theorem dL_647 : decode (mm_cc ML) 647 = .ok (.aload_n 2, 1) := by decide +kernel
theorem dL_648 : decode (mm_cc ML) 648 = .ok (.invokevirtual 84, 3) := by decide +kernel
theorem dL_651 : decode (mm_cc ML) 651 = .ok (.if_icmp .eq 367, 3) := by decide +kernel
theorem dL_654 : decode (mm_cc ML) 654 = .ok (.iconst 0, 1) := by decide +kernel
theorem dL_655 : decode (mm_cc ML) 655 = .ok (.ireturn, 1) := by decide +kernel
theorem dL_656 : decode (mm_cc ML) 656 = .ok (.aload_n 1, 1) := by decide +kernel
theorem dL_657 : decode (mm_cc ML) 657 = .ok (.aload_n 0, 1) := by decide +kernel
theorem dL_658 : decode (mm_cc ML) 658 = .ok (.iload_n 3, 1) := by decide +kernel
theorem dL_659 : decode (mm_cc ML) 659 = .ok (.iconst 1, 1) := by decide +kernel
theorem dL_660 : decode (mm_cc ML) 660 = .ok (.iadd, 1) := by decide +kernel
theorem dL_661 : decode (mm_cc ML) 661 = .ok (.iaload, 1) := by decide +kernel
theorem dL_662 : decode (mm_cc ML) 662 = .ok (.aload_n 0, 1) := by decide +kernel
theorem dL_663 : decode (mm_cc ML) 663 = .ok (.iload_n 3, 1) := by decide +kernel
theorem dL_664 : decode (mm_cc ML) 664 = .ok (.iconst 2, 1) := by decide +kernel
theorem dL_665 : decode (mm_cc ML) 665 = .ok (.iadd, 1) := by decide +kernel
theorem dL_666 : decode (mm_cc ML) 666 = .ok (.iaload, 1) := by decide +kernel
theorem dL_667 : decode (mm_cc ML) 667 = .ok (.invokevirtual 85, 3) := by decide +kernel
theorem dL_670 : decode (mm_cc ML) 670 = .ok (.aload_n 2, 1) := by decide +kernel
theorem dL_671 : decode (mm_cc ML) 671 = .ok (.aload_n 0, 1) := by decide +kernel
theorem dL_672 : decode (mm_cc ML) 672 = .ok (.iload_n 3, 1) := by decide +kernel
theorem dL_673 : decode (mm_cc ML) 673 = .ok (.iconst 1, 1) := by decide +kernel
theorem dL_674 : decode (mm_cc ML) 674 = .ok (.iadd, 1) := by decide +kernel
theorem dL_675 : decode (mm_cc ML) 675 = .ok (.iaload, 1) := by decide +kernel
theorem dL_676 : decode (mm_cc ML) 676 = .ok (.aload_n 0, 1) := by decide +kernel
theorem dL_677 : decode (mm_cc ML) 677 = .ok (.iload_n 3, 1) := by decide +kernel
theorem dL_678 : decode (mm_cc ML) 678 = .ok (.iconst 2, 1) := by decide +kernel
theorem dL_679 : decode (mm_cc ML) 679 = .ok (.iadd, 1) := by decide +kernel
theorem dL_680 : decode (mm_cc ML) 680 = .ok (.iaload, 1) := by decide +kernel
theorem dL_681 : decode (mm_cc ML) 681 = .ok (.invokevirtual 88, 3) := by decide +kernel
theorem dL_684 : decode (mm_cc ML) 684 = .ok (.if_icmp .eq 334, 3) := by decide +kernel
theorem dL_687 : decode (mm_cc ML) 687 = .ok (.iconst 0, 1) := by decide +kernel
theorem dL_688 : decode (mm_cc ML) 688 = .ok (.ireturn, 1) := by decide +kernel
theorem dL_689 : decode (mm_cc ML) 689 = .ok (.aload_n 1, 1) := by decide +kernel
theorem dL_690 : decode (mm_cc ML) 690 = .ok (.aload_n 0, 1) := by decide +kernel
theorem dL_691 : decode (mm_cc ML) 691 = .ok (.iload_n 3, 1) := by decide +kernel
theorem dL_692 : decode (mm_cc ML) 692 = .ok (.iconst 1, 1) := by decide +kernel
theorem dL_693 : decode (mm_cc ML) 693 = .ok (.iadd, 1) := by decide +kernel
theorem dL_694 : decode (mm_cc ML) 694 = .ok (.iaload, 1) := by decide +kernel
theorem dL_695 : decode (mm_cc ML) 695 = .ok (.invokevirtual 89, 3) := by decide +kernel
theorem dL_698 : decode (mm_cc ML) 698 = .ok (.aload_n 2, 1) := by decide +kernel
theorem dL_699 : decode (mm_cc ML) 699 = .ok (.aload_n 0, 1) := by decide +kernel
theorem dL_700 : decode (mm_cc ML) 700 = .ok (.iload_n 3, 1) := by decide +kernel
theorem dL_701 : decode (mm_cc ML) 701 = .ok (.iconst 1, 1) := by decide +kernel
theorem dL_702 : decode (mm_cc ML) 702 = .ok (.iadd, 1) := by decide +kernel
theorem dL_703 : decode (mm_cc ML) 703 = .ok (.iaload, 1) := by decide +kernel
theorem dL_704 : decode (mm_cc ML) 704 = .ok (.invokevirtual 92, 3) := by decide +kernel
theorem dL_707 : decode (mm_cc ML) 707 = .ok (.if_icmp .eq 311, 3) := by decide +kernel
theorem dL_710 : decode (mm_cc ML) 710 = .ok (.iconst 0, 1) := by decide +kernel
theorem dL_711 : decode (mm_cc ML) 711 = .ok (.ireturn, 1) := by decide +kernel
theorem dL_712 : decode (mm_cc ML) 712 = .ok (.aload_n 1, 1) := by decide +kernel
theorem dL_713 : decode (mm_cc ML) 713 = .ok (.aload_n 0, 1) := by decide +kernel
theorem dL_714 : decode (mm_cc ML) 714 = .ok (.iload_n 3, 1) := by decide +kernel
theorem dL_715 : decode (mm_cc ML) 715 = .ok (.iconst 1, 1) := by decide +kernel
theorem dL_716 : decode (mm_cc ML) 716 = .ok (.iadd, 1) := by decide +kernel
theorem dL_717 : decode (mm_cc ML) 717 = .ok (.iaload, 1) := by decide +kernel
theorem dL_718 : decode (mm_cc ML) 718 = .ok (.invokevirtual 93, 3) := by decide +kernel
theorem dL_721 : decode (mm_cc ML) 721 = .ok (.aload_n 2, 1) := by decide +kernel
theorem dL_722 : decode (mm_cc ML) 722 = .ok (.aload_n 0, 1) := by decide +kernel
theorem dL_723 : decode (mm_cc ML) 723 = .ok (.iload_n 3, 1) := by decide +kernel
theorem dL_724 : decode (mm_cc ML) 724 = .ok (.iconst 1, 1) := by decide +kernel
theorem dL_725 : decode (mm_cc ML) 725 = .ok (.iadd, 1) := by decide +kernel
theorem dL_726 : decode (mm_cc ML) 726 = .ok (.iaload, 1) := by decide +kernel
theorem dL_727 : decode (mm_cc ML) 727 = .ok (.invokevirtual 96, 3) := by decide +kernel
theorem dL_730 : decode (mm_cc ML) 730 = .ok (.if_icmp .eq 288, 3) := by decide +kernel
theorem dL_733 : decode (mm_cc ML) 733 = .ok (.iconst 0, 1) := by decide +kernel
theorem dL_734 : decode (mm_cc ML) 734 = .ok (.ireturn, 1) := by decide +kernel
theorem dL_735 : decode (mm_cc ML) 735 = .ok (.aload_n 1, 1) := by decide +kernel
theorem dL_736 : decode (mm_cc ML) 736 = .ok (.aload_n 0, 1) := by decide +kernel
theorem dL_737 : decode (mm_cc ML) 737 = .ok (.iload_n 3, 1) := by decide +kernel
theorem dL_738 : decode (mm_cc ML) 738 = .ok (.iconst 1, 1) := by decide +kernel
theorem dL_739 : decode (mm_cc ML) 739 = .ok (.iadd, 1) := by decide +kernel
theorem dL_740 : decode (mm_cc ML) 740 = .ok (.iaload, 1) := by decide +kernel
theorem dL_741 : decode (mm_cc ML) 741 = .ok (.aload_n 0, 1) := by decide +kernel
theorem dL_742 : decode (mm_cc ML) 742 = .ok (.iload_n 3, 1) := by decide +kernel
theorem dL_743 : decode (mm_cc ML) 743 = .ok (.iconst 2, 1) := by decide +kernel
theorem dL_744 : decode (mm_cc ML) 744 = .ok (.iadd, 1) := by decide +kernel
theorem dL_745 : decode (mm_cc ML) 745 = .ok (.iaload, 1) := by decide +kernel
theorem dL_746 : decode (mm_cc ML) 746 = .ok (.invokevirtual 97, 3) := by decide +kernel
theorem dL_749 : decode (mm_cc ML) 749 = .ok (.aload_n 2, 1) := by decide +kernel
theorem dL_750 : decode (mm_cc ML) 750 = .ok (.aload_n 0, 1) := by decide +kernel
theorem dL_751 : decode (mm_cc ML) 751 = .ok (.iload_n 3, 1) := by decide +kernel
theorem dL_752 : decode (mm_cc ML) 752 = .ok (.iconst 1, 1) := by decide +kernel
theorem dL_753 : decode (mm_cc ML) 753 = .ok (.iadd, 1) := by decide +kernel
theorem dL_754 : decode (mm_cc ML) 754 = .ok (.iaload, 1) := by decide +kernel
theorem dL_755 : decode (mm_cc ML) 755 = .ok (.aload_n 0, 1) := by decide +kernel
theorem dL_756 : decode (mm_cc ML) 756 = .ok (.iload_n 3, 1) := by decide +kernel
theorem dL_757 : decode (mm_cc ML) 757 = .ok (.iconst 2, 1) := by decide +kernel
theorem dL_758 : decode (mm_cc ML) 758 = .ok (.iadd, 1) := by decide +kernel
theorem dL_759 : decode (mm_cc ML) 759 = .ok (.iaload, 1) := by decide +kernel
theorem dL_760 : decode (mm_cc ML) 760 = .ok (.invokevirtual 100, 3) := by decide +kernel
theorem dL_763 : decode (mm_cc ML) 763 = .ok (.if_icmp .eq 255, 3) := by decide +kernel
theorem dL_766 : decode (mm_cc ML) 766 = .ok (.iconst 0, 1) := by decide +kernel
theorem dL_767 : decode (mm_cc ML) 767 = .ok (.ireturn, 1) := by decide +kernel
theorem dL_768 : decode (mm_cc ML) 768 = .ok (.aload_n 1, 1) := by decide +kernel
theorem dL_769 : decode (mm_cc ML) 769 = .ok (.aload_n 0, 1) := by decide +kernel
theorem dL_770 : decode (mm_cc ML) 770 = .ok (.iload_n 3, 1) := by decide +kernel
theorem dL_771 : decode (mm_cc ML) 771 = .ok (.iconst 1, 1) := by decide +kernel
theorem dL_772 : decode (mm_cc ML) 772 = .ok (.iadd, 1) := by decide +kernel
theorem dL_773 : decode (mm_cc ML) 773 = .ok (.iaload, 1) := by decide +kernel
theorem dL_774 : decode (mm_cc ML) 774 = .ok (.invokevirtual 101, 3) := by decide +kernel
theorem dL_777 : decode (mm_cc ML) 777 = .ok (.aload_n 2, 1) := by decide +kernel
theorem dL_778 : decode (mm_cc ML) 778 = .ok (.aload_n 0, 1) := by decide +kernel
theorem dL_779 : decode (mm_cc ML) 779 = .ok (.iload_n 3, 1) := by decide +kernel
theorem dL_780 : decode (mm_cc ML) 780 = .ok (.iconst 1, 1) := by decide +kernel
theorem dL_781 : decode (mm_cc ML) 781 = .ok (.iadd, 1) := by decide +kernel
theorem dL_782 : decode (mm_cc ML) 782 = .ok (.iaload, 1) := by decide +kernel
theorem dL_783 : decode (mm_cc ML) 783 = .ok (.invokevirtual 104, 3) := by decide +kernel
theorem dL_786 : decode (mm_cc ML) 786 = .ok (.if_icmp .eq 232, 3) := by decide +kernel
theorem dL_789 : decode (mm_cc ML) 789 = .ok (.iconst 0, 1) := by decide +kernel
theorem dL_790 : decode (mm_cc ML) 790 = .ok (.ireturn, 1) := by decide +kernel
theorem dL_791 : decode (mm_cc ML) 791 = .ok (.aload_n 1, 1) := by decide +kernel
theorem dL_792 : decode (mm_cc ML) 792 = .ok (.aload_n 0, 1) := by decide +kernel
theorem dL_793 : decode (mm_cc ML) 793 = .ok (.iload_n 3, 1) := by decide +kernel
theorem dL_794 : decode (mm_cc ML) 794 = .ok (.iconst 1, 1) := by decide +kernel
theorem dL_795 : decode (mm_cc ML) 795 = .ok (.iadd, 1) := by decide +kernel
theorem dL_796 : decode (mm_cc ML) 796 = .ok (.iaload, 1) := by decide +kernel
theorem dL_797 : decode (mm_cc ML) 797 = .ok (.aload_n 0, 1) := by decide +kernel
theorem dL_798 : decode (mm_cc ML) 798 = .ok (.iload_n 3, 1) := by decide +kernel
theorem dL_799 : decode (mm_cc ML) 799 = .ok (.iconst 2, 1) := by decide +kernel
theorem dL_800 : decode (mm_cc ML) 800 = .ok (.iadd, 1) := by decide +kernel
theorem dL_801 : decode (mm_cc ML) 801 = .ok (.iaload, 1) := by decide +kernel
theorem dL_802 : decode (mm_cc ML) 802 = .ok (.invokevirtual 105, 3) := by decide +kernel
theorem dL_805 : decode (mm_cc ML) 805 = .ok (.aload_n 2, 1) := by decide +kernel
theorem dL_806 : decode (mm_cc ML) 806 = .ok (.aload_n 0, 1) := by decide +kernel
theorem dL_807 : decode (mm_cc ML) 807 = .ok (.iload_n 3, 1) := by decide +kernel
theorem dL_808 : decode (mm_cc ML) 808 = .ok (.iconst 1, 1) := by decide +kernel
theorem dL_809 : decode (mm_cc ML) 809 = .ok (.iadd, 1) := by decide +kernel
theorem dL_810 : decode (mm_cc ML) 810 = .ok (.iaload, 1) := by decide +kernel
theorem dL_811 : decode (mm_cc ML) 811 = .ok (.aload_n 0, 1) := by decide +kernel
theorem dL_812 : decode (mm_cc ML) 812 = .ok (.iload_n 3, 1) := by decide +kernel
theorem dL_813 : decode (mm_cc ML) 813 = .ok (.iconst 2, 1) := by decide +kernel
theorem dL_814 : decode (mm_cc ML) 814 = .ok (.iadd, 1) := by decide +kernel
theorem dL_815 : decode (mm_cc ML) 815 = .ok (.iaload, 1) := by decide +kernel
theorem dL_816 : decode (mm_cc ML) 816 = .ok (.invokevirtual 108, 3) := by decide +kernel
theorem dL_819 : decode (mm_cc ML) 819 = .ok (.if_icmp .eq 199, 3) := by decide +kernel
theorem dL_822 : decode (mm_cc ML) 822 = .ok (.iconst 0, 1) := by decide +kernel
theorem dL_823 : decode (mm_cc ML) 823 = .ok (.ireturn, 1) := by decide +kernel
theorem dL_824 : decode (mm_cc ML) 824 = .ok (.aload_n 1, 1) := by decide +kernel
theorem dL_825 : decode (mm_cc ML) 825 = .ok (.aload_n 0, 1) := by decide +kernel
theorem dL_826 : decode (mm_cc ML) 826 = .ok (.iload_n 3, 1) := by decide +kernel
theorem dL_827 : decode (mm_cc ML) 827 = .ok (.iconst 1, 1) := by decide +kernel
theorem dL_828 : decode (mm_cc ML) 828 = .ok (.iadd, 1) := by decide +kernel
theorem dL_829 : decode (mm_cc ML) 829 = .ok (.iaload, 1) := by decide +kernel
theorem dL_830 : decode (mm_cc ML) 830 = .ok (.invokevirtual 109, 3) := by decide +kernel
theorem dL_833 : decode (mm_cc ML) 833 = .ok (.aload_n 2, 1) := by decide +kernel
theorem dL_834 : decode (mm_cc ML) 834 = .ok (.aload_n 0, 1) := by decide +kernel
theorem dL_835 : decode (mm_cc ML) 835 = .ok (.iload_n 3, 1) := by decide +kernel
theorem dL_836 : decode (mm_cc ML) 836 = .ok (.iconst 1, 1) := by decide +kernel
theorem dL_837 : decode (mm_cc ML) 837 = .ok (.iadd, 1) := by decide +kernel
theorem dL_838 : decode (mm_cc ML) 838 = .ok (.iaload, 1) := by decide +kernel
theorem dL_839 : decode (mm_cc ML) 839 = .ok (.invokevirtual 112, 3) := by decide +kernel
theorem dL_842 : decode (mm_cc ML) 842 = .ok (.if_icmp .eq 176, 3) := by decide +kernel
theorem dL_845 : decode (mm_cc ML) 845 = .ok (.iconst 0, 1) := by decide +kernel
theorem dL_846 : decode (mm_cc ML) 846 = .ok (.ireturn, 1) := by decide +kernel
theorem dL_847 : decode (mm_cc ML) 847 = .ok (.aload_n 1, 1) := by decide +kernel
theorem dL_848 : decode (mm_cc ML) 848 = .ok (.aload_n 0, 1) := by decide +kernel
theorem dL_849 : decode (mm_cc ML) 849 = .ok (.iload_n 3, 1) := by decide +kernel
theorem dL_850 : decode (mm_cc ML) 850 = .ok (.iconst 1, 1) := by decide +kernel
theorem dL_851 : decode (mm_cc ML) 851 = .ok (.iadd, 1) := by decide +kernel
theorem dL_852 : decode (mm_cc ML) 852 = .ok (.iaload, 1) := by decide +kernel
theorem dL_853 : decode (mm_cc ML) 853 = .ok (.aload_n 0, 1) := by decide +kernel
theorem dL_854 : decode (mm_cc ML) 854 = .ok (.iload_n 3, 1) := by decide +kernel
theorem dL_855 : decode (mm_cc ML) 855 = .ok (.iconst 2, 1) := by decide +kernel
theorem dL_856 : decode (mm_cc ML) 856 = .ok (.iadd, 1) := by decide +kernel
theorem dL_857 : decode (mm_cc ML) 857 = .ok (.iaload, 1) := by decide +kernel
theorem dL_858 : decode (mm_cc ML) 858 = .ok (.invokevirtual 113, 3) := by decide +kernel
theorem dL_861 : decode (mm_cc ML) 861 = .ok (.aload_n 2, 1) := by decide +kernel
theorem dL_862 : decode (mm_cc ML) 862 = .ok (.aload_n 0, 1) := by decide +kernel
theorem dL_863 : decode (mm_cc ML) 863 = .ok (.iload_n 3, 1) := by decide +kernel
theorem dL_864 : decode (mm_cc ML) 864 = .ok (.iconst 1, 1) := by decide +kernel
theorem dL_865 : decode (mm_cc ML) 865 = .ok (.iadd, 1) := by decide +kernel
theorem dL_866 : decode (mm_cc ML) 866 = .ok (.iaload, 1) := by decide +kernel
theorem dL_867 : decode (mm_cc ML) 867 = .ok (.aload_n 0, 1) := by decide +kernel
theorem dL_868 : decode (mm_cc ML) 868 = .ok (.iload_n 3, 1) := by decide +kernel
theorem dL_869 : decode (mm_cc ML) 869 = .ok (.iconst 2, 1) := by decide +kernel
theorem dL_870 : decode (mm_cc ML) 870 = .ok (.iadd, 1) := by decide +kernel
theorem dL_871 : decode (mm_cc ML) 871 = .ok (.iaload, 1) := by decide +kernel
theorem dL_872 : decode (mm_cc ML) 872 = .ok (.invokevirtual 116, 3) := by decide +kernel
theorem dL_875 : decode (mm_cc ML) 875 = .ok (.if_icmp .eq 143, 3) := by decide +kernel
theorem dL_878 : decode (mm_cc ML) 878 = .ok (.iconst 0, 1) := by decide +kernel
theorem dL_879 : decode (mm_cc ML) 879 = .ok (.ireturn, 1) := by decide +kernel
theorem dL_880 : decode (mm_cc ML) 880 = .ok (.aload_n 1, 1) := by decide +kernel
theorem dL_881 : decode (mm_cc ML) 881 = .ok (.aload_n 0, 1) := by decide +kernel
theorem dL_882 : decode (mm_cc ML) 882 = .ok (.iload_n 3, 1) := by decide +kernel
theorem dL_883 : decode (mm_cc ML) 883 = .ok (.iconst 1, 1) := by decide +kernel
theorem dL_884 : decode (mm_cc ML) 884 = .ok (.iadd, 1) := by decide +kernel
theorem dL_885 : decode (mm_cc ML) 885 = .ok (.iaload, 1) := by decide +kernel
theorem dL_886 : decode (mm_cc ML) 886 = .ok (.aload_n 0, 1) := by decide +kernel
theorem dL_887 : decode (mm_cc ML) 887 = .ok (.iload_n 3, 1) := by decide +kernel
theorem dL_888 : decode (mm_cc ML) 888 = .ok (.iconst 2, 1) := by decide +kernel
theorem dL_889 : decode (mm_cc ML) 889 = .ok (.iadd, 1) := by decide +kernel
theorem dL_890 : decode (mm_cc ML) 890 = .ok (.iaload, 1) := by decide +kernel
theorem dL_891 : decode (mm_cc ML) 891 = .ok (.aload_n 0, 1) := by decide +kernel
theorem dL_892 : decode (mm_cc ML) 892 = .ok (.iload_n 3, 1) := by decide +kernel
theorem dL_893 : decode (mm_cc ML) 893 = .ok (.iconst 3, 1) := by decide +kernel
theorem dL_894 : decode (mm_cc ML) 894 = .ok (.iadd, 1) := by decide +kernel
theorem dL_895 : decode (mm_cc ML) 895 = .ok (.iaload, 1) := by decide +kernel
theorem dL_896 : decode (mm_cc ML) 896 = .ok (.invokevirtual 117, 3) := by decide +kernel
theorem dL_899 : decode (mm_cc ML) 899 = .ok (.aload_n 2, 1) := by decide +kernel
theorem dL_900 : decode (mm_cc ML) 900 = .ok (.aload_n 0, 1) := by decide +kernel
theorem dL_901 : decode (mm_cc ML) 901 = .ok (.iload_n 3, 1) := by decide +kernel
theorem dL_902 : decode (mm_cc ML) 902 = .ok (.iconst 1, 1) := by decide +kernel
theorem dL_903 : decode (mm_cc ML) 903 = .ok (.iadd, 1) := by decide +kernel
theorem dL_904 : decode (mm_cc ML) 904 = .ok (.iaload, 1) := by decide +kernel
theorem dL_905 : decode (mm_cc ML) 905 = .ok (.aload_n 0, 1) := by decide +kernel
theorem dL_906 : decode (mm_cc ML) 906 = .ok (.iload_n 3, 1) := by decide +kernel
theorem dL_907 : decode (mm_cc ML) 907 = .ok (.iconst 2, 1) := by decide +kernel
theorem dL_908 : decode (mm_cc ML) 908 = .ok (.iadd, 1) := by decide +kernel
theorem dL_909 : decode (mm_cc ML) 909 = .ok (.iaload, 1) := by decide +kernel
theorem dL_910 : decode (mm_cc ML) 910 = .ok (.aload_n 0, 1) := by decide +kernel
theorem dL_911 : decode (mm_cc ML) 911 = .ok (.iload_n 3, 1) := by decide +kernel
theorem dL_912 : decode (mm_cc ML) 912 = .ok (.iconst 3, 1) := by decide +kernel
theorem dL_913 : decode (mm_cc ML) 913 = .ok (.iadd, 1) := by decide +kernel
theorem dL_914 : decode (mm_cc ML) 914 = .ok (.iaload, 1) := by decide +kernel
theorem dL_915 : decode (mm_cc ML) 915 = .ok (.invokevirtual 120, 3) := by decide +kernel
theorem dL_918 : decode (mm_cc ML) 918 = .ok (.if_icmp .eq 100, 3) := by decide +kernel
theorem dL_921 : decode (mm_cc ML) 921 = .ok (.iconst 0, 1) := by decide +kernel
theorem dL_922 : decode (mm_cc ML) 922 = .ok (.ireturn, 1) := by decide +kernel
theorem dL_923 : decode (mm_cc ML) 923 = .ok (.aload_n 1, 1) := by decide +kernel
theorem dL_924 : decode (mm_cc ML) 924 = .ok (.invokevirtual 121, 3) := by decide +kernel
theorem dL_927 : decode (mm_cc ML) 927 = .ok (.aload_n 2, 1) := by decide +kernel
theorem dL_928 : decode (mm_cc ML) 928 = .ok (.invokevirtual 124, 3) := by decide +kernel
theorem dL_931 : decode (mm_cc ML) 931 = .ok (.if_icmp .eq 87, 3) := by decide +kernel
theorem dL_934 : decode (mm_cc ML) 934 = .ok (.iconst 0, 1) := by decide +kernel
theorem dL_935 : decode (mm_cc ML) 935 = .ok (.ireturn, 1) := by decide +kernel
theorem dL_936 : decode (mm_cc ML) 936 = .ok (.aload_n 1, 1) := by decide +kernel
theorem dL_937 : decode (mm_cc ML) 937 = .ok (.invokevirtual 125, 3) := by decide +kernel
theorem dL_940 : decode (mm_cc ML) 940 = .ok (.aload_n 2, 1) := by decide +kernel
theorem dL_941 : decode (mm_cc ML) 941 = .ok (.invokevirtual 128, 3) := by decide +kernel
theorem dL_944 : decode (mm_cc ML) 944 = .ok (.if_icmp .eq 74, 3) := by decide +kernel
theorem dL_947 : decode (mm_cc ML) 947 = .ok (.iconst 0, 1) := by decide +kernel
theorem dL_948 : decode (mm_cc ML) 948 = .ok (.ireturn, 1) := by decide +kernel
theorem dL_949 : decode (mm_cc ML) 949 = .ok (.aload_n 1, 1) := by decide +kernel
theorem dL_950 : decode (mm_cc ML) 950 = .ok (.aload_n 0, 1) := by decide +kernel
theorem dL_951 : decode (mm_cc ML) 951 = .ok (.iload_n 3, 1) := by decide +kernel
theorem dL_952 : decode (mm_cc ML) 952 = .ok (.iconst 1, 1) := by decide +kernel
theorem dL_953 : decode (mm_cc ML) 953 = .ok (.iadd, 1) := by decide +kernel
theorem dL_954 : decode (mm_cc ML) 954 = .ok (.iaload, 1) := by decide +kernel
theorem dL_955 : decode (mm_cc ML) 955 = .ok (.invokevirtual 129, 3) := by decide +kernel
theorem dL_958 : decode (mm_cc ML) 958 = .ok (.aload_n 2, 1) := by decide +kernel
theorem dL_959 : decode (mm_cc ML) 959 = .ok (.aload_n 0, 1) := by decide +kernel
theorem dL_960 : decode (mm_cc ML) 960 = .ok (.iload_n 3, 1) := by decide +kernel
theorem dL_961 : decode (mm_cc ML) 961 = .ok (.iconst 1, 1) := by decide +kernel
theorem dL_962 : decode (mm_cc ML) 962 = .ok (.iadd, 1) := by decide +kernel
theorem dL_963 : decode (mm_cc ML) 963 = .ok (.iaload, 1) := by decide +kernel
theorem dL_964 : decode (mm_cc ML) 964 = .ok (.invokevirtual 132, 3) := by decide +kernel
theorem dL_967 : decode (mm_cc ML) 967 = .ok (.if_icmp .eq 51, 3) := by decide +kernel
theorem dL_970 : decode (mm_cc ML) 970 = .ok (.iconst 0, 1) := by decide +kernel
theorem dL_971 : decode (mm_cc ML) 971 = .ok (.ireturn, 1) := by decide +kernel
theorem dL_972 : decode (mm_cc ML) 972 = .ok (.aload_n 1, 1) := by decide +kernel
theorem dL_973 : decode (mm_cc ML) 973 = .ok (.aload_n 0, 1) := by decide +kernel
theorem dL_974 : decode (mm_cc ML) 974 = .ok (.iload_n 3, 1) := by decide +kernel
theorem dL_975 : decode (mm_cc ML) 975 = .ok (.iconst 1, 1) := by decide +kernel
theorem dL_976 : decode (mm_cc ML) 976 = .ok (.iadd, 1) := by decide +kernel
theorem dL_977 : decode (mm_cc ML) 977 = .ok (.iaload, 1) := by decide +kernel
theorem dL_978 : decode (mm_cc ML) 978 = .ok (.invokevirtual 133, 3) := by decide +kernel
theorem dL_981 : decode (mm_cc ML) 981 = .ok (.aload_n 2, 1) := by decide +kernel
theorem dL_982 : decode (mm_cc ML) 982 = .ok (.aload_n 0, 1) := by decide +kernel
theorem dL_983 : decode (mm_cc ML) 983 = .ok (.iload_n 3, 1) := by decide +kernel
theorem dL_984 : decode (mm_cc ML) 984 = .ok (.iconst 1, 1) := by decide +kernel
theorem dL_985 : decode (mm_cc ML) 985 = .ok (.iadd, 1) := by decide +kernel
theorem dL_986 : decode (mm_cc ML) 986 = .ok (.iaload, 1) := by decide +kernel
theorem dL_987 : decode (mm_cc ML) 987 = .ok (.invokevirtual 136, 3) := by decide +kernel
theorem dL_990 : decode (mm_cc ML) 990 = .ok (.if_icmp .eq 28, 3) := by decide +kernel
theorem dL_993 : decode (mm_cc ML) 993 = .ok (.iconst 0, 1) := by decide +kernel
theorem dL_994 : decode (mm_cc ML) 994 = .ok (.ireturn, 1) := by decide +kernel
theorem dL_995 : decode (mm_cc ML) 995 = .ok (.aload_n 1, 1) := by decide +kernel
theorem dL_996 : decode (mm_cc ML) 996 = .ok (.aload_n 0, 1) := by decide +kernel
theorem dL_997 : decode (mm_cc ML) 997 = .ok (.iload_n 3, 1) := by decide +kernel
theorem dL_998 : decode (mm_cc ML) 998 = .ok (.iconst 1, 1) := by decide +kernel
theorem dL_999 : decode (mm_cc ML) 999 = .ok (.iadd, 1) := by decide +kernel
theorem dL_1000 : decode (mm_cc ML) 1000 = .ok (.iaload, 1) := by decide +kernel
theorem dL_1001 : decode (mm_cc ML) 1001 = .ok (.invokevirtual 137, 3) := by decide +kernel
theorem dL_1004 : decode (mm_cc ML) 1004 = .ok (.aload_n 2, 1) := by decide +kernel
theorem dL_1005 : decode (mm_cc ML) 1005 = .ok (.aload_n 0, 1) := by decide +kernel
theorem dL_1006 : decode (mm_cc ML) 1006 = .ok (.iload_n 3, 1) := by decide +kernel
theorem dL_1007 : decode (mm_cc ML) 1007 = .ok (.iconst 1, 1) := by decide +kernel
theorem dL_1008 : decode (mm_cc ML) 1008 = .ok (.iadd, 1) := by decide +kernel
theorem dL_1009 : decode (mm_cc ML) 1009 = .ok (.iaload, 1) := by decide +kernel
theorem dL_1010 : decode (mm_cc ML) 1010 = .ok (.invokevirtual 140, 3) := by decide +kernel
theorem dL_1013 : decode (mm_cc ML) 1013 = .ok (.if_icmp .eq 5, 3) := by decide +kernel
theorem dL_1016 : decode (mm_cc ML) 1016 = .ok (.iconst 0, 1) := by decide +kernel
theorem dL_1017 : decode (mm_cc ML) 1017 = .ok (.ireturn, 1) := by decide +kernel
theorem dL_1018 : decode (mm_cc ML) 1018 = .ok (.iinc 3 5, 3) := by decide +kernel
theorem dL_1021 : decode (mm_cc ML) 1021 = .ok (.goto (-1003), 3) := by decide +kernel
theorem dL_1024 : decode (mm_cc ML) 1024 = .ok (.iconst 1, 1) := by decide +kernel
theorem dL_1025 : decode (mm_cc ML) 1025 = .ok (.ireturn, 1) := by decide +kernel
theorem kL_13 : Cond.constantLong RL 13 4294967295 ∈ mm_GW := mm_g7 177 (by decide +kernel) rfl
theorem lk_L_15 : mm_LV RL 15 M10_feed 2 := ⟨Or.inl (mm_g3 1 (by decide +kernel) rfl), ms_10_feed⟩
theorem lk_L_19 : mm_LV RL 19 M11_feed 2 := ⟨Or.inl (mm_g6 98 (by decide +kernel) rfl), ms_11_feed⟩
theorem lk_L_20 : mm_LV RL 20 M10_town 0 := ⟨Or.inl (mm_g3 16 (by decide +kernel) rfl), ms_10_town⟩
theorem lk_L_24 : mm_LV RL 24 M11_town 0 := ⟨Or.inl (mm_g6 109 (by decide +kernel) rfl), ms_11_town⟩
theorem lk_L_25 : mm_LV RL 25 M10_laws 0 := ⟨Or.inl (mm_g3 204 (by decide +kernel) rfl), ms_10_laws⟩
theorem lk_L_28 : mm_LV RL 28 M11_laws 0 := ⟨Or.inl (mm_g6 167 (by decide +kernel) rfl), ms_11_laws⟩
theorem lk_L_29 : mm_LV RL 29 M10_fault 0 := ⟨Or.inl (mm_g4 3 (by decide +kernel) rfl), ms_10_fault⟩
theorem lk_L_32 : mm_LV RL 32 M11_fault 0 := ⟨Or.inl (mm_g6 176 (by decide +kernel) rfl), ms_11_fault⟩
theorem lk_L_33 : mm_LV RL 33 M10_told 1 := ⟨Or.inl (mm_g4 7 (by decide +kernel) rfl), ms_10_told⟩
theorem lk_L_37 : mm_LV RL 37 M11_told 1 := ⟨Or.inl (mm_g6 180 (by decide +kernel) rfl), ms_11_told⟩
theorem lk_L_38 : mm_LV RL 38 M10_trade 2 := ⟨Or.inl (mm_g4 19 (by decide +kernel) rfl), ms_10_trade⟩
theorem lk_L_42 : mm_LV RL 42 M11_trade 2 := ⟨Or.inl (mm_g6 196 (by decide +kernel) rfl), ms_11_trade⟩
theorem lk_L_43 : mm_LV RL 43 M10_person 2 := ⟨Or.inl (mm_g4 30 (by decide +kernel) rfl), ms_10_person⟩
theorem lk_L_46 : mm_LV RL 46 M11_person 2 := ⟨Or.inl (mm_g6 205 (by decide +kernel) rfl), ms_11_person⟩
theorem lk_L_47 : mm_LV RL 47 M10_skill 2 := ⟨Or.inl (mm_g4 45 (by decide +kernel) rfl), ms_10_skill⟩
theorem lk_L_50 : mm_LV RL 50 M11_skill 2 := ⟨Or.inl (mm_g6 217 (by decide +kernel) rfl), ms_11_skill⟩
theorem lk_L_51 : mm_LV RL 51 M10_like 2 := ⟨Or.inl (mm_g4 54 (by decide +kernel) rfl), ms_10_like⟩
theorem lk_L_54 : mm_LV RL 54 M11_like 2 := ⟨Or.inl (mm_g6 221 (by decide +kernel) rfl), ms_11_like⟩
theorem lk_L_55 : mm_LV RL 55 M10_change 4 := ⟨Or.inl (mm_g4 64 (by decide +kernel) rfl), ms_10_change⟩
theorem lk_L_59 : mm_LV RL 59 M11_change 4 := ⟨Or.inl (mm_g6 225 (by decide +kernel) rfl), ms_11_change⟩
theorem lk_L_60 : mm_LV RL 60 M10_practise 2 := ⟨Or.inl (mm_g4 112 (by decide +kernel) rfl), ms_10_practise⟩
theorem lk_L_63 : mm_LV RL 63 M11_practise 2 := ⟨Or.inl (mm_g7 15 (by decide +kernel) rfl), ms_11_practise⟩
theorem lk_L_64 : mm_LV RL 64 M10_night 2 := ⟨Or.inl (mm_g4 118 (by decide +kernel) rfl), ms_10_night⟩
theorem lk_L_67 : mm_LV RL 67 M11_night 2 := ⟨Or.inl (mm_g7 19 (by decide +kernel) rfl), ms_11_night⟩
theorem lk_L_68 : mm_LV RL 68 M10_year 1 := ⟨Or.inl (mm_g4 139 (by decide +kernel) rfl), ms_10_year⟩
theorem lk_L_71 : mm_LV RL 71 M11_year 1 := ⟨Or.inl (mm_g7 31 (by decide +kernel) rfl), ms_11_year⟩
theorem lk_L_72 : mm_LV RL 72 M10_drift 2 := ⟨Or.inl (mm_g4 171 (by decide +kernel) rfl), ms_10_drift⟩
theorem lk_L_75 : mm_LV RL 75 M11_drift 2 := ⟨Or.inl (mm_g7 56 (by decide +kernel) rfl), ms_11_drift⟩
theorem lk_L_76 : mm_LV RL 76 M10_compared 3 := ⟨Or.inl (mm_g4 198 (by decide +kernel) rfl), ms_10_compared⟩
theorem lk_L_80 : mm_LV RL 80 M11_compared 3 := ⟨Or.inl (mm_g7 73 (by decide +kernel) rfl), ms_11_compared⟩
theorem lk_L_81 : mm_LV RL 81 M10_begin 0 := ⟨Or.inl (mm_g4 203 (by decide +kernel) rfl), ms_10_begin⟩
theorem lk_L_84 : mm_LV RL 84 M11_begin 0 := ⟨Or.inl (mm_g6 97 (by decide +kernel) rfl), ms_11_begin⟩
theorem lk_L_85 : mm_LV RL 85 M10_want 2 := ⟨Or.inl (mm_g4 207 (by decide +kernel) rfl), ms_10_want⟩
theorem lk_L_88 : mm_LV RL 88 M11_want 2 := ⟨Or.inl (mm_g7 86 (by decide +kernel) rfl), ms_11_want⟩
theorem lk_L_89 : mm_LV RL 89 M10_changed 1 := ⟨Or.inl (mm_g4 211 (by decide +kernel) rfl), ms_10_changed⟩
theorem lk_L_92 : mm_LV RL 92 M11_changed 1 := ⟨Or.inl (mm_g7 90 (by decide +kernel) rfl), ms_11_changed⟩
theorem lk_L_93 : mm_LV RL 93 M10_ring 1 := ⟨Or.inl (mm_g5 23 (by decide +kernel) rfl), ms_10_ring⟩
theorem lk_L_96 : mm_LV RL 96 M11_ring 1 := ⟨Or.inl (mm_g7 107 (by decide +kernel) rfl), ms_11_ring⟩
theorem lk_L_97 : mm_LV RL 97 M10_lastHand 2 := ⟨Or.inl (mm_g5 63 (by decide +kernel) rfl), ms_10_lastHand⟩
theorem lk_L_100 : mm_LV RL 100 M11_lastHand 2 := ⟨Or.inl (mm_g7 132 (by decide +kernel) rfl), ms_11_lastHand⟩
theorem lk_L_101 : mm_LV RL 101 M10_till 1 := ⟨Or.inl (mm_g5 71 (by decide +kernel) rfl), ms_10_till⟩
theorem lk_L_104 : mm_LV RL 104 M11_till 1 := ⟨Or.inl (mm_g7 136 (by decide +kernel) rfl), ms_11_till⟩
theorem lk_L_105 : mm_LV RL 105 M10_make 2 := ⟨Or.inl (mm_g5 75 (by decide +kernel) rfl), ms_10_make⟩
theorem lk_L_108 : mm_LV RL 108 M11_make 2 := ⟨Or.inl (mm_g7 140 (by decide +kernel) rfl), ms_11_make⟩
theorem lk_L_109 : mm_LV RL 109 M10_makers 1 := ⟨Or.inl (mm_g5 84 (by decide +kernel) rfl), ms_10_makers⟩
theorem lk_L_112 : mm_LV RL 112 M11_makers 1 := ⟨Or.inl (mm_g7 144 (by decide +kernel) rfl), ms_11_makers⟩
theorem lk_L_113 : mm_LV RL 113 M10_fits 2 := ⟨Or.inl (mm_g5 94 (by decide +kernel) rfl), ms_10_fits⟩
theorem lk_L_116 : mm_LV RL 116 M11_fits 2 := ⟨Or.inl (mm_g7 148 (by decide +kernel) rfl), ms_11_fits⟩
theorem lk_L_117 : mm_LV RL 117 M10_write 3 := ⟨Or.inl (mm_g5 109 (by decide +kernel) rfl), ms_10_write⟩
theorem lk_L_120 : mm_LV RL 120 M11_write 3 := ⟨Or.inl (mm_g7 153 (by decide +kernel) rfl), ms_11_write⟩
theorem lk_L_121 : mm_LV RL 121 M10_tear 0 := ⟨Or.inl (mm_g5 117 (by decide +kernel) rfl), ms_10_tear⟩
theorem lk_L_124 : mm_LV RL 124 M11_tear 0 := ⟨Or.inl (mm_g7 157 (by decide +kernel) rfl), ms_11_tear⟩
theorem lk_L_125 : mm_LV RL 125 M10_judge 0 := ⟨Or.inl (mm_g5 121 (by decide +kernel) rfl), ms_10_judge⟩
theorem lk_L_128 : mm_LV RL 128 M11_judge 0 := ⟨Or.inl (mm_g7 161 (by decide +kernel) rfl), ms_11_judge⟩
theorem lk_L_129 : mm_LV RL 129 M10_seed 1 := ⟨Or.inl (mm_g5 130 (by decide +kernel) rfl), ms_10_seed⟩
theorem lk_L_132 : mm_LV RL 132 M11_seed 1 := ⟨Or.inl (mm_g7 165 (by decide +kernel) rfl), ms_11_seed⟩
theorem lk_L_133 : mm_LV RL 133 M10_keep 1 := ⟨Or.inl (mm_g5 134 (by decide +kernel) rfl), ms_10_keep⟩
theorem lk_L_136 : mm_LV RL 136 M11_keep 1 := ⟨Or.inl (mm_g7 169 (by decide +kernel) rfl), ms_11_keep⟩
theorem lk_L_137 : mm_LV RL 137 M10_goBack 1 := ⟨Or.inl (mm_g5 142 (by decide +kernel) rfl), ms_10_goBack⟩
theorem lk_L_140 : mm_LV RL 140 M11_goBack 1 := ⟨Or.inl (mm_g7 173 (by decide +kernel) rfl), ms_11_goBack⟩
theorem SZ_x : SZ[0]? = some (.inr (10, [.inl 1, .inl 4, .inl 15, .inl 26, .inl 27, .inl 28, .inl 29, .inl 46, .inl 63, .inl 80, .inl 97, .inl 114, .inl 131, .inl 133, .inl 146, .inl 147, .inl 148, .inl 149, .inl 158, .inr 0])) := by decide +kernel
theorem SZ_m : SZ[167]? = some (.inr (11, [.inr 0, .inl 168, .inr 0, .inl 169, .inl 170, .inl 171, .inr 0, .inr 0, .inr 0, .inr 0, .inr 0, .inr 0, .inl 172, .inl 173, .inl 174, .inl 175, .inl 176, .inl 177, .inl 178, .inl 179, .inl 180, .inl 181, .inl 182, .inr 0, .inr 0, .inl 183, .inl 184, .inr 0, .inr 0, .inr 0, .inr 1, .inr 0, .inr 0, .inr 0, .inr 0, .inl 185, .inr 0, .inl 186, .inl 187, .inr 0, .inl 188, .inl 189, .inl 190, .inl 191, .inr 0, .inl 192, .inl 193, .inr 0, .inr 0, .inl 194, .inl 195, .inr 0, .inl 196, .inl 197, .inl 198, .inl 199, .inl 200])) := by decide +kernel
theorem SZ_isx : mm_is SZ 0 10 := ⟨_, SZ_x, by decide +kernel⟩
theorem SZ_ism : mm_is SZ 167 11 := ⟨_, SZ_m, by decide +kernel⟩
/-- the law's end; the script is the cell of number 4000000 -/
def lwP (L : Nat) (xs : Nat → Int32) (args : Array Value) (s : State) (ad : Nat → Nat) (A : Nat → Prop) : Prop := args = #[Value.ref (ad 4000000)] ∧ va_X (ad 4000000) L xs s s.heap ∧ ad 4000000 < s.heap.size ∧ ∀ q, A q → s.heap.size ≤ q
def lwE (L : Nat) (xs : Nat → Int32) : mm_VE := fun below args s _ _ ad A t => lwP L xs args s ad A → lw_Z below args s t
theorem lw_mono {n : Nat} (hn : n ≤ 1000000) {L : Nat} {xs : Nat → Int32} : mm_mono n (lwE L xs) := by
  intro below args s D cA ad ad2 A t he h hp
  have e : ad2 4000000 = ad 4000000 := he _ (Or.inr (by omega))
  refine h ?_
  unfold lwP at hp ⊢
  rw [e]
  exact hp
section LWR
variable {l : Launch} {R : Room} {cs ss : Nat} {S : mm_Sh} {L : Nat} {xs : Nat → Int32} {pc : Nat} {lv : List (Nat × Value)} {stk : List Value} {I : mm_I} {J : mm_J} {M : mm_M}
theorem mv_sld {i : Int32} (hd : decode (mm_cc M) pc = .ok (.iaload, 1)) (hin : vp_in i L) (kk : mm_V l M R S (lwE L xs) (pc + 1) lv (.int (xs i.toNatClampNeg) :: stk) I J cs ss) : mm_V l M R S (lwE L xs) pc lv (.int i :: .ref 4000000 :: stk) I J cs ss := by
  intro p e s m args below meth c D cA ad A H locs ls X hP hS hl
  by_cases hp : lwP L xs args s ad A
  · obtain ⟨h1, h2, h3, h4⟩ := hp
    exact va_sld X.1 X.2.1 h2 h3 (fun q => by have := h4 _ q; omega) hS hin hd (kk p e s m args below meth c D cA ad A H locs ls X hP hS hl)
  · intro T hT X'
    exact ⟨_, Steps.refl _, fun h => absurd h hp⟩
theorem mv_slen (hd : decode (mm_cc M) pc = .ok (.arraylength, 1)) (kk : mm_V l M R S (lwE L xs) (pc + 1) lv (.int (Int32.ofNat L) :: stk) I J cs ss) : mm_V l M R S (lwE L xs) pc lv (.ref 4000000 :: stk) I J cs ss := by
  intro p e s m args below meth c D cA ad A H locs ls X hP hS hl
  by_cases hp : lwP L xs args s ad A
  · obtain ⟨h1, h2, h3, h4⟩ := hp
    exact va_slen X.1 X.2.1 h2 h3 (fun q => by have := h4 _ q; omega) hS hd (kk p e s m args below meth c D cA ad A H locs ls X hP hS hl)
  · intro T hT X'
    exact ⟨_, Steps.refl _, fun h => absurd h hp⟩
theorem mv_lwret (hd : decode (mm_cc ML) pc = .ok (.ireturn, 1)) (hcs : cs ≤ 600000) (hss : ss ≤ 7302250) : mm_V l ML room_1 S (lwE L xs) pc lv [.int 1] I J cs ss := by
  intro p e s m args below meth c D cA ad A H locs ls X hP hS hl
  obtain ⟨hx, hb, hml, hown, hts, hnest, hK, hinj, hAr, hT, hA, hname, hret, hlocks⟩ := X
  by_cases hp : lwP L xs args s ad A
  · obtain ⟨h1, h2, h3, h4⟩ := hp
    subst h1
    refine mm_Wmono (Q2 := lw_Z below #[Value.ref (ad 4000000)] s) (fun t ht _ => ht) ?_
    exact va_forget (fun q hq => h4 _ (hS.2.2 q hq)) (W.widen hcs hss (lw_ret (b := ad 4000000) hx hb hret hlocks hd))
  · intro T hT X'
    exact ⟨_, Steps.refl _, fun h => absurd h hp⟩
end LWR
theorem lw_in {i L k : Nat} (h : i + 5 ≤ L) (hL : L ≤ 2560) (hk : k < 5) : vp_in (nI i + nI k) L := by
  rw [nI_add]
  exact vp_in_nI (by omega) (by omega)
/-- feed: both answer alike -/
def St_feed (Inv : Nat → mm_I → mm_J → Prop) : Prop := ∀ (k : Nat), k < 512 → ∀ (a : Int32) (b : Int64) (I : mm_I) (J : mm_J), Inv k I J → ∃ (n : Nat) (o1 : Int32 × mm_I × mm_J) (o2 : Int32 × mm_I × mm_J), f10_feed SZ n 0 a b I J = some o1 ∧ f11_feed SZ n 167 a b o1.2.1 o1.2.2 = some o2 ∧ o1.1 = o2.1 ∧ Inv (k + 1) o2.2.1 o2.2.2
set_option maxHeartbeats 4000000 in
set_option maxRecDepth 100000 in
theorem lw_c_feed (l : Launch) {Inv : Nat → mm_I → mm_J → Prop} (hs : St_feed Inv) {L : Nat} (hL : L ≤ 2560) {xs : Nat → Int32} {i k : Nat} (hk : k < 512) (hi : i + 5 ≤ L) {I : mm_I} {J : mm_J} (hv : Inv k I J) (kk : ∀ (I' : mm_I) (J' : mm_J), Inv (k + 1) I' J' → mm_V l ML room_1 SZ (lwE L xs) 1018 [(0, .ref 4000000), (1, .ref 0), (2, .ref 167), (3, .int (nI i))] [] I' J' 201 7356) : mm_V l ML room_1 SZ (lwE L xs) 168 [(0, .ref 4000000), (1, .ref 0), (2, .ref 167), (3, .int (nI i))] [] I J 201 7356 := by
  obtain ⟨n, o1, o2, h1, h2, h3, h4⟩ := hs k hk (xs (nI i + nI 1).toNatClampNeg) ((((xs (nI i + nI 2).toNatClampNeg).toInt64 <<< ((32 : Int32).toInt64 &&& 63)) ||| ((xs (nI i + nI 3).toNatClampNeg).toInt64 &&& (4294967295 : Int64)))) I J hv
  refine mv_aload_n dL_168 rfl ?_
  refine mv_aload_n dL_169 rfl ?_
  refine mv_iload_n dL_170 rfl ?_
  refine mv_iconst (v := nI 1) dL_171 (by decide +kernel) ?_
  refine mv_iadd dL_172 ?_
  refine mv_sld dL_173 (lw_in hi hL (by decide)) ?_
  refine mv_aload_n dL_174 rfl ?_
  refine mv_iload_n dL_175 rfl ?_
  refine mv_iconst (v := nI 2) dL_176 (by decide +kernel) ?_
  refine mv_iadd dL_177 ?_
  refine mv_sld dL_178 (lw_in hi hL (by decide)) ?_
  refine mv_i2l dL_179 ?_
  refine mv_bipush (v := 32) dL_180 (by decide +kernel) ?_
  refine mv_lshl dL_182 ?_
  refine mv_aload_n dL_183 rfl ?_
  refine mv_iload_n dL_184 rfl ?_
  refine mv_iconst (v := nI 3) dL_185 (by decide +kernel) ?_
  refine mv_iadd dL_186 ?_
  refine mv_sld dL_187 (lw_in hi hL (by decide)) ?_
  refine mv_i2l dL_188 ?_
  refine mv_ldc2 (v := 4294967295) dL_189 kL_13 ?_
  refine mv_land dL_192 ?_
  refine mv_lor dL_193 ?_
  refine mv_cVi (ci := 10) (As := [.int (xs (nI i + nI 1).toNatClampNeg), .long ((((xs (nI i + nI 2).toNatClampNeg).toInt64 <<< ((32 : Int32).toInt64 &&& 63)) ||| ((xs (nI i + nI 3).toNatClampNeg).toInt64 &&& (4294967295 : Int64))))]) (fs := [.inl 1, .inl 4, .inl 15, .inl 26, .inl 27, .inl 28, .inl 29, .inl 46, .inl 63, .inl 80, .inl 97, .inl 114, .inl 131, .inl 133, .inl 146, .inl 147, .inl 148, .inl 149, .inl 158, .inr 0]) (ok10_feed l SZ_wt SZ_isx h1) lk_L_15 rfl dL_194 ⟨Nat.le_of_ble_eq_true rfl, Nat.le_of_ble_eq_true rfl, Nat.le_of_ble_eq_true rfl, Nat.le_of_ble_eq_true rfl⟩ rfl SZ_x rfl rfl ?_
  refine mv_aload_n dL_197 rfl ?_
  refine mv_aload_n dL_198 rfl ?_
  refine mv_iload_n dL_199 rfl ?_
  refine mv_iconst (v := nI 1) dL_200 (by decide +kernel) ?_
  refine mv_iadd dL_201 ?_
  refine mv_sld dL_202 (lw_in hi hL (by decide)) ?_
  refine mv_aload_n dL_203 rfl ?_
  refine mv_iload_n dL_204 rfl ?_
  refine mv_iconst (v := nI 2) dL_205 (by decide +kernel) ?_
  refine mv_iadd dL_206 ?_
  refine mv_sld dL_207 (lw_in hi hL (by decide)) ?_
  refine mv_i2l dL_208 ?_
  refine mv_bipush (v := 32) dL_209 (by decide +kernel) ?_
  refine mv_lshl dL_211 ?_
  refine mv_aload_n dL_212 rfl ?_
  refine mv_iload_n dL_213 rfl ?_
  refine mv_iconst (v := nI 3) dL_214 (by decide +kernel) ?_
  refine mv_iadd dL_215 ?_
  refine mv_sld dL_216 (lw_in hi hL (by decide)) ?_
  refine mv_i2l dL_217 ?_
  refine mv_ldc2 (v := 4294967295) dL_218 kL_13 ?_
  refine mv_land dL_221 ?_
  refine mv_lor dL_222 ?_
  refine mv_cVi (ci := 11) (As := [.int (xs (nI i + nI 1).toNatClampNeg), .long ((((xs (nI i + nI 2).toNatClampNeg).toInt64 <<< ((32 : Int32).toInt64 &&& 63)) ||| ((xs (nI i + nI 3).toNatClampNeg).toInt64 &&& (4294967295 : Int64))))]) (fs := [.inr 0, .inl 168, .inr 0, .inl 169, .inl 170, .inl 171, .inr 0, .inr 0, .inr 0, .inr 0, .inr 0, .inr 0, .inl 172, .inl 173, .inl 174, .inl 175, .inl 176, .inl 177, .inl 178, .inl 179, .inl 180, .inl 181, .inl 182, .inr 0, .inr 0, .inl 183, .inl 184, .inr 0, .inr 0, .inr 0, .inr 1, .inr 0, .inr 0, .inr 0, .inr 0, .inl 185, .inr 0, .inl 186, .inl 187, .inr 0, .inl 188, .inl 189, .inl 190, .inl 191, .inr 0, .inl 192, .inl 193, .inr 0, .inr 0, .inl 194, .inl 195, .inr 0, .inl 196, .inl 197, .inl 198, .inl 199, .inl 200]) (ok11_feed l SZ_wt SZ_ism h2) lk_L_19 rfl dL_223 ⟨Nat.le_of_ble_eq_true rfl, Nat.le_of_ble_eq_true rfl, Nat.le_of_ble_eq_true rfl, Nat.le_of_ble_eq_true rfl⟩ rfl SZ_m rfl rfl ?_
  refine mv_icmp_eq (tgt := 1018) dL_226 (by decide) (fun _ => ?_) (fun hc => absurd h3 hc)
  exact kk _ _ h4
/-- town: both answer alike -/
def St_town (Inv : Nat → mm_I → mm_J → Prop) : Prop := ∀ (k : Nat), k < 512 → ∀  (I : mm_I) (J : mm_J), Inv k I J → ∃ (n : Nat) (o1 : Int32 × mm_I × mm_J) (o2 : Int32 × mm_I × mm_J), f10_town SZ n 0 I J = some o1 ∧ f11_town SZ n 167 o1.2.1 o1.2.2 = some o2 ∧ o1.1 = o2.1 ∧ Inv (k + 1) o2.2.1 o2.2.2
set_option maxHeartbeats 4000000 in
set_option maxRecDepth 100000 in
theorem lw_c_town (l : Launch) {Inv : Nat → mm_I → mm_J → Prop} (hs : St_town Inv) {L : Nat} (hL : L ≤ 2560) {xs : Nat → Int32} {i k : Nat} (hk : k < 512) (hi : i + 5 ≤ L) {I : mm_I} {J : mm_J} (hv : Inv k I J) (kk : ∀ (I' : mm_I) (J' : mm_J), Inv (k + 1) I' J' → mm_V l ML room_1 SZ (lwE L xs) 1018 [(0, .ref 4000000), (1, .ref 0), (2, .ref 167), (3, .int (nI i))] [] I' J' 201 7356) : mm_V l ML room_1 SZ (lwE L xs) 231 [(0, .ref 4000000), (1, .ref 0), (2, .ref 167), (3, .int (nI i))] [] I J 201 7356 := by
  obtain ⟨n, o1, o2, h1, h2, h3, h4⟩ := hs k hk  I J hv
  refine mv_aload_n dL_231 rfl ?_
  refine mv_cVi (ci := 10) (As := []) (fs := [.inl 1, .inl 4, .inl 15, .inl 26, .inl 27, .inl 28, .inl 29, .inl 46, .inl 63, .inl 80, .inl 97, .inl 114, .inl 131, .inl 133, .inl 146, .inl 147, .inl 148, .inl 149, .inl 158, .inr 0]) (ok10_town l SZ_wt SZ_isx h1) lk_L_20 rfl dL_232 ⟨Nat.le_of_ble_eq_true rfl, Nat.le_of_ble_eq_true rfl, Nat.le_of_ble_eq_true rfl, Nat.le_of_ble_eq_true rfl⟩ rfl SZ_x rfl rfl ?_
  refine mv_aload_n dL_235 rfl ?_
  refine mv_cVi (ci := 11) (As := []) (fs := [.inr 0, .inl 168, .inr 0, .inl 169, .inl 170, .inl 171, .inr 0, .inr 0, .inr 0, .inr 0, .inr 0, .inr 0, .inl 172, .inl 173, .inl 174, .inl 175, .inl 176, .inl 177, .inl 178, .inl 179, .inl 180, .inl 181, .inl 182, .inr 0, .inr 0, .inl 183, .inl 184, .inr 0, .inr 0, .inr 0, .inr 1, .inr 0, .inr 0, .inr 0, .inr 0, .inl 185, .inr 0, .inl 186, .inl 187, .inr 0, .inl 188, .inl 189, .inl 190, .inl 191, .inr 0, .inl 192, .inl 193, .inr 0, .inr 0, .inl 194, .inl 195, .inr 0, .inl 196, .inl 197, .inl 198, .inl 199, .inl 200]) (ok11_town l SZ_wt SZ_ism h2) lk_L_24 rfl dL_236 ⟨Nat.le_of_ble_eq_true rfl, Nat.le_of_ble_eq_true rfl, Nat.le_of_ble_eq_true rfl, Nat.le_of_ble_eq_true rfl⟩ rfl SZ_m rfl rfl ?_
  refine mv_icmp_eq (tgt := 1018) dL_239 (by decide) (fun _ => ?_) (fun hc => absurd h3 hc)
  exact kk _ _ h4
/-- laws: both answer alike -/
def St_laws (Inv : Nat → mm_I → mm_J → Prop) : Prop := ∀ (k : Nat), k < 512 → ∀  (I : mm_I) (J : mm_J), Inv k I J → ∃ (n : Nat) (o1 : Int32 × mm_I × mm_J) (o2 : Int32 × mm_I × mm_J), f10_laws SZ n 0 I J = some o1 ∧ f11_laws SZ n 167 o1.2.1 o1.2.2 = some o2 ∧ o1.1 = o2.1 ∧ Inv (k + 1) o2.2.1 o2.2.2
set_option maxHeartbeats 4000000 in
set_option maxRecDepth 100000 in
theorem lw_c_laws (l : Launch) {Inv : Nat → mm_I → mm_J → Prop} (hs : St_laws Inv) {L : Nat} (hL : L ≤ 2560) {xs : Nat → Int32} {i k : Nat} (hk : k < 512) (hi : i + 5 ≤ L) {I : mm_I} {J : mm_J} (hv : Inv k I J) (kk : ∀ (I' : mm_I) (J' : mm_J), Inv (k + 1) I' J' → mm_V l ML room_1 SZ (lwE L xs) 1018 [(0, .ref 4000000), (1, .ref 0), (2, .ref 167), (3, .int (nI i))] [] I' J' 201 7356) : mm_V l ML room_1 SZ (lwE L xs) 244 [(0, .ref 4000000), (1, .ref 0), (2, .ref 167), (3, .int (nI i))] [] I J 201 7356 := by
  obtain ⟨n, o1, o2, h1, h2, h3, h4⟩ := hs k hk  I J hv
  refine mv_aload_n dL_244 rfl ?_
  refine mv_cVi (ci := 10) (As := []) (fs := [.inl 1, .inl 4, .inl 15, .inl 26, .inl 27, .inl 28, .inl 29, .inl 46, .inl 63, .inl 80, .inl 97, .inl 114, .inl 131, .inl 133, .inl 146, .inl 147, .inl 148, .inl 149, .inl 158, .inr 0]) (ok10_laws l SZ_wt SZ_isx h1) lk_L_25 rfl dL_245 ⟨Nat.le_of_ble_eq_true rfl, Nat.le_of_ble_eq_true rfl, Nat.le_of_ble_eq_true rfl, Nat.le_of_ble_eq_true rfl⟩ rfl SZ_x rfl rfl ?_
  refine mv_aload_n dL_248 rfl ?_
  refine mv_cVi (ci := 11) (As := []) (fs := [.inr 0, .inl 168, .inr 0, .inl 169, .inl 170, .inl 171, .inr 0, .inr 0, .inr 0, .inr 0, .inr 0, .inr 0, .inl 172, .inl 173, .inl 174, .inl 175, .inl 176, .inl 177, .inl 178, .inl 179, .inl 180, .inl 181, .inl 182, .inr 0, .inr 0, .inl 183, .inl 184, .inr 0, .inr 0, .inr 0, .inr 1, .inr 0, .inr 0, .inr 0, .inr 0, .inl 185, .inr 0, .inl 186, .inl 187, .inr 0, .inl 188, .inl 189, .inl 190, .inl 191, .inr 0, .inl 192, .inl 193, .inr 0, .inr 0, .inl 194, .inl 195, .inr 0, .inl 196, .inl 197, .inl 198, .inl 199, .inl 200]) (ok11_laws l SZ_wt SZ_ism h2) lk_L_28 rfl dL_249 ⟨Nat.le_of_ble_eq_true rfl, Nat.le_of_ble_eq_true rfl, Nat.le_of_ble_eq_true rfl, Nat.le_of_ble_eq_true rfl⟩ rfl SZ_m rfl rfl ?_
  refine mv_icmp_eq (tgt := 1018) dL_252 (by decide) (fun _ => ?_) (fun hc => absurd h3 hc)
  exact kk _ _ h4
/-- fault: both answer alike -/
def St_fault (Inv : Nat → mm_I → mm_J → Prop) : Prop := ∀ (k : Nat), k < 512 → ∀  (I : mm_I) (J : mm_J), Inv k I J → ∃ (n : Nat) (o1 : Int32) (o2 : Int32), f10_fault SZ 0 I J = some o1 ∧ f11_fault SZ 167 I J = some o2 ∧ o1 = o2 ∧ Inv (k + 1) I J
set_option maxHeartbeats 4000000 in
set_option maxRecDepth 100000 in
theorem lw_c_fault (l : Launch) {Inv : Nat → mm_I → mm_J → Prop} (hs : St_fault Inv) {L : Nat} (hL : L ≤ 2560) {xs : Nat → Int32} {i k : Nat} (hk : k < 512) (hi : i + 5 ≤ L) {I : mm_I} {J : mm_J} (hv : Inv k I J) (kk : ∀ (I' : mm_I) (J' : mm_J), Inv (k + 1) I' J' → mm_V l ML room_1 SZ (lwE L xs) 1018 [(0, .ref 4000000), (1, .ref 0), (2, .ref 167), (3, .int (nI i))] [] I' J' 201 7356) : mm_V l ML room_1 SZ (lwE L xs) 257 [(0, .ref 4000000), (1, .ref 0), (2, .ref 167), (3, .int (nI i))] [] I J 201 7356 := by
  obtain ⟨n, o1, o2, h1, h2, h3, h4⟩ := hs k hk  I J hv
  refine mv_aload_n dL_257 rfl ?_
  refine mv_cVi (ci := 10) (As := []) (fs := [.inl 1, .inl 4, .inl 15, .inl 26, .inl 27, .inl 28, .inl 29, .inl 46, .inl 63, .inl 80, .inl 97, .inl 114, .inl 131, .inl 133, .inl 146, .inl 147, .inl 148, .inl 149, .inl 158, .inr 0]) (ok10_fault l SZ_wt SZ_isx h1) lk_L_29 rfl dL_258 ⟨Nat.le_of_ble_eq_true rfl, Nat.le_of_ble_eq_true rfl, Nat.le_of_ble_eq_true rfl, Nat.le_of_ble_eq_true rfl⟩ rfl SZ_x rfl rfl ?_
  refine mv_aload_n dL_261 rfl ?_
  refine mv_cVi (ci := 11) (As := []) (fs := [.inr 0, .inl 168, .inr 0, .inl 169, .inl 170, .inl 171, .inr 0, .inr 0, .inr 0, .inr 0, .inr 0, .inr 0, .inl 172, .inl 173, .inl 174, .inl 175, .inl 176, .inl 177, .inl 178, .inl 179, .inl 180, .inl 181, .inl 182, .inr 0, .inr 0, .inl 183, .inl 184, .inr 0, .inr 0, .inr 0, .inr 1, .inr 0, .inr 0, .inr 0, .inr 0, .inl 185, .inr 0, .inl 186, .inl 187, .inr 0, .inl 188, .inl 189, .inl 190, .inl 191, .inr 0, .inl 192, .inl 193, .inr 0, .inr 0, .inl 194, .inl 195, .inr 0, .inl 196, .inl 197, .inl 198, .inl 199, .inl 200]) (ok11_fault l SZ_wt SZ_ism h2) lk_L_32 rfl dL_262 ⟨Nat.le_of_ble_eq_true rfl, Nat.le_of_ble_eq_true rfl, Nat.le_of_ble_eq_true rfl, Nat.le_of_ble_eq_true rfl⟩ rfl SZ_m rfl rfl ?_
  refine mv_icmp_eq (tgt := 1018) dL_265 (by decide) (fun _ => ?_) (fun hc => absurd h3 hc)
  exact kk _ _ h4
/-- told: both answer alike -/
def St_told (Inv : Nat → mm_I → mm_J → Prop) : Prop := ∀ (k : Nat), k < 512 → ∀ (a : Int32) (I : mm_I) (J : mm_J), Inv k I J → ∃ (n : Nat) (o1 : Int32) (o2 : Int32), f10_told SZ n 0 a I J = some o1 ∧ f11_told SZ n 167 a I J = some o2 ∧ o1 = o2 ∧ Inv (k + 1) I J
set_option maxHeartbeats 4000000 in
set_option maxRecDepth 100000 in
theorem lw_c_told (l : Launch) {Inv : Nat → mm_I → mm_J → Prop} (hs : St_told Inv) {L : Nat} (hL : L ≤ 2560) {xs : Nat → Int32} {i k : Nat} (hk : k < 512) (hi : i + 5 ≤ L) {I : mm_I} {J : mm_J} (hv : Inv k I J) (kk : ∀ (I' : mm_I) (J' : mm_J), Inv (k + 1) I' J' → mm_V l ML room_1 SZ (lwE L xs) 1018 [(0, .ref 4000000), (1, .ref 0), (2, .ref 167), (3, .int (nI i))] [] I' J' 201 7356) : mm_V l ML room_1 SZ (lwE L xs) 270 [(0, .ref 4000000), (1, .ref 0), (2, .ref 167), (3, .int (nI i))] [] I J 201 7356 := by
  obtain ⟨n, o1, o2, h1, h2, h3, h4⟩ := hs k hk (xs (nI i + nI 1).toNatClampNeg) I J hv
  refine mv_aload_n dL_270 rfl ?_
  refine mv_aload_n dL_271 rfl ?_
  refine mv_iload_n dL_272 rfl ?_
  refine mv_iconst (v := nI 1) dL_273 (by decide +kernel) ?_
  refine mv_iadd dL_274 ?_
  refine mv_sld dL_275 (lw_in hi hL (by decide)) ?_
  refine mv_cVi (ci := 10) (As := [.int (xs (nI i + nI 1).toNatClampNeg)]) (fs := [.inl 1, .inl 4, .inl 15, .inl 26, .inl 27, .inl 28, .inl 29, .inl 46, .inl 63, .inl 80, .inl 97, .inl 114, .inl 131, .inl 133, .inl 146, .inl 147, .inl 148, .inl 149, .inl 158, .inr 0]) (ok10_told l SZ_wt SZ_isx h1) lk_L_33 rfl dL_276 ⟨Nat.le_of_ble_eq_true rfl, Nat.le_of_ble_eq_true rfl, Nat.le_of_ble_eq_true rfl, Nat.le_of_ble_eq_true rfl⟩ rfl SZ_x rfl rfl ?_
  refine mv_aload_n dL_279 rfl ?_
  refine mv_aload_n dL_280 rfl ?_
  refine mv_iload_n dL_281 rfl ?_
  refine mv_iconst (v := nI 1) dL_282 (by decide +kernel) ?_
  refine mv_iadd dL_283 ?_
  refine mv_sld dL_284 (lw_in hi hL (by decide)) ?_
  refine mv_cVi (ci := 11) (As := [.int (xs (nI i + nI 1).toNatClampNeg)]) (fs := [.inr 0, .inl 168, .inr 0, .inl 169, .inl 170, .inl 171, .inr 0, .inr 0, .inr 0, .inr 0, .inr 0, .inr 0, .inl 172, .inl 173, .inl 174, .inl 175, .inl 176, .inl 177, .inl 178, .inl 179, .inl 180, .inl 181, .inl 182, .inr 0, .inr 0, .inl 183, .inl 184, .inr 0, .inr 0, .inr 0, .inr 1, .inr 0, .inr 0, .inr 0, .inr 0, .inl 185, .inr 0, .inl 186, .inl 187, .inr 0, .inl 188, .inl 189, .inl 190, .inl 191, .inr 0, .inl 192, .inl 193, .inr 0, .inr 0, .inl 194, .inl 195, .inr 0, .inl 196, .inl 197, .inl 198, .inl 199, .inl 200]) (ok11_told l SZ_wt SZ_ism h2) lk_L_37 rfl dL_285 ⟨Nat.le_of_ble_eq_true rfl, Nat.le_of_ble_eq_true rfl, Nat.le_of_ble_eq_true rfl, Nat.le_of_ble_eq_true rfl⟩ rfl SZ_m rfl rfl ?_
  refine mv_icmp_eq (tgt := 1018) dL_288 (by decide) (fun _ => ?_) (fun hc => absurd h3 hc)
  exact kk _ _ h4
/-- trade: both answer alike -/
def St_trade (Inv : Nat → mm_I → mm_J → Prop) : Prop := ∀ (k : Nat), k < 512 → ∀ (a : Int32) (b : Int32) (I : mm_I) (J : mm_J), Inv k I J → ∃ (n : Nat) (o1 : Int32) (o2 : Int32), f10_trade SZ n 0 a b I J = some o1 ∧ f11_trade SZ n 167 a b I J = some o2 ∧ o1 = o2 ∧ Inv (k + 1) I J
set_option maxHeartbeats 4000000 in
set_option maxRecDepth 100000 in
theorem lw_c_trade (l : Launch) {Inv : Nat → mm_I → mm_J → Prop} (hs : St_trade Inv) {L : Nat} (hL : L ≤ 2560) {xs : Nat → Int32} {i k : Nat} (hk : k < 512) (hi : i + 5 ≤ L) {I : mm_I} {J : mm_J} (hv : Inv k I J) (kk : ∀ (I' : mm_I) (J' : mm_J), Inv (k + 1) I' J' → mm_V l ML room_1 SZ (lwE L xs) 1018 [(0, .ref 4000000), (1, .ref 0), (2, .ref 167), (3, .int (nI i))] [] I' J' 201 7356) : mm_V l ML room_1 SZ (lwE L xs) 293 [(0, .ref 4000000), (1, .ref 0), (2, .ref 167), (3, .int (nI i))] [] I J 201 7356 := by
  obtain ⟨n, o1, o2, h1, h2, h3, h4⟩ := hs k hk (xs (nI i + nI 1).toNatClampNeg) (xs (nI i + nI 2).toNatClampNeg) I J hv
  refine mv_aload_n dL_293 rfl ?_
  refine mv_aload_n dL_294 rfl ?_
  refine mv_iload_n dL_295 rfl ?_
  refine mv_iconst (v := nI 1) dL_296 (by decide +kernel) ?_
  refine mv_iadd dL_297 ?_
  refine mv_sld dL_298 (lw_in hi hL (by decide)) ?_
  refine mv_aload_n dL_299 rfl ?_
  refine mv_iload_n dL_300 rfl ?_
  refine mv_iconst (v := nI 2) dL_301 (by decide +kernel) ?_
  refine mv_iadd dL_302 ?_
  refine mv_sld dL_303 (lw_in hi hL (by decide)) ?_
  refine mv_cVi (ci := 10) (As := [.int (xs (nI i + nI 1).toNatClampNeg), .int (xs (nI i + nI 2).toNatClampNeg)]) (fs := [.inl 1, .inl 4, .inl 15, .inl 26, .inl 27, .inl 28, .inl 29, .inl 46, .inl 63, .inl 80, .inl 97, .inl 114, .inl 131, .inl 133, .inl 146, .inl 147, .inl 148, .inl 149, .inl 158, .inr 0]) (ok10_trade l SZ_wt SZ_isx h1) lk_L_38 rfl dL_304 ⟨Nat.le_of_ble_eq_true rfl, Nat.le_of_ble_eq_true rfl, Nat.le_of_ble_eq_true rfl, Nat.le_of_ble_eq_true rfl⟩ rfl SZ_x rfl rfl ?_
  refine mv_aload_n dL_307 rfl ?_
  refine mv_aload_n dL_308 rfl ?_
  refine mv_iload_n dL_309 rfl ?_
  refine mv_iconst (v := nI 1) dL_310 (by decide +kernel) ?_
  refine mv_iadd dL_311 ?_
  refine mv_sld dL_312 (lw_in hi hL (by decide)) ?_
  refine mv_aload_n dL_313 rfl ?_
  refine mv_iload_n dL_314 rfl ?_
  refine mv_iconst (v := nI 2) dL_315 (by decide +kernel) ?_
  refine mv_iadd dL_316 ?_
  refine mv_sld dL_317 (lw_in hi hL (by decide)) ?_
  refine mv_cVi (ci := 11) (As := [.int (xs (nI i + nI 1).toNatClampNeg), .int (xs (nI i + nI 2).toNatClampNeg)]) (fs := [.inr 0, .inl 168, .inr 0, .inl 169, .inl 170, .inl 171, .inr 0, .inr 0, .inr 0, .inr 0, .inr 0, .inr 0, .inl 172, .inl 173, .inl 174, .inl 175, .inl 176, .inl 177, .inl 178, .inl 179, .inl 180, .inl 181, .inl 182, .inr 0, .inr 0, .inl 183, .inl 184, .inr 0, .inr 0, .inr 0, .inr 1, .inr 0, .inr 0, .inr 0, .inr 0, .inl 185, .inr 0, .inl 186, .inl 187, .inr 0, .inl 188, .inl 189, .inl 190, .inl 191, .inr 0, .inl 192, .inl 193, .inr 0, .inr 0, .inl 194, .inl 195, .inr 0, .inl 196, .inl 197, .inl 198, .inl 199, .inl 200]) (ok11_trade l SZ_wt SZ_ism h2) lk_L_42 rfl dL_318 ⟨Nat.le_of_ble_eq_true rfl, Nat.le_of_ble_eq_true rfl, Nat.le_of_ble_eq_true rfl, Nat.le_of_ble_eq_true rfl⟩ rfl SZ_m rfl rfl ?_
  refine mv_icmp_eq (tgt := 1018) dL_321 (by decide) (fun _ => ?_) (fun hc => absurd h3 hc)
  exact kk _ _ h4
/-- person: both answer alike -/
def St_person (Inv : Nat → mm_I → mm_J → Prop) : Prop := ∀ (k : Nat), k < 512 → ∀ (a : Int32) (b : Int32) (I : mm_I) (J : mm_J), Inv k I J → ∃ (n : Nat) (o1 : Int32) (o2 : Int32), f10_person SZ n 0 a b I J = some o1 ∧ f11_person SZ n 167 a b I J = some o2 ∧ o1 = o2 ∧ Inv (k + 1) I J
set_option maxHeartbeats 4000000 in
set_option maxRecDepth 100000 in
theorem lw_c_person (l : Launch) {Inv : Nat → mm_I → mm_J → Prop} (hs : St_person Inv) {L : Nat} (hL : L ≤ 2560) {xs : Nat → Int32} {i k : Nat} (hk : k < 512) (hi : i + 5 ≤ L) {I : mm_I} {J : mm_J} (hv : Inv k I J) (kk : ∀ (I' : mm_I) (J' : mm_J), Inv (k + 1) I' J' → mm_V l ML room_1 SZ (lwE L xs) 1018 [(0, .ref 4000000), (1, .ref 0), (2, .ref 167), (3, .int (nI i))] [] I' J' 201 7356) : mm_V l ML room_1 SZ (lwE L xs) 326 [(0, .ref 4000000), (1, .ref 0), (2, .ref 167), (3, .int (nI i))] [] I J 201 7356 := by
  obtain ⟨n, o1, o2, h1, h2, h3, h4⟩ := hs k hk (xs (nI i + nI 1).toNatClampNeg) (xs (nI i + nI 2).toNatClampNeg) I J hv
  refine mv_aload_n dL_326 rfl ?_
  refine mv_aload_n dL_327 rfl ?_
  refine mv_iload_n dL_328 rfl ?_
  refine mv_iconst (v := nI 1) dL_329 (by decide +kernel) ?_
  refine mv_iadd dL_330 ?_
  refine mv_sld dL_331 (lw_in hi hL (by decide)) ?_
  refine mv_aload_n dL_332 rfl ?_
  refine mv_iload_n dL_333 rfl ?_
  refine mv_iconst (v := nI 2) dL_334 (by decide +kernel) ?_
  refine mv_iadd dL_335 ?_
  refine mv_sld dL_336 (lw_in hi hL (by decide)) ?_
  refine mv_cVi (ci := 10) (As := [.int (xs (nI i + nI 1).toNatClampNeg), .int (xs (nI i + nI 2).toNatClampNeg)]) (fs := [.inl 1, .inl 4, .inl 15, .inl 26, .inl 27, .inl 28, .inl 29, .inl 46, .inl 63, .inl 80, .inl 97, .inl 114, .inl 131, .inl 133, .inl 146, .inl 147, .inl 148, .inl 149, .inl 158, .inr 0]) (ok10_person l SZ_wt SZ_isx h1) lk_L_43 rfl dL_337 ⟨Nat.le_of_ble_eq_true rfl, Nat.le_of_ble_eq_true rfl, Nat.le_of_ble_eq_true rfl, Nat.le_of_ble_eq_true rfl⟩ rfl SZ_x rfl rfl ?_
  refine mv_aload_n dL_340 rfl ?_
  refine mv_aload_n dL_341 rfl ?_
  refine mv_iload_n dL_342 rfl ?_
  refine mv_iconst (v := nI 1) dL_343 (by decide +kernel) ?_
  refine mv_iadd dL_344 ?_
  refine mv_sld dL_345 (lw_in hi hL (by decide)) ?_
  refine mv_aload_n dL_346 rfl ?_
  refine mv_iload_n dL_347 rfl ?_
  refine mv_iconst (v := nI 2) dL_348 (by decide +kernel) ?_
  refine mv_iadd dL_349 ?_
  refine mv_sld dL_350 (lw_in hi hL (by decide)) ?_
  refine mv_cVi (ci := 11) (As := [.int (xs (nI i + nI 1).toNatClampNeg), .int (xs (nI i + nI 2).toNatClampNeg)]) (fs := [.inr 0, .inl 168, .inr 0, .inl 169, .inl 170, .inl 171, .inr 0, .inr 0, .inr 0, .inr 0, .inr 0, .inr 0, .inl 172, .inl 173, .inl 174, .inl 175, .inl 176, .inl 177, .inl 178, .inl 179, .inl 180, .inl 181, .inl 182, .inr 0, .inr 0, .inl 183, .inl 184, .inr 0, .inr 0, .inr 0, .inr 1, .inr 0, .inr 0, .inr 0, .inr 0, .inl 185, .inr 0, .inl 186, .inl 187, .inr 0, .inl 188, .inl 189, .inl 190, .inl 191, .inr 0, .inl 192, .inl 193, .inr 0, .inr 0, .inl 194, .inl 195, .inr 0, .inl 196, .inl 197, .inl 198, .inl 199, .inl 200]) (ok11_person l SZ_wt SZ_ism h2) lk_L_46 rfl dL_351 ⟨Nat.le_of_ble_eq_true rfl, Nat.le_of_ble_eq_true rfl, Nat.le_of_ble_eq_true rfl, Nat.le_of_ble_eq_true rfl⟩ rfl SZ_m rfl rfl ?_
  refine mv_icmp_eq (tgt := 1018) dL_354 (by decide) (fun _ => ?_) (fun hc => absurd h3 hc)
  exact kk _ _ h4
/-- skill: both answer alike -/
def St_skill (Inv : Nat → mm_I → mm_J → Prop) : Prop := ∀ (k : Nat), k < 512 → ∀ (a : Int32) (b : Int32) (I : mm_I) (J : mm_J), Inv k I J → ∃ (n : Nat) (o1 : Int32) (o2 : Int32), f10_skill SZ 0 a b I J = some o1 ∧ f11_skill SZ 167 a b I J = some o2 ∧ o1 = o2 ∧ Inv (k + 1) I J
set_option maxHeartbeats 4000000 in
set_option maxRecDepth 100000 in
theorem lw_c_skill (l : Launch) {Inv : Nat → mm_I → mm_J → Prop} (hs : St_skill Inv) {L : Nat} (hL : L ≤ 2560) {xs : Nat → Int32} {i k : Nat} (hk : k < 512) (hi : i + 5 ≤ L) {I : mm_I} {J : mm_J} (hv : Inv k I J) (kk : ∀ (I' : mm_I) (J' : mm_J), Inv (k + 1) I' J' → mm_V l ML room_1 SZ (lwE L xs) 1018 [(0, .ref 4000000), (1, .ref 0), (2, .ref 167), (3, .int (nI i))] [] I' J' 201 7356) : mm_V l ML room_1 SZ (lwE L xs) 359 [(0, .ref 4000000), (1, .ref 0), (2, .ref 167), (3, .int (nI i))] [] I J 201 7356 := by
  obtain ⟨n, o1, o2, h1, h2, h3, h4⟩ := hs k hk (xs (nI i + nI 1).toNatClampNeg) (xs (nI i + nI 2).toNatClampNeg) I J hv
  refine mv_aload_n dL_359 rfl ?_
  refine mv_aload_n dL_360 rfl ?_
  refine mv_iload_n dL_361 rfl ?_
  refine mv_iconst (v := nI 1) dL_362 (by decide +kernel) ?_
  refine mv_iadd dL_363 ?_
  refine mv_sld dL_364 (lw_in hi hL (by decide)) ?_
  refine mv_aload_n dL_365 rfl ?_
  refine mv_iload_n dL_366 rfl ?_
  refine mv_iconst (v := nI 2) dL_367 (by decide +kernel) ?_
  refine mv_iadd dL_368 ?_
  refine mv_sld dL_369 (lw_in hi hL (by decide)) ?_
  refine mv_cVi (ci := 10) (As := [.int (xs (nI i + nI 1).toNatClampNeg), .int (xs (nI i + nI 2).toNatClampNeg)]) (fs := [.inl 1, .inl 4, .inl 15, .inl 26, .inl 27, .inl 28, .inl 29, .inl 46, .inl 63, .inl 80, .inl 97, .inl 114, .inl 131, .inl 133, .inl 146, .inl 147, .inl 148, .inl 149, .inl 158, .inr 0]) (ok10_skill l SZ_wt SZ_isx h1) lk_L_47 rfl dL_370 ⟨Nat.le_of_ble_eq_true rfl, Nat.le_of_ble_eq_true rfl, Nat.le_of_ble_eq_true rfl, Nat.le_of_ble_eq_true rfl⟩ rfl SZ_x rfl rfl ?_
  refine mv_aload_n dL_373 rfl ?_
  refine mv_aload_n dL_374 rfl ?_
  refine mv_iload_n dL_375 rfl ?_
  refine mv_iconst (v := nI 1) dL_376 (by decide +kernel) ?_
  refine mv_iadd dL_377 ?_
  refine mv_sld dL_378 (lw_in hi hL (by decide)) ?_
  refine mv_aload_n dL_379 rfl ?_
  refine mv_iload_n dL_380 rfl ?_
  refine mv_iconst (v := nI 2) dL_381 (by decide +kernel) ?_
  refine mv_iadd dL_382 ?_
  refine mv_sld dL_383 (lw_in hi hL (by decide)) ?_
  refine mv_cVi (ci := 11) (As := [.int (xs (nI i + nI 1).toNatClampNeg), .int (xs (nI i + nI 2).toNatClampNeg)]) (fs := [.inr 0, .inl 168, .inr 0, .inl 169, .inl 170, .inl 171, .inr 0, .inr 0, .inr 0, .inr 0, .inr 0, .inr 0, .inl 172, .inl 173, .inl 174, .inl 175, .inl 176, .inl 177, .inl 178, .inl 179, .inl 180, .inl 181, .inl 182, .inr 0, .inr 0, .inl 183, .inl 184, .inr 0, .inr 0, .inr 0, .inr 1, .inr 0, .inr 0, .inr 0, .inr 0, .inl 185, .inr 0, .inl 186, .inl 187, .inr 0, .inl 188, .inl 189, .inl 190, .inl 191, .inr 0, .inl 192, .inl 193, .inr 0, .inr 0, .inl 194, .inl 195, .inr 0, .inl 196, .inl 197, .inl 198, .inl 199, .inl 200]) (ok11_skill l SZ_wt SZ_ism h2) lk_L_50 rfl dL_384 ⟨Nat.le_of_ble_eq_true rfl, Nat.le_of_ble_eq_true rfl, Nat.le_of_ble_eq_true rfl, Nat.le_of_ble_eq_true rfl⟩ rfl SZ_m rfl rfl ?_
  refine mv_icmp_eq (tgt := 1018) dL_387 (by decide) (fun _ => ?_) (fun hc => absurd h3 hc)
  exact kk _ _ h4
/-- like: both answer alike -/
def St_like (Inv : Nat → mm_I → mm_J → Prop) : Prop := ∀ (k : Nat), k < 512 → ∀ (a : Int32) (b : Int32) (I : mm_I) (J : mm_J), Inv k I J → ∃ (n : Nat) (o1 : Int32) (o2 : Int32), f10_like SZ 0 a b I J = some o1 ∧ f11_like SZ 167 a b I J = some o2 ∧ o1 = o2 ∧ Inv (k + 1) I J
set_option maxHeartbeats 4000000 in
set_option maxRecDepth 100000 in
theorem lw_c_like (l : Launch) {Inv : Nat → mm_I → mm_J → Prop} (hs : St_like Inv) {L : Nat} (hL : L ≤ 2560) {xs : Nat → Int32} {i k : Nat} (hk : k < 512) (hi : i + 5 ≤ L) {I : mm_I} {J : mm_J} (hv : Inv k I J) (kk : ∀ (I' : mm_I) (J' : mm_J), Inv (k + 1) I' J' → mm_V l ML room_1 SZ (lwE L xs) 1018 [(0, .ref 4000000), (1, .ref 0), (2, .ref 167), (3, .int (nI i))] [] I' J' 201 7356) : mm_V l ML room_1 SZ (lwE L xs) 392 [(0, .ref 4000000), (1, .ref 0), (2, .ref 167), (3, .int (nI i))] [] I J 201 7356 := by
  obtain ⟨n, o1, o2, h1, h2, h3, h4⟩ := hs k hk (xs (nI i + nI 1).toNatClampNeg) (xs (nI i + nI 2).toNatClampNeg) I J hv
  refine mv_aload_n dL_392 rfl ?_
  refine mv_aload_n dL_393 rfl ?_
  refine mv_iload_n dL_394 rfl ?_
  refine mv_iconst (v := nI 1) dL_395 (by decide +kernel) ?_
  refine mv_iadd dL_396 ?_
  refine mv_sld dL_397 (lw_in hi hL (by decide)) ?_
  refine mv_aload_n dL_398 rfl ?_
  refine mv_iload_n dL_399 rfl ?_
  refine mv_iconst (v := nI 2) dL_400 (by decide +kernel) ?_
  refine mv_iadd dL_401 ?_
  refine mv_sld dL_402 (lw_in hi hL (by decide)) ?_
  refine mv_cVi (ci := 10) (As := [.int (xs (nI i + nI 1).toNatClampNeg), .int (xs (nI i + nI 2).toNatClampNeg)]) (fs := [.inl 1, .inl 4, .inl 15, .inl 26, .inl 27, .inl 28, .inl 29, .inl 46, .inl 63, .inl 80, .inl 97, .inl 114, .inl 131, .inl 133, .inl 146, .inl 147, .inl 148, .inl 149, .inl 158, .inr 0]) (ok10_like l SZ_wt SZ_isx h1) lk_L_51 rfl dL_403 ⟨Nat.le_of_ble_eq_true rfl, Nat.le_of_ble_eq_true rfl, Nat.le_of_ble_eq_true rfl, Nat.le_of_ble_eq_true rfl⟩ rfl SZ_x rfl rfl ?_
  refine mv_aload_n dL_406 rfl ?_
  refine mv_aload_n dL_407 rfl ?_
  refine mv_iload_n dL_408 rfl ?_
  refine mv_iconst (v := nI 1) dL_409 (by decide +kernel) ?_
  refine mv_iadd dL_410 ?_
  refine mv_sld dL_411 (lw_in hi hL (by decide)) ?_
  refine mv_aload_n dL_412 rfl ?_
  refine mv_iload_n dL_413 rfl ?_
  refine mv_iconst (v := nI 2) dL_414 (by decide +kernel) ?_
  refine mv_iadd dL_415 ?_
  refine mv_sld dL_416 (lw_in hi hL (by decide)) ?_
  refine mv_cVi (ci := 11) (As := [.int (xs (nI i + nI 1).toNatClampNeg), .int (xs (nI i + nI 2).toNatClampNeg)]) (fs := [.inr 0, .inl 168, .inr 0, .inl 169, .inl 170, .inl 171, .inr 0, .inr 0, .inr 0, .inr 0, .inr 0, .inr 0, .inl 172, .inl 173, .inl 174, .inl 175, .inl 176, .inl 177, .inl 178, .inl 179, .inl 180, .inl 181, .inl 182, .inr 0, .inr 0, .inl 183, .inl 184, .inr 0, .inr 0, .inr 0, .inr 1, .inr 0, .inr 0, .inr 0, .inr 0, .inl 185, .inr 0, .inl 186, .inl 187, .inr 0, .inl 188, .inl 189, .inl 190, .inl 191, .inr 0, .inl 192, .inl 193, .inr 0, .inr 0, .inl 194, .inl 195, .inr 0, .inl 196, .inl 197, .inl 198, .inl 199, .inl 200]) (ok11_like l SZ_wt SZ_ism h2) lk_L_54 rfl dL_417 ⟨Nat.le_of_ble_eq_true rfl, Nat.le_of_ble_eq_true rfl, Nat.le_of_ble_eq_true rfl, Nat.le_of_ble_eq_true rfl⟩ rfl SZ_m rfl rfl ?_
  refine mv_icmp_eq (tgt := 1018) dL_420 (by decide) (fun _ => ?_) (fun hc => absurd h3 hc)
  exact kk _ _ h4
/-- change: both answer alike -/
def St_change (Inv : Nat → mm_I → mm_J → Prop) : Prop := ∀ (k : Nat), k < 512 → ∀ (a : Int32) (b : Int32) (c : Int32) (d : Int32) (I : mm_I) (J : mm_J), Inv k I J → ∃ (n : Nat) (o1 : Int32 × mm_I × mm_J) (o2 : Int32 × mm_I × mm_J), f10_change SZ n 0 a b c d I J = some o1 ∧ f11_change SZ n 167 a b c d o1.2.1 o1.2.2 = some o2 ∧ o1.1 = o2.1 ∧ Inv (k + 1) o2.2.1 o2.2.2
set_option maxHeartbeats 4000000 in
set_option maxRecDepth 100000 in
theorem lw_c_change (l : Launch) {Inv : Nat → mm_I → mm_J → Prop} (hs : St_change Inv) {L : Nat} (hL : L ≤ 2560) {xs : Nat → Int32} {i k : Nat} (hk : k < 512) (hi : i + 5 ≤ L) {I : mm_I} {J : mm_J} (hv : Inv k I J) (kk : ∀ (I' : mm_I) (J' : mm_J), Inv (k + 1) I' J' → mm_V l ML room_1 SZ (lwE L xs) 1018 [(0, .ref 4000000), (1, .ref 0), (2, .ref 167), (3, .int (nI i))] [] I' J' 201 7356) : mm_V l ML room_1 SZ (lwE L xs) 425 [(0, .ref 4000000), (1, .ref 0), (2, .ref 167), (3, .int (nI i))] [] I J 201 7356 := by
  obtain ⟨n, o1, o2, h1, h2, h3, h4⟩ := hs k hk (xs (nI i + nI 1).toNatClampNeg) (xs (nI i + nI 2).toNatClampNeg) (xs (nI i + nI 3).toNatClampNeg) (xs (nI i + nI 4).toNatClampNeg) I J hv
  refine mv_aload_n dL_425 rfl ?_
  refine mv_aload_n dL_426 rfl ?_
  refine mv_iload_n dL_427 rfl ?_
  refine mv_iconst (v := nI 1) dL_428 (by decide +kernel) ?_
  refine mv_iadd dL_429 ?_
  refine mv_sld dL_430 (lw_in hi hL (by decide)) ?_
  refine mv_aload_n dL_431 rfl ?_
  refine mv_iload_n dL_432 rfl ?_
  refine mv_iconst (v := nI 2) dL_433 (by decide +kernel) ?_
  refine mv_iadd dL_434 ?_
  refine mv_sld dL_435 (lw_in hi hL (by decide)) ?_
  refine mv_aload_n dL_436 rfl ?_
  refine mv_iload_n dL_437 rfl ?_
  refine mv_iconst (v := nI 3) dL_438 (by decide +kernel) ?_
  refine mv_iadd dL_439 ?_
  refine mv_sld dL_440 (lw_in hi hL (by decide)) ?_
  refine mv_aload_n dL_441 rfl ?_
  refine mv_iload_n dL_442 rfl ?_
  refine mv_iconst (v := nI 4) dL_443 (by decide +kernel) ?_
  refine mv_iadd dL_444 ?_
  refine mv_sld dL_445 (lw_in hi hL (by decide)) ?_
  refine mv_cVi (ci := 10) (As := [.int (xs (nI i + nI 1).toNatClampNeg), .int (xs (nI i + nI 2).toNatClampNeg), .int (xs (nI i + nI 3).toNatClampNeg), .int (xs (nI i + nI 4).toNatClampNeg)]) (fs := [.inl 1, .inl 4, .inl 15, .inl 26, .inl 27, .inl 28, .inl 29, .inl 46, .inl 63, .inl 80, .inl 97, .inl 114, .inl 131, .inl 133, .inl 146, .inl 147, .inl 148, .inl 149, .inl 158, .inr 0]) (ok10_change l SZ_wt SZ_isx h1) lk_L_55 rfl dL_446 ⟨Nat.le_of_ble_eq_true rfl, Nat.le_of_ble_eq_true rfl, Nat.le_of_ble_eq_true rfl, Nat.le_of_ble_eq_true rfl⟩ rfl SZ_x rfl rfl ?_
  refine mv_aload_n dL_449 rfl ?_
  refine mv_aload_n dL_450 rfl ?_
  refine mv_iload_n dL_451 rfl ?_
  refine mv_iconst (v := nI 1) dL_452 (by decide +kernel) ?_
  refine mv_iadd dL_453 ?_
  refine mv_sld dL_454 (lw_in hi hL (by decide)) ?_
  refine mv_aload_n dL_455 rfl ?_
  refine mv_iload_n dL_456 rfl ?_
  refine mv_iconst (v := nI 2) dL_457 (by decide +kernel) ?_
  refine mv_iadd dL_458 ?_
  refine mv_sld dL_459 (lw_in hi hL (by decide)) ?_
  refine mv_aload_n dL_460 rfl ?_
  refine mv_iload_n dL_461 rfl ?_
  refine mv_iconst (v := nI 3) dL_462 (by decide +kernel) ?_
  refine mv_iadd dL_463 ?_
  refine mv_sld dL_464 (lw_in hi hL (by decide)) ?_
  refine mv_aload_n dL_465 rfl ?_
  refine mv_iload_n dL_466 rfl ?_
  refine mv_iconst (v := nI 4) dL_467 (by decide +kernel) ?_
  refine mv_iadd dL_468 ?_
  refine mv_sld dL_469 (lw_in hi hL (by decide)) ?_
  refine mv_cVi (ci := 11) (As := [.int (xs (nI i + nI 1).toNatClampNeg), .int (xs (nI i + nI 2).toNatClampNeg), .int (xs (nI i + nI 3).toNatClampNeg), .int (xs (nI i + nI 4).toNatClampNeg)]) (fs := [.inr 0, .inl 168, .inr 0, .inl 169, .inl 170, .inl 171, .inr 0, .inr 0, .inr 0, .inr 0, .inr 0, .inr 0, .inl 172, .inl 173, .inl 174, .inl 175, .inl 176, .inl 177, .inl 178, .inl 179, .inl 180, .inl 181, .inl 182, .inr 0, .inr 0, .inl 183, .inl 184, .inr 0, .inr 0, .inr 0, .inr 1, .inr 0, .inr 0, .inr 0, .inr 0, .inl 185, .inr 0, .inl 186, .inl 187, .inr 0, .inl 188, .inl 189, .inl 190, .inl 191, .inr 0, .inl 192, .inl 193, .inr 0, .inr 0, .inl 194, .inl 195, .inr 0, .inl 196, .inl 197, .inl 198, .inl 199, .inl 200]) (ok11_change l SZ_wt SZ_ism h2) lk_L_59 rfl dL_470 ⟨Nat.le_of_ble_eq_true rfl, Nat.le_of_ble_eq_true rfl, Nat.le_of_ble_eq_true rfl, Nat.le_of_ble_eq_true rfl⟩ rfl SZ_m rfl rfl ?_
  refine mv_icmp_eq (tgt := 1018) dL_473 (by decide) (fun _ => ?_) (fun hc => absurd h3 hc)
  exact kk _ _ h4
/-- practise: both answer alike -/
def St_practise (Inv : Nat → mm_I → mm_J → Prop) : Prop := ∀ (k : Nat), k < 512 → ∀ (a : Int32) (b : Int32) (I : mm_I) (J : mm_J), Inv k I J → ∃ (n : Nat) (o1 : Int32 × mm_I × mm_J) (o2 : Int32 × mm_I × mm_J), f10_practise SZ 0 a b I J = some o1 ∧ f11_practise SZ 167 a b o1.2.1 o1.2.2 = some o2 ∧ o1.1 = o2.1 ∧ Inv (k + 1) o2.2.1 o2.2.2
set_option maxHeartbeats 4000000 in
set_option maxRecDepth 100000 in
theorem lw_c_practise (l : Launch) {Inv : Nat → mm_I → mm_J → Prop} (hs : St_practise Inv) {L : Nat} (hL : L ≤ 2560) {xs : Nat → Int32} {i k : Nat} (hk : k < 512) (hi : i + 5 ≤ L) {I : mm_I} {J : mm_J} (hv : Inv k I J) (kk : ∀ (I' : mm_I) (J' : mm_J), Inv (k + 1) I' J' → mm_V l ML room_1 SZ (lwE L xs) 1018 [(0, .ref 4000000), (1, .ref 0), (2, .ref 167), (3, .int (nI i))] [] I' J' 201 7356) : mm_V l ML room_1 SZ (lwE L xs) 478 [(0, .ref 4000000), (1, .ref 0), (2, .ref 167), (3, .int (nI i))] [] I J 201 7356 := by
  obtain ⟨n, o1, o2, h1, h2, h3, h4⟩ := hs k hk (xs (nI i + nI 1).toNatClampNeg) (xs (nI i + nI 2).toNatClampNeg) I J hv
  refine mv_aload_n dL_478 rfl ?_
  refine mv_aload_n dL_479 rfl ?_
  refine mv_iload_n dL_480 rfl ?_
  refine mv_iconst (v := nI 1) dL_481 (by decide +kernel) ?_
  refine mv_iadd dL_482 ?_
  refine mv_sld dL_483 (lw_in hi hL (by decide)) ?_
  refine mv_aload_n dL_484 rfl ?_
  refine mv_iload_n dL_485 rfl ?_
  refine mv_iconst (v := nI 2) dL_486 (by decide +kernel) ?_
  refine mv_iadd dL_487 ?_
  refine mv_sld dL_488 (lw_in hi hL (by decide)) ?_
  refine mv_cVi (ci := 10) (As := [.int (xs (nI i + nI 1).toNatClampNeg), .int (xs (nI i + nI 2).toNatClampNeg)]) (fs := [.inl 1, .inl 4, .inl 15, .inl 26, .inl 27, .inl 28, .inl 29, .inl 46, .inl 63, .inl 80, .inl 97, .inl 114, .inl 131, .inl 133, .inl 146, .inl 147, .inl 148, .inl 149, .inl 158, .inr 0]) (ok10_practise l SZ_wt SZ_isx h1) lk_L_60 rfl dL_489 ⟨Nat.le_of_ble_eq_true rfl, Nat.le_of_ble_eq_true rfl, Nat.le_of_ble_eq_true rfl, Nat.le_of_ble_eq_true rfl⟩ rfl SZ_x rfl rfl ?_
  refine mv_aload_n dL_492 rfl ?_
  refine mv_aload_n dL_493 rfl ?_
  refine mv_iload_n dL_494 rfl ?_
  refine mv_iconst (v := nI 1) dL_495 (by decide +kernel) ?_
  refine mv_iadd dL_496 ?_
  refine mv_sld dL_497 (lw_in hi hL (by decide)) ?_
  refine mv_aload_n dL_498 rfl ?_
  refine mv_iload_n dL_499 rfl ?_
  refine mv_iconst (v := nI 2) dL_500 (by decide +kernel) ?_
  refine mv_iadd dL_501 ?_
  refine mv_sld dL_502 (lw_in hi hL (by decide)) ?_
  refine mv_cVi (ci := 11) (As := [.int (xs (nI i + nI 1).toNatClampNeg), .int (xs (nI i + nI 2).toNatClampNeg)]) (fs := [.inr 0, .inl 168, .inr 0, .inl 169, .inl 170, .inl 171, .inr 0, .inr 0, .inr 0, .inr 0, .inr 0, .inr 0, .inl 172, .inl 173, .inl 174, .inl 175, .inl 176, .inl 177, .inl 178, .inl 179, .inl 180, .inl 181, .inl 182, .inr 0, .inr 0, .inl 183, .inl 184, .inr 0, .inr 0, .inr 0, .inr 1, .inr 0, .inr 0, .inr 0, .inr 0, .inl 185, .inr 0, .inl 186, .inl 187, .inr 0, .inl 188, .inl 189, .inl 190, .inl 191, .inr 0, .inl 192, .inl 193, .inr 0, .inr 0, .inl 194, .inl 195, .inr 0, .inl 196, .inl 197, .inl 198, .inl 199, .inl 200]) (ok11_practise l SZ_wt SZ_ism h2) lk_L_63 rfl dL_503 ⟨Nat.le_of_ble_eq_true rfl, Nat.le_of_ble_eq_true rfl, Nat.le_of_ble_eq_true rfl, Nat.le_of_ble_eq_true rfl⟩ rfl SZ_m rfl rfl ?_
  refine mv_icmp_eq (tgt := 1018) dL_506 (by decide) (fun _ => ?_) (fun hc => absurd h3 hc)
  exact kk _ _ h4
/-- night: both answer alike -/
def St_night (Inv : Nat → mm_I → mm_J → Prop) : Prop := ∀ (k : Nat), k < 512 → ∀ (a : Int32) (b : Int32) (I : mm_I) (J : mm_J), Inv k I J → ∃ (n : Nat) (o1 : Int32 × mm_I × mm_J) (o2 : Int32 × mm_I × mm_J), f10_night SZ 0 a b I J = some o1 ∧ f11_night SZ n 167 a b o1.2.1 o1.2.2 = some o2 ∧ o1.1 = o2.1 ∧ Inv (k + 1) o2.2.1 o2.2.2
set_option maxHeartbeats 4000000 in
set_option maxRecDepth 100000 in
theorem lw_c_night (l : Launch) {Inv : Nat → mm_I → mm_J → Prop} (hs : St_night Inv) {L : Nat} (hL : L ≤ 2560) {xs : Nat → Int32} {i k : Nat} (hk : k < 512) (hi : i + 5 ≤ L) {I : mm_I} {J : mm_J} (hv : Inv k I J) (kk : ∀ (I' : mm_I) (J' : mm_J), Inv (k + 1) I' J' → mm_V l ML room_1 SZ (lwE L xs) 1018 [(0, .ref 4000000), (1, .ref 0), (2, .ref 167), (3, .int (nI i))] [] I' J' 201 7356) : mm_V l ML room_1 SZ (lwE L xs) 511 [(0, .ref 4000000), (1, .ref 0), (2, .ref 167), (3, .int (nI i))] [] I J 201 7356 := by
  obtain ⟨n, o1, o2, h1, h2, h3, h4⟩ := hs k hk (xs (nI i + nI 1).toNatClampNeg) (xs (nI i + nI 2).toNatClampNeg) I J hv
  refine mv_aload_n dL_511 rfl ?_
  refine mv_aload_n dL_512 rfl ?_
  refine mv_iload_n dL_513 rfl ?_
  refine mv_iconst (v := nI 1) dL_514 (by decide +kernel) ?_
  refine mv_iadd dL_515 ?_
  refine mv_sld dL_516 (lw_in hi hL (by decide)) ?_
  refine mv_aload_n dL_517 rfl ?_
  refine mv_iload_n dL_518 rfl ?_
  refine mv_iconst (v := nI 2) dL_519 (by decide +kernel) ?_
  refine mv_iadd dL_520 ?_
  refine mv_sld dL_521 (lw_in hi hL (by decide)) ?_
  refine mv_cVi (ci := 10) (As := [.int (xs (nI i + nI 1).toNatClampNeg), .int (xs (nI i + nI 2).toNatClampNeg)]) (fs := [.inl 1, .inl 4, .inl 15, .inl 26, .inl 27, .inl 28, .inl 29, .inl 46, .inl 63, .inl 80, .inl 97, .inl 114, .inl 131, .inl 133, .inl 146, .inl 147, .inl 148, .inl 149, .inl 158, .inr 0]) (ok10_night l SZ_wt SZ_isx h1) lk_L_64 rfl dL_522 ⟨Nat.le_of_ble_eq_true rfl, Nat.le_of_ble_eq_true rfl, Nat.le_of_ble_eq_true rfl, Nat.le_of_ble_eq_true rfl⟩ rfl SZ_x rfl rfl ?_
  refine mv_aload_n dL_525 rfl ?_
  refine mv_aload_n dL_526 rfl ?_
  refine mv_iload_n dL_527 rfl ?_
  refine mv_iconst (v := nI 1) dL_528 (by decide +kernel) ?_
  refine mv_iadd dL_529 ?_
  refine mv_sld dL_530 (lw_in hi hL (by decide)) ?_
  refine mv_aload_n dL_531 rfl ?_
  refine mv_iload_n dL_532 rfl ?_
  refine mv_iconst (v := nI 2) dL_533 (by decide +kernel) ?_
  refine mv_iadd dL_534 ?_
  refine mv_sld dL_535 (lw_in hi hL (by decide)) ?_
  refine mv_cVi (ci := 11) (As := [.int (xs (nI i + nI 1).toNatClampNeg), .int (xs (nI i + nI 2).toNatClampNeg)]) (fs := [.inr 0, .inl 168, .inr 0, .inl 169, .inl 170, .inl 171, .inr 0, .inr 0, .inr 0, .inr 0, .inr 0, .inr 0, .inl 172, .inl 173, .inl 174, .inl 175, .inl 176, .inl 177, .inl 178, .inl 179, .inl 180, .inl 181, .inl 182, .inr 0, .inr 0, .inl 183, .inl 184, .inr 0, .inr 0, .inr 0, .inr 1, .inr 0, .inr 0, .inr 0, .inr 0, .inl 185, .inr 0, .inl 186, .inl 187, .inr 0, .inl 188, .inl 189, .inl 190, .inl 191, .inr 0, .inl 192, .inl 193, .inr 0, .inr 0, .inl 194, .inl 195, .inr 0, .inl 196, .inl 197, .inl 198, .inl 199, .inl 200]) (ok11_night l SZ_wt SZ_ism h2) lk_L_67 rfl dL_536 ⟨Nat.le_of_ble_eq_true rfl, Nat.le_of_ble_eq_true rfl, Nat.le_of_ble_eq_true rfl, Nat.le_of_ble_eq_true rfl⟩ rfl SZ_m rfl rfl ?_
  refine mv_icmp_eq (tgt := 1018) dL_539 (by decide) (fun _ => ?_) (fun hc => absurd h3 hc)
  exact kk _ _ h4
/-- year: both answer alike -/
def St_year (Inv : Nat → mm_I → mm_J → Prop) : Prop := ∀ (k : Nat), k < 512 → ∀ (a : Int32) (I : mm_I) (J : mm_J), Inv k I J → ∃ (n : Nat) (o1 : Int32 × mm_I × mm_J) (o2 : Int32 × mm_I × mm_J), f10_year SZ n 0 a I J = some o1 ∧ f11_year SZ n 167 a o1.2.1 o1.2.2 = some o2 ∧ o1.1 = o2.1 ∧ Inv (k + 1) o2.2.1 o2.2.2
set_option maxHeartbeats 4000000 in
set_option maxRecDepth 100000 in
theorem lw_c_year (l : Launch) {Inv : Nat → mm_I → mm_J → Prop} (hs : St_year Inv) {L : Nat} (hL : L ≤ 2560) {xs : Nat → Int32} {i k : Nat} (hk : k < 512) (hi : i + 5 ≤ L) {I : mm_I} {J : mm_J} (hv : Inv k I J) (kk : ∀ (I' : mm_I) (J' : mm_J), Inv (k + 1) I' J' → mm_V l ML room_1 SZ (lwE L xs) 1018 [(0, .ref 4000000), (1, .ref 0), (2, .ref 167), (3, .int (nI i))] [] I' J' 201 7356) : mm_V l ML room_1 SZ (lwE L xs) 544 [(0, .ref 4000000), (1, .ref 0), (2, .ref 167), (3, .int (nI i))] [] I J 201 7356 := by
  obtain ⟨n, o1, o2, h1, h2, h3, h4⟩ := hs k hk (xs (nI i + nI 1).toNatClampNeg) I J hv
  refine mv_aload_n dL_544 rfl ?_
  refine mv_aload_n dL_545 rfl ?_
  refine mv_iload_n dL_546 rfl ?_
  refine mv_iconst (v := nI 1) dL_547 (by decide +kernel) ?_
  refine mv_iadd dL_548 ?_
  refine mv_sld dL_549 (lw_in hi hL (by decide)) ?_
  refine mv_cVi (ci := 10) (As := [.int (xs (nI i + nI 1).toNatClampNeg)]) (fs := [.inl 1, .inl 4, .inl 15, .inl 26, .inl 27, .inl 28, .inl 29, .inl 46, .inl 63, .inl 80, .inl 97, .inl 114, .inl 131, .inl 133, .inl 146, .inl 147, .inl 148, .inl 149, .inl 158, .inr 0]) (ok10_year l SZ_wt SZ_isx h1) lk_L_68 rfl dL_550 ⟨Nat.le_of_ble_eq_true rfl, Nat.le_of_ble_eq_true rfl, Nat.le_of_ble_eq_true rfl, Nat.le_of_ble_eq_true rfl⟩ rfl SZ_x rfl rfl ?_
  refine mv_aload_n dL_553 rfl ?_
  refine mv_aload_n dL_554 rfl ?_
  refine mv_iload_n dL_555 rfl ?_
  refine mv_iconst (v := nI 1) dL_556 (by decide +kernel) ?_
  refine mv_iadd dL_557 ?_
  refine mv_sld dL_558 (lw_in hi hL (by decide)) ?_
  refine mv_cVi (ci := 11) (As := [.int (xs (nI i + nI 1).toNatClampNeg)]) (fs := [.inr 0, .inl 168, .inr 0, .inl 169, .inl 170, .inl 171, .inr 0, .inr 0, .inr 0, .inr 0, .inr 0, .inr 0, .inl 172, .inl 173, .inl 174, .inl 175, .inl 176, .inl 177, .inl 178, .inl 179, .inl 180, .inl 181, .inl 182, .inr 0, .inr 0, .inl 183, .inl 184, .inr 0, .inr 0, .inr 0, .inr 1, .inr 0, .inr 0, .inr 0, .inr 0, .inl 185, .inr 0, .inl 186, .inl 187, .inr 0, .inl 188, .inl 189, .inl 190, .inl 191, .inr 0, .inl 192, .inl 193, .inr 0, .inr 0, .inl 194, .inl 195, .inr 0, .inl 196, .inl 197, .inl 198, .inl 199, .inl 200]) (ok11_year l SZ_wt SZ_ism h2) lk_L_71 rfl dL_559 ⟨Nat.le_of_ble_eq_true rfl, Nat.le_of_ble_eq_true rfl, Nat.le_of_ble_eq_true rfl, Nat.le_of_ble_eq_true rfl⟩ rfl SZ_m rfl rfl ?_
  refine mv_icmp_eq (tgt := 1018) dL_562 (by decide) (fun _ => ?_) (fun hc => absurd h3 hc)
  exact kk _ _ h4
/-- drift: both answer alike -/
def St_drift (Inv : Nat → mm_I → mm_J → Prop) : Prop := ∀ (k : Nat), k < 512 → ∀ (a : Int32) (b : Int32) (I : mm_I) (J : mm_J), Inv k I J → ∃ (n : Nat) (o1 : Int32 × mm_I × mm_J) (o2 : Int32 × mm_I × mm_J), f10_drift SZ n 0 a b I J = some o1 ∧ f11_drift SZ n 167 a b o1.2.1 o1.2.2 = some o2 ∧ o1.1 = o2.1 ∧ Inv (k + 1) o2.2.1 o2.2.2
set_option maxHeartbeats 4000000 in
set_option maxRecDepth 100000 in
theorem lw_c_drift (l : Launch) {Inv : Nat → mm_I → mm_J → Prop} (hs : St_drift Inv) {L : Nat} (hL : L ≤ 2560) {xs : Nat → Int32} {i k : Nat} (hk : k < 512) (hi : i + 5 ≤ L) {I : mm_I} {J : mm_J} (hv : Inv k I J) (kk : ∀ (I' : mm_I) (J' : mm_J), Inv (k + 1) I' J' → mm_V l ML room_1 SZ (lwE L xs) 1018 [(0, .ref 4000000), (1, .ref 0), (2, .ref 167), (3, .int (nI i))] [] I' J' 201 7356) : mm_V l ML room_1 SZ (lwE L xs) 567 [(0, .ref 4000000), (1, .ref 0), (2, .ref 167), (3, .int (nI i))] [] I J 201 7356 := by
  obtain ⟨n, o1, o2, h1, h2, h3, h4⟩ := hs k hk (xs (nI i + nI 1).toNatClampNeg) (xs (nI i + nI 2).toNatClampNeg) I J hv
  refine mv_aload_n dL_567 rfl ?_
  refine mv_aload_n dL_568 rfl ?_
  refine mv_iload_n dL_569 rfl ?_
  refine mv_iconst (v := nI 1) dL_570 (by decide +kernel) ?_
  refine mv_iadd dL_571 ?_
  refine mv_sld dL_572 (lw_in hi hL (by decide)) ?_
  refine mv_aload_n dL_573 rfl ?_
  refine mv_iload_n dL_574 rfl ?_
  refine mv_iconst (v := nI 2) dL_575 (by decide +kernel) ?_
  refine mv_iadd dL_576 ?_
  refine mv_sld dL_577 (lw_in hi hL (by decide)) ?_
  refine mv_cVi (ci := 10) (As := [.int (xs (nI i + nI 1).toNatClampNeg), .int (xs (nI i + nI 2).toNatClampNeg)]) (fs := [.inl 1, .inl 4, .inl 15, .inl 26, .inl 27, .inl 28, .inl 29, .inl 46, .inl 63, .inl 80, .inl 97, .inl 114, .inl 131, .inl 133, .inl 146, .inl 147, .inl 148, .inl 149, .inl 158, .inr 0]) (ok10_drift l SZ_wt SZ_isx h1) lk_L_72 rfl dL_578 ⟨Nat.le_of_ble_eq_true rfl, Nat.le_of_ble_eq_true rfl, Nat.le_of_ble_eq_true rfl, Nat.le_of_ble_eq_true rfl⟩ rfl SZ_x rfl rfl ?_
  refine mv_aload_n dL_581 rfl ?_
  refine mv_aload_n dL_582 rfl ?_
  refine mv_iload_n dL_583 rfl ?_
  refine mv_iconst (v := nI 1) dL_584 (by decide +kernel) ?_
  refine mv_iadd dL_585 ?_
  refine mv_sld dL_586 (lw_in hi hL (by decide)) ?_
  refine mv_aload_n dL_587 rfl ?_
  refine mv_iload_n dL_588 rfl ?_
  refine mv_iconst (v := nI 2) dL_589 (by decide +kernel) ?_
  refine mv_iadd dL_590 ?_
  refine mv_sld dL_591 (lw_in hi hL (by decide)) ?_
  refine mv_cVi (ci := 11) (As := [.int (xs (nI i + nI 1).toNatClampNeg), .int (xs (nI i + nI 2).toNatClampNeg)]) (fs := [.inr 0, .inl 168, .inr 0, .inl 169, .inl 170, .inl 171, .inr 0, .inr 0, .inr 0, .inr 0, .inr 0, .inr 0, .inl 172, .inl 173, .inl 174, .inl 175, .inl 176, .inl 177, .inl 178, .inl 179, .inl 180, .inl 181, .inl 182, .inr 0, .inr 0, .inl 183, .inl 184, .inr 0, .inr 0, .inr 0, .inr 1, .inr 0, .inr 0, .inr 0, .inr 0, .inl 185, .inr 0, .inl 186, .inl 187, .inr 0, .inl 188, .inl 189, .inl 190, .inl 191, .inr 0, .inl 192, .inl 193, .inr 0, .inr 0, .inl 194, .inl 195, .inr 0, .inl 196, .inl 197, .inl 198, .inl 199, .inl 200]) (ok11_drift l SZ_wt SZ_ism h2) lk_L_75 rfl dL_592 ⟨Nat.le_of_ble_eq_true rfl, Nat.le_of_ble_eq_true rfl, Nat.le_of_ble_eq_true rfl, Nat.le_of_ble_eq_true rfl⟩ rfl SZ_m rfl rfl ?_
  refine mv_icmp_eq (tgt := 1018) dL_595 (by decide) (fun _ => ?_) (fun hc => absurd h3 hc)
  exact kk _ _ h4
/-- compared: both answer alike -/
def St_compared (Inv : Nat → mm_I → mm_J → Prop) : Prop := ∀ (k : Nat), k < 512 → ∀ (a : Int32) (b : Int32) (c : Int32) (I : mm_I) (J : mm_J), Inv k I J → ∃ (n : Nat) (o1 : Int32 × mm_I × mm_J) (o2 : Int32 × mm_I × mm_J), f10_compared SZ n 0 a b c I J = some o1 ∧ f11_compared SZ n 167 a b c o1.2.1 o1.2.2 = some o2 ∧ o1.1 = o2.1 ∧ Inv (k + 1) o2.2.1 o2.2.2
set_option maxHeartbeats 4000000 in
set_option maxRecDepth 100000 in
theorem lw_c_compared (l : Launch) {Inv : Nat → mm_I → mm_J → Prop} (hs : St_compared Inv) {L : Nat} (hL : L ≤ 2560) {xs : Nat → Int32} {i k : Nat} (hk : k < 512) (hi : i + 5 ≤ L) {I : mm_I} {J : mm_J} (hv : Inv k I J) (kk : ∀ (I' : mm_I) (J' : mm_J), Inv (k + 1) I' J' → mm_V l ML room_1 SZ (lwE L xs) 1018 [(0, .ref 4000000), (1, .ref 0), (2, .ref 167), (3, .int (nI i))] [] I' J' 201 7356) : mm_V l ML room_1 SZ (lwE L xs) 600 [(0, .ref 4000000), (1, .ref 0), (2, .ref 167), (3, .int (nI i))] [] I J 201 7356 := by
  obtain ⟨n, o1, o2, h1, h2, h3, h4⟩ := hs k hk (xs (nI i + nI 1).toNatClampNeg) (xs (nI i + nI 2).toNatClampNeg) (xs (nI i + nI 3).toNatClampNeg) I J hv
  refine mv_aload_n dL_600 rfl ?_
  refine mv_aload_n dL_601 rfl ?_
  refine mv_iload_n dL_602 rfl ?_
  refine mv_iconst (v := nI 1) dL_603 (by decide +kernel) ?_
  refine mv_iadd dL_604 ?_
  refine mv_sld dL_605 (lw_in hi hL (by decide)) ?_
  refine mv_aload_n dL_606 rfl ?_
  refine mv_iload_n dL_607 rfl ?_
  refine mv_iconst (v := nI 2) dL_608 (by decide +kernel) ?_
  refine mv_iadd dL_609 ?_
  refine mv_sld dL_610 (lw_in hi hL (by decide)) ?_
  refine mv_aload_n dL_611 rfl ?_
  refine mv_iload_n dL_612 rfl ?_
  refine mv_iconst (v := nI 3) dL_613 (by decide +kernel) ?_
  refine mv_iadd dL_614 ?_
  refine mv_sld dL_615 (lw_in hi hL (by decide)) ?_
  refine mv_cVi (ci := 10) (As := [.int (xs (nI i + nI 1).toNatClampNeg), .int (xs (nI i + nI 2).toNatClampNeg), .int (xs (nI i + nI 3).toNatClampNeg)]) (fs := [.inl 1, .inl 4, .inl 15, .inl 26, .inl 27, .inl 28, .inl 29, .inl 46, .inl 63, .inl 80, .inl 97, .inl 114, .inl 131, .inl 133, .inl 146, .inl 147, .inl 148, .inl 149, .inl 158, .inr 0]) (ok10_compared l SZ_wt SZ_isx h1) lk_L_76 rfl dL_616 ⟨Nat.le_of_ble_eq_true rfl, Nat.le_of_ble_eq_true rfl, Nat.le_of_ble_eq_true rfl, Nat.le_of_ble_eq_true rfl⟩ rfl SZ_x rfl rfl ?_
  refine mv_aload_n dL_619 rfl ?_
  refine mv_aload_n dL_620 rfl ?_
  refine mv_iload_n dL_621 rfl ?_
  refine mv_iconst (v := nI 1) dL_622 (by decide +kernel) ?_
  refine mv_iadd dL_623 ?_
  refine mv_sld dL_624 (lw_in hi hL (by decide)) ?_
  refine mv_aload_n dL_625 rfl ?_
  refine mv_iload_n dL_626 rfl ?_
  refine mv_iconst (v := nI 2) dL_627 (by decide +kernel) ?_
  refine mv_iadd dL_628 ?_
  refine mv_sld dL_629 (lw_in hi hL (by decide)) ?_
  refine mv_aload_n dL_630 rfl ?_
  refine mv_iload_n dL_631 rfl ?_
  refine mv_iconst (v := nI 3) dL_632 (by decide +kernel) ?_
  refine mv_iadd dL_633 ?_
  refine mv_sld dL_634 (lw_in hi hL (by decide)) ?_
  refine mv_cVi (ci := 11) (As := [.int (xs (nI i + nI 1).toNatClampNeg), .int (xs (nI i + nI 2).toNatClampNeg), .int (xs (nI i + nI 3).toNatClampNeg)]) (fs := [.inr 0, .inl 168, .inr 0, .inl 169, .inl 170, .inl 171, .inr 0, .inr 0, .inr 0, .inr 0, .inr 0, .inr 0, .inl 172, .inl 173, .inl 174, .inl 175, .inl 176, .inl 177, .inl 178, .inl 179, .inl 180, .inl 181, .inl 182, .inr 0, .inr 0, .inl 183, .inl 184, .inr 0, .inr 0, .inr 0, .inr 1, .inr 0, .inr 0, .inr 0, .inr 0, .inl 185, .inr 0, .inl 186, .inl 187, .inr 0, .inl 188, .inl 189, .inl 190, .inl 191, .inr 0, .inl 192, .inl 193, .inr 0, .inr 0, .inl 194, .inl 195, .inr 0, .inl 196, .inl 197, .inl 198, .inl 199, .inl 200]) (ok11_compared l SZ_wt SZ_ism h2) lk_L_80 rfl dL_635 ⟨Nat.le_of_ble_eq_true rfl, Nat.le_of_ble_eq_true rfl, Nat.le_of_ble_eq_true rfl, Nat.le_of_ble_eq_true rfl⟩ rfl SZ_m rfl rfl ?_
  refine mv_icmp_eq (tgt := 1018) dL_638 (by decide) (fun _ => ?_) (fun hc => absurd h3 hc)
  exact kk _ _ h4
/-- begin: both answer alike -/
def St_begin (Inv : Nat → mm_I → mm_J → Prop) : Prop := ∀ (k : Nat), k < 512 → ∀  (I : mm_I) (J : mm_J), Inv k I J → ∃ (n : Nat) (o1 : Int32 × mm_I × mm_J) (o2 : Int32 × mm_I × mm_J), f10_begin SZ n 0 I J = some o1 ∧ f11_begin SZ n 167 o1.2.1 o1.2.2 = some o2 ∧ o1.1 = o2.1 ∧ Inv (k + 1) o2.2.1 o2.2.2
set_option maxHeartbeats 4000000 in
set_option maxRecDepth 100000 in
theorem lw_c_begin (l : Launch) {Inv : Nat → mm_I → mm_J → Prop} (hs : St_begin Inv) {L : Nat} (hL : L ≤ 2560) {xs : Nat → Int32} {i k : Nat} (hk : k < 512) (hi : i + 5 ≤ L) {I : mm_I} {J : mm_J} (hv : Inv k I J) (kk : ∀ (I' : mm_I) (J' : mm_J), Inv (k + 1) I' J' → mm_V l ML room_1 SZ (lwE L xs) 1018 [(0, .ref 4000000), (1, .ref 0), (2, .ref 167), (3, .int (nI i))] [] I' J' 201 7356) : mm_V l ML room_1 SZ (lwE L xs) 643 [(0, .ref 4000000), (1, .ref 0), (2, .ref 167), (3, .int (nI i))] [] I J 201 7356 := by
  obtain ⟨n, o1, o2, h1, h2, h3, h4⟩ := hs k hk  I J hv
  refine mv_aload_n dL_643 rfl ?_
  refine mv_cVi (ci := 10) (As := []) (fs := [.inl 1, .inl 4, .inl 15, .inl 26, .inl 27, .inl 28, .inl 29, .inl 46, .inl 63, .inl 80, .inl 97, .inl 114, .inl 131, .inl 133, .inl 146, .inl 147, .inl 148, .inl 149, .inl 158, .inr 0]) (ok10_begin l SZ_wt SZ_isx h1) lk_L_81 rfl dL_644 ⟨Nat.le_of_ble_eq_true rfl, Nat.le_of_ble_eq_true rfl, Nat.le_of_ble_eq_true rfl, Nat.le_of_ble_eq_true rfl⟩ rfl SZ_x rfl rfl ?_
  refine mv_aload_n dL_647 rfl ?_
  refine mv_cVi (ci := 11) (As := []) (fs := [.inr 0, .inl 168, .inr 0, .inl 169, .inl 170, .inl 171, .inr 0, .inr 0, .inr 0, .inr 0, .inr 0, .inr 0, .inl 172, .inl 173, .inl 174, .inl 175, .inl 176, .inl 177, .inl 178, .inl 179, .inl 180, .inl 181, .inl 182, .inr 0, .inr 0, .inl 183, .inl 184, .inr 0, .inr 0, .inr 0, .inr 1, .inr 0, .inr 0, .inr 0, .inr 0, .inl 185, .inr 0, .inl 186, .inl 187, .inr 0, .inl 188, .inl 189, .inl 190, .inl 191, .inr 0, .inl 192, .inl 193, .inr 0, .inr 0, .inl 194, .inl 195, .inr 0, .inl 196, .inl 197, .inl 198, .inl 199, .inl 200]) (ok11_begin l SZ_wt SZ_ism h2) lk_L_84 rfl dL_648 ⟨Nat.le_of_ble_eq_true rfl, Nat.le_of_ble_eq_true rfl, Nat.le_of_ble_eq_true rfl, Nat.le_of_ble_eq_true rfl⟩ rfl SZ_m rfl rfl ?_
  refine mv_icmp_eq (tgt := 1018) dL_651 (by decide) (fun _ => ?_) (fun hc => absurd h3 hc)
  exact kk _ _ h4
/-- want: both answer alike -/
def St_want (Inv : Nat → mm_I → mm_J → Prop) : Prop := ∀ (k : Nat), k < 512 → ∀ (a : Int32) (b : Int32) (I : mm_I) (J : mm_J), Inv k I J → ∃ (n : Nat) (o1 : Int32 × mm_I × mm_J) (o2 : Int32 × mm_I × mm_J), f10_want SZ 0 a b I J = some o1 ∧ f11_want SZ 167 a b o1.2.1 o1.2.2 = some o2 ∧ o1.1 = o2.1 ∧ Inv (k + 1) o2.2.1 o2.2.2
set_option maxHeartbeats 4000000 in
set_option maxRecDepth 100000 in
theorem lw_c_want (l : Launch) {Inv : Nat → mm_I → mm_J → Prop} (hs : St_want Inv) {L : Nat} (hL : L ≤ 2560) {xs : Nat → Int32} {i k : Nat} (hk : k < 512) (hi : i + 5 ≤ L) {I : mm_I} {J : mm_J} (hv : Inv k I J) (kk : ∀ (I' : mm_I) (J' : mm_J), Inv (k + 1) I' J' → mm_V l ML room_1 SZ (lwE L xs) 1018 [(0, .ref 4000000), (1, .ref 0), (2, .ref 167), (3, .int (nI i))] [] I' J' 201 7356) : mm_V l ML room_1 SZ (lwE L xs) 656 [(0, .ref 4000000), (1, .ref 0), (2, .ref 167), (3, .int (nI i))] [] I J 201 7356 := by
  obtain ⟨n, o1, o2, h1, h2, h3, h4⟩ := hs k hk (xs (nI i + nI 1).toNatClampNeg) (xs (nI i + nI 2).toNatClampNeg) I J hv
  refine mv_aload_n dL_656 rfl ?_
  refine mv_aload_n dL_657 rfl ?_
  refine mv_iload_n dL_658 rfl ?_
  refine mv_iconst (v := nI 1) dL_659 (by decide +kernel) ?_
  refine mv_iadd dL_660 ?_
  refine mv_sld dL_661 (lw_in hi hL (by decide)) ?_
  refine mv_aload_n dL_662 rfl ?_
  refine mv_iload_n dL_663 rfl ?_
  refine mv_iconst (v := nI 2) dL_664 (by decide +kernel) ?_
  refine mv_iadd dL_665 ?_
  refine mv_sld dL_666 (lw_in hi hL (by decide)) ?_
  refine mv_cVi (ci := 10) (As := [.int (xs (nI i + nI 1).toNatClampNeg), .int (xs (nI i + nI 2).toNatClampNeg)]) (fs := [.inl 1, .inl 4, .inl 15, .inl 26, .inl 27, .inl 28, .inl 29, .inl 46, .inl 63, .inl 80, .inl 97, .inl 114, .inl 131, .inl 133, .inl 146, .inl 147, .inl 148, .inl 149, .inl 158, .inr 0]) (ok10_want l SZ_wt SZ_isx h1) lk_L_85 rfl dL_667 ⟨Nat.le_of_ble_eq_true rfl, Nat.le_of_ble_eq_true rfl, Nat.le_of_ble_eq_true rfl, Nat.le_of_ble_eq_true rfl⟩ rfl SZ_x rfl rfl ?_
  refine mv_aload_n dL_670 rfl ?_
  refine mv_aload_n dL_671 rfl ?_
  refine mv_iload_n dL_672 rfl ?_
  refine mv_iconst (v := nI 1) dL_673 (by decide +kernel) ?_
  refine mv_iadd dL_674 ?_
  refine mv_sld dL_675 (lw_in hi hL (by decide)) ?_
  refine mv_aload_n dL_676 rfl ?_
  refine mv_iload_n dL_677 rfl ?_
  refine mv_iconst (v := nI 2) dL_678 (by decide +kernel) ?_
  refine mv_iadd dL_679 ?_
  refine mv_sld dL_680 (lw_in hi hL (by decide)) ?_
  refine mv_cVi (ci := 11) (As := [.int (xs (nI i + nI 1).toNatClampNeg), .int (xs (nI i + nI 2).toNatClampNeg)]) (fs := [.inr 0, .inl 168, .inr 0, .inl 169, .inl 170, .inl 171, .inr 0, .inr 0, .inr 0, .inr 0, .inr 0, .inr 0, .inl 172, .inl 173, .inl 174, .inl 175, .inl 176, .inl 177, .inl 178, .inl 179, .inl 180, .inl 181, .inl 182, .inr 0, .inr 0, .inl 183, .inl 184, .inr 0, .inr 0, .inr 0, .inr 1, .inr 0, .inr 0, .inr 0, .inr 0, .inl 185, .inr 0, .inl 186, .inl 187, .inr 0, .inl 188, .inl 189, .inl 190, .inl 191, .inr 0, .inl 192, .inl 193, .inr 0, .inr 0, .inl 194, .inl 195, .inr 0, .inl 196, .inl 197, .inl 198, .inl 199, .inl 200]) (ok11_want l SZ_wt SZ_ism h2) lk_L_88 rfl dL_681 ⟨Nat.le_of_ble_eq_true rfl, Nat.le_of_ble_eq_true rfl, Nat.le_of_ble_eq_true rfl, Nat.le_of_ble_eq_true rfl⟩ rfl SZ_m rfl rfl ?_
  refine mv_icmp_eq (tgt := 1018) dL_684 (by decide) (fun _ => ?_) (fun hc => absurd h3 hc)
  exact kk _ _ h4
/-- changed: both answer alike -/
def St_changed (Inv : Nat → mm_I → mm_J → Prop) : Prop := ∀ (k : Nat), k < 512 → ∀ (a : Int32) (I : mm_I) (J : mm_J), Inv k I J → ∃ (n : Nat) (o1 : Int32 × mm_I × mm_J) (o2 : Int32 × mm_I × mm_J), f10_changed SZ n 0 a I J = some o1 ∧ f11_changed SZ n 167 a o1.2.1 o1.2.2 = some o2 ∧ o1.1 = o2.1 ∧ Inv (k + 1) o2.2.1 o2.2.2
set_option maxHeartbeats 4000000 in
set_option maxRecDepth 100000 in
theorem lw_c_changed (l : Launch) {Inv : Nat → mm_I → mm_J → Prop} (hs : St_changed Inv) {L : Nat} (hL : L ≤ 2560) {xs : Nat → Int32} {i k : Nat} (hk : k < 512) (hi : i + 5 ≤ L) {I : mm_I} {J : mm_J} (hv : Inv k I J) (kk : ∀ (I' : mm_I) (J' : mm_J), Inv (k + 1) I' J' → mm_V l ML room_1 SZ (lwE L xs) 1018 [(0, .ref 4000000), (1, .ref 0), (2, .ref 167), (3, .int (nI i))] [] I' J' 201 7356) : mm_V l ML room_1 SZ (lwE L xs) 689 [(0, .ref 4000000), (1, .ref 0), (2, .ref 167), (3, .int (nI i))] [] I J 201 7356 := by
  obtain ⟨n, o1, o2, h1, h2, h3, h4⟩ := hs k hk (xs (nI i + nI 1).toNatClampNeg) I J hv
  refine mv_aload_n dL_689 rfl ?_
  refine mv_aload_n dL_690 rfl ?_
  refine mv_iload_n dL_691 rfl ?_
  refine mv_iconst (v := nI 1) dL_692 (by decide +kernel) ?_
  refine mv_iadd dL_693 ?_
  refine mv_sld dL_694 (lw_in hi hL (by decide)) ?_
  refine mv_cVi (ci := 10) (As := [.int (xs (nI i + nI 1).toNatClampNeg)]) (fs := [.inl 1, .inl 4, .inl 15, .inl 26, .inl 27, .inl 28, .inl 29, .inl 46, .inl 63, .inl 80, .inl 97, .inl 114, .inl 131, .inl 133, .inl 146, .inl 147, .inl 148, .inl 149, .inl 158, .inr 0]) (ok10_changed l SZ_wt SZ_isx h1) lk_L_89 rfl dL_695 ⟨Nat.le_of_ble_eq_true rfl, Nat.le_of_ble_eq_true rfl, Nat.le_of_ble_eq_true rfl, Nat.le_of_ble_eq_true rfl⟩ rfl SZ_x rfl rfl ?_
  refine mv_aload_n dL_698 rfl ?_
  refine mv_aload_n dL_699 rfl ?_
  refine mv_iload_n dL_700 rfl ?_
  refine mv_iconst (v := nI 1) dL_701 (by decide +kernel) ?_
  refine mv_iadd dL_702 ?_
  refine mv_sld dL_703 (lw_in hi hL (by decide)) ?_
  refine mv_cVi (ci := 11) (As := [.int (xs (nI i + nI 1).toNatClampNeg)]) (fs := [.inr 0, .inl 168, .inr 0, .inl 169, .inl 170, .inl 171, .inr 0, .inr 0, .inr 0, .inr 0, .inr 0, .inr 0, .inl 172, .inl 173, .inl 174, .inl 175, .inl 176, .inl 177, .inl 178, .inl 179, .inl 180, .inl 181, .inl 182, .inr 0, .inr 0, .inl 183, .inl 184, .inr 0, .inr 0, .inr 0, .inr 1, .inr 0, .inr 0, .inr 0, .inr 0, .inl 185, .inr 0, .inl 186, .inl 187, .inr 0, .inl 188, .inl 189, .inl 190, .inl 191, .inr 0, .inl 192, .inl 193, .inr 0, .inr 0, .inl 194, .inl 195, .inr 0, .inl 196, .inl 197, .inl 198, .inl 199, .inl 200]) (ok11_changed l SZ_wt SZ_ism h2) lk_L_92 rfl dL_704 ⟨Nat.le_of_ble_eq_true rfl, Nat.le_of_ble_eq_true rfl, Nat.le_of_ble_eq_true rfl, Nat.le_of_ble_eq_true rfl⟩ rfl SZ_m rfl rfl ?_
  refine mv_icmp_eq (tgt := 1018) dL_707 (by decide) (fun _ => ?_) (fun hc => absurd h3 hc)
  exact kk _ _ h4
/-- ring: both answer alike -/
def St_ring (Inv : Nat → mm_I → mm_J → Prop) : Prop := ∀ (k : Nat), k < 512 → ∀ (a : Int32) (I : mm_I) (J : mm_J), Inv k I J → ∃ (n : Nat) (o1 : Int32 × mm_I × mm_J) (o2 : Int32 × mm_I × mm_J), f10_ring SZ n 0 a I J = some o1 ∧ f11_ring SZ n 167 a o1.2.1 o1.2.2 = some o2 ∧ o1.1 = o2.1 ∧ Inv (k + 1) o2.2.1 o2.2.2
set_option maxHeartbeats 4000000 in
set_option maxRecDepth 100000 in
theorem lw_c_ring (l : Launch) {Inv : Nat → mm_I → mm_J → Prop} (hs : St_ring Inv) {L : Nat} (hL : L ≤ 2560) {xs : Nat → Int32} {i k : Nat} (hk : k < 512) (hi : i + 5 ≤ L) {I : mm_I} {J : mm_J} (hv : Inv k I J) (kk : ∀ (I' : mm_I) (J' : mm_J), Inv (k + 1) I' J' → mm_V l ML room_1 SZ (lwE L xs) 1018 [(0, .ref 4000000), (1, .ref 0), (2, .ref 167), (3, .int (nI i))] [] I' J' 201 7356) : mm_V l ML room_1 SZ (lwE L xs) 712 [(0, .ref 4000000), (1, .ref 0), (2, .ref 167), (3, .int (nI i))] [] I J 201 7356 := by
  obtain ⟨n, o1, o2, h1, h2, h3, h4⟩ := hs k hk (xs (nI i + nI 1).toNatClampNeg) I J hv
  refine mv_aload_n dL_712 rfl ?_
  refine mv_aload_n dL_713 rfl ?_
  refine mv_iload_n dL_714 rfl ?_
  refine mv_iconst (v := nI 1) dL_715 (by decide +kernel) ?_
  refine mv_iadd dL_716 ?_
  refine mv_sld dL_717 (lw_in hi hL (by decide)) ?_
  refine mv_cVi (ci := 10) (As := [.int (xs (nI i + nI 1).toNatClampNeg)]) (fs := [.inl 1, .inl 4, .inl 15, .inl 26, .inl 27, .inl 28, .inl 29, .inl 46, .inl 63, .inl 80, .inl 97, .inl 114, .inl 131, .inl 133, .inl 146, .inl 147, .inl 148, .inl 149, .inl 158, .inr 0]) (ok10_ring l SZ_wt SZ_isx h1) lk_L_93 rfl dL_718 ⟨Nat.le_of_ble_eq_true rfl, Nat.le_of_ble_eq_true rfl, Nat.le_of_ble_eq_true rfl, Nat.le_of_ble_eq_true rfl⟩ rfl SZ_x rfl rfl ?_
  refine mv_aload_n dL_721 rfl ?_
  refine mv_aload_n dL_722 rfl ?_
  refine mv_iload_n dL_723 rfl ?_
  refine mv_iconst (v := nI 1) dL_724 (by decide +kernel) ?_
  refine mv_iadd dL_725 ?_
  refine mv_sld dL_726 (lw_in hi hL (by decide)) ?_
  refine mv_cVi (ci := 11) (As := [.int (xs (nI i + nI 1).toNatClampNeg)]) (fs := [.inr 0, .inl 168, .inr 0, .inl 169, .inl 170, .inl 171, .inr 0, .inr 0, .inr 0, .inr 0, .inr 0, .inr 0, .inl 172, .inl 173, .inl 174, .inl 175, .inl 176, .inl 177, .inl 178, .inl 179, .inl 180, .inl 181, .inl 182, .inr 0, .inr 0, .inl 183, .inl 184, .inr 0, .inr 0, .inr 0, .inr 1, .inr 0, .inr 0, .inr 0, .inr 0, .inl 185, .inr 0, .inl 186, .inl 187, .inr 0, .inl 188, .inl 189, .inl 190, .inl 191, .inr 0, .inl 192, .inl 193, .inr 0, .inr 0, .inl 194, .inl 195, .inr 0, .inl 196, .inl 197, .inl 198, .inl 199, .inl 200]) (ok11_ring l SZ_wt SZ_ism h2) lk_L_96 rfl dL_727 ⟨Nat.le_of_ble_eq_true rfl, Nat.le_of_ble_eq_true rfl, Nat.le_of_ble_eq_true rfl, Nat.le_of_ble_eq_true rfl⟩ rfl SZ_m rfl rfl ?_
  refine mv_icmp_eq (tgt := 1018) dL_730 (by decide) (fun _ => ?_) (fun hc => absurd h3 hc)
  exact kk _ _ h4
/-- lastHand: both answer alike -/
def St_lastHand (Inv : Nat → mm_I → mm_J → Prop) : Prop := ∀ (k : Nat), k < 512 → ∀ (a : Int32) (b : Int32) (I : mm_I) (J : mm_J), Inv k I J → ∃ (n : Nat) (o1 : Int32) (o2 : Int32), f10_lastHand SZ n 0 a b I J = some o1 ∧ f11_lastHand SZ n 167 a b I J = some o2 ∧ o1 = o2 ∧ Inv (k + 1) I J
set_option maxHeartbeats 4000000 in
set_option maxRecDepth 100000 in
theorem lw_c_lastHand (l : Launch) {Inv : Nat → mm_I → mm_J → Prop} (hs : St_lastHand Inv) {L : Nat} (hL : L ≤ 2560) {xs : Nat → Int32} {i k : Nat} (hk : k < 512) (hi : i + 5 ≤ L) {I : mm_I} {J : mm_J} (hv : Inv k I J) (kk : ∀ (I' : mm_I) (J' : mm_J), Inv (k + 1) I' J' → mm_V l ML room_1 SZ (lwE L xs) 1018 [(0, .ref 4000000), (1, .ref 0), (2, .ref 167), (3, .int (nI i))] [] I' J' 201 7356) : mm_V l ML room_1 SZ (lwE L xs) 735 [(0, .ref 4000000), (1, .ref 0), (2, .ref 167), (3, .int (nI i))] [] I J 201 7356 := by
  obtain ⟨n, o1, o2, h1, h2, h3, h4⟩ := hs k hk (xs (nI i + nI 1).toNatClampNeg) (xs (nI i + nI 2).toNatClampNeg) I J hv
  refine mv_aload_n dL_735 rfl ?_
  refine mv_aload_n dL_736 rfl ?_
  refine mv_iload_n dL_737 rfl ?_
  refine mv_iconst (v := nI 1) dL_738 (by decide +kernel) ?_
  refine mv_iadd dL_739 ?_
  refine mv_sld dL_740 (lw_in hi hL (by decide)) ?_
  refine mv_aload_n dL_741 rfl ?_
  refine mv_iload_n dL_742 rfl ?_
  refine mv_iconst (v := nI 2) dL_743 (by decide +kernel) ?_
  refine mv_iadd dL_744 ?_
  refine mv_sld dL_745 (lw_in hi hL (by decide)) ?_
  refine mv_cVi (ci := 10) (As := [.int (xs (nI i + nI 1).toNatClampNeg), .int (xs (nI i + nI 2).toNatClampNeg)]) (fs := [.inl 1, .inl 4, .inl 15, .inl 26, .inl 27, .inl 28, .inl 29, .inl 46, .inl 63, .inl 80, .inl 97, .inl 114, .inl 131, .inl 133, .inl 146, .inl 147, .inl 148, .inl 149, .inl 158, .inr 0]) (ok10_lastHand l SZ_wt SZ_isx h1) lk_L_97 rfl dL_746 ⟨Nat.le_of_ble_eq_true rfl, Nat.le_of_ble_eq_true rfl, Nat.le_of_ble_eq_true rfl, Nat.le_of_ble_eq_true rfl⟩ rfl SZ_x rfl rfl ?_
  refine mv_aload_n dL_749 rfl ?_
  refine mv_aload_n dL_750 rfl ?_
  refine mv_iload_n dL_751 rfl ?_
  refine mv_iconst (v := nI 1) dL_752 (by decide +kernel) ?_
  refine mv_iadd dL_753 ?_
  refine mv_sld dL_754 (lw_in hi hL (by decide)) ?_
  refine mv_aload_n dL_755 rfl ?_
  refine mv_iload_n dL_756 rfl ?_
  refine mv_iconst (v := nI 2) dL_757 (by decide +kernel) ?_
  refine mv_iadd dL_758 ?_
  refine mv_sld dL_759 (lw_in hi hL (by decide)) ?_
  refine mv_cVi (ci := 11) (As := [.int (xs (nI i + nI 1).toNatClampNeg), .int (xs (nI i + nI 2).toNatClampNeg)]) (fs := [.inr 0, .inl 168, .inr 0, .inl 169, .inl 170, .inl 171, .inr 0, .inr 0, .inr 0, .inr 0, .inr 0, .inr 0, .inl 172, .inl 173, .inl 174, .inl 175, .inl 176, .inl 177, .inl 178, .inl 179, .inl 180, .inl 181, .inl 182, .inr 0, .inr 0, .inl 183, .inl 184, .inr 0, .inr 0, .inr 0, .inr 1, .inr 0, .inr 0, .inr 0, .inr 0, .inl 185, .inr 0, .inl 186, .inl 187, .inr 0, .inl 188, .inl 189, .inl 190, .inl 191, .inr 0, .inl 192, .inl 193, .inr 0, .inr 0, .inl 194, .inl 195, .inr 0, .inl 196, .inl 197, .inl 198, .inl 199, .inl 200]) (ok11_lastHand l SZ_wt SZ_ism h2) lk_L_100 rfl dL_760 ⟨Nat.le_of_ble_eq_true rfl, Nat.le_of_ble_eq_true rfl, Nat.le_of_ble_eq_true rfl, Nat.le_of_ble_eq_true rfl⟩ rfl SZ_m rfl rfl ?_
  refine mv_icmp_eq (tgt := 1018) dL_763 (by decide) (fun _ => ?_) (fun hc => absurd h3 hc)
  exact kk _ _ h4
/-- till: both answer alike -/
def St_till (Inv : Nat → mm_I → mm_J → Prop) : Prop := ∀ (k : Nat), k < 512 → ∀ (a : Int32) (I : mm_I) (J : mm_J), Inv k I J → ∃ (n : Nat) (o1 : Int32 × mm_I × mm_J) (o2 : Int32 × mm_I × mm_J), f10_till SZ n 0 a I J = some o1 ∧ f11_till SZ n 167 a o1.2.1 o1.2.2 = some o2 ∧ o1.1 = o2.1 ∧ Inv (k + 1) o2.2.1 o2.2.2
set_option maxHeartbeats 4000000 in
set_option maxRecDepth 100000 in
theorem lw_c_till (l : Launch) {Inv : Nat → mm_I → mm_J → Prop} (hs : St_till Inv) {L : Nat} (hL : L ≤ 2560) {xs : Nat → Int32} {i k : Nat} (hk : k < 512) (hi : i + 5 ≤ L) {I : mm_I} {J : mm_J} (hv : Inv k I J) (kk : ∀ (I' : mm_I) (J' : mm_J), Inv (k + 1) I' J' → mm_V l ML room_1 SZ (lwE L xs) 1018 [(0, .ref 4000000), (1, .ref 0), (2, .ref 167), (3, .int (nI i))] [] I' J' 201 7356) : mm_V l ML room_1 SZ (lwE L xs) 768 [(0, .ref 4000000), (1, .ref 0), (2, .ref 167), (3, .int (nI i))] [] I J 201 7356 := by
  obtain ⟨n, o1, o2, h1, h2, h3, h4⟩ := hs k hk (xs (nI i + nI 1).toNatClampNeg) I J hv
  refine mv_aload_n dL_768 rfl ?_
  refine mv_aload_n dL_769 rfl ?_
  refine mv_iload_n dL_770 rfl ?_
  refine mv_iconst (v := nI 1) dL_771 (by decide +kernel) ?_
  refine mv_iadd dL_772 ?_
  refine mv_sld dL_773 (lw_in hi hL (by decide)) ?_
  refine mv_cVi (ci := 10) (As := [.int (xs (nI i + nI 1).toNatClampNeg)]) (fs := [.inl 1, .inl 4, .inl 15, .inl 26, .inl 27, .inl 28, .inl 29, .inl 46, .inl 63, .inl 80, .inl 97, .inl 114, .inl 131, .inl 133, .inl 146, .inl 147, .inl 148, .inl 149, .inl 158, .inr 0]) (ok10_till l SZ_wt SZ_isx h1) lk_L_101 rfl dL_774 ⟨Nat.le_of_ble_eq_true rfl, Nat.le_of_ble_eq_true rfl, Nat.le_of_ble_eq_true rfl, Nat.le_of_ble_eq_true rfl⟩ rfl SZ_x rfl rfl ?_
  refine mv_aload_n dL_777 rfl ?_
  refine mv_aload_n dL_778 rfl ?_
  refine mv_iload_n dL_779 rfl ?_
  refine mv_iconst (v := nI 1) dL_780 (by decide +kernel) ?_
  refine mv_iadd dL_781 ?_
  refine mv_sld dL_782 (lw_in hi hL (by decide)) ?_
  refine mv_cVi (ci := 11) (As := [.int (xs (nI i + nI 1).toNatClampNeg)]) (fs := [.inr 0, .inl 168, .inr 0, .inl 169, .inl 170, .inl 171, .inr 0, .inr 0, .inr 0, .inr 0, .inr 0, .inr 0, .inl 172, .inl 173, .inl 174, .inl 175, .inl 176, .inl 177, .inl 178, .inl 179, .inl 180, .inl 181, .inl 182, .inr 0, .inr 0, .inl 183, .inl 184, .inr 0, .inr 0, .inr 0, .inr 1, .inr 0, .inr 0, .inr 0, .inr 0, .inl 185, .inr 0, .inl 186, .inl 187, .inr 0, .inl 188, .inl 189, .inl 190, .inl 191, .inr 0, .inl 192, .inl 193, .inr 0, .inr 0, .inl 194, .inl 195, .inr 0, .inl 196, .inl 197, .inl 198, .inl 199, .inl 200]) (ok11_till l SZ_wt SZ_ism h2) lk_L_104 rfl dL_783 ⟨Nat.le_of_ble_eq_true rfl, Nat.le_of_ble_eq_true rfl, Nat.le_of_ble_eq_true rfl, Nat.le_of_ble_eq_true rfl⟩ rfl SZ_m rfl rfl ?_
  refine mv_icmp_eq (tgt := 1018) dL_786 (by decide) (fun _ => ?_) (fun hc => absurd h3 hc)
  exact kk _ _ h4
/-- make: both answer alike -/
def St_make (Inv : Nat → mm_I → mm_J → Prop) : Prop := ∀ (k : Nat), k < 512 → ∀ (a : Int32) (b : Int32) (I : mm_I) (J : mm_J), Inv k I J → ∃ (n : Nat) (o1 : Int32 × mm_I × mm_J) (o2 : Int32 × mm_I × mm_J), f10_make SZ 0 a b I J = some o1 ∧ f11_make SZ 167 a b o1.2.1 o1.2.2 = some o2 ∧ o1.1 = o2.1 ∧ Inv (k + 1) o2.2.1 o2.2.2
set_option maxHeartbeats 4000000 in
set_option maxRecDepth 100000 in
theorem lw_c_make (l : Launch) {Inv : Nat → mm_I → mm_J → Prop} (hs : St_make Inv) {L : Nat} (hL : L ≤ 2560) {xs : Nat → Int32} {i k : Nat} (hk : k < 512) (hi : i + 5 ≤ L) {I : mm_I} {J : mm_J} (hv : Inv k I J) (kk : ∀ (I' : mm_I) (J' : mm_J), Inv (k + 1) I' J' → mm_V l ML room_1 SZ (lwE L xs) 1018 [(0, .ref 4000000), (1, .ref 0), (2, .ref 167), (3, .int (nI i))] [] I' J' 201 7356) : mm_V l ML room_1 SZ (lwE L xs) 791 [(0, .ref 4000000), (1, .ref 0), (2, .ref 167), (3, .int (nI i))] [] I J 201 7356 := by
  obtain ⟨n, o1, o2, h1, h2, h3, h4⟩ := hs k hk (xs (nI i + nI 1).toNatClampNeg) (xs (nI i + nI 2).toNatClampNeg) I J hv
  refine mv_aload_n dL_791 rfl ?_
  refine mv_aload_n dL_792 rfl ?_
  refine mv_iload_n dL_793 rfl ?_
  refine mv_iconst (v := nI 1) dL_794 (by decide +kernel) ?_
  refine mv_iadd dL_795 ?_
  refine mv_sld dL_796 (lw_in hi hL (by decide)) ?_
  refine mv_aload_n dL_797 rfl ?_
  refine mv_iload_n dL_798 rfl ?_
  refine mv_iconst (v := nI 2) dL_799 (by decide +kernel) ?_
  refine mv_iadd dL_800 ?_
  refine mv_sld dL_801 (lw_in hi hL (by decide)) ?_
  refine mv_cVi (ci := 10) (As := [.int (xs (nI i + nI 1).toNatClampNeg), .int (xs (nI i + nI 2).toNatClampNeg)]) (fs := [.inl 1, .inl 4, .inl 15, .inl 26, .inl 27, .inl 28, .inl 29, .inl 46, .inl 63, .inl 80, .inl 97, .inl 114, .inl 131, .inl 133, .inl 146, .inl 147, .inl 148, .inl 149, .inl 158, .inr 0]) (ok10_make l SZ_wt SZ_isx h1) lk_L_105 rfl dL_802 ⟨Nat.le_of_ble_eq_true rfl, Nat.le_of_ble_eq_true rfl, Nat.le_of_ble_eq_true rfl, Nat.le_of_ble_eq_true rfl⟩ rfl SZ_x rfl rfl ?_
  refine mv_aload_n dL_805 rfl ?_
  refine mv_aload_n dL_806 rfl ?_
  refine mv_iload_n dL_807 rfl ?_
  refine mv_iconst (v := nI 1) dL_808 (by decide +kernel) ?_
  refine mv_iadd dL_809 ?_
  refine mv_sld dL_810 (lw_in hi hL (by decide)) ?_
  refine mv_aload_n dL_811 rfl ?_
  refine mv_iload_n dL_812 rfl ?_
  refine mv_iconst (v := nI 2) dL_813 (by decide +kernel) ?_
  refine mv_iadd dL_814 ?_
  refine mv_sld dL_815 (lw_in hi hL (by decide)) ?_
  refine mv_cVi (ci := 11) (As := [.int (xs (nI i + nI 1).toNatClampNeg), .int (xs (nI i + nI 2).toNatClampNeg)]) (fs := [.inr 0, .inl 168, .inr 0, .inl 169, .inl 170, .inl 171, .inr 0, .inr 0, .inr 0, .inr 0, .inr 0, .inr 0, .inl 172, .inl 173, .inl 174, .inl 175, .inl 176, .inl 177, .inl 178, .inl 179, .inl 180, .inl 181, .inl 182, .inr 0, .inr 0, .inl 183, .inl 184, .inr 0, .inr 0, .inr 0, .inr 1, .inr 0, .inr 0, .inr 0, .inr 0, .inl 185, .inr 0, .inl 186, .inl 187, .inr 0, .inl 188, .inl 189, .inl 190, .inl 191, .inr 0, .inl 192, .inl 193, .inr 0, .inr 0, .inl 194, .inl 195, .inr 0, .inl 196, .inl 197, .inl 198, .inl 199, .inl 200]) (ok11_make l SZ_wt SZ_ism h2) lk_L_108 rfl dL_816 ⟨Nat.le_of_ble_eq_true rfl, Nat.le_of_ble_eq_true rfl, Nat.le_of_ble_eq_true rfl, Nat.le_of_ble_eq_true rfl⟩ rfl SZ_m rfl rfl ?_
  refine mv_icmp_eq (tgt := 1018) dL_819 (by decide) (fun _ => ?_) (fun hc => absurd h3 hc)
  exact kk _ _ h4
/-- makers: both answer alike -/
def St_makers (Inv : Nat → mm_I → mm_J → Prop) : Prop := ∀ (k : Nat), k < 512 → ∀ (a : Int32) (I : mm_I) (J : mm_J), Inv k I J → ∃ (n : Nat) (o1 : Int32) (o2 : Int32), f10_makers SZ n 0 a I J = some o1 ∧ f11_makers SZ n 167 a I J = some o2 ∧ o1 = o2 ∧ Inv (k + 1) I J
set_option maxHeartbeats 4000000 in
set_option maxRecDepth 100000 in
theorem lw_c_makers (l : Launch) {Inv : Nat → mm_I → mm_J → Prop} (hs : St_makers Inv) {L : Nat} (hL : L ≤ 2560) {xs : Nat → Int32} {i k : Nat} (hk : k < 512) (hi : i + 5 ≤ L) {I : mm_I} {J : mm_J} (hv : Inv k I J) (kk : ∀ (I' : mm_I) (J' : mm_J), Inv (k + 1) I' J' → mm_V l ML room_1 SZ (lwE L xs) 1018 [(0, .ref 4000000), (1, .ref 0), (2, .ref 167), (3, .int (nI i))] [] I' J' 201 7356) : mm_V l ML room_1 SZ (lwE L xs) 824 [(0, .ref 4000000), (1, .ref 0), (2, .ref 167), (3, .int (nI i))] [] I J 201 7356 := by
  obtain ⟨n, o1, o2, h1, h2, h3, h4⟩ := hs k hk (xs (nI i + nI 1).toNatClampNeg) I J hv
  refine mv_aload_n dL_824 rfl ?_
  refine mv_aload_n dL_825 rfl ?_
  refine mv_iload_n dL_826 rfl ?_
  refine mv_iconst (v := nI 1) dL_827 (by decide +kernel) ?_
  refine mv_iadd dL_828 ?_
  refine mv_sld dL_829 (lw_in hi hL (by decide)) ?_
  refine mv_cVi (ci := 10) (As := [.int (xs (nI i + nI 1).toNatClampNeg)]) (fs := [.inl 1, .inl 4, .inl 15, .inl 26, .inl 27, .inl 28, .inl 29, .inl 46, .inl 63, .inl 80, .inl 97, .inl 114, .inl 131, .inl 133, .inl 146, .inl 147, .inl 148, .inl 149, .inl 158, .inr 0]) (ok10_makers l SZ_wt SZ_isx h1) lk_L_109 rfl dL_830 ⟨Nat.le_of_ble_eq_true rfl, Nat.le_of_ble_eq_true rfl, Nat.le_of_ble_eq_true rfl, Nat.le_of_ble_eq_true rfl⟩ rfl SZ_x rfl rfl ?_
  refine mv_aload_n dL_833 rfl ?_
  refine mv_aload_n dL_834 rfl ?_
  refine mv_iload_n dL_835 rfl ?_
  refine mv_iconst (v := nI 1) dL_836 (by decide +kernel) ?_
  refine mv_iadd dL_837 ?_
  refine mv_sld dL_838 (lw_in hi hL (by decide)) ?_
  refine mv_cVi (ci := 11) (As := [.int (xs (nI i + nI 1).toNatClampNeg)]) (fs := [.inr 0, .inl 168, .inr 0, .inl 169, .inl 170, .inl 171, .inr 0, .inr 0, .inr 0, .inr 0, .inr 0, .inr 0, .inl 172, .inl 173, .inl 174, .inl 175, .inl 176, .inl 177, .inl 178, .inl 179, .inl 180, .inl 181, .inl 182, .inr 0, .inr 0, .inl 183, .inl 184, .inr 0, .inr 0, .inr 0, .inr 1, .inr 0, .inr 0, .inr 0, .inr 0, .inl 185, .inr 0, .inl 186, .inl 187, .inr 0, .inl 188, .inl 189, .inl 190, .inl 191, .inr 0, .inl 192, .inl 193, .inr 0, .inr 0, .inl 194, .inl 195, .inr 0, .inl 196, .inl 197, .inl 198, .inl 199, .inl 200]) (ok11_makers l SZ_wt SZ_ism h2) lk_L_112 rfl dL_839 ⟨Nat.le_of_ble_eq_true rfl, Nat.le_of_ble_eq_true rfl, Nat.le_of_ble_eq_true rfl, Nat.le_of_ble_eq_true rfl⟩ rfl SZ_m rfl rfl ?_
  refine mv_icmp_eq (tgt := 1018) dL_842 (by decide) (fun _ => ?_) (fun hc => absurd h3 hc)
  exact kk _ _ h4
/-- fits: both answer alike -/
def St_fits (Inv : Nat → mm_I → mm_J → Prop) : Prop := ∀ (k : Nat), k < 512 → ∀ (a : Int32) (b : Int32) (I : mm_I) (J : mm_J), Inv k I J → ∃ (n : Nat) (o1 : Int32 × mm_I × mm_J) (o2 : Int32), f10_fits SZ n 0 a b I J = some o1 ∧ f11_fits SZ n 167 a b o1.2.1 o1.2.2 = some o2 ∧ o1.1 = o2 ∧ Inv (k + 1) o1.2.1 o1.2.2
set_option maxHeartbeats 4000000 in
set_option maxRecDepth 100000 in
theorem lw_c_fits (l : Launch) {Inv : Nat → mm_I → mm_J → Prop} (hs : St_fits Inv) {L : Nat} (hL : L ≤ 2560) {xs : Nat → Int32} {i k : Nat} (hk : k < 512) (hi : i + 5 ≤ L) {I : mm_I} {J : mm_J} (hv : Inv k I J) (kk : ∀ (I' : mm_I) (J' : mm_J), Inv (k + 1) I' J' → mm_V l ML room_1 SZ (lwE L xs) 1018 [(0, .ref 4000000), (1, .ref 0), (2, .ref 167), (3, .int (nI i))] [] I' J' 201 7356) : mm_V l ML room_1 SZ (lwE L xs) 847 [(0, .ref 4000000), (1, .ref 0), (2, .ref 167), (3, .int (nI i))] [] I J 201 7356 := by
  obtain ⟨n, o1, o2, h1, h2, h3, h4⟩ := hs k hk (xs (nI i + nI 1).toNatClampNeg) (xs (nI i + nI 2).toNatClampNeg) I J hv
  refine mv_aload_n dL_847 rfl ?_
  refine mv_aload_n dL_848 rfl ?_
  refine mv_iload_n dL_849 rfl ?_
  refine mv_iconst (v := nI 1) dL_850 (by decide +kernel) ?_
  refine mv_iadd dL_851 ?_
  refine mv_sld dL_852 (lw_in hi hL (by decide)) ?_
  refine mv_aload_n dL_853 rfl ?_
  refine mv_iload_n dL_854 rfl ?_
  refine mv_iconst (v := nI 2) dL_855 (by decide +kernel) ?_
  refine mv_iadd dL_856 ?_
  refine mv_sld dL_857 (lw_in hi hL (by decide)) ?_
  refine mv_cVi (ci := 10) (As := [.int (xs (nI i + nI 1).toNatClampNeg), .int (xs (nI i + nI 2).toNatClampNeg)]) (fs := [.inl 1, .inl 4, .inl 15, .inl 26, .inl 27, .inl 28, .inl 29, .inl 46, .inl 63, .inl 80, .inl 97, .inl 114, .inl 131, .inl 133, .inl 146, .inl 147, .inl 148, .inl 149, .inl 158, .inr 0]) (ok10_fits l SZ_wt SZ_isx h1) lk_L_113 rfl dL_858 ⟨Nat.le_of_ble_eq_true rfl, Nat.le_of_ble_eq_true rfl, Nat.le_of_ble_eq_true rfl, Nat.le_of_ble_eq_true rfl⟩ rfl SZ_x rfl rfl ?_
  refine mv_aload_n dL_861 rfl ?_
  refine mv_aload_n dL_862 rfl ?_
  refine mv_iload_n dL_863 rfl ?_
  refine mv_iconst (v := nI 1) dL_864 (by decide +kernel) ?_
  refine mv_iadd dL_865 ?_
  refine mv_sld dL_866 (lw_in hi hL (by decide)) ?_
  refine mv_aload_n dL_867 rfl ?_
  refine mv_iload_n dL_868 rfl ?_
  refine mv_iconst (v := nI 2) dL_869 (by decide +kernel) ?_
  refine mv_iadd dL_870 ?_
  refine mv_sld dL_871 (lw_in hi hL (by decide)) ?_
  refine mv_cVi (ci := 11) (As := [.int (xs (nI i + nI 1).toNatClampNeg), .int (xs (nI i + nI 2).toNatClampNeg)]) (fs := [.inr 0, .inl 168, .inr 0, .inl 169, .inl 170, .inl 171, .inr 0, .inr 0, .inr 0, .inr 0, .inr 0, .inr 0, .inl 172, .inl 173, .inl 174, .inl 175, .inl 176, .inl 177, .inl 178, .inl 179, .inl 180, .inl 181, .inl 182, .inr 0, .inr 0, .inl 183, .inl 184, .inr 0, .inr 0, .inr 0, .inr 1, .inr 0, .inr 0, .inr 0, .inr 0, .inl 185, .inr 0, .inl 186, .inl 187, .inr 0, .inl 188, .inl 189, .inl 190, .inl 191, .inr 0, .inl 192, .inl 193, .inr 0, .inr 0, .inl 194, .inl 195, .inr 0, .inl 196, .inl 197, .inl 198, .inl 199, .inl 200]) (ok11_fits l SZ_wt SZ_ism h2) lk_L_116 rfl dL_872 ⟨Nat.le_of_ble_eq_true rfl, Nat.le_of_ble_eq_true rfl, Nat.le_of_ble_eq_true rfl, Nat.le_of_ble_eq_true rfl⟩ rfl SZ_m rfl rfl ?_
  refine mv_icmp_eq (tgt := 1018) dL_875 (by decide) (fun _ => ?_) (fun hc => absurd h3 hc)
  exact kk _ _ h4
/-- write: both answer alike -/
def St_write (Inv : Nat → mm_I → mm_J → Prop) : Prop := ∀ (k : Nat), k < 512 → ∀ (a : Int32) (b : Int32) (c : Int32) (I : mm_I) (J : mm_J), Inv k I J → ∃ (n : Nat) (o1 : Int32 × mm_I × mm_J) (o2 : Int32 × mm_I × mm_J), f10_write SZ 0 a b c I J = some o1 ∧ f11_write SZ 167 a b c o1.2.1 o1.2.2 = some o2 ∧ o1.1 = o2.1 ∧ Inv (k + 1) o2.2.1 o2.2.2
set_option maxHeartbeats 4000000 in
set_option maxRecDepth 100000 in
theorem lw_c_write (l : Launch) {Inv : Nat → mm_I → mm_J → Prop} (hs : St_write Inv) {L : Nat} (hL : L ≤ 2560) {xs : Nat → Int32} {i k : Nat} (hk : k < 512) (hi : i + 5 ≤ L) {I : mm_I} {J : mm_J} (hv : Inv k I J) (kk : ∀ (I' : mm_I) (J' : mm_J), Inv (k + 1) I' J' → mm_V l ML room_1 SZ (lwE L xs) 1018 [(0, .ref 4000000), (1, .ref 0), (2, .ref 167), (3, .int (nI i))] [] I' J' 201 7356) : mm_V l ML room_1 SZ (lwE L xs) 880 [(0, .ref 4000000), (1, .ref 0), (2, .ref 167), (3, .int (nI i))] [] I J 201 7356 := by
  obtain ⟨n, o1, o2, h1, h2, h3, h4⟩ := hs k hk (xs (nI i + nI 1).toNatClampNeg) (xs (nI i + nI 2).toNatClampNeg) (xs (nI i + nI 3).toNatClampNeg) I J hv
  refine mv_aload_n dL_880 rfl ?_
  refine mv_aload_n dL_881 rfl ?_
  refine mv_iload_n dL_882 rfl ?_
  refine mv_iconst (v := nI 1) dL_883 (by decide +kernel) ?_
  refine mv_iadd dL_884 ?_
  refine mv_sld dL_885 (lw_in hi hL (by decide)) ?_
  refine mv_aload_n dL_886 rfl ?_
  refine mv_iload_n dL_887 rfl ?_
  refine mv_iconst (v := nI 2) dL_888 (by decide +kernel) ?_
  refine mv_iadd dL_889 ?_
  refine mv_sld dL_890 (lw_in hi hL (by decide)) ?_
  refine mv_aload_n dL_891 rfl ?_
  refine mv_iload_n dL_892 rfl ?_
  refine mv_iconst (v := nI 3) dL_893 (by decide +kernel) ?_
  refine mv_iadd dL_894 ?_
  refine mv_sld dL_895 (lw_in hi hL (by decide)) ?_
  refine mv_cVi (ci := 10) (As := [.int (xs (nI i + nI 1).toNatClampNeg), .int (xs (nI i + nI 2).toNatClampNeg), .int (xs (nI i + nI 3).toNatClampNeg)]) (fs := [.inl 1, .inl 4, .inl 15, .inl 26, .inl 27, .inl 28, .inl 29, .inl 46, .inl 63, .inl 80, .inl 97, .inl 114, .inl 131, .inl 133, .inl 146, .inl 147, .inl 148, .inl 149, .inl 158, .inr 0]) (ok10_write l SZ_wt SZ_isx h1) lk_L_117 rfl dL_896 ⟨Nat.le_of_ble_eq_true rfl, Nat.le_of_ble_eq_true rfl, Nat.le_of_ble_eq_true rfl, Nat.le_of_ble_eq_true rfl⟩ rfl SZ_x rfl rfl ?_
  refine mv_aload_n dL_899 rfl ?_
  refine mv_aload_n dL_900 rfl ?_
  refine mv_iload_n dL_901 rfl ?_
  refine mv_iconst (v := nI 1) dL_902 (by decide +kernel) ?_
  refine mv_iadd dL_903 ?_
  refine mv_sld dL_904 (lw_in hi hL (by decide)) ?_
  refine mv_aload_n dL_905 rfl ?_
  refine mv_iload_n dL_906 rfl ?_
  refine mv_iconst (v := nI 2) dL_907 (by decide +kernel) ?_
  refine mv_iadd dL_908 ?_
  refine mv_sld dL_909 (lw_in hi hL (by decide)) ?_
  refine mv_aload_n dL_910 rfl ?_
  refine mv_iload_n dL_911 rfl ?_
  refine mv_iconst (v := nI 3) dL_912 (by decide +kernel) ?_
  refine mv_iadd dL_913 ?_
  refine mv_sld dL_914 (lw_in hi hL (by decide)) ?_
  refine mv_cVi (ci := 11) (As := [.int (xs (nI i + nI 1).toNatClampNeg), .int (xs (nI i + nI 2).toNatClampNeg), .int (xs (nI i + nI 3).toNatClampNeg)]) (fs := [.inr 0, .inl 168, .inr 0, .inl 169, .inl 170, .inl 171, .inr 0, .inr 0, .inr 0, .inr 0, .inr 0, .inr 0, .inl 172, .inl 173, .inl 174, .inl 175, .inl 176, .inl 177, .inl 178, .inl 179, .inl 180, .inl 181, .inl 182, .inr 0, .inr 0, .inl 183, .inl 184, .inr 0, .inr 0, .inr 0, .inr 1, .inr 0, .inr 0, .inr 0, .inr 0, .inl 185, .inr 0, .inl 186, .inl 187, .inr 0, .inl 188, .inl 189, .inl 190, .inl 191, .inr 0, .inl 192, .inl 193, .inr 0, .inr 0, .inl 194, .inl 195, .inr 0, .inl 196, .inl 197, .inl 198, .inl 199, .inl 200]) (ok11_write l SZ_wt SZ_ism h2) lk_L_120 rfl dL_915 ⟨Nat.le_of_ble_eq_true rfl, Nat.le_of_ble_eq_true rfl, Nat.le_of_ble_eq_true rfl, Nat.le_of_ble_eq_true rfl⟩ rfl SZ_m rfl rfl ?_
  refine mv_icmp_eq (tgt := 1018) dL_918 (by decide) (fun _ => ?_) (fun hc => absurd h3 hc)
  exact kk _ _ h4
/-- tear: both answer alike -/
def St_tear (Inv : Nat → mm_I → mm_J → Prop) : Prop := ∀ (k : Nat), k < 512 → ∀  (I : mm_I) (J : mm_J), Inv k I J → ∃ (n : Nat) (o1 : Int32 × mm_I × mm_J) (o2 : Int32 × mm_I × mm_J), f10_tear SZ 0 I J = some o1 ∧ f11_tear SZ 167 o1.2.1 o1.2.2 = some o2 ∧ o1.1 = o2.1 ∧ Inv (k + 1) o2.2.1 o2.2.2
set_option maxHeartbeats 4000000 in
set_option maxRecDepth 100000 in
theorem lw_c_tear (l : Launch) {Inv : Nat → mm_I → mm_J → Prop} (hs : St_tear Inv) {L : Nat} (hL : L ≤ 2560) {xs : Nat → Int32} {i k : Nat} (hk : k < 512) (hi : i + 5 ≤ L) {I : mm_I} {J : mm_J} (hv : Inv k I J) (kk : ∀ (I' : mm_I) (J' : mm_J), Inv (k + 1) I' J' → mm_V l ML room_1 SZ (lwE L xs) 1018 [(0, .ref 4000000), (1, .ref 0), (2, .ref 167), (3, .int (nI i))] [] I' J' 201 7356) : mm_V l ML room_1 SZ (lwE L xs) 923 [(0, .ref 4000000), (1, .ref 0), (2, .ref 167), (3, .int (nI i))] [] I J 201 7356 := by
  obtain ⟨n, o1, o2, h1, h2, h3, h4⟩ := hs k hk  I J hv
  refine mv_aload_n dL_923 rfl ?_
  refine mv_cVi (ci := 10) (As := []) (fs := [.inl 1, .inl 4, .inl 15, .inl 26, .inl 27, .inl 28, .inl 29, .inl 46, .inl 63, .inl 80, .inl 97, .inl 114, .inl 131, .inl 133, .inl 146, .inl 147, .inl 148, .inl 149, .inl 158, .inr 0]) (ok10_tear l SZ_wt SZ_isx h1) lk_L_121 rfl dL_924 ⟨Nat.le_of_ble_eq_true rfl, Nat.le_of_ble_eq_true rfl, Nat.le_of_ble_eq_true rfl, Nat.le_of_ble_eq_true rfl⟩ rfl SZ_x rfl rfl ?_
  refine mv_aload_n dL_927 rfl ?_
  refine mv_cVi (ci := 11) (As := []) (fs := [.inr 0, .inl 168, .inr 0, .inl 169, .inl 170, .inl 171, .inr 0, .inr 0, .inr 0, .inr 0, .inr 0, .inr 0, .inl 172, .inl 173, .inl 174, .inl 175, .inl 176, .inl 177, .inl 178, .inl 179, .inl 180, .inl 181, .inl 182, .inr 0, .inr 0, .inl 183, .inl 184, .inr 0, .inr 0, .inr 0, .inr 1, .inr 0, .inr 0, .inr 0, .inr 0, .inl 185, .inr 0, .inl 186, .inl 187, .inr 0, .inl 188, .inl 189, .inl 190, .inl 191, .inr 0, .inl 192, .inl 193, .inr 0, .inr 0, .inl 194, .inl 195, .inr 0, .inl 196, .inl 197, .inl 198, .inl 199, .inl 200]) (ok11_tear l SZ_wt SZ_ism h2) lk_L_124 rfl dL_928 ⟨Nat.le_of_ble_eq_true rfl, Nat.le_of_ble_eq_true rfl, Nat.le_of_ble_eq_true rfl, Nat.le_of_ble_eq_true rfl⟩ rfl SZ_m rfl rfl ?_
  refine mv_icmp_eq (tgt := 1018) dL_931 (by decide) (fun _ => ?_) (fun hc => absurd h3 hc)
  exact kk _ _ h4
/-- judge: both answer alike -/
def St_judge (Inv : Nat → mm_I → mm_J → Prop) : Prop := ∀ (k : Nat), k < 512 → ∀  (I : mm_I) (J : mm_J), Inv k I J → ∃ (n : Nat) (o1 : Int32) (o2 : Int32), f10_judge SZ n 0 I J = some o1 ∧ f11_judge SZ n 167 I J = some o2 ∧ o1 = o2 ∧ Inv (k + 1) I J
set_option maxHeartbeats 4000000 in
set_option maxRecDepth 100000 in
theorem lw_c_judge (l : Launch) {Inv : Nat → mm_I → mm_J → Prop} (hs : St_judge Inv) {L : Nat} (hL : L ≤ 2560) {xs : Nat → Int32} {i k : Nat} (hk : k < 512) (hi : i + 5 ≤ L) {I : mm_I} {J : mm_J} (hv : Inv k I J) (kk : ∀ (I' : mm_I) (J' : mm_J), Inv (k + 1) I' J' → mm_V l ML room_1 SZ (lwE L xs) 1018 [(0, .ref 4000000), (1, .ref 0), (2, .ref 167), (3, .int (nI i))] [] I' J' 201 7356) : mm_V l ML room_1 SZ (lwE L xs) 936 [(0, .ref 4000000), (1, .ref 0), (2, .ref 167), (3, .int (nI i))] [] I J 201 7356 := by
  obtain ⟨n, o1, o2, h1, h2, h3, h4⟩ := hs k hk  I J hv
  refine mv_aload_n dL_936 rfl ?_
  refine mv_cVi (ci := 10) (As := []) (fs := [.inl 1, .inl 4, .inl 15, .inl 26, .inl 27, .inl 28, .inl 29, .inl 46, .inl 63, .inl 80, .inl 97, .inl 114, .inl 131, .inl 133, .inl 146, .inl 147, .inl 148, .inl 149, .inl 158, .inr 0]) (ok10_judge l SZ_wt SZ_isx h1) lk_L_125 rfl dL_937 ⟨Nat.le_of_ble_eq_true rfl, Nat.le_of_ble_eq_true rfl, Nat.le_of_ble_eq_true rfl, Nat.le_of_ble_eq_true rfl⟩ rfl SZ_x rfl rfl ?_
  refine mv_aload_n dL_940 rfl ?_
  refine mv_cVi (ci := 11) (As := []) (fs := [.inr 0, .inl 168, .inr 0, .inl 169, .inl 170, .inl 171, .inr 0, .inr 0, .inr 0, .inr 0, .inr 0, .inr 0, .inl 172, .inl 173, .inl 174, .inl 175, .inl 176, .inl 177, .inl 178, .inl 179, .inl 180, .inl 181, .inl 182, .inr 0, .inr 0, .inl 183, .inl 184, .inr 0, .inr 0, .inr 0, .inr 1, .inr 0, .inr 0, .inr 0, .inr 0, .inl 185, .inr 0, .inl 186, .inl 187, .inr 0, .inl 188, .inl 189, .inl 190, .inl 191, .inr 0, .inl 192, .inl 193, .inr 0, .inr 0, .inl 194, .inl 195, .inr 0, .inl 196, .inl 197, .inl 198, .inl 199, .inl 200]) (ok11_judge l SZ_wt SZ_ism h2) lk_L_128 rfl dL_941 ⟨Nat.le_of_ble_eq_true rfl, Nat.le_of_ble_eq_true rfl, Nat.le_of_ble_eq_true rfl, Nat.le_of_ble_eq_true rfl⟩ rfl SZ_m rfl rfl ?_
  refine mv_icmp_eq (tgt := 1018) dL_944 (by decide) (fun _ => ?_) (fun hc => absurd h3 hc)
  exact kk _ _ h4
/-- seed: both answer alike -/
def St_seed (Inv : Nat → mm_I → mm_J → Prop) : Prop := ∀ (k : Nat), k < 512 → ∀ (a : Int32) (I : mm_I) (J : mm_J), Inv k I J → ∃ (n : Nat) (o1 : Int32 × mm_I × mm_J) (o2 : Int32 × mm_I × mm_J), f10_seed SZ 0 a I J = some o1 ∧ f11_seed SZ 167 a o1.2.1 o1.2.2 = some o2 ∧ o1.1 = o2.1 ∧ Inv (k + 1) o2.2.1 o2.2.2
set_option maxHeartbeats 4000000 in
set_option maxRecDepth 100000 in
theorem lw_c_seed (l : Launch) {Inv : Nat → mm_I → mm_J → Prop} (hs : St_seed Inv) {L : Nat} (hL : L ≤ 2560) {xs : Nat → Int32} {i k : Nat} (hk : k < 512) (hi : i + 5 ≤ L) {I : mm_I} {J : mm_J} (hv : Inv k I J) (kk : ∀ (I' : mm_I) (J' : mm_J), Inv (k + 1) I' J' → mm_V l ML room_1 SZ (lwE L xs) 1018 [(0, .ref 4000000), (1, .ref 0), (2, .ref 167), (3, .int (nI i))] [] I' J' 201 7356) : mm_V l ML room_1 SZ (lwE L xs) 949 [(0, .ref 4000000), (1, .ref 0), (2, .ref 167), (3, .int (nI i))] [] I J 201 7356 := by
  obtain ⟨n, o1, o2, h1, h2, h3, h4⟩ := hs k hk (xs (nI i + nI 1).toNatClampNeg) I J hv
  refine mv_aload_n dL_949 rfl ?_
  refine mv_aload_n dL_950 rfl ?_
  refine mv_iload_n dL_951 rfl ?_
  refine mv_iconst (v := nI 1) dL_952 (by decide +kernel) ?_
  refine mv_iadd dL_953 ?_
  refine mv_sld dL_954 (lw_in hi hL (by decide)) ?_
  refine mv_cVi (ci := 10) (As := [.int (xs (nI i + nI 1).toNatClampNeg)]) (fs := [.inl 1, .inl 4, .inl 15, .inl 26, .inl 27, .inl 28, .inl 29, .inl 46, .inl 63, .inl 80, .inl 97, .inl 114, .inl 131, .inl 133, .inl 146, .inl 147, .inl 148, .inl 149, .inl 158, .inr 0]) (ok10_seed l SZ_wt SZ_isx h1) lk_L_129 rfl dL_955 ⟨Nat.le_of_ble_eq_true rfl, Nat.le_of_ble_eq_true rfl, Nat.le_of_ble_eq_true rfl, Nat.le_of_ble_eq_true rfl⟩ rfl SZ_x rfl rfl ?_
  refine mv_aload_n dL_958 rfl ?_
  refine mv_aload_n dL_959 rfl ?_
  refine mv_iload_n dL_960 rfl ?_
  refine mv_iconst (v := nI 1) dL_961 (by decide +kernel) ?_
  refine mv_iadd dL_962 ?_
  refine mv_sld dL_963 (lw_in hi hL (by decide)) ?_
  refine mv_cVi (ci := 11) (As := [.int (xs (nI i + nI 1).toNatClampNeg)]) (fs := [.inr 0, .inl 168, .inr 0, .inl 169, .inl 170, .inl 171, .inr 0, .inr 0, .inr 0, .inr 0, .inr 0, .inr 0, .inl 172, .inl 173, .inl 174, .inl 175, .inl 176, .inl 177, .inl 178, .inl 179, .inl 180, .inl 181, .inl 182, .inr 0, .inr 0, .inl 183, .inl 184, .inr 0, .inr 0, .inr 0, .inr 1, .inr 0, .inr 0, .inr 0, .inr 0, .inl 185, .inr 0, .inl 186, .inl 187, .inr 0, .inl 188, .inl 189, .inl 190, .inl 191, .inr 0, .inl 192, .inl 193, .inr 0, .inr 0, .inl 194, .inl 195, .inr 0, .inl 196, .inl 197, .inl 198, .inl 199, .inl 200]) (ok11_seed l SZ_wt SZ_ism h2) lk_L_132 rfl dL_964 ⟨Nat.le_of_ble_eq_true rfl, Nat.le_of_ble_eq_true rfl, Nat.le_of_ble_eq_true rfl, Nat.le_of_ble_eq_true rfl⟩ rfl SZ_m rfl rfl ?_
  refine mv_icmp_eq (tgt := 1018) dL_967 (by decide) (fun _ => ?_) (fun hc => absurd h3 hc)
  exact kk _ _ h4
/-- keep: both answer alike -/
def St_keep (Inv : Nat → mm_I → mm_J → Prop) : Prop := ∀ (k : Nat), k < 512 → ∀ (a : Int32) (I : mm_I) (J : mm_J), Inv k I J → ∃ (n : Nat) (o1 : Int32 × mm_I × mm_J) (o2 : Int32 × mm_I × mm_J), f10_keep SZ n 0 a I J = some o1 ∧ f11_keep SZ n 167 a o1.2.1 o1.2.2 = some o2 ∧ o1.1 = o2.1 ∧ Inv (k + 1) o2.2.1 o2.2.2
set_option maxHeartbeats 4000000 in
set_option maxRecDepth 100000 in
theorem lw_c_keep (l : Launch) {Inv : Nat → mm_I → mm_J → Prop} (hs : St_keep Inv) {L : Nat} (hL : L ≤ 2560) {xs : Nat → Int32} {i k : Nat} (hk : k < 512) (hi : i + 5 ≤ L) {I : mm_I} {J : mm_J} (hv : Inv k I J) (kk : ∀ (I' : mm_I) (J' : mm_J), Inv (k + 1) I' J' → mm_V l ML room_1 SZ (lwE L xs) 1018 [(0, .ref 4000000), (1, .ref 0), (2, .ref 167), (3, .int (nI i))] [] I' J' 201 7356) : mm_V l ML room_1 SZ (lwE L xs) 972 [(0, .ref 4000000), (1, .ref 0), (2, .ref 167), (3, .int (nI i))] [] I J 201 7356 := by
  obtain ⟨n, o1, o2, h1, h2, h3, h4⟩ := hs k hk (xs (nI i + nI 1).toNatClampNeg) I J hv
  refine mv_aload_n dL_972 rfl ?_
  refine mv_aload_n dL_973 rfl ?_
  refine mv_iload_n dL_974 rfl ?_
  refine mv_iconst (v := nI 1) dL_975 (by decide +kernel) ?_
  refine mv_iadd dL_976 ?_
  refine mv_sld dL_977 (lw_in hi hL (by decide)) ?_
  refine mv_cVi (ci := 10) (As := [.int (xs (nI i + nI 1).toNatClampNeg)]) (fs := [.inl 1, .inl 4, .inl 15, .inl 26, .inl 27, .inl 28, .inl 29, .inl 46, .inl 63, .inl 80, .inl 97, .inl 114, .inl 131, .inl 133, .inl 146, .inl 147, .inl 148, .inl 149, .inl 158, .inr 0]) (ok10_keep l SZ_wt SZ_isx h1) lk_L_133 rfl dL_978 ⟨Nat.le_of_ble_eq_true rfl, Nat.le_of_ble_eq_true rfl, Nat.le_of_ble_eq_true rfl, Nat.le_of_ble_eq_true rfl⟩ rfl SZ_x rfl rfl ?_
  refine mv_aload_n dL_981 rfl ?_
  refine mv_aload_n dL_982 rfl ?_
  refine mv_iload_n dL_983 rfl ?_
  refine mv_iconst (v := nI 1) dL_984 (by decide +kernel) ?_
  refine mv_iadd dL_985 ?_
  refine mv_sld dL_986 (lw_in hi hL (by decide)) ?_
  refine mv_cVi (ci := 11) (As := [.int (xs (nI i + nI 1).toNatClampNeg)]) (fs := [.inr 0, .inl 168, .inr 0, .inl 169, .inl 170, .inl 171, .inr 0, .inr 0, .inr 0, .inr 0, .inr 0, .inr 0, .inl 172, .inl 173, .inl 174, .inl 175, .inl 176, .inl 177, .inl 178, .inl 179, .inl 180, .inl 181, .inl 182, .inr 0, .inr 0, .inl 183, .inl 184, .inr 0, .inr 0, .inr 0, .inr 1, .inr 0, .inr 0, .inr 0, .inr 0, .inl 185, .inr 0, .inl 186, .inl 187, .inr 0, .inl 188, .inl 189, .inl 190, .inl 191, .inr 0, .inl 192, .inl 193, .inr 0, .inr 0, .inl 194, .inl 195, .inr 0, .inl 196, .inl 197, .inl 198, .inl 199, .inl 200]) (ok11_keep l SZ_wt SZ_ism h2) lk_L_136 rfl dL_987 ⟨Nat.le_of_ble_eq_true rfl, Nat.le_of_ble_eq_true rfl, Nat.le_of_ble_eq_true rfl, Nat.le_of_ble_eq_true rfl⟩ rfl SZ_m rfl rfl ?_
  refine mv_icmp_eq (tgt := 1018) dL_990 (by decide) (fun _ => ?_) (fun hc => absurd h3 hc)
  exact kk _ _ h4
/-- goBack: both answer alike -/
def St_goBack (Inv : Nat → mm_I → mm_J → Prop) : Prop := ∀ (k : Nat), k < 512 → ∀ (a : Int32) (I : mm_I) (J : mm_J), Inv k I J → ∃ (n : Nat) (o1 : Int32 × mm_I × mm_J) (o2 : Int32 × mm_I × mm_J), f10_goBack SZ n 0 a I J = some o1 ∧ f11_goBack SZ n 167 a o1.2.1 o1.2.2 = some o2 ∧ o1.1 = o2.1 ∧ Inv (k + 1) o2.2.1 o2.2.2
set_option maxHeartbeats 4000000 in
set_option maxRecDepth 100000 in
theorem lw_c_goBack (l : Launch) {Inv : Nat → mm_I → mm_J → Prop} (hs : St_goBack Inv) {L : Nat} (hL : L ≤ 2560) {xs : Nat → Int32} {i k : Nat} (hk : k < 512) (hi : i + 5 ≤ L) {I : mm_I} {J : mm_J} (hv : Inv k I J) (kk : ∀ (I' : mm_I) (J' : mm_J), Inv (k + 1) I' J' → mm_V l ML room_1 SZ (lwE L xs) 1018 [(0, .ref 4000000), (1, .ref 0), (2, .ref 167), (3, .int (nI i))] [] I' J' 201 7356) : mm_V l ML room_1 SZ (lwE L xs) 995 [(0, .ref 4000000), (1, .ref 0), (2, .ref 167), (3, .int (nI i))] [] I J 201 7356 := by
  obtain ⟨n, o1, o2, h1, h2, h3, h4⟩ := hs k hk (xs (nI i + nI 1).toNatClampNeg) I J hv
  refine mv_aload_n dL_995 rfl ?_
  refine mv_aload_n dL_996 rfl ?_
  refine mv_iload_n dL_997 rfl ?_
  refine mv_iconst (v := nI 1) dL_998 (by decide +kernel) ?_
  refine mv_iadd dL_999 ?_
  refine mv_sld dL_1000 (lw_in hi hL (by decide)) ?_
  refine mv_cVi (ci := 10) (As := [.int (xs (nI i + nI 1).toNatClampNeg)]) (fs := [.inl 1, .inl 4, .inl 15, .inl 26, .inl 27, .inl 28, .inl 29, .inl 46, .inl 63, .inl 80, .inl 97, .inl 114, .inl 131, .inl 133, .inl 146, .inl 147, .inl 148, .inl 149, .inl 158, .inr 0]) (ok10_goBack l SZ_wt SZ_isx h1) lk_L_137 rfl dL_1001 ⟨Nat.le_of_ble_eq_true rfl, Nat.le_of_ble_eq_true rfl, Nat.le_of_ble_eq_true rfl, Nat.le_of_ble_eq_true rfl⟩ rfl SZ_x rfl rfl ?_
  refine mv_aload_n dL_1004 rfl ?_
  refine mv_aload_n dL_1005 rfl ?_
  refine mv_iload_n dL_1006 rfl ?_
  refine mv_iconst (v := nI 1) dL_1007 (by decide +kernel) ?_
  refine mv_iadd dL_1008 ?_
  refine mv_sld dL_1009 (lw_in hi hL (by decide)) ?_
  refine mv_cVi (ci := 11) (As := [.int (xs (nI i + nI 1).toNatClampNeg)]) (fs := [.inr 0, .inl 168, .inr 0, .inl 169, .inl 170, .inl 171, .inr 0, .inr 0, .inr 0, .inr 0, .inr 0, .inr 0, .inl 172, .inl 173, .inl 174, .inl 175, .inl 176, .inl 177, .inl 178, .inl 179, .inl 180, .inl 181, .inl 182, .inr 0, .inr 0, .inl 183, .inl 184, .inr 0, .inr 0, .inr 0, .inr 1, .inr 0, .inr 0, .inr 0, .inr 0, .inl 185, .inr 0, .inl 186, .inl 187, .inr 0, .inl 188, .inl 189, .inl 190, .inl 191, .inr 0, .inl 192, .inl 193, .inr 0, .inr 0, .inl 194, .inl 195, .inr 0, .inl 196, .inl 197, .inl 198, .inl 199, .inl 200]) (ok11_goBack l SZ_wt SZ_ism h2) lk_L_140 rfl dL_1010 ⟨Nat.le_of_ble_eq_true rfl, Nat.le_of_ble_eq_true rfl, Nat.le_of_ble_eq_true rfl, Nat.le_of_ble_eq_true rfl⟩ rfl SZ_m rfl rfl ?_
  refine mv_icmp_eq (tgt := 1018) dL_1013 (by decide) (fun _ => ?_) (fun hc => absurd h3 hc)
  exact kk _ _ h4
def St_all (Inv : Nat → mm_I → mm_J → Prop) : Prop := St_feed Inv ∧ St_town Inv ∧ St_laws Inv ∧ St_fault Inv ∧ St_told Inv ∧ St_trade Inv ∧ St_person Inv ∧ St_skill Inv ∧ St_like Inv ∧ St_change Inv ∧ St_practise Inv ∧ St_night Inv ∧ St_year Inv ∧ St_drift Inv ∧ St_compared Inv ∧ St_begin Inv ∧ St_want Inv ∧ St_changed Inv ∧ St_ring Inv ∧ St_lastHand Inv ∧ St_till Inv ∧ St_make Inv ∧ St_makers Inv ∧ St_fits Inv ∧ St_write Inv ∧ St_tear Inv ∧ St_judge Inv ∧ St_seed Inv ∧ St_keep Inv ∧ St_goBack Inv
set_option maxHeartbeats 4000000 in
set_option maxRecDepth 100000 in
theorem lw_body (l : Launch) {Inv : Nat → mm_I → mm_J → Prop} (hs : St_all Inv) {L : Nat} (hL : L ≤ 2560) {xs : Nat → Int32} {i k : Nat} (hk : k < 512) (hmono : ∀ (I' : mm_I) (J' : mm_J), Inv k I' J' → Inv (k + 1) I' J') (hi : i + 5 ≤ L) {I : mm_I} {J : mm_J} (hv : Inv k I J) (kk : ∀ (I' : mm_I) (J' : mm_J), Inv (k + 1) I' J' → mm_V l ML room_1 SZ (lwE L xs) 1018 [(0, .ref 4000000), (1, .ref 0), (2, .ref 167), (3, .int (nI i))] [] I' J' 201 7356) : mm_V l ML room_1 SZ (lwE L xs) 26 [(0, .ref 4000000), (1, .ref 0), (2, .ref 167), (3, .int (nI i))] [] I J 201 7356 := by
  obtain ⟨s0, s1, s2, s3, s4, s5, s6, s7, s8, s9, s10, s11, s12, s13, s14, s15, s16, s17, s18, s19, s20, s21, s22, s23, s24, s25, s26, s27, s28, s29⟩ := hs
  refine mv_aload_n dL_26 rfl ?_
  refine mv_iload_n dL_27 rfl ?_
  refine mv_sld dL_28 (vp_in_nI (by omega) (by omega)) ?_
  refine mv_bipush (v := 31) dL_29 (by decide +kernel) ?_
  refine mv_iand dL_31 ?_
  obtain ⟨j, hj, e⟩ := pk_andE (xs (nI i).toNatClampNeg) (m := 31) 5 (by decide +kernel)
  rw [e]
  by_cases h30 : 30 ≤ j
  · refine mv_tabOut (tgt := 1018) dL_32 (Or.inr (by rw [nI_toInt (by omega)]; omega)) (by decide) ?_
    exact kk I J (hmono I J hv)
  · have hcase : j = 0 ∨ j = 1 ∨ j = 2 ∨ j = 3 ∨ j = 4 ∨ j = 5 ∨ j = 6 ∨ j = 7 ∨ j = 8 ∨ j = 9 ∨ j = 10 ∨ j = 11 ∨ j = 12 ∨ j = 13 ∨ j = 14 ∨ j = 15 ∨ j = 16 ∨ j = 17 ∨ j = 18 ∨ j = 19 ∨ j = 20 ∨ j = 21 ∨ j = 22 ∨ j = 23 ∨ j = 24 ∨ j = 25 ∨ j = 26 ∨ j = 27 ∨ j = 28 ∨ j = 29 := by omega
    rcases hcase with rfl | rfl | rfl | rfl | rfl | rfl | rfl | rfl | rfl | rfl | rfl | rfl | rfl | rfl | rfl | rfl | rfl | rfl | rfl | rfl | rfl | rfl | rfl | rfl | rfl | rfl | rfl | rfl | rfl | rfl
    · exact mv_tabIn 0 (tgt := 168) dL_32 (by decide +kernel) (by decide) (by decide) rfl (by decide) (lw_c_feed l s0 hL hk hi hv kk)
    · exact mv_tabIn 1 (tgt := 231) dL_32 (by decide +kernel) (by decide) (by decide) rfl (by decide) (lw_c_town l s1 hL hk hi hv kk)
    · exact mv_tabIn 2 (tgt := 244) dL_32 (by decide +kernel) (by decide) (by decide) rfl (by decide) (lw_c_laws l s2 hL hk hi hv kk)
    · exact mv_tabIn 3 (tgt := 257) dL_32 (by decide +kernel) (by decide) (by decide) rfl (by decide) (lw_c_fault l s3 hL hk hi hv kk)
    · exact mv_tabIn 4 (tgt := 270) dL_32 (by decide +kernel) (by decide) (by decide) rfl (by decide) (lw_c_told l s4 hL hk hi hv kk)
    · exact mv_tabIn 5 (tgt := 293) dL_32 (by decide +kernel) (by decide) (by decide) rfl (by decide) (lw_c_trade l s5 hL hk hi hv kk)
    · exact mv_tabIn 6 (tgt := 326) dL_32 (by decide +kernel) (by decide) (by decide) rfl (by decide) (lw_c_person l s6 hL hk hi hv kk)
    · exact mv_tabIn 7 (tgt := 359) dL_32 (by decide +kernel) (by decide) (by decide) rfl (by decide) (lw_c_skill l s7 hL hk hi hv kk)
    · exact mv_tabIn 8 (tgt := 392) dL_32 (by decide +kernel) (by decide) (by decide) rfl (by decide) (lw_c_like l s8 hL hk hi hv kk)
    · exact mv_tabIn 9 (tgt := 425) dL_32 (by decide +kernel) (by decide) (by decide) rfl (by decide) (lw_c_change l s9 hL hk hi hv kk)
    · exact mv_tabIn 10 (tgt := 478) dL_32 (by decide +kernel) (by decide) (by decide) rfl (by decide) (lw_c_practise l s10 hL hk hi hv kk)
    · exact mv_tabIn 11 (tgt := 511) dL_32 (by decide +kernel) (by decide) (by decide) rfl (by decide) (lw_c_night l s11 hL hk hi hv kk)
    · exact mv_tabIn 12 (tgt := 544) dL_32 (by decide +kernel) (by decide) (by decide) rfl (by decide) (lw_c_year l s12 hL hk hi hv kk)
    · exact mv_tabIn 13 (tgt := 567) dL_32 (by decide +kernel) (by decide) (by decide) rfl (by decide) (lw_c_drift l s13 hL hk hi hv kk)
    · exact mv_tabIn 14 (tgt := 600) dL_32 (by decide +kernel) (by decide) (by decide) rfl (by decide) (lw_c_compared l s14 hL hk hi hv kk)
    · exact mv_tabIn 15 (tgt := 643) dL_32 (by decide +kernel) (by decide) (by decide) rfl (by decide) (lw_c_begin l s15 hL hk hi hv kk)
    · exact mv_tabIn 16 (tgt := 656) dL_32 (by decide +kernel) (by decide) (by decide) rfl (by decide) (lw_c_want l s16 hL hk hi hv kk)
    · exact mv_tabIn 17 (tgt := 689) dL_32 (by decide +kernel) (by decide) (by decide) rfl (by decide) (lw_c_changed l s17 hL hk hi hv kk)
    · exact mv_tabIn 18 (tgt := 712) dL_32 (by decide +kernel) (by decide) (by decide) rfl (by decide) (lw_c_ring l s18 hL hk hi hv kk)
    · exact mv_tabIn 19 (tgt := 735) dL_32 (by decide +kernel) (by decide) (by decide) rfl (by decide) (lw_c_lastHand l s19 hL hk hi hv kk)
    · exact mv_tabIn 20 (tgt := 768) dL_32 (by decide +kernel) (by decide) (by decide) rfl (by decide) (lw_c_till l s20 hL hk hi hv kk)
    · exact mv_tabIn 21 (tgt := 791) dL_32 (by decide +kernel) (by decide) (by decide) rfl (by decide) (lw_c_make l s21 hL hk hi hv kk)
    · exact mv_tabIn 22 (tgt := 824) dL_32 (by decide +kernel) (by decide) (by decide) rfl (by decide) (lw_c_makers l s22 hL hk hi hv kk)
    · exact mv_tabIn 23 (tgt := 847) dL_32 (by decide +kernel) (by decide) (by decide) rfl (by decide) (lw_c_fits l s23 hL hk hi hv kk)
    · exact mv_tabIn 24 (tgt := 880) dL_32 (by decide +kernel) (by decide) (by decide) rfl (by decide) (lw_c_write l s24 hL hk hi hv kk)
    · exact mv_tabIn 25 (tgt := 923) dL_32 (by decide +kernel) (by decide) (by decide) rfl (by decide) (lw_c_tear l s25 hL hk hi hv kk)
    · exact mv_tabIn 26 (tgt := 936) dL_32 (by decide +kernel) (by decide) (by decide) rfl (by decide) (lw_c_judge l s26 hL hk hi hv kk)
    · exact mv_tabIn 27 (tgt := 949) dL_32 (by decide +kernel) (by decide) (by decide) rfl (by decide) (lw_c_seed l s27 hL hk hi hv kk)
    · exact mv_tabIn 28 (tgt := 972) dL_32 (by decide +kernel) (by decide) (by decide) rfl (by decide) (lw_c_keep l s28 hL hk hi hv kk)
    · exact mv_tabIn 29 (tgt := 995) dL_32 (by decide +kernel) (by decide) (by decide) rfl (by decide) (lw_c_goBack l s29 hL hk hi hv kk)
set_option maxHeartbeats 4000000 in
set_option maxRecDepth 100000 in
theorem lw_loop (l : Launch) {Inv : Nat → mm_I → mm_J → Prop} (hs : St_all Inv) (hmono : ∀ (k : Nat) (I' : mm_I) (J' : mm_J), Inv k I' J' → Inv (k + 1) I' J') {L : Nat} (hL : L ≤ 2560) {xs : Nat → Int32} : ∀ (k i q : Nat), L ≤ i + k → i = 5 * q → i ≤ 2560 → ∀ {I : mm_I} {J : mm_J}, Inv q I J → mm_V l ML room_1 SZ (lwE L xs) 18 [(0, .ref 4000000), (1, .ref 0), (2, .ref 167), (3, .int (nI i))] [] I J 201 7356 := by
  intro k
  induction k with
  | zero =>
    intro i q h1 hq h2 I J hv
    refine mv_iload_n dL_18 rfl ?_
    refine mv_aload_n dL_19 rfl ?_
    refine mv_slen dL_20 ?_
    refine mv_iconst (v := 5) dL_21 (by decide +kernel) ?_
    refine mv_isub dL_22 ?_
    refine mv_icmp_gt (tgt := 1024) dL_23 (by decide) (fun _ => ?_) (fun hc => ?_)
    · refine mv_iconst (v := 1) dL_1024 (by decide +kernel) ?_
      exact mv_lwret dL_1025 (by decide) (by decide)
    · exfalso
      apply hc
      rw [Int32.lt_iff_toInt_lt]
      have e1 : (Int32.ofNat L - 5).toInt = (L : Int) - 5 := pk_sub_toInt (a := L) (b := 5) (by omega) (by omega)
      have e2 := nI_toInt (n := i) (by omega)
      rw [e1, e2]
      omega
  | succ k ih =>
    intro i q h1 hq h2 I J hv
    refine mv_iload_n dL_18 rfl ?_
    refine mv_aload_n dL_19 rfl ?_
    refine mv_slen dL_20 ?_
    refine mv_iconst (v := 5) dL_21 (by decide +kernel) ?_
    refine mv_isub dL_22 ?_
    have e1 : (Int32.ofNat L - 5).toInt = (L : Int) - 5 := pk_sub_toInt (a := L) (b := 5) (by omega) (by omega)
    have e2 := nI_toInt (n := i) (by omega)
    refine mv_icmp_gt (tgt := 1024) dL_23 (by decide) (fun _ => ?_) (fun hc => ?_)
    · refine mv_iconst (v := 1) dL_1024 (by decide +kernel) ?_
      exact mv_lwret dL_1025 (by decide) (by decide)
    · have hi : i + 5 ≤ L := by
        rw [Int32.lt_iff_toInt_lt, e1, e2] at hc
        omega
      refine lw_body l hs hL (k := q) (by omega) (hmono q) hi hv (fun I' J' hv' => ?_)
      refine mv_iinc (v := nI (i + 5)) dL_1018 rfl rfl rfl (nI_add i 5) ?_
      refine mv_goto (tgt := 18) dL_1021 (by decide) ?_
      refine mv_sub [(0, .ref 4000000), (1, .ref 0), (2, .ref 167), (3, .int (nI (i + 5)))] ⟨rfl, rfl, rfl, rfl, trivial⟩ ?_
      exact ih (i + 5) (q + 1) (by omega) (by omega) (by omega) hv'

