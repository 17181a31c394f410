/-! THE LAW, case by case -/
theorem dw_0 : decode code 0 = .ok (.new 8, 3) := by decide +kernel
theorem dw_3 : decode code 3 = .ok (.dup, 1) := by decide +kernel
theorem dw_4 : decode code 4 = .ok (.invokespecial 46, 3) := by decide +kernel
theorem dw_7 : decode code 7 = .ok (.astore_n 1, 1) := by decide +kernel
theorem dw_8 : decode code 8 = .ok (.new 47, 3) := by decide +kernel
theorem dw_11 : decode code 11 = .ok (.dup, 1) := by decide +kernel
theorem dw_12 : decode code 12 = .ok (.invokespecial 49, 3) := by decide +kernel
theorem dw_15 : decode code 15 = .ok (.astore_n 2, 1) := by decide +kernel
theorem dw_16 : decode code 16 = .ok (.iconst 1, 1) := by decide +kernel
theorem dw_17 : decode code 17 = .ok (.newarray .long, 2) := by decide +kernel
theorem dw_19 : decode code 19 = .ok (.astore_n 3, 1) := by decide +kernel
theorem dw_20 : decode code 20 = .ok (.iconst 0, 1) := by decide +kernel
theorem dw_21 : decode code 21 = .ok (.istore 4, 2) := by decide +kernel
theorem dw_23 : decode code 23 = .ok (.iload 4, 2) := by decide +kernel
theorem dw_25 : decode code 25 = .ok (.aload_n 0, 1) := by decide +kernel
theorem dw_26 : decode code 26 = .ok (.arraylength, 1) := by decide +kernel
theorem dw_27 : decode code 27 = .ok (.bipush 6, 2) := by decide +kernel
theorem dw_29 : decode code 29 = .ok (.isub, 1) := by decide +kernel
theorem dw_30 : decode code 30 = .ok (.if_icmp .gt 1423, 3) := by decide +kernel
theorem dw_33 : decode code 33 = .ok (.aload_n 0, 1) := by decide +kernel
theorem dw_34 : decode code 34 = .ok (.iload 4, 2) := by decide +kernel
theorem dw_36 : decode code 36 = .ok (.iaload, 1) := by decide +kernel
theorem dw_37 : decode code 37 = .ok (.bipush 31, 2) := by decide +kernel
theorem dw_39 : decode code 39 = .ok (.iand, 1) := by decide +kernel
theorem dw_40 : decode code 40 = .ok (.tableswitch 1407 0 22 #[108, 181, 206, 219, 232, 257, 310, 378, 415, 452, 519, 626, 706, 786, 866, 946, 1038, 1130, 1210, 1259, 1320, 1357, 1394], 108) := by decide +kernel
theorem dw_148 : decode code 148 = .ok (.aload_n 1, 1) := by decide +kernel
theorem dw_149 : decode code 149 = .ok (.aload_n 0, 1) := by decide +kernel
theorem dw_150 : decode code 150 = .ok (.iload 4, 2) := by decide +kernel
theorem dw_152 : decode code 152 = .ok (.iconst 1, 1) := by decide +kernel
theorem dw_153 : decode code 153 = .ok (.iadd, 1) := by decide +kernel
theorem dw_154 : decode code 154 = .ok (.iaload, 1) := by decide +kernel
theorem dw_155 : decode code 155 = .ok (.aload_n 0, 1) := by decide +kernel
theorem dw_156 : decode code 156 = .ok (.iload 4, 2) := by decide +kernel
theorem dw_158 : decode code 158 = .ok (.iconst 2, 1) := by decide +kernel
theorem dw_159 : decode code 159 = .ok (.iadd, 1) := by decide +kernel
theorem dw_160 : decode code 160 = .ok (.iaload, 1) := by decide +kernel
theorem dw_161 : decode code 161 = .ok (.aload_n 0, 1) := by decide +kernel
theorem dw_162 : decode code 162 = .ok (.iload 4, 2) := by decide +kernel
theorem dw_164 : decode code 164 = .ok (.iconst 3, 1) := by decide +kernel
theorem dw_165 : decode code 165 = .ok (.iadd, 1) := by decide +kernel
theorem dw_166 : decode code 166 = .ok (.iaload, 1) := by decide +kernel
theorem dw_167 : decode code 167 = .ok (.aload_n 0, 1) := by decide +kernel
theorem dw_168 : decode code 168 = .ok (.iload 4, 2) := by decide +kernel
theorem dw_170 : decode code 170 = .ok (.iconst 4, 1) := by decide +kernel
theorem dw_171 : decode code 171 = .ok (.iadd, 1) := by decide +kernel
theorem dw_172 : decode code 172 = .ok (.iaload, 1) := by decide +kernel
theorem dw_173 : decode code 173 = .ok (.aload_n 0, 1) := by decide +kernel
theorem dw_174 : decode code 174 = .ok (.iload 4, 2) := by decide +kernel
theorem dw_176 : decode code 176 = .ok (.iconst 5, 1) := by decide +kernel
theorem dw_177 : decode code 177 = .ok (.iadd, 1) := by decide +kernel
theorem dw_178 : decode code 178 = .ok (.iaload, 1) := by decide +kernel
theorem dw_179 : decode code 179 = .ok (.invokevirtual 50, 3) := by decide +kernel
theorem dw_182 : decode code 182 = .ok (.aload_n 2, 1) := by decide +kernel
theorem dw_183 : decode code 183 = .ok (.aload_n 0, 1) := by decide +kernel
theorem dw_184 : decode code 184 = .ok (.iload 4, 2) := by decide +kernel
theorem dw_186 : decode code 186 = .ok (.iconst 1, 1) := by decide +kernel
theorem dw_187 : decode code 187 = .ok (.iadd, 1) := by decide +kernel
theorem dw_188 : decode code 188 = .ok (.iaload, 1) := by decide +kernel
theorem dw_189 : decode code 189 = .ok (.aload_n 0, 1) := by decide +kernel
theorem dw_190 : decode code 190 = .ok (.iload 4, 2) := by decide +kernel
theorem dw_192 : decode code 192 = .ok (.iconst 2, 1) := by decide +kernel
theorem dw_193 : decode code 193 = .ok (.iadd, 1) := by decide +kernel
theorem dw_194 : decode code 194 = .ok (.iaload, 1) := by decide +kernel
theorem dw_195 : decode code 195 = .ok (.aload_n 0, 1) := by decide +kernel
theorem dw_196 : decode code 196 = .ok (.iload 4, 2) := by decide +kernel
theorem dw_198 : decode code 198 = .ok (.iconst 3, 1) := by decide +kernel
theorem dw_199 : decode code 199 = .ok (.iadd, 1) := by decide +kernel
theorem dw_200 : decode code 200 = .ok (.iaload, 1) := by decide +kernel
theorem dw_201 : decode code 201 = .ok (.aload_n 0, 1) := by decide +kernel
theorem dw_202 : decode code 202 = .ok (.iload 4, 2) := by decide +kernel
theorem dw_204 : decode code 204 = .ok (.iconst 4, 1) := by decide +kernel
theorem dw_205 : decode code 205 = .ok (.iadd, 1) := by decide +kernel
theorem dw_206 : decode code 206 = .ok (.iaload, 1) := by decide +kernel
theorem dw_207 : decode code 207 = .ok (.aload_n 0, 1) := by decide +kernel
theorem dw_208 : decode code 208 = .ok (.iload 4, 2) := by decide +kernel
theorem dw_210 : decode code 210 = .ok (.iconst 5, 1) := by decide +kernel
theorem dw_211 : decode code 211 = .ok (.iadd, 1) := by decide +kernel
theorem dw_212 : decode code 212 = .ok (.iaload, 1) := by decide +kernel
theorem dw_213 : decode code 213 = .ok (.invokevirtual 54, 3) := by decide +kernel
theorem dw_216 : decode code 216 = .ok (.if_icmp .eq 1231, 3) := by decide +kernel
theorem dw_219 : decode code 219 = .ok (.iconst 0, 1) := by decide +kernel
theorem dw_220 : decode code 220 = .ok (.ireturn, 1) := by decide +kernel
theorem dw_221 : decode code 221 = .ok (.aload_n 1, 1) := by decide +kernel
theorem dw_222 : decode code 222 = .ok (.aload_n 0, 1) := by decide +kernel
theorem dw_223 : decode code 223 = .ok (.iload 4, 2) := by decide +kernel
theorem dw_225 : decode code 225 = .ok (.iconst 1, 1) := by decide +kernel
theorem dw_226 : decode code 226 = .ok (.iadd, 1) := by decide +kernel
theorem dw_227 : decode code 227 = .ok (.iaload, 1) := by decide +kernel
theorem dw_228 : decode code 228 = .ok (.invokevirtual 55, 3) := by decide +kernel
theorem dw_231 : decode code 231 = .ok (.aload_n 2, 1) := by decide +kernel
theorem dw_232 : decode code 232 = .ok (.aload_n 0, 1) := by decide +kernel
theorem dw_233 : decode code 233 = .ok (.iload 4, 2) := by decide +kernel
theorem dw_235 : decode code 235 = .ok (.iconst 1, 1) := by decide +kernel
theorem dw_236 : decode code 236 = .ok (.iadd, 1) := by decide +kernel
theorem dw_237 : decode code 237 = .ok (.iaload, 1) := by decide +kernel
theorem dw_238 : decode code 238 = .ok (.invokevirtual 59, 3) := by decide +kernel
theorem dw_241 : decode code 241 = .ok (.if_icmp .eq 1206, 3) := by decide +kernel
theorem dw_244 : decode code 244 = .ok (.iconst 0, 1) := by decide +kernel
theorem dw_245 : decode code 245 = .ok (.ireturn, 1) := by decide +kernel
theorem dw_246 : decode code 246 = .ok (.aload_n 1, 1) := by decide +kernel
theorem dw_247 : decode code 247 = .ok (.invokevirtual 60, 3) := by decide +kernel
theorem dw_250 : decode code 250 = .ok (.aload_n 2, 1) := by decide +kernel
theorem dw_251 : decode code 251 = .ok (.invokevirtual 64, 3) := by decide +kernel
theorem dw_254 : decode code 254 = .ok (.if_icmp .eq 1193, 3) := by decide +kernel
theorem dw_257 : decode code 257 = .ok (.iconst 0, 1) := by decide +kernel
theorem dw_258 : decode code 258 = .ok (.ireturn, 1) := by decide +kernel
theorem dw_259 : decode code 259 = .ok (.aload_n 1, 1) := by decide +kernel
theorem dw_260 : decode code 260 = .ok (.invokevirtual 65, 3) := by decide +kernel
theorem dw_263 : decode code 263 = .ok (.aload_n 2, 1) := by decide +kernel
theorem dw_264 : decode code 264 = .ok (.invokevirtual 68, 3) := by decide +kernel
theorem dw_267 : decode code 267 = .ok (.if_icmp .eq 1180, 3) := by decide +kernel
theorem dw_270 : decode code 270 = .ok (.iconst 0, 1) := by decide +kernel
theorem dw_271 : decode code 271 = .ok (.ireturn, 1) := by decide +kernel
theorem dw_272 : decode code 272 = .ok (.aload_n 1, 1) := by decide +kernel
theorem dw_273 : decode code 273 = .ok (.aload_n 0, 1) := by decide +kernel
theorem dw_274 : decode code 274 = .ok (.iload 4, 2) := by decide +kernel
theorem dw_276 : decode code 276 = .ok (.iconst 1, 1) := by decide +kernel
theorem dw_277 : decode code 277 = .ok (.iadd, 1) := by decide +kernel
theorem dw_278 : decode code 278 = .ok (.iaload, 1) := by decide +kernel
theorem dw_279 : decode code 279 = .ok (.invokevirtual 69, 3) := by decide +kernel
theorem dw_282 : decode code 282 = .ok (.aload_n 2, 1) := by decide +kernel
theorem dw_283 : decode code 283 = .ok (.aload_n 0, 1) := by decide +kernel
theorem dw_284 : decode code 284 = .ok (.iload 4, 2) := by decide +kernel
theorem dw_286 : decode code 286 = .ok (.iconst 1, 1) := by decide +kernel
theorem dw_287 : decode code 287 = .ok (.iadd, 1) := by decide +kernel
theorem dw_288 : decode code 288 = .ok (.iaload, 1) := by decide +kernel
theorem dw_289 : decode code 289 = .ok (.invokevirtual 73, 3) := by decide +kernel
theorem dw_292 : decode code 292 = .ok (.if_icmp .eq 1155, 3) := by decide +kernel
theorem dw_295 : decode code 295 = .ok (.iconst 0, 1) := by decide +kernel
theorem dw_296 : decode code 296 = .ok (.ireturn, 1) := by decide +kernel
theorem dw_297 : decode code 297 = .ok (.aload_n 1, 1) := by decide +kernel
theorem dw_298 : decode code 298 = .ok (.aload_n 0, 1) := by decide +kernel
theorem dw_299 : decode code 299 = .ok (.iload 4, 2) := by decide +kernel
theorem dw_301 : decode code 301 = .ok (.iconst 1, 1) := by decide +kernel
theorem dw_302 : decode code 302 = .ok (.iadd, 1) := by decide +kernel
theorem dw_303 : decode code 303 = .ok (.iaload, 1) := by decide +kernel
theorem dw_304 : decode code 304 = .ok (.aload_n 0, 1) := by decide +kernel
theorem dw_305 : decode code 305 = .ok (.iload 4, 2) := by decide +kernel
theorem dw_307 : decode code 307 = .ok (.iconst 2, 1) := by decide +kernel
theorem dw_308 : decode code 308 = .ok (.iadd, 1) := by decide +kernel
theorem dw_309 : decode code 309 = .ok (.iaload, 1) := by decide +kernel
theorem dw_310 : decode code 310 = .ok (.ifCond .eq 7, 3) := by decide +kernel
theorem dw_313 : decode code 313 = .ok (.iconst 1, 1) := by decide +kernel
theorem dw_314 : decode code 314 = .ok (.goto 4, 3) := by decide +kernel
theorem dw_317 : decode code 317 = .ok (.iconst 0, 1) := by decide +kernel
theorem dw_318 : decode code 318 = .ok (.invokevirtual 74, 3) := by decide +kernel
theorem dw_321 : decode code 321 = .ok (.aload_n 2, 1) := by decide +kernel
theorem dw_322 : decode code 322 = .ok (.aload_n 0, 1) := by decide +kernel
theorem dw_323 : decode code 323 = .ok (.iload 4, 2) := by decide +kernel
theorem dw_325 : decode code 325 = .ok (.iconst 1, 1) := by decide +kernel
theorem dw_326 : decode code 326 = .ok (.iadd, 1) := by decide +kernel
theorem dw_327 : decode code 327 = .ok (.iaload, 1) := by decide +kernel
theorem dw_328 : decode code 328 = .ok (.aload_n 0, 1) := by decide +kernel
theorem dw_329 : decode code 329 = .ok (.iload 4, 2) := by decide +kernel
theorem dw_331 : decode code 331 = .ok (.iconst 2, 1) := by decide +kernel
theorem dw_332 : decode code 332 = .ok (.iadd, 1) := by decide +kernel
theorem dw_333 : decode code 333 = .ok (.iaload, 1) := by decide +kernel
theorem dw_334 : decode code 334 = .ok (.ifCond .eq 7, 3) := by decide +kernel
theorem dw_337 : decode code 337 = .ok (.iconst 1, 1) := by decide +kernel
theorem dw_338 : decode code 338 = .ok (.goto 4, 3) := by decide +kernel
theorem dw_341 : decode code 341 = .ok (.iconst 0, 1) := by decide +kernel
theorem dw_342 : decode code 342 = .ok (.invokevirtual 78, 3) := by decide +kernel
theorem dw_345 : decode code 345 = .ok (.if_icmp .eq 1102, 3) := by decide +kernel
theorem dw_348 : decode code 348 = .ok (.iconst 0, 1) := by decide +kernel
theorem dw_349 : decode code 349 = .ok (.ireturn, 1) := by decide +kernel
theorem dw_350 : decode code 350 = .ok (.aload_n 1, 1) := by decide +kernel
theorem dw_351 : decode code 351 = .ok (.aload_n 0, 1) := by decide +kernel
theorem dw_352 : decode code 352 = .ok (.iload 4, 2) := by decide +kernel
theorem dw_354 : decode code 354 = .ok (.iconst 1, 1) := by decide +kernel
theorem dw_355 : decode code 355 = .ok (.iadd, 1) := by decide +kernel
theorem dw_356 : decode code 356 = .ok (.iaload, 1) := by decide +kernel
theorem dw_357 : decode code 357 = .ok (.aload_n 0, 1) := by decide +kernel
theorem dw_358 : decode code 358 = .ok (.iload 4, 2) := by decide +kernel
theorem dw_360 : decode code 360 = .ok (.iconst 2, 1) := by decide +kernel
theorem dw_361 : decode code 361 = .ok (.iadd, 1) := by decide +kernel
theorem dw_362 : decode code 362 = .ok (.iaload, 1) := by decide +kernel
theorem dw_363 : decode code 363 = .ok (.aload_n 3, 1) := by decide +kernel
theorem dw_364 : decode code 364 = .ok (.invokestatic 79, 3) := by decide +kernel
theorem dw_367 : decode code 367 = .ok (.istore 5, 2) := by decide +kernel
theorem dw_369 : decode code 369 = .ok (.aload_n 2, 1) := by decide +kernel
theorem dw_370 : decode code 370 = .ok (.aload_n 0, 1) := by decide +kernel
theorem dw_371 : decode code 371 = .ok (.iload 4, 2) := by decide +kernel
theorem dw_373 : decode code 373 = .ok (.iconst 1, 1) := by decide +kernel
theorem dw_374 : decode code 374 = .ok (.iadd, 1) := by decide +kernel
theorem dw_375 : decode code 375 = .ok (.iaload, 1) := by decide +kernel
theorem dw_376 : decode code 376 = .ok (.aload_n 0, 1) := by decide +kernel
theorem dw_377 : decode code 377 = .ok (.iload 4, 2) := by decide +kernel
theorem dw_379 : decode code 379 = .ok (.iconst 2, 1) := by decide +kernel
theorem dw_380 : decode code 380 = .ok (.iadd, 1) := by decide +kernel
theorem dw_381 : decode code 381 = .ok (.iaload, 1) := by decide +kernel
theorem dw_382 : decode code 382 = .ok (.invokevirtual 84, 3) := by decide +kernel
theorem dw_385 : decode code 385 = .ok (.istore 6, 2) := by decide +kernel
theorem dw_387 : decode code 387 = .ok (.aload_n 2, 1) := by decide +kernel
theorem dw_388 : decode code 388 = .ok (.invokevirtual 85, 3) := by decide +kernel
theorem dw_391 : decode code 391 = .ok (.iload 5, 2) := by decide +kernel
theorem dw_393 : decode code 393 = .ok (.if_icmp .eq 5, 3) := by decide +kernel
theorem dw_396 : decode code 396 = .ok (.iconst 0, 1) := by decide +kernel
theorem dw_397 : decode code 397 = .ok (.ireturn, 1) := by decide +kernel
theorem dw_398 : decode code 398 = .ok (.iload 5, 2) := by decide +kernel
theorem dw_400 : decode code 400 = .ok (.ifCond .ne 15, 3) := by decide +kernel
theorem dw_403 : decode code 403 = .ok (.aload_n 3, 1) := by decide +kernel
theorem dw_404 : decode code 404 = .ok (.iconst 0, 1) := by decide +kernel
theorem dw_405 : decode code 405 = .ok (.laload, 1) := by decide +kernel
theorem dw_406 : decode code 406 = .ok (.iload 6, 2) := by decide +kernel
theorem dw_408 : decode code 408 = .ok (.i2l, 1) := by decide +kernel
theorem dw_409 : decode code 409 = .ok (.lcmp, 1) := by decide +kernel
theorem dw_410 : decode code 410 = .ok (.ifCond .eq 5, 3) := by decide +kernel
theorem dw_413 : decode code 413 = .ok (.iconst 0, 1) := by decide +kernel
theorem dw_414 : decode code 414 = .ok (.ireturn, 1) := by decide +kernel
theorem dw_415 : decode code 415 = .ok (.goto 1032, 3) := by decide +kernel
theorem dw_418 : decode code 418 = .ok (.aload_n 1, 1) := by decide +kernel
theorem dw_419 : decode code 419 = .ok (.aload_n 0, 1) := by decide +kernel
theorem dw_420 : decode code 420 = .ok (.iload 4, 2) := by decide +kernel
theorem dw_422 : decode code 422 = .ok (.iconst 1, 1) := by decide +kernel
theorem dw_423 : decode code 423 = .ok (.iadd, 1) := by decide +kernel
theorem dw_424 : decode code 424 = .ok (.iaload, 1) := by decide +kernel
theorem dw_425 : decode code 425 = .ok (.aload_n 0, 1) := by decide +kernel
theorem dw_426 : decode code 426 = .ok (.iload 4, 2) := by decide +kernel
theorem dw_428 : decode code 428 = .ok (.iconst 2, 1) := by decide +kernel
theorem dw_429 : decode code 429 = .ok (.iadd, 1) := by decide +kernel
theorem dw_430 : decode code 430 = .ok (.iaload, 1) := by decide +kernel
theorem dw_431 : decode code 431 = .ok (.invokevirtual 88, 3) := by decide +kernel
theorem dw_434 : decode code 434 = .ok (.aload_n 2, 1) := by decide +kernel
theorem dw_435 : decode code 435 = .ok (.aload_n 0, 1) := by decide +kernel
theorem dw_436 : decode code 436 = .ok (.iload 4, 2) := by decide +kernel
theorem dw_438 : decode code 438 = .ok (.iconst 1, 1) := by decide +kernel
theorem dw_439 : decode code 439 = .ok (.iadd, 1) := by decide +kernel
theorem dw_440 : decode code 440 = .ok (.iaload, 1) := by decide +kernel
theorem dw_441 : decode code 441 = .ok (.aload_n 0, 1) := by decide +kernel
theorem dw_442 : decode code 442 = .ok (.iload 4, 2) := by decide +kernel
theorem dw_444 : decode code 444 = .ok (.iconst 2, 1) := by decide +kernel
theorem dw_445 : decode code 445 = .ok (.iadd, 1) := by decide +kernel
theorem dw_446 : decode code 446 = .ok (.iaload, 1) := by decide +kernel
theorem dw_447 : decode code 447 = .ok (.invokevirtual 91, 3) := by decide +kernel
theorem dw_450 : decode code 450 = .ok (.if_icmp .eq 997, 3) := by decide +kernel
theorem dw_453 : decode code 453 = .ok (.iconst 0, 1) := by decide +kernel
theorem dw_454 : decode code 454 = .ok (.ireturn, 1) := by decide +kernel
theorem dw_455 : decode code 455 = .ok (.aload_n 1, 1) := by decide +kernel
theorem dw_456 : decode code 456 = .ok (.aload_n 0, 1) := by decide +kernel
theorem dw_457 : decode code 457 = .ok (.iload 4, 2) := by decide +kernel
theorem dw_459 : decode code 459 = .ok (.iconst 1, 1) := by decide +kernel
theorem dw_460 : decode code 460 = .ok (.iadd, 1) := by decide +kernel
theorem dw_461 : decode code 461 = .ok (.iaload, 1) := by decide +kernel
theorem dw_462 : decode code 462 = .ok (.aload_n 0, 1) := by decide +kernel
theorem dw_463 : decode code 463 = .ok (.iload 4, 2) := by decide +kernel
theorem dw_465 : decode code 465 = .ok (.iconst 2, 1) := by decide +kernel
theorem dw_466 : decode code 466 = .ok (.iadd, 1) := by decide +kernel
theorem dw_467 : decode code 467 = .ok (.iaload, 1) := by decide +kernel
theorem dw_468 : decode code 468 = .ok (.invokevirtual 92, 3) := by decide +kernel
theorem dw_471 : decode code 471 = .ok (.aload_n 2, 1) := by decide +kernel
theorem dw_472 : decode code 472 = .ok (.aload_n 0, 1) := by decide +kernel
theorem dw_473 : decode code 473 = .ok (.iload 4, 2) := by decide +kernel
theorem dw_475 : decode code 475 = .ok (.iconst 1, 1) := by decide +kernel
theorem dw_476 : decode code 476 = .ok (.iadd, 1) := by decide +kernel
theorem dw_477 : decode code 477 = .ok (.iaload, 1) := by decide +kernel
theorem dw_478 : decode code 478 = .ok (.aload_n 0, 1) := by decide +kernel
theorem dw_479 : decode code 479 = .ok (.iload 4, 2) := by decide +kernel
theorem dw_481 : decode code 481 = .ok (.iconst 2, 1) := by decide +kernel
theorem dw_482 : decode code 482 = .ok (.iadd, 1) := by decide +kernel
theorem dw_483 : decode code 483 = .ok (.iaload, 1) := by decide +kernel
theorem dw_484 : decode code 484 = .ok (.invokevirtual 95, 3) := by decide +kernel
theorem dw_487 : decode code 487 = .ok (.if_icmp .eq 960, 3) := by decide +kernel
theorem dw_490 : decode code 490 = .ok (.iconst 0, 1) := by decide +kernel
theorem dw_491 : decode code 491 = .ok (.ireturn, 1) := by decide +kernel
theorem dw_492 : decode code 492 = .ok (.aload_n 1, 1) := by decide +kernel
theorem dw_493 : decode code 493 = .ok (.aload_n 0, 1) := by decide +kernel
theorem dw_494 : decode code 494 = .ok (.iload 4, 2) := by decide +kernel
theorem dw_496 : decode code 496 = .ok (.iconst 1, 1) := by decide +kernel
theorem dw_497 : decode code 497 = .ok (.iadd, 1) := by decide +kernel
theorem dw_498 : decode code 498 = .ok (.iaload, 1) := by decide +kernel
theorem dw_499 : decode code 499 = .ok (.aload_n 0, 1) := by decide +kernel
theorem dw_500 : decode code 500 = .ok (.iload 4, 2) := by decide +kernel
theorem dw_502 : decode code 502 = .ok (.iconst 2, 1) := by decide +kernel
theorem dw_503 : decode code 503 = .ok (.iadd, 1) := by decide +kernel
theorem dw_504 : decode code 504 = .ok (.iaload, 1) := by decide +kernel
theorem dw_505 : decode code 505 = .ok (.aload_n 3, 1) := by decide +kernel
theorem dw_506 : decode code 506 = .ok (.invokestatic 96, 3) := by decide +kernel
theorem dw_509 : decode code 509 = .ok (.istore 5, 2) := by decide +kernel
theorem dw_511 : decode code 511 = .ok (.aload_n 2, 1) := by decide +kernel
theorem dw_512 : decode code 512 = .ok (.aload_n 0, 1) := by decide +kernel
theorem dw_513 : decode code 513 = .ok (.iload 4, 2) := by decide +kernel
theorem dw_515 : decode code 515 = .ok (.iconst 1, 1) := by decide +kernel
theorem dw_516 : decode code 516 = .ok (.iadd, 1) := by decide +kernel
theorem dw_517 : decode code 517 = .ok (.iaload, 1) := by decide +kernel
theorem dw_518 : decode code 518 = .ok (.aload_n 0, 1) := by decide +kernel
theorem dw_519 : decode code 519 = .ok (.iload 4, 2) := by decide +kernel
theorem dw_521 : decode code 521 = .ok (.iconst 2, 1) := by decide +kernel
theorem dw_522 : decode code 522 = .ok (.iadd, 1) := by decide +kernel
theorem dw_523 : decode code 523 = .ok (.iaload, 1) := by decide +kernel
theorem dw_524 : decode code 524 = .ok (.invokevirtual 98, 3) := by decide +kernel
theorem dw_527 : decode code 527 = .ok (.lstore 6, 2) := by decide +kernel
theorem dw_529 : decode code 529 = .ok (.aload_n 2, 1) := by decide +kernel
theorem dw_530 : decode code 530 = .ok (.invokevirtual 85, 3) := by decide +kernel
theorem dw_533 : decode code 533 = .ok (.iload 5, 2) := by decide +kernel
theorem dw_535 : decode code 535 = .ok (.if_icmp .eq 5, 3) := by decide +kernel
theorem dw_538 : decode code 538 = .ok (.iconst 0, 1) := by decide +kernel
theorem dw_539 : decode code 539 = .ok (.ireturn, 1) := by decide +kernel
theorem dw_540 : decode code 540 = .ok (.iload 5, 2) := by decide +kernel
theorem dw_542 : decode code 542 = .ok (.ifCond .ne 14, 3) := by decide +kernel
theorem dw_545 : decode code 545 = .ok (.aload_n 3, 1) := by decide +kernel
theorem dw_546 : decode code 546 = .ok (.iconst 0, 1) := by decide +kernel
theorem dw_547 : decode code 547 = .ok (.laload, 1) := by decide +kernel
theorem dw_548 : decode code 548 = .ok (.lload 6, 2) := by decide +kernel
theorem dw_550 : decode code 550 = .ok (.lcmp, 1) := by decide +kernel
theorem dw_551 : decode code 551 = .ok (.ifCond .eq 5, 3) := by decide +kernel
theorem dw_554 : decode code 554 = .ok (.iconst 0, 1) := by decide +kernel
theorem dw_555 : decode code 555 = .ok (.ireturn, 1) := by decide +kernel
theorem dw_556 : decode code 556 = .ok (.goto 891, 3) := by decide +kernel
theorem dw_559 : decode code 559 = .ok (.aload_n 1, 1) := by decide +kernel
theorem dw_560 : decode code 560 = .ok (.aload_n 0, 1) := by decide +kernel
theorem dw_561 : decode code 561 = .ok (.iload 4, 2) := by decide +kernel
theorem dw_563 : decode code 563 = .ok (.iconst 1, 1) := by decide +kernel
theorem dw_564 : decode code 564 = .ok (.iadd, 1) := by decide +kernel
theorem dw_565 : decode code 565 = .ok (.iaload, 1) := by decide +kernel
theorem dw_566 : decode code 566 = .ok (.aload_n 0, 1) := by decide +kernel
theorem dw_567 : decode code 567 = .ok (.iload 4, 2) := by decide +kernel
theorem dw_569 : decode code 569 = .ok (.iconst 2, 1) := by decide +kernel
theorem dw_570 : decode code 570 = .ok (.iadd, 1) := by decide +kernel
theorem dw_571 : decode code 571 = .ok (.iaload, 1) := by decide +kernel
theorem dw_572 : decode code 572 = .ok (.aload_n 0, 1) := by decide +kernel
theorem dw_573 : decode code 573 = .ok (.iload 4, 2) := by decide +kernel
theorem dw_575 : decode code 575 = .ok (.iconst 3, 1) := by decide +kernel
theorem dw_576 : decode code 576 = .ok (.iadd, 1) := by decide +kernel
theorem dw_577 : decode code 577 = .ok (.iaload, 1) := by decide +kernel
theorem dw_578 : decode code 578 = .ok (.aload_n 0, 1) := by decide +kernel
theorem dw_579 : decode code 579 = .ok (.iload 4, 2) := by decide +kernel
theorem dw_581 : decode code 581 = .ok (.iconst 4, 1) := by decide +kernel
theorem dw_582 : decode code 582 = .ok (.iadd, 1) := by decide +kernel
theorem dw_583 : decode code 583 = .ok (.iaload, 1) := by decide +kernel
theorem dw_584 : decode code 584 = .ok (.ifCond .eq 7, 3) := by decide +kernel
theorem dw_587 : decode code 587 = .ok (.iconst 1, 1) := by decide +kernel
theorem dw_588 : decode code 588 = .ok (.goto 4, 3) := by decide +kernel
theorem dw_591 : decode code 591 = .ok (.iconst 0, 1) := by decide +kernel
theorem dw_592 : decode code 592 = .ok (.aload_n 3, 1) := by decide +kernel
theorem dw_593 : decode code 593 = .ok (.invokestatic 99, 3) := by decide +kernel
theorem dw_596 : decode code 596 = .ok (.istore 5, 2) := by decide +kernel
theorem dw_598 : decode code 598 = .ok (.aload_n 2, 1) := by decide +kernel
theorem dw_599 : decode code 599 = .ok (.aload_n 0, 1) := by decide +kernel
theorem dw_600 : decode code 600 = .ok (.iload 4, 2) := by decide +kernel
theorem dw_602 : decode code 602 = .ok (.iconst 1, 1) := by decide +kernel
theorem dw_603 : decode code 603 = .ok (.iadd, 1) := by decide +kernel
theorem dw_604 : decode code 604 = .ok (.iaload, 1) := by decide +kernel
theorem dw_605 : decode code 605 = .ok (.aload_n 0, 1) := by decide +kernel
theorem dw_606 : decode code 606 = .ok (.iload 4, 2) := by decide +kernel
theorem dw_608 : decode code 608 = .ok (.iconst 2, 1) := by decide +kernel
theorem dw_609 : decode code 609 = .ok (.iadd, 1) := by decide +kernel
theorem dw_610 : decode code 610 = .ok (.iaload, 1) := by decide +kernel
theorem dw_611 : decode code 611 = .ok (.aload_n 0, 1) := by decide +kernel
theorem dw_612 : decode code 612 = .ok (.iload 4, 2) := by decide +kernel
theorem dw_614 : decode code 614 = .ok (.iconst 3, 1) := by decide +kernel
theorem dw_615 : decode code 615 = .ok (.iadd, 1) := by decide +kernel
theorem dw_616 : decode code 616 = .ok (.iaload, 1) := by decide +kernel
theorem dw_617 : decode code 617 = .ok (.aload_n 0, 1) := by decide +kernel
theorem dw_618 : decode code 618 = .ok (.iload 4, 2) := by decide +kernel
theorem dw_620 : decode code 620 = .ok (.iconst 4, 1) := by decide +kernel
theorem dw_621 : decode code 621 = .ok (.iadd, 1) := by decide +kernel
theorem dw_622 : decode code 622 = .ok (.iaload, 1) := by decide +kernel
theorem dw_623 : decode code 623 = .ok (.ifCond .eq 7, 3) := by decide +kernel
theorem dw_626 : decode code 626 = .ok (.iconst 1, 1) := by decide +kernel
theorem dw_627 : decode code 627 = .ok (.goto 4, 3) := by decide +kernel
theorem dw_630 : decode code 630 = .ok (.iconst 0, 1) := by decide +kernel
theorem dw_631 : decode code 631 = .ok (.invokevirtual 102, 3) := by decide +kernel
theorem dw_634 : decode code 634 = .ok (.lstore 6, 2) := by decide +kernel
theorem dw_636 : decode code 636 = .ok (.aload_n 2, 1) := by decide +kernel
theorem dw_637 : decode code 637 = .ok (.invokevirtual 85, 3) := by decide +kernel
theorem dw_640 : decode code 640 = .ok (.iload 5, 2) := by decide +kernel
theorem dw_642 : decode code 642 = .ok (.if_icmp .eq 5, 3) := by decide +kernel
theorem dw_645 : decode code 645 = .ok (.iconst 0, 1) := by decide +kernel
theorem dw_646 : decode code 646 = .ok (.ireturn, 1) := by decide +kernel
theorem dw_647 : decode code 647 = .ok (.iload 5, 2) := by decide +kernel
theorem dw_649 : decode code 649 = .ok (.ifCond .ne 14, 3) := by decide +kernel
theorem dw_652 : decode code 652 = .ok (.aload_n 3, 1) := by decide +kernel
theorem dw_653 : decode code 653 = .ok (.iconst 0, 1) := by decide +kernel
theorem dw_654 : decode code 654 = .ok (.laload, 1) := by decide +kernel
theorem dw_655 : decode code 655 = .ok (.lload 6, 2) := by decide +kernel
theorem dw_657 : decode code 657 = .ok (.lcmp, 1) := by decide +kernel
theorem dw_658 : decode code 658 = .ok (.ifCond .eq 5, 3) := by decide +kernel
theorem dw_661 : decode code 661 = .ok (.iconst 0, 1) := by decide +kernel
theorem dw_662 : decode code 662 = .ok (.ireturn, 1) := by decide +kernel
theorem dw_663 : decode code 663 = .ok (.goto 784, 3) := by decide +kernel
theorem dw_666 : decode code 666 = .ok (.aload_n 1, 1) := by decide +kernel
theorem dw_667 : decode code 667 = .ok (.aload_n 0, 1) := by decide +kernel
theorem dw_668 : decode code 668 = .ok (.iload 4, 2) := by decide +kernel
theorem dw_670 : decode code 670 = .ok (.iconst 1, 1) := by decide +kernel
theorem dw_671 : decode code 671 = .ok (.iadd, 1) := by decide +kernel
theorem dw_672 : decode code 672 = .ok (.iaload, 1) := by decide +kernel
theorem dw_673 : decode code 673 = .ok (.aload_n 0, 1) := by decide +kernel
theorem dw_674 : decode code 674 = .ok (.iload 4, 2) := by decide +kernel
theorem dw_676 : decode code 676 = .ok (.iconst 2, 1) := by decide +kernel
theorem dw_677 : decode code 677 = .ok (.iadd, 1) := by decide +kernel
theorem dw_678 : decode code 678 = .ok (.iaload, 1) := by decide +kernel
theorem dw_679 : decode code 679 = .ok (.aload_n 0, 1) := by decide +kernel
theorem dw_680 : decode code 680 = .ok (.iload 4, 2) := by decide +kernel
theorem dw_682 : decode code 682 = .ok (.iconst 3, 1) := by decide +kernel
theorem dw_683 : decode code 683 = .ok (.iadd, 1) := by decide +kernel
theorem dw_684 : decode code 684 = .ok (.iaload, 1) := by decide +kernel
theorem dw_685 : decode code 685 = .ok (.aload_n 3, 1) := by decide +kernel
theorem dw_686 : decode code 686 = .ok (.invokestatic 103, 3) := by decide +kernel
theorem dw_689 : decode code 689 = .ok (.istore 5, 2) := by decide +kernel
theorem dw_691 : decode code 691 = .ok (.aload_n 2, 1) := by decide +kernel
theorem dw_692 : decode code 692 = .ok (.aload_n 0, 1) := by decide +kernel
theorem dw_693 : decode code 693 = .ok (.iload 4, 2) := by decide +kernel
theorem dw_695 : decode code 695 = .ok (.iconst 1, 1) := by decide +kernel
theorem dw_696 : decode code 696 = .ok (.iadd, 1) := by decide +kernel
theorem dw_697 : decode code 697 = .ok (.iaload, 1) := by decide +kernel
theorem dw_698 : decode code 698 = .ok (.aload_n 0, 1) := by decide +kernel
theorem dw_699 : decode code 699 = .ok (.iload 4, 2) := by decide +kernel
theorem dw_701 : decode code 701 = .ok (.iconst 2, 1) := by decide +kernel
theorem dw_702 : decode code 702 = .ok (.iadd, 1) := by decide +kernel
theorem dw_703 : decode code 703 = .ok (.iaload, 1) := by decide +kernel
theorem dw_704 : decode code 704 = .ok (.aload_n 0, 1) := by decide +kernel
theorem dw_705 : decode code 705 = .ok (.iload 4, 2) := by decide +kernel
theorem dw_707 : decode code 707 = .ok (.iconst 3, 1) := by decide +kernel
theorem dw_708 : decode code 708 = .ok (.iadd, 1) := by decide +kernel
theorem dw_709 : decode code 709 = .ok (.iaload, 1) := by decide +kernel
theorem dw_710 : decode code 710 = .ok (.invokevirtual 106, 3) := by decide +kernel
theorem dw_713 : decode code 713 = .ok (.istore 6, 2) := by decide +kernel
theorem dw_715 : decode code 715 = .ok (.aload_n 2, 1) := by decide +kernel
theorem dw_716 : decode code 716 = .ok (.invokevirtual 85, 3) := by decide +kernel
theorem dw_719 : decode code 719 = .ok (.iload 5, 2) := by decide +kernel
theorem dw_721 : decode code 721 = .ok (.if_icmp .eq 5, 3) := by decide +kernel
theorem dw_724 : decode code 724 = .ok (.iconst 0, 1) := by decide +kernel
theorem dw_725 : decode code 725 = .ok (.ireturn, 1) := by decide +kernel
theorem dw_726 : decode code 726 = .ok (.iload 5, 2) := by decide +kernel
theorem dw_728 : decode code 728 = .ok (.ifCond .ne 15, 3) := by decide +kernel
theorem dw_731 : decode code 731 = .ok (.aload_n 3, 1) := by decide +kernel
theorem dw_732 : decode code 732 = .ok (.iconst 0, 1) := by decide +kernel
theorem dw_733 : decode code 733 = .ok (.laload, 1) := by decide +kernel
theorem dw_734 : decode code 734 = .ok (.iload 6, 2) := by decide +kernel
theorem dw_736 : decode code 736 = .ok (.i2l, 1) := by decide +kernel
theorem dw_737 : decode code 737 = .ok (.lcmp, 1) := by decide +kernel
theorem dw_738 : decode code 738 = .ok (.ifCond .eq 5, 3) := by decide +kernel
theorem dw_741 : decode code 741 = .ok (.iconst 0, 1) := by decide +kernel
theorem dw_742 : decode code 742 = .ok (.ireturn, 1) := by decide +kernel
theorem dw_743 : decode code 743 = .ok (.goto 704, 3) := by decide +kernel
theorem dw_746 : decode code 746 = .ok (.aload_n 1, 1) := by decide +kernel
theorem dw_747 : decode code 747 = .ok (.aload_n 0, 1) := by decide +kernel
theorem dw_748 : decode code 748 = .ok (.iload 4, 2) := by decide +kernel
theorem dw_750 : decode code 750 = .ok (.iconst 1, 1) := by decide +kernel
theorem dw_751 : decode code 751 = .ok (.iadd, 1) := by decide +kernel
theorem dw_752 : decode code 752 = .ok (.iaload, 1) := by decide +kernel
theorem dw_753 : decode code 753 = .ok (.aload_n 0, 1) := by decide +kernel
theorem dw_754 : decode code 754 = .ok (.iload 4, 2) := by decide +kernel
theorem dw_756 : decode code 756 = .ok (.iconst 2, 1) := by decide +kernel
theorem dw_757 : decode code 757 = .ok (.iadd, 1) := by decide +kernel
theorem dw_758 : decode code 758 = .ok (.iaload, 1) := by decide +kernel
theorem dw_759 : decode code 759 = .ok (.aload_n 0, 1) := by decide +kernel
theorem dw_760 : decode code 760 = .ok (.iload 4, 2) := by decide +kernel
theorem dw_762 : decode code 762 = .ok (.iconst 3, 1) := by decide +kernel
theorem dw_763 : decode code 763 = .ok (.iadd, 1) := by decide +kernel
theorem dw_764 : decode code 764 = .ok (.iaload, 1) := by decide +kernel
theorem dw_765 : decode code 765 = .ok (.aload_n 3, 1) := by decide +kernel
theorem dw_766 : decode code 766 = .ok (.invokestatic 107, 3) := by decide +kernel
theorem dw_769 : decode code 769 = .ok (.istore 5, 2) := by decide +kernel
theorem dw_771 : decode code 771 = .ok (.aload_n 2, 1) := by decide +kernel
theorem dw_772 : decode code 772 = .ok (.aload_n 0, 1) := by decide +kernel
theorem dw_773 : decode code 773 = .ok (.iload 4, 2) := by decide +kernel
theorem dw_775 : decode code 775 = .ok (.iconst 1, 1) := by decide +kernel
theorem dw_776 : decode code 776 = .ok (.iadd, 1) := by decide +kernel
theorem dw_777 : decode code 777 = .ok (.iaload, 1) := by decide +kernel
theorem dw_778 : decode code 778 = .ok (.aload_n 0, 1) := by decide +kernel
theorem dw_779 : decode code 779 = .ok (.iload 4, 2) := by decide +kernel
theorem dw_781 : decode code 781 = .ok (.iconst 2, 1) := by decide +kernel
theorem dw_782 : decode code 782 = .ok (.iadd, 1) := by decide +kernel
theorem dw_783 : decode code 783 = .ok (.iaload, 1) := by decide +kernel
theorem dw_784 : decode code 784 = .ok (.aload_n 0, 1) := by decide +kernel
theorem dw_785 : decode code 785 = .ok (.iload 4, 2) := by decide +kernel
theorem dw_787 : decode code 787 = .ok (.iconst 3, 1) := by decide +kernel
theorem dw_788 : decode code 788 = .ok (.iadd, 1) := by decide +kernel
theorem dw_789 : decode code 789 = .ok (.iaload, 1) := by decide +kernel
theorem dw_790 : decode code 790 = .ok (.invokevirtual 109, 3) := by decide +kernel
theorem dw_793 : decode code 793 = .ok (.istore 6, 2) := by decide +kernel
theorem dw_795 : decode code 795 = .ok (.aload_n 2, 1) := by decide +kernel
theorem dw_796 : decode code 796 = .ok (.invokevirtual 85, 3) := by decide +kernel
theorem dw_799 : decode code 799 = .ok (.iload 5, 2) := by decide +kernel
theorem dw_801 : decode code 801 = .ok (.if_icmp .eq 5, 3) := by decide +kernel
theorem dw_804 : decode code 804 = .ok (.iconst 0, 1) := by decide +kernel
theorem dw_805 : decode code 805 = .ok (.ireturn, 1) := by decide +kernel
theorem dw_806 : decode code 806 = .ok (.iload 5, 2) := by decide +kernel
theorem dw_808 : decode code 808 = .ok (.ifCond .ne 15, 3) := by decide +kernel
theorem dw_811 : decode code 811 = .ok (.aload_n 3, 1) := by decide +kernel
theorem dw_812 : decode code 812 = .ok (.iconst 0, 1) := by decide +kernel
theorem dw_813 : decode code 813 = .ok (.laload, 1) := by decide +kernel
theorem dw_814 : decode code 814 = .ok (.iload 6, 2) := by decide +kernel
theorem dw_816 : decode code 816 = .ok (.i2l, 1) := by decide +kernel
theorem dw_817 : decode code 817 = .ok (.lcmp, 1) := by decide +kernel
theorem dw_818 : decode code 818 = .ok (.ifCond .eq 5, 3) := by decide +kernel
theorem dw_821 : decode code 821 = .ok (.iconst 0, 1) := by decide +kernel
theorem dw_822 : decode code 822 = .ok (.ireturn, 1) := by decide +kernel
theorem dw_823 : decode code 823 = .ok (.goto 624, 3) := by decide +kernel
theorem dw_826 : decode code 826 = .ok (.aload_n 1, 1) := by decide +kernel
theorem dw_827 : decode code 827 = .ok (.aload_n 0, 1) := by decide +kernel
theorem dw_828 : decode code 828 = .ok (.iload 4, 2) := by decide +kernel
theorem dw_830 : decode code 830 = .ok (.iconst 1, 1) := by decide +kernel
theorem dw_831 : decode code 831 = .ok (.iadd, 1) := by decide +kernel
theorem dw_832 : decode code 832 = .ok (.iaload, 1) := by decide +kernel
theorem dw_833 : decode code 833 = .ok (.aload_n 0, 1) := by decide +kernel
theorem dw_834 : decode code 834 = .ok (.iload 4, 2) := by decide +kernel
theorem dw_836 : decode code 836 = .ok (.iconst 2, 1) := by decide +kernel
theorem dw_837 : decode code 837 = .ok (.iadd, 1) := by decide +kernel
theorem dw_838 : decode code 838 = .ok (.iaload, 1) := by decide +kernel
theorem dw_839 : decode code 839 = .ok (.aload_n 0, 1) := by decide +kernel
theorem dw_840 : decode code 840 = .ok (.iload 4, 2) := by decide +kernel
theorem dw_842 : decode code 842 = .ok (.iconst 3, 1) := by decide +kernel
theorem dw_843 : decode code 843 = .ok (.iadd, 1) := by decide +kernel
theorem dw_844 : decode code 844 = .ok (.iaload, 1) := by decide +kernel
theorem dw_845 : decode code 845 = .ok (.aload_n 3, 1) := by decide +kernel
theorem dw_846 : decode code 846 = .ok (.invokestatic 110, 3) := by decide +kernel
theorem dw_849 : decode code 849 = .ok (.istore 5, 2) := by decide +kernel
theorem dw_851 : decode code 851 = .ok (.aload_n 2, 1) := by decide +kernel
theorem dw_852 : decode code 852 = .ok (.aload_n 0, 1) := by decide +kernel
theorem dw_853 : decode code 853 = .ok (.iload 4, 2) := by decide +kernel
theorem dw_855 : decode code 855 = .ok (.iconst 1, 1) := by decide +kernel
theorem dw_856 : decode code 856 = .ok (.iadd, 1) := by decide +kernel
theorem dw_857 : decode code 857 = .ok (.iaload, 1) := by decide +kernel
theorem dw_858 : decode code 858 = .ok (.aload_n 0, 1) := by decide +kernel
theorem dw_859 : decode code 859 = .ok (.iload 4, 2) := by decide +kernel
theorem dw_861 : decode code 861 = .ok (.iconst 2, 1) := by decide +kernel
theorem dw_862 : decode code 862 = .ok (.iadd, 1) := by decide +kernel
theorem dw_863 : decode code 863 = .ok (.iaload, 1) := by decide +kernel
theorem dw_864 : decode code 864 = .ok (.aload_n 0, 1) := by decide +kernel
theorem dw_865 : decode code 865 = .ok (.iload 4, 2) := by decide +kernel
theorem dw_867 : decode code 867 = .ok (.iconst 3, 1) := by decide +kernel
theorem dw_868 : decode code 868 = .ok (.iadd, 1) := by decide +kernel
theorem dw_869 : decode code 869 = .ok (.iaload, 1) := by decide +kernel
theorem dw_870 : decode code 870 = .ok (.invokevirtual 112, 3) := by decide +kernel
theorem dw_873 : decode code 873 = .ok (.istore 6, 2) := by decide +kernel
theorem dw_875 : decode code 875 = .ok (.aload_n 2, 1) := by decide +kernel
theorem dw_876 : decode code 876 = .ok (.invokevirtual 85, 3) := by decide +kernel
theorem dw_879 : decode code 879 = .ok (.iload 5, 2) := by decide +kernel
theorem dw_881 : decode code 881 = .ok (.if_icmp .eq 5, 3) := by decide +kernel
theorem dw_884 : decode code 884 = .ok (.iconst 0, 1) := by decide +kernel
theorem dw_885 : decode code 885 = .ok (.ireturn, 1) := by decide +kernel
theorem dw_886 : decode code 886 = .ok (.iload 5, 2) := by decide +kernel
theorem dw_888 : decode code 888 = .ok (.ifCond .ne 15, 3) := by decide +kernel
theorem dw_891 : decode code 891 = .ok (.aload_n 3, 1) := by decide +kernel
theorem dw_892 : decode code 892 = .ok (.iconst 0, 1) := by decide +kernel
theorem dw_893 : decode code 893 = .ok (.laload, 1) := by decide +kernel
theorem dw_894 : decode code 894 = .ok (.iload 6, 2) := by decide +kernel
theorem dw_896 : decode code 896 = .ok (.i2l, 1) := by decide +kernel
theorem dw_897 : decode code 897 = .ok (.lcmp, 1) := by decide +kernel
theorem dw_898 : decode code 898 = .ok (.ifCond .eq 5, 3) := by decide +kernel
theorem dw_901 : decode code 901 = .ok (.iconst 0, 1) := by decide +kernel
theorem dw_902 : decode code 902 = .ok (.ireturn, 1) := by decide +kernel
theorem dw_903 : decode code 903 = .ok (.goto 544, 3) := by decide +kernel
theorem dw_906 : decode code 906 = .ok (.aload_n 1, 1) := by decide +kernel
theorem dw_907 : decode code 907 = .ok (.aload_n 0, 1) := by decide +kernel
theorem dw_908 : decode code 908 = .ok (.iload 4, 2) := by decide +kernel
theorem dw_910 : decode code 910 = .ok (.iconst 1, 1) := by decide +kernel
theorem dw_911 : decode code 911 = .ok (.iadd, 1) := by decide +kernel
theorem dw_912 : decode code 912 = .ok (.iaload, 1) := by decide +kernel
theorem dw_913 : decode code 913 = .ok (.aload_n 0, 1) := by decide +kernel
theorem dw_914 : decode code 914 = .ok (.iload 4, 2) := by decide +kernel
theorem dw_916 : decode code 916 = .ok (.iconst 2, 1) := by decide +kernel
theorem dw_917 : decode code 917 = .ok (.iadd, 1) := by decide +kernel
theorem dw_918 : decode code 918 = .ok (.iaload, 1) := by decide +kernel
theorem dw_919 : decode code 919 = .ok (.aload_n 0, 1) := by decide +kernel
theorem dw_920 : decode code 920 = .ok (.iload 4, 2) := by decide +kernel
theorem dw_922 : decode code 922 = .ok (.iconst 3, 1) := by decide +kernel
theorem dw_923 : decode code 923 = .ok (.iadd, 1) := by decide +kernel
theorem dw_924 : decode code 924 = .ok (.iaload, 1) := by decide +kernel
theorem dw_925 : decode code 925 = .ok (.aload_n 3, 1) := by decide +kernel
theorem dw_926 : decode code 926 = .ok (.invokestatic 113, 3) := by decide +kernel
theorem dw_929 : decode code 929 = .ok (.istore 5, 2) := by decide +kernel
theorem dw_931 : decode code 931 = .ok (.aload_n 2, 1) := by decide +kernel
theorem dw_932 : decode code 932 = .ok (.aload_n 0, 1) := by decide +kernel
theorem dw_933 : decode code 933 = .ok (.iload 4, 2) := by decide +kernel
theorem dw_935 : decode code 935 = .ok (.iconst 1, 1) := by decide +kernel
theorem dw_936 : decode code 936 = .ok (.iadd, 1) := by decide +kernel
theorem dw_937 : decode code 937 = .ok (.iaload, 1) := by decide +kernel
theorem dw_938 : decode code 938 = .ok (.aload_n 0, 1) := by decide +kernel
theorem dw_939 : decode code 939 = .ok (.iload 4, 2) := by decide +kernel
theorem dw_941 : decode code 941 = .ok (.iconst 2, 1) := by decide +kernel
theorem dw_942 : decode code 942 = .ok (.iadd, 1) := by decide +kernel
theorem dw_943 : decode code 943 = .ok (.iaload, 1) := by decide +kernel
theorem dw_944 : decode code 944 = .ok (.aload_n 0, 1) := by decide +kernel
theorem dw_945 : decode code 945 = .ok (.iload 4, 2) := by decide +kernel
theorem dw_947 : decode code 947 = .ok (.iconst 3, 1) := by decide +kernel
theorem dw_948 : decode code 948 = .ok (.iadd, 1) := by decide +kernel
theorem dw_949 : decode code 949 = .ok (.iaload, 1) := by decide +kernel
theorem dw_950 : decode code 950 = .ok (.invokevirtual 115, 3) := by decide +kernel
theorem dw_953 : decode code 953 = .ok (.istore 6, 2) := by decide +kernel
theorem dw_955 : decode code 955 = .ok (.aload_n 2, 1) := by decide +kernel
theorem dw_956 : decode code 956 = .ok (.invokevirtual 85, 3) := by decide +kernel
theorem dw_959 : decode code 959 = .ok (.iload 5, 2) := by decide +kernel
theorem dw_961 : decode code 961 = .ok (.if_icmp .eq 5, 3) := by decide +kernel
theorem dw_964 : decode code 964 = .ok (.iconst 0, 1) := by decide +kernel
theorem dw_965 : decode code 965 = .ok (.ireturn, 1) := by decide +kernel
theorem dw_966 : decode code 966 = .ok (.iload 5, 2) := by decide +kernel
theorem dw_968 : decode code 968 = .ok (.ifCond .ne 15, 3) := by decide +kernel
theorem dw_971 : decode code 971 = .ok (.aload_n 3, 1) := by decide +kernel
theorem dw_972 : decode code 972 = .ok (.iconst 0, 1) := by decide +kernel
theorem dw_973 : decode code 973 = .ok (.laload, 1) := by decide +kernel
theorem dw_974 : decode code 974 = .ok (.iload 6, 2) := by decide +kernel
theorem dw_976 : decode code 976 = .ok (.i2l, 1) := by decide +kernel
theorem dw_977 : decode code 977 = .ok (.lcmp, 1) := by decide +kernel
theorem dw_978 : decode code 978 = .ok (.ifCond .eq 5, 3) := by decide +kernel
theorem dw_981 : decode code 981 = .ok (.iconst 0, 1) := by decide +kernel
theorem dw_982 : decode code 982 = .ok (.ireturn, 1) := by decide +kernel
theorem dw_983 : decode code 983 = .ok (.goto 464, 3) := by decide +kernel
theorem dw_986 : decode code 986 = .ok (.aload_n 1, 1) := by decide +kernel
theorem dw_987 : decode code 987 = .ok (.aload_n 0, 1) := by decide +kernel
theorem dw_988 : decode code 988 = .ok (.iload 4, 2) := by decide +kernel
theorem dw_990 : decode code 990 = .ok (.iconst 1, 1) := by decide +kernel
theorem dw_991 : decode code 991 = .ok (.iadd, 1) := by decide +kernel
theorem dw_992 : decode code 992 = .ok (.iaload, 1) := by decide +kernel
theorem dw_993 : decode code 993 = .ok (.aload_n 0, 1) := by decide +kernel
theorem dw_994 : decode code 994 = .ok (.iload 4, 2) := by decide +kernel
theorem dw_996 : decode code 996 = .ok (.iconst 2, 1) := by decide +kernel
theorem dw_997 : decode code 997 = .ok (.iadd, 1) := by decide +kernel
theorem dw_998 : decode code 998 = .ok (.iaload, 1) := by decide +kernel
theorem dw_999 : decode code 999 = .ok (.aload_n 0, 1) := by decide +kernel
theorem dw_1000 : decode code 1000 = .ok (.iload 4, 2) := by decide +kernel
theorem dw_1002 : decode code 1002 = .ok (.iconst 3, 1) := by decide +kernel
theorem dw_1003 : decode code 1003 = .ok (.iadd, 1) := by decide +kernel
theorem dw_1004 : decode code 1004 = .ok (.iaload, 1) := by decide +kernel
theorem dw_1005 : decode code 1005 = .ok (.aload_n 0, 1) := by decide +kernel
theorem dw_1006 : decode code 1006 = .ok (.iload 4, 2) := by decide +kernel
theorem dw_1008 : decode code 1008 = .ok (.iconst 4, 1) := by decide +kernel
theorem dw_1009 : decode code 1009 = .ok (.iadd, 1) := by decide +kernel
theorem dw_1010 : decode code 1010 = .ok (.iaload, 1) := by decide +kernel
theorem dw_1011 : decode code 1011 = .ok (.aload_n 3, 1) := by decide +kernel
theorem dw_1012 : decode code 1012 = .ok (.invokestatic 116, 3) := by decide +kernel
theorem dw_1015 : decode code 1015 = .ok (.istore 5, 2) := by decide +kernel
theorem dw_1017 : decode code 1017 = .ok (.aload_n 2, 1) := by decide +kernel
theorem dw_1018 : decode code 1018 = .ok (.aload_n 0, 1) := by decide +kernel
theorem dw_1019 : decode code 1019 = .ok (.iload 4, 2) := by decide +kernel
theorem dw_1021 : decode code 1021 = .ok (.iconst 1, 1) := by decide +kernel
theorem dw_1022 : decode code 1022 = .ok (.iadd, 1) := by decide +kernel
theorem dw_1023 : decode code 1023 = .ok (.iaload, 1) := by decide +kernel
theorem dw_1024 : decode code 1024 = .ok (.aload_n 0, 1) := by decide +kernel
theorem dw_1025 : decode code 1025 = .ok (.iload 4, 2) := by decide +kernel
theorem dw_1027 : decode code 1027 = .ok (.iconst 2, 1) := by decide +kernel
theorem dw_1028 : decode code 1028 = .ok (.iadd, 1) := by decide +kernel
theorem dw_1029 : decode code 1029 = .ok (.iaload, 1) := by decide +kernel
theorem dw_1030 : decode code 1030 = .ok (.aload_n 0, 1) := by decide +kernel
theorem dw_1031 : decode code 1031 = .ok (.iload 4, 2) := by decide +kernel
theorem dw_1033 : decode code 1033 = .ok (.iconst 3, 1) := by decide +kernel
theorem dw_1034 : decode code 1034 = .ok (.iadd, 1) := by decide +kernel
theorem dw_1035 : decode code 1035 = .ok (.iaload, 1) := by decide +kernel
theorem dw_1036 : decode code 1036 = .ok (.aload_n 0, 1) := by decide +kernel
theorem dw_1037 : decode code 1037 = .ok (.iload 4, 2) := by decide +kernel
theorem dw_1039 : decode code 1039 = .ok (.iconst 4, 1) := by decide +kernel
theorem dw_1040 : decode code 1040 = .ok (.iadd, 1) := by decide +kernel
theorem dw_1041 : decode code 1041 = .ok (.iaload, 1) := by decide +kernel
theorem dw_1042 : decode code 1042 = .ok (.invokevirtual 119, 3) := by decide +kernel
theorem dw_1045 : decode code 1045 = .ok (.istore 6, 2) := by decide +kernel
theorem dw_1047 : decode code 1047 = .ok (.aload_n 2, 1) := by decide +kernel
theorem dw_1048 : decode code 1048 = .ok (.invokevirtual 85, 3) := by decide +kernel
theorem dw_1051 : decode code 1051 = .ok (.iload 5, 2) := by decide +kernel
theorem dw_1053 : decode code 1053 = .ok (.if_icmp .eq 5, 3) := by decide +kernel
theorem dw_1056 : decode code 1056 = .ok (.iconst 0, 1) := by decide +kernel
theorem dw_1057 : decode code 1057 = .ok (.ireturn, 1) := by decide +kernel
theorem dw_1058 : decode code 1058 = .ok (.iload 5, 2) := by decide +kernel
theorem dw_1060 : decode code 1060 = .ok (.ifCond .ne 15, 3) := by decide +kernel
theorem dw_1063 : decode code 1063 = .ok (.aload_n 3, 1) := by decide +kernel
theorem dw_1064 : decode code 1064 = .ok (.iconst 0, 1) := by decide +kernel
theorem dw_1065 : decode code 1065 = .ok (.laload, 1) := by decide +kernel
theorem dw_1066 : decode code 1066 = .ok (.iload 6, 2) := by decide +kernel
theorem dw_1068 : decode code 1068 = .ok (.i2l, 1) := by decide +kernel
theorem dw_1069 : decode code 1069 = .ok (.lcmp, 1) := by decide +kernel
theorem dw_1070 : decode code 1070 = .ok (.ifCond .eq 5, 3) := by decide +kernel
theorem dw_1073 : decode code 1073 = .ok (.iconst 0, 1) := by decide +kernel
theorem dw_1074 : decode code 1074 = .ok (.ireturn, 1) := by decide +kernel
theorem dw_1075 : decode code 1075 = .ok (.goto 372, 3) := by decide +kernel
theorem dw_1078 : decode code 1078 = .ok (.aload_n 1, 1) := by decide +kernel
theorem dw_1079 : decode code 1079 = .ok (.aload_n 0, 1) := by decide +kernel
theorem dw_1080 : decode code 1080 = .ok (.iload 4, 2) := by decide +kernel
theorem dw_1082 : decode code 1082 = .ok (.iconst 1, 1) := by decide +kernel
theorem dw_1083 : decode code 1083 = .ok (.iadd, 1) := by decide +kernel
theorem dw_1084 : decode code 1084 = .ok (.iaload, 1) := by decide +kernel
theorem dw_1085 : decode code 1085 = .ok (.aload_n 0, 1) := by decide +kernel
theorem dw_1086 : decode code 1086 = .ok (.iload 4, 2) := by decide +kernel
theorem dw_1088 : decode code 1088 = .ok (.iconst 2, 1) := by decide +kernel
theorem dw_1089 : decode code 1089 = .ok (.iadd, 1) := by decide +kernel
theorem dw_1090 : decode code 1090 = .ok (.iaload, 1) := by decide +kernel
theorem dw_1091 : decode code 1091 = .ok (.aload_n 0, 1) := by decide +kernel
theorem dw_1092 : decode code 1092 = .ok (.iload 4, 2) := by decide +kernel
theorem dw_1094 : decode code 1094 = .ok (.iconst 3, 1) := by decide +kernel
theorem dw_1095 : decode code 1095 = .ok (.iadd, 1) := by decide +kernel
theorem dw_1096 : decode code 1096 = .ok (.iaload, 1) := by decide +kernel
theorem dw_1097 : decode code 1097 = .ok (.aload_n 0, 1) := by decide +kernel
theorem dw_1098 : decode code 1098 = .ok (.iload 4, 2) := by decide +kernel
theorem dw_1100 : decode code 1100 = .ok (.iconst 4, 1) := by decide +kernel
theorem dw_1101 : decode code 1101 = .ok (.iadd, 1) := by decide +kernel
theorem dw_1102 : decode code 1102 = .ok (.iaload, 1) := by decide +kernel
theorem dw_1103 : decode code 1103 = .ok (.aload_n 3, 1) := by decide +kernel
theorem dw_1104 : decode code 1104 = .ok (.invokestatic 120, 3) := by decide +kernel
theorem dw_1107 : decode code 1107 = .ok (.istore 5, 2) := by decide +kernel
theorem dw_1109 : decode code 1109 = .ok (.aload_n 2, 1) := by decide +kernel
theorem dw_1110 : decode code 1110 = .ok (.aload_n 0, 1) := by decide +kernel
theorem dw_1111 : decode code 1111 = .ok (.iload 4, 2) := by decide +kernel
theorem dw_1113 : decode code 1113 = .ok (.iconst 1, 1) := by decide +kernel
theorem dw_1114 : decode code 1114 = .ok (.iadd, 1) := by decide +kernel
theorem dw_1115 : decode code 1115 = .ok (.iaload, 1) := by decide +kernel
theorem dw_1116 : decode code 1116 = .ok (.aload_n 0, 1) := by decide +kernel
theorem dw_1117 : decode code 1117 = .ok (.iload 4, 2) := by decide +kernel
theorem dw_1119 : decode code 1119 = .ok (.iconst 2, 1) := by decide +kernel
theorem dw_1120 : decode code 1120 = .ok (.iadd, 1) := by decide +kernel
theorem dw_1121 : decode code 1121 = .ok (.iaload, 1) := by decide +kernel
theorem dw_1122 : decode code 1122 = .ok (.aload_n 0, 1) := by decide +kernel
theorem dw_1123 : decode code 1123 = .ok (.iload 4, 2) := by decide +kernel
theorem dw_1125 : decode code 1125 = .ok (.iconst 3, 1) := by decide +kernel
theorem dw_1126 : decode code 1126 = .ok (.iadd, 1) := by decide +kernel
theorem dw_1127 : decode code 1127 = .ok (.iaload, 1) := by decide +kernel
theorem dw_1128 : decode code 1128 = .ok (.aload_n 0, 1) := by decide +kernel
theorem dw_1129 : decode code 1129 = .ok (.iload 4, 2) := by decide +kernel
theorem dw_1131 : decode code 1131 = .ok (.iconst 4, 1) := by decide +kernel
theorem dw_1132 : decode code 1132 = .ok (.iadd, 1) := by decide +kernel
theorem dw_1133 : decode code 1133 = .ok (.iaload, 1) := by decide +kernel
theorem dw_1134 : decode code 1134 = .ok (.invokevirtual 122, 3) := by decide +kernel
theorem dw_1137 : decode code 1137 = .ok (.istore 6, 2) := by decide +kernel
theorem dw_1139 : decode code 1139 = .ok (.aload_n 2, 1) := by decide +kernel
theorem dw_1140 : decode code 1140 = .ok (.invokevirtual 85, 3) := by decide +kernel
theorem dw_1143 : decode code 1143 = .ok (.iload 5, 2) := by decide +kernel
theorem dw_1145 : decode code 1145 = .ok (.if_icmp .eq 5, 3) := by decide +kernel
theorem dw_1148 : decode code 1148 = .ok (.iconst 0, 1) := by decide +kernel
theorem dw_1149 : decode code 1149 = .ok (.ireturn, 1) := by decide +kernel
theorem dw_1150 : decode code 1150 = .ok (.iload 5, 2) := by decide +kernel
theorem dw_1152 : decode code 1152 = .ok (.ifCond .ne 15, 3) := by decide +kernel
theorem dw_1155 : decode code 1155 = .ok (.aload_n 3, 1) := by decide +kernel
theorem dw_1156 : decode code 1156 = .ok (.iconst 0, 1) := by decide +kernel
theorem dw_1157 : decode code 1157 = .ok (.laload, 1) := by decide +kernel
theorem dw_1158 : decode code 1158 = .ok (.iload 6, 2) := by decide +kernel
theorem dw_1160 : decode code 1160 = .ok (.i2l, 1) := by decide +kernel
theorem dw_1161 : decode code 1161 = .ok (.lcmp, 1) := by decide +kernel
theorem dw_1162 : decode code 1162 = .ok (.ifCond .eq 5, 3) := by decide +kernel
theorem dw_1165 : decode code 1165 = .ok (.iconst 0, 1) := by decide +kernel
theorem dw_1166 : decode code 1166 = .ok (.ireturn, 1) := by decide +kernel
theorem dw_1167 : decode code 1167 = .ok (.goto 280, 3) := by decide +kernel
theorem dw_1170 : decode code 1170 = .ok (.aload_n 1, 1) := by decide +kernel
theorem dw_1171 : decode code 1171 = .ok (.aload_n 0, 1) := by decide +kernel
theorem dw_1172 : decode code 1172 = .ok (.iload 4, 2) := by decide +kernel
theorem dw_1174 : decode code 1174 = .ok (.iconst 1, 1) := by decide +kernel
theorem dw_1175 : decode code 1175 = .ok (.iadd, 1) := by decide +kernel
theorem dw_1176 : decode code 1176 = .ok (.iaload, 1) := by decide +kernel
theorem dw_1177 : decode code 1177 = .ok (.aload_n 0, 1) := by decide +kernel
theorem dw_1178 : decode code 1178 = .ok (.iload 4, 2) := by decide +kernel
theorem dw_1180 : decode code 1180 = .ok (.iconst 2, 1) := by decide +kernel
theorem dw_1181 : decode code 1181 = .ok (.iadd, 1) := by decide +kernel
theorem dw_1182 : decode code 1182 = .ok (.iaload, 1) := by decide +kernel
theorem dw_1183 : decode code 1183 = .ok (.aload_n 0, 1) := by decide +kernel
theorem dw_1184 : decode code 1184 = .ok (.iload 4, 2) := by decide +kernel
theorem dw_1186 : decode code 1186 = .ok (.iconst 3, 1) := by decide +kernel
theorem dw_1187 : decode code 1187 = .ok (.iadd, 1) := by decide +kernel
theorem dw_1188 : decode code 1188 = .ok (.iaload, 1) := by decide +kernel
theorem dw_1189 : decode code 1189 = .ok (.aload_n 3, 1) := by decide +kernel
theorem dw_1190 : decode code 1190 = .ok (.invokestatic 123, 3) := by decide +kernel
theorem dw_1193 : decode code 1193 = .ok (.istore 5, 2) := by decide +kernel
theorem dw_1195 : decode code 1195 = .ok (.aload_n 2, 1) := by decide +kernel
theorem dw_1196 : decode code 1196 = .ok (.aload_n 0, 1) := by decide +kernel
theorem dw_1197 : decode code 1197 = .ok (.iload 4, 2) := by decide +kernel
theorem dw_1199 : decode code 1199 = .ok (.iconst 1, 1) := by decide +kernel
theorem dw_1200 : decode code 1200 = .ok (.iadd, 1) := by decide +kernel
theorem dw_1201 : decode code 1201 = .ok (.iaload, 1) := by decide +kernel
theorem dw_1202 : decode code 1202 = .ok (.aload_n 0, 1) := by decide +kernel
theorem dw_1203 : decode code 1203 = .ok (.iload 4, 2) := by decide +kernel
theorem dw_1205 : decode code 1205 = .ok (.iconst 2, 1) := by decide +kernel
theorem dw_1206 : decode code 1206 = .ok (.iadd, 1) := by decide +kernel
theorem dw_1207 : decode code 1207 = .ok (.iaload, 1) := by decide +kernel
theorem dw_1208 : decode code 1208 = .ok (.aload_n 0, 1) := by decide +kernel
theorem dw_1209 : decode code 1209 = .ok (.iload 4, 2) := by decide +kernel
theorem dw_1211 : decode code 1211 = .ok (.iconst 3, 1) := by decide +kernel
theorem dw_1212 : decode code 1212 = .ok (.iadd, 1) := by decide +kernel
theorem dw_1213 : decode code 1213 = .ok (.iaload, 1) := by decide +kernel
theorem dw_1214 : decode code 1214 = .ok (.invokevirtual 125, 3) := by decide +kernel
theorem dw_1217 : decode code 1217 = .ok (.istore 6, 2) := by decide +kernel
theorem dw_1219 : decode code 1219 = .ok (.aload_n 2, 1) := by decide +kernel
theorem dw_1220 : decode code 1220 = .ok (.invokevirtual 85, 3) := by decide +kernel
theorem dw_1223 : decode code 1223 = .ok (.iload 5, 2) := by decide +kernel
theorem dw_1225 : decode code 1225 = .ok (.if_icmp .eq 5, 3) := by decide +kernel
theorem dw_1228 : decode code 1228 = .ok (.iconst 0, 1) := by decide +kernel
theorem dw_1229 : decode code 1229 = .ok (.ireturn, 1) := by decide +kernel
theorem dw_1230 : decode code 1230 = .ok (.iload 5, 2) := by decide +kernel
theorem dw_1232 : decode code 1232 = .ok (.ifCond .ne 15, 3) := by decide +kernel
theorem dw_1235 : decode code 1235 = .ok (.aload_n 3, 1) := by decide +kernel
theorem dw_1236 : decode code 1236 = .ok (.iconst 0, 1) := by decide +kernel
theorem dw_1237 : decode code 1237 = .ok (.laload, 1) := by decide +kernel
theorem dw_1238 : decode code 1238 = .ok (.iload 6, 2) := by decide +kernel
theorem dw_1240 : decode code 1240 = .ok (.i2l, 1) := by decide +kernel
theorem dw_1241 : decode code 1241 = .ok (.lcmp, 1) := by decide +kernel
theorem dw_1242 : decode code 1242 = .ok (.ifCond .eq 5, 3) := by decide +kernel
theorem dw_1245 : decode code 1245 = .ok (.iconst 0, 1) := by decide +kernel
theorem dw_1246 : decode code 1246 = .ok (.ireturn, 1) := by decide +kernel
theorem dw_1247 : decode code 1247 = .ok (.goto 200, 3) := by decide +kernel
theorem dw_1250 : decode code 1250 = .ok (.aload_n 1, 1) := by decide +kernel
theorem dw_1251 : decode code 1251 = .ok (.aload_n 0, 1) := by decide +kernel
theorem dw_1252 : decode code 1252 = .ok (.iload 4, 2) := by decide +kernel
theorem dw_1254 : decode code 1254 = .ok (.iconst 1, 1) := by decide +kernel
theorem dw_1255 : decode code 1255 = .ok (.iadd, 1) := by decide +kernel
theorem dw_1256 : decode code 1256 = .ok (.iaload, 1) := by decide +kernel
theorem dw_1257 : decode code 1257 = .ok (.aload_n 0, 1) := by decide +kernel
theorem dw_1258 : decode code 1258 = .ok (.iload 4, 2) := by decide +kernel
theorem dw_1260 : decode code 1260 = .ok (.iconst 2, 1) := by decide +kernel
theorem dw_1261 : decode code 1261 = .ok (.iadd, 1) := by decide +kernel
theorem dw_1262 : decode code 1262 = .ok (.iaload, 1) := by decide +kernel
theorem dw_1263 : decode code 1263 = .ok (.aload_n 0, 1) := by decide +kernel
theorem dw_1264 : decode code 1264 = .ok (.iload 4, 2) := by decide +kernel
theorem dw_1266 : decode code 1266 = .ok (.iconst 3, 1) := by decide +kernel
theorem dw_1267 : decode code 1267 = .ok (.iadd, 1) := by decide +kernel
theorem dw_1268 : decode code 1268 = .ok (.iaload, 1) := by decide +kernel
theorem dw_1269 : decode code 1269 = .ok (.invokevirtual 126, 3) := by decide +kernel
theorem dw_1272 : decode code 1272 = .ok (.aload_n 2, 1) := by decide +kernel
theorem dw_1273 : decode code 1273 = .ok (.aload_n 0, 1) := by decide +kernel
theorem dw_1274 : decode code 1274 = .ok (.iload 4, 2) := by decide +kernel
theorem dw_1276 : decode code 1276 = .ok (.iconst 1, 1) := by decide +kernel
theorem dw_1277 : decode code 1277 = .ok (.iadd, 1) := by decide +kernel
theorem dw_1278 : decode code 1278 = .ok (.iaload, 1) := by decide +kernel
theorem dw_1279 : decode code 1279 = .ok (.aload_n 0, 1) := by decide +kernel
theorem dw_1280 : decode code 1280 = .ok (.iload 4, 2) := by decide +kernel
theorem dw_1282 : decode code 1282 = .ok (.iconst 2, 1) := by decide +kernel
theorem dw_1283 : decode code 1283 = .ok (.iadd, 1) := by decide +kernel
theorem dw_1284 : decode code 1284 = .ok (.iaload, 1) := by decide +kernel
theorem dw_1285 : decode code 1285 = .ok (.aload_n 0, 1) := by decide +kernel
theorem dw_1286 : decode code 1286 = .ok (.iload 4, 2) := by decide +kernel
theorem dw_1288 : decode code 1288 = .ok (.iconst 3, 1) := by decide +kernel
theorem dw_1289 : decode code 1289 = .ok (.iadd, 1) := by decide +kernel
theorem dw_1290 : decode code 1290 = .ok (.iaload, 1) := by decide +kernel
theorem dw_1291 : decode code 1291 = .ok (.invokevirtual 129, 3) := by decide +kernel
theorem dw_1294 : decode code 1294 = .ok (.if_icmp .eq 153, 3) := by decide +kernel
theorem dw_1297 : decode code 1297 = .ok (.iconst 0, 1) := by decide +kernel
theorem dw_1298 : decode code 1298 = .ok (.ireturn, 1) := by decide +kernel
theorem dw_1299 : decode code 1299 = .ok (.aload_n 1, 1) := by decide +kernel
theorem dw_1300 : decode code 1300 = .ok (.aload_n 0, 1) := by decide +kernel
theorem dw_1301 : decode code 1301 = .ok (.iload 4, 2) := by decide +kernel
theorem dw_1303 : decode code 1303 = .ok (.iconst 1, 1) := by decide +kernel
theorem dw_1304 : decode code 1304 = .ok (.iadd, 1) := by decide +kernel
theorem dw_1305 : decode code 1305 = .ok (.iaload, 1) := by decide +kernel
theorem dw_1306 : decode code 1306 = .ok (.aload_n 0, 1) := by decide +kernel
theorem dw_1307 : decode code 1307 = .ok (.iload 4, 2) := by decide +kernel
theorem dw_1309 : decode code 1309 = .ok (.iconst 2, 1) := by decide +kernel
theorem dw_1310 : decode code 1310 = .ok (.iadd, 1) := by decide +kernel
theorem dw_1311 : decode code 1311 = .ok (.iaload, 1) := by decide +kernel
theorem dw_1312 : decode code 1312 = .ok (.aload_n 0, 1) := by decide +kernel
theorem dw_1313 : decode code 1313 = .ok (.iload 4, 2) := by decide +kernel
theorem dw_1315 : decode code 1315 = .ok (.iconst 3, 1) := by decide +kernel
theorem dw_1316 : decode code 1316 = .ok (.iadd, 1) := by decide +kernel
theorem dw_1317 : decode code 1317 = .ok (.iaload, 1) := by decide +kernel
theorem dw_1318 : decode code 1318 = .ok (.aload_n 0, 1) := by decide +kernel
theorem dw_1319 : decode code 1319 = .ok (.iload 4, 2) := by decide +kernel
theorem dw_1321 : decode code 1321 = .ok (.iconst 4, 1) := by decide +kernel
theorem dw_1322 : decode code 1322 = .ok (.iadd, 1) := by decide +kernel
theorem dw_1323 : decode code 1323 = .ok (.iaload, 1) := by decide +kernel
theorem dw_1324 : decode code 1324 = .ok (.invokevirtual 130, 3) := by decide +kernel
theorem dw_1327 : decode code 1327 = .ok (.aload_n 2, 1) := by decide +kernel
theorem dw_1328 : decode code 1328 = .ok (.aload_n 0, 1) := by decide +kernel
theorem dw_1329 : decode code 1329 = .ok (.iload 4, 2) := by decide +kernel
theorem dw_1331 : decode code 1331 = .ok (.iconst 1, 1) := by decide +kernel
theorem dw_1332 : decode code 1332 = .ok (.iadd, 1) := by decide +kernel
theorem dw_1333 : decode code 1333 = .ok (.iaload, 1) := by decide +kernel
theorem dw_1334 : decode code 1334 = .ok (.aload_n 0, 1) := by decide +kernel
theorem dw_1335 : decode code 1335 = .ok (.iload 4, 2) := by decide +kernel
theorem dw_1337 : decode code 1337 = .ok (.iconst 2, 1) := by decide +kernel
theorem dw_1338 : decode code 1338 = .ok (.iadd, 1) := by decide +kernel
theorem dw_1339 : decode code 1339 = .ok (.iaload, 1) := by decide +kernel
theorem dw_1340 : decode code 1340 = .ok (.aload_n 0, 1) := by decide +kernel
theorem dw_1341 : decode code 1341 = .ok (.iload 4, 2) := by decide +kernel
theorem dw_1343 : decode code 1343 = .ok (.iconst 3, 1) := by decide +kernel
theorem dw_1344 : decode code 1344 = .ok (.iadd, 1) := by decide +kernel
theorem dw_1345 : decode code 1345 = .ok (.iaload, 1) := by decide +kernel
theorem dw_1346 : decode code 1346 = .ok (.aload_n 0, 1) := by decide +kernel
theorem dw_1347 : decode code 1347 = .ok (.iload 4, 2) := by decide +kernel
theorem dw_1349 : decode code 1349 = .ok (.iconst 4, 1) := by decide +kernel
theorem dw_1350 : decode code 1350 = .ok (.iadd, 1) := by decide +kernel
theorem dw_1351 : decode code 1351 = .ok (.iaload, 1) := by decide +kernel
theorem dw_1352 : decode code 1352 = .ok (.invokevirtual 133, 3) := by decide +kernel
theorem dw_1355 : decode code 1355 = .ok (.if_icmp .eq 92, 3) := by decide +kernel
theorem dw_1358 : decode code 1358 = .ok (.iconst 0, 1) := by decide +kernel
theorem dw_1359 : decode code 1359 = .ok (.ireturn, 1) := by decide +kernel
theorem dw_1360 : decode code 1360 = .ok (.aload_n 1, 1) := by decide +kernel
theorem dw_1361 : decode code 1361 = .ok (.aload_n 0, 1) := by decide +kernel
theorem dw_1362 : decode code 1362 = .ok (.iload 4, 2) := by decide +kernel
theorem dw_1364 : decode code 1364 = .ok (.iconst 1, 1) := by decide +kernel
theorem dw_1365 : decode code 1365 = .ok (.iadd, 1) := by decide +kernel
theorem dw_1366 : decode code 1366 = .ok (.iaload, 1) := by decide +kernel
theorem dw_1367 : decode code 1367 = .ok (.aload_n 0, 1) := by decide +kernel
theorem dw_1368 : decode code 1368 = .ok (.iload 4, 2) := by decide +kernel
theorem dw_1370 : decode code 1370 = .ok (.iconst 2, 1) := by decide +kernel
theorem dw_1371 : decode code 1371 = .ok (.iadd, 1) := by decide +kernel
theorem dw_1372 : decode code 1372 = .ok (.iaload, 1) := by decide +kernel
theorem dw_1373 : decode code 1373 = .ok (.invokevirtual 134, 3) := by decide +kernel
theorem dw_1376 : decode code 1376 = .ok (.aload_n 2, 1) := by decide +kernel
theorem dw_1377 : decode code 1377 = .ok (.aload_n 0, 1) := by decide +kernel
theorem dw_1378 : decode code 1378 = .ok (.iload 4, 2) := by decide +kernel
theorem dw_1380 : decode code 1380 = .ok (.iconst 1, 1) := by decide +kernel
theorem dw_1381 : decode code 1381 = .ok (.iadd, 1) := by decide +kernel
theorem dw_1382 : decode code 1382 = .ok (.iaload, 1) := by decide +kernel
theorem dw_1383 : decode code 1383 = .ok (.aload_n 0, 1) := by decide +kernel
theorem dw_1384 : decode code 1384 = .ok (.iload 4, 2) := by decide +kernel
theorem dw_1386 : decode code 1386 = .ok (.iconst 2, 1) := by decide +kernel
theorem dw_1387 : decode code 1387 = .ok (.iadd, 1) := by decide +kernel
theorem dw_1388 : decode code 1388 = .ok (.iaload, 1) := by decide +kernel
theorem dw_1389 : decode code 1389 = .ok (.invokevirtual 137, 3) := by decide +kernel
theorem dw_1392 : decode code 1392 = .ok (.if_icmp .eq 55, 3) := by decide +kernel
theorem dw_1395 : decode code 1395 = .ok (.iconst 0, 1) := by decide +kernel
theorem dw_1396 : decode code 1396 = .ok (.ireturn, 1) := by decide +kernel
theorem dw_1397 : decode code 1397 = .ok (.aload_n 1, 1) := by decide +kernel
theorem dw_1398 : decode code 1398 = .ok (.aload_n 0, 1) := by decide +kernel
theorem dw_1399 : decode code 1399 = .ok (.iload 4, 2) := by decide +kernel
theorem dw_1401 : decode code 1401 = .ok (.iconst 1, 1) := by decide +kernel
theorem dw_1402 : decode code 1402 = .ok (.iadd, 1) := by decide +kernel
theorem dw_1403 : decode code 1403 = .ok (.iaload, 1) := by decide +kernel
theorem dw_1404 : decode code 1404 = .ok (.aload_n 0, 1) := by decide +kernel
theorem dw_1405 : decode code 1405 = .ok (.iload 4, 2) := by decide +kernel
theorem dw_1407 : decode code 1407 = .ok (.iconst 2, 1) := by decide +kernel
theorem dw_1408 : decode code 1408 = .ok (.iadd, 1) := by decide +kernel
theorem dw_1409 : decode code 1409 = .ok (.iaload, 1) := by decide +kernel
theorem dw_1410 : decode code 1410 = .ok (.invokevirtual 138, 3) := by decide +kernel
theorem dw_1413 : decode code 1413 = .ok (.aload_n 2, 1) := by decide +kernel
theorem dw_1414 : decode code 1414 = .ok (.aload_n 0, 1) := by decide +kernel
theorem dw_1415 : decode code 1415 = .ok (.iload 4, 2) := by decide +kernel
theorem dw_1417 : decode code 1417 = .ok (.iconst 1, 1) := by decide +kernel
theorem dw_1418 : decode code 1418 = .ok (.iadd, 1) := by decide +kernel
theorem dw_1419 : decode code 1419 = .ok (.iaload, 1) := by decide +kernel
theorem dw_1420 : decode code 1420 = .ok (.aload_n 0, 1) := by decide +kernel
theorem dw_1421 : decode code 1421 = .ok (.iload 4, 2) := by decide +kernel
theorem dw_1423 : decode code 1423 = .ok (.iconst 2, 1) := by decide +kernel
theorem dw_1424 : decode code 1424 = .ok (.iadd, 1) := by decide +kernel
theorem dw_1425 : decode code 1425 = .ok (.iaload, 1) := by decide +kernel
theorem dw_1426 : decode code 1426 = .ok (.invokevirtual 141, 3) := by decide +kernel
theorem dw_1429 : decode code 1429 = .ok (.if_icmp .eq 18, 3) := by decide +kernel
theorem dw_1432 : decode code 1432 = .ok (.iconst 0, 1) := by decide +kernel
theorem dw_1433 : decode code 1433 = .ok (.ireturn, 1) := by decide +kernel
theorem dw_1434 : decode code 1434 = .ok (.aload_n 1, 1) := by decide +kernel
theorem dw_1435 : decode code 1435 = .ok (.invokevirtual 142, 3) := by decide +kernel
theorem dw_1438 : decode code 1438 = .ok (.aload_n 2, 1) := by decide +kernel
theorem dw_1439 : decode code 1439 = .ok (.invokevirtual 145, 3) := by decide +kernel
theorem dw_1442 : decode code 1442 = .ok (.if_icmp .eq 5, 3) := by decide +kernel
theorem dw_1445 : decode code 1445 = .ok (.iconst 0, 1) := by decide +kernel
theorem dw_1446 : decode code 1446 = .ok (.ireturn, 1) := by decide +kernel
theorem dw_1447 : decode code 1447 = .ok (.iinc 4 6, 3) := by decide +kernel
theorem dw_1450 : decode code 1450 = .ok (.goto (-1427), 3) := by decide +kernel
theorem dw_1453 : decode code 1453 = .ok (.iconst 1, 1) := by decide +kernel
theorem dw_1454 : decode code 1454 = .ok (.ireturn, 1) := by decide +kernel
