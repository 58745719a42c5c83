/-! the law's instructions -/
abbrev mL_law : gz_M := (yL_law, cL_law, 7, some .boolean)
theorem dL_law_0 : decode mL_law.2.1 0 = .ok (.new 8, 3) := by decide +kernel
theorem dL_law_3 : decode mL_law.2.1 3 = .ok (.dup, 1) := by decide +kernel
theorem dL_law_4 : decode mL_law.2.1 4 = .ok (.invokespecial 15, 3) := by decide +kernel
theorem dL_law_7 : decode mL_law.2.1 7 = .ok (.astore_n 1, 1) := by decide +kernel
theorem dL_law_8 : decode mL_law.2.1 8 = .ok (.new 16, 3) := by decide +kernel
theorem dL_law_11 : decode mL_law.2.1 11 = .ok (.dup, 1) := by decide +kernel
theorem dL_law_12 : decode mL_law.2.1 12 = .ok (.invokespecial 18, 3) := by decide +kernel
theorem dL_law_15 : decode mL_law.2.1 15 = .ok (.astore_n 2, 1) := by decide +kernel
theorem dL_law_16 : decode mL_law.2.1 16 = .ok (.iconst 1, 1) := by decide +kernel
theorem dL_law_17 : decode mL_law.2.1 17 = .ok (.newarray .long, 2) := by decide +kernel
theorem dL_law_19 : decode mL_law.2.1 19 = .ok (.astore_n 3, 1) := by decide +kernel
theorem dL_law_20 : decode mL_law.2.1 20 = .ok (.iconst 0, 1) := by decide +kernel
theorem dL_law_21 : decode mL_law.2.1 21 = .ok (.istore 4, 2) := by decide +kernel
theorem dL_law_23 : decode mL_law.2.1 23 = .ok (.iload 4, 2) := by decide +kernel
theorem dL_law_25 : decode mL_law.2.1 25 = .ok (.aload_n 0, 1) := by decide +kernel
theorem dL_law_26 : decode mL_law.2.1 26 = .ok (.arraylength, 1) := by decide +kernel
theorem dL_law_27 : decode mL_law.2.1 27 = .ok (.bipush 6, 2) := by decide +kernel
theorem dL_law_29 : decode mL_law.2.1 29 = .ok (.isub, 1) := by decide +kernel
theorem dL_law_30 : decode mL_law.2.1 30 = .ok (.if_icmp .gt 1533, 3) := by decide +kernel
theorem dL_law_33 : decode mL_law.2.1 33 = .ok (.aload_n 0, 1) := by decide +kernel
theorem dL_law_34 : decode mL_law.2.1 34 = .ok (.iload 4, 2) := by decide +kernel
theorem dL_law_36 : decode mL_law.2.1 36 = .ok (.iaload, 1) := by decide +kernel
theorem dL_law_37 : decode mL_law.2.1 37 = .ok (.bipush 63, 2) := by decide +kernel
theorem dL_law_39 : decode mL_law.2.1 39 = .ok (.iand, 1) := by decide +kernel
theorem dL_law_40 : decode mL_law.2.1 40 = .ok (.tableswitch 1517 0 37 #[168, 241, 266, 291, 316, 353, 421, 446, 471, 484, 509, 534, 559, 596, 621, 690, 703, 740, 789, 826, 851, 888, 925, 962, 987, 1024, 1085, 1134, 1171, 1196, 1269, 1318, 1379, 1416, 1441, 1466, 1479, 1492], 168) := by decide +kernel
theorem dL_law_208 : decode mL_law.2.1 208 = .ok (.aload_n 1, 1) := by decide +kernel
theorem dL_law_209 : decode mL_law.2.1 209 = .ok (.aload_n 0, 1) := by decide +kernel
theorem dL_law_210 : decode mL_law.2.1 210 = .ok (.iload 4, 2) := by decide +kernel
theorem dL_law_212 : decode mL_law.2.1 212 = .ok (.iconst 1, 1) := by decide +kernel
theorem dL_law_213 : decode mL_law.2.1 213 = .ok (.iadd, 1) := by decide +kernel
theorem dL_law_214 : decode mL_law.2.1 214 = .ok (.iaload, 1) := by decide +kernel
theorem dL_law_215 : decode mL_law.2.1 215 = .ok (.aload_n 0, 1) := by decide +kernel
theorem dL_law_216 : decode mL_law.2.1 216 = .ok (.iload 4, 2) := by decide +kernel
theorem dL_law_218 : decode mL_law.2.1 218 = .ok (.iconst 2, 1) := by decide +kernel
theorem dL_law_219 : decode mL_law.2.1 219 = .ok (.iadd, 1) := by decide +kernel
theorem dL_law_220 : decode mL_law.2.1 220 = .ok (.iaload, 1) := by decide +kernel
theorem dL_law_221 : decode mL_law.2.1 221 = .ok (.aload_n 0, 1) := by decide +kernel
theorem dL_law_222 : decode mL_law.2.1 222 = .ok (.iload 4, 2) := by decide +kernel
theorem dL_law_224 : decode mL_law.2.1 224 = .ok (.iconst 3, 1) := by decide +kernel
theorem dL_law_225 : decode mL_law.2.1 225 = .ok (.iadd, 1) := by decide +kernel
theorem dL_law_226 : decode mL_law.2.1 226 = .ok (.iaload, 1) := by decide +kernel
theorem dL_law_227 : decode mL_law.2.1 227 = .ok (.aload_n 0, 1) := by decide +kernel
theorem dL_law_228 : decode mL_law.2.1 228 = .ok (.iload 4, 2) := by decide +kernel
theorem dL_law_230 : decode mL_law.2.1 230 = .ok (.iconst 4, 1) := by decide +kernel
theorem dL_law_231 : decode mL_law.2.1 231 = .ok (.iadd, 1) := by decide +kernel
theorem dL_law_232 : decode mL_law.2.1 232 = .ok (.iaload, 1) := by decide +kernel
theorem dL_law_233 : decode mL_law.2.1 233 = .ok (.aload_n 0, 1) := by decide +kernel
theorem dL_law_234 : decode mL_law.2.1 234 = .ok (.iload 4, 2) := by decide +kernel
theorem dL_law_236 : decode mL_law.2.1 236 = .ok (.iconst 5, 1) := by decide +kernel
theorem dL_law_237 : decode mL_law.2.1 237 = .ok (.iadd, 1) := by decide +kernel
theorem dL_law_238 : decode mL_law.2.1 238 = .ok (.iaload, 1) := by decide +kernel
theorem dL_law_239 : decode mL_law.2.1 239 = .ok (.invokevirtual 19, 3) := by decide +kernel
theorem dL_law_242 : decode mL_law.2.1 242 = .ok (.aload_n 2, 1) := by decide +kernel
theorem dL_law_243 : decode mL_law.2.1 243 = .ok (.aload_n 0, 1) := by decide +kernel
theorem dL_law_244 : decode mL_law.2.1 244 = .ok (.iload 4, 2) := by decide +kernel
theorem dL_law_246 : decode mL_law.2.1 246 = .ok (.iconst 1, 1) := by decide +kernel
theorem dL_law_247 : decode mL_law.2.1 247 = .ok (.iadd, 1) := by decide +kernel
theorem dL_law_248 : decode mL_law.2.1 248 = .ok (.iaload, 1) := by decide +kernel
theorem dL_law_249 : decode mL_law.2.1 249 = .ok (.aload_n 0, 1) := by decide +kernel
theorem dL_law_250 : decode mL_law.2.1 250 = .ok (.iload 4, 2) := by decide +kernel
theorem dL_law_252 : decode mL_law.2.1 252 = .ok (.iconst 2, 1) := by decide +kernel
theorem dL_law_253 : decode mL_law.2.1 253 = .ok (.iadd, 1) := by decide +kernel
theorem dL_law_254 : decode mL_law.2.1 254 = .ok (.iaload, 1) := by decide +kernel
theorem dL_law_255 : decode mL_law.2.1 255 = .ok (.aload_n 0, 1) := by decide +kernel
theorem dL_law_256 : decode mL_law.2.1 256 = .ok (.iload 4, 2) := by decide +kernel
theorem dL_law_258 : decode mL_law.2.1 258 = .ok (.iconst 3, 1) := by decide +kernel
theorem dL_law_259 : decode mL_law.2.1 259 = .ok (.iadd, 1) := by decide +kernel
theorem dL_law_260 : decode mL_law.2.1 260 = .ok (.iaload, 1) := by decide +kernel
theorem dL_law_261 : decode mL_law.2.1 261 = .ok (.aload_n 0, 1) := by decide +kernel
theorem dL_law_262 : decode mL_law.2.1 262 = .ok (.iload 4, 2) := by decide +kernel
theorem dL_law_264 : decode mL_law.2.1 264 = .ok (.iconst 4, 1) := by decide +kernel
theorem dL_law_265 : decode mL_law.2.1 265 = .ok (.iadd, 1) := by decide +kernel
theorem dL_law_266 : decode mL_law.2.1 266 = .ok (.iaload, 1) := by decide +kernel
theorem dL_law_267 : decode mL_law.2.1 267 = .ok (.aload_n 0, 1) := by decide +kernel
theorem dL_law_268 : decode mL_law.2.1 268 = .ok (.iload 4, 2) := by decide +kernel
theorem dL_law_270 : decode mL_law.2.1 270 = .ok (.iconst 5, 1) := by decide +kernel
theorem dL_law_271 : decode mL_law.2.1 271 = .ok (.iadd, 1) := by decide +kernel
theorem dL_law_272 : decode mL_law.2.1 272 = .ok (.iaload, 1) := by decide +kernel
theorem dL_law_273 : decode mL_law.2.1 273 = .ok (.invokevirtual 23, 3) := by decide +kernel
theorem dL_law_276 : decode mL_law.2.1 276 = .ok (.if_icmp .eq 1281, 3) := by decide +kernel
theorem dL_law_279 : decode mL_law.2.1 279 = .ok (.iconst 0, 1) := by decide +kernel
theorem dL_law_280 : decode mL_law.2.1 280 = .ok (.ireturn, 1) := by decide +kernel
theorem dL_law_281 : decode mL_law.2.1 281 = .ok (.aload_n 1, 1) := by decide +kernel
theorem dL_law_282 : decode mL_law.2.1 282 = .ok (.aload_n 0, 1) := by decide +kernel
theorem dL_law_283 : decode mL_law.2.1 283 = .ok (.iload 4, 2) := by decide +kernel
theorem dL_law_285 : decode mL_law.2.1 285 = .ok (.iconst 1, 1) := by decide +kernel
theorem dL_law_286 : decode mL_law.2.1 286 = .ok (.iadd, 1) := by decide +kernel
theorem dL_law_287 : decode mL_law.2.1 287 = .ok (.iaload, 1) := by decide +kernel
theorem dL_law_288 : decode mL_law.2.1 288 = .ok (.invokevirtual 24, 3) := by decide +kernel
theorem dL_law_291 : decode mL_law.2.1 291 = .ok (.aload_n 2, 1) := by decide +kernel
theorem dL_law_292 : decode mL_law.2.1 292 = .ok (.aload_n 0, 1) := by decide +kernel
theorem dL_law_293 : decode mL_law.2.1 293 = .ok (.iload 4, 2) := by decide +kernel
theorem dL_law_295 : decode mL_law.2.1 295 = .ok (.iconst 1, 1) := by decide +kernel
theorem dL_law_296 : decode mL_law.2.1 296 = .ok (.iadd, 1) := by decide +kernel
theorem dL_law_297 : decode mL_law.2.1 297 = .ok (.iaload, 1) := by decide +kernel
theorem dL_law_298 : decode mL_law.2.1 298 = .ok (.invokevirtual 28, 3) := by decide +kernel
theorem dL_law_301 : decode mL_law.2.1 301 = .ok (.if_icmp .eq 1256, 3) := by decide +kernel
theorem dL_law_304 : decode mL_law.2.1 304 = .ok (.iconst 0, 1) := by decide +kernel
theorem dL_law_305 : decode mL_law.2.1 305 = .ok (.ireturn, 1) := by decide +kernel
theorem dL_law_306 : decode mL_law.2.1 306 = .ok (.aload_n 1, 1) := by decide +kernel
theorem dL_law_307 : decode mL_law.2.1 307 = .ok (.aload_n 0, 1) := by decide +kernel
theorem dL_law_308 : decode mL_law.2.1 308 = .ok (.iload 4, 2) := by decide +kernel
theorem dL_law_310 : decode mL_law.2.1 310 = .ok (.iconst 1, 1) := by decide +kernel
theorem dL_law_311 : decode mL_law.2.1 311 = .ok (.iadd, 1) := by decide +kernel
theorem dL_law_312 : decode mL_law.2.1 312 = .ok (.iaload, 1) := by decide +kernel
theorem dL_law_313 : decode mL_law.2.1 313 = .ok (.invokevirtual 29, 3) := by decide +kernel
theorem dL_law_316 : decode mL_law.2.1 316 = .ok (.aload_n 2, 1) := by decide +kernel
theorem dL_law_317 : decode mL_law.2.1 317 = .ok (.aload_n 0, 1) := by decide +kernel
theorem dL_law_318 : decode mL_law.2.1 318 = .ok (.iload 4, 2) := by decide +kernel
theorem dL_law_320 : decode mL_law.2.1 320 = .ok (.iconst 1, 1) := by decide +kernel
theorem dL_law_321 : decode mL_law.2.1 321 = .ok (.iadd, 1) := by decide +kernel
theorem dL_law_322 : decode mL_law.2.1 322 = .ok (.iaload, 1) := by decide +kernel
theorem dL_law_323 : decode mL_law.2.1 323 = .ok (.invokevirtual 33, 3) := by decide +kernel
theorem dL_law_326 : decode mL_law.2.1 326 = .ok (.if_icmp .eq 1231, 3) := by decide +kernel
theorem dL_law_329 : decode mL_law.2.1 329 = .ok (.iconst 0, 1) := by decide +kernel
theorem dL_law_330 : decode mL_law.2.1 330 = .ok (.ireturn, 1) := by decide +kernel
theorem dL_law_331 : decode mL_law.2.1 331 = .ok (.aload_n 1, 1) := by decide +kernel
theorem dL_law_332 : decode mL_law.2.1 332 = .ok (.aload_n 0, 1) := by decide +kernel
theorem dL_law_333 : decode mL_law.2.1 333 = .ok (.iload 4, 2) := by decide +kernel
theorem dL_law_335 : decode mL_law.2.1 335 = .ok (.iconst 1, 1) := by decide +kernel
theorem dL_law_336 : decode mL_law.2.1 336 = .ok (.iadd, 1) := by decide +kernel
theorem dL_law_337 : decode mL_law.2.1 337 = .ok (.iaload, 1) := by decide +kernel
theorem dL_law_338 : decode mL_law.2.1 338 = .ok (.invokevirtual 34, 3) := by decide +kernel
theorem dL_law_341 : decode mL_law.2.1 341 = .ok (.aload_n 2, 1) := by decide +kernel
theorem dL_law_342 : decode mL_law.2.1 342 = .ok (.aload_n 0, 1) := by decide +kernel
theorem dL_law_343 : decode mL_law.2.1 343 = .ok (.iload 4, 2) := by decide +kernel
theorem dL_law_345 : decode mL_law.2.1 345 = .ok (.iconst 1, 1) := by decide +kernel
theorem dL_law_346 : decode mL_law.2.1 346 = .ok (.iadd, 1) := by decide +kernel
theorem dL_law_347 : decode mL_law.2.1 347 = .ok (.iaload, 1) := by decide +kernel
theorem dL_law_348 : decode mL_law.2.1 348 = .ok (.invokevirtual 37, 3) := by decide +kernel
theorem dL_law_351 : decode mL_law.2.1 351 = .ok (.if_icmp .eq 1206, 3) := by decide +kernel
theorem dL_law_354 : decode mL_law.2.1 354 = .ok (.iconst 0, 1) := by decide +kernel
theorem dL_law_355 : decode mL_law.2.1 355 = .ok (.ireturn, 1) := by decide +kernel
theorem dL_law_356 : decode mL_law.2.1 356 = .ok (.aload_n 1, 1) := by decide +kernel
theorem dL_law_357 : decode mL_law.2.1 357 = .ok (.aload_n 0, 1) := by decide +kernel
theorem dL_law_358 : decode mL_law.2.1 358 = .ok (.iload 4, 2) := by decide +kernel
theorem dL_law_360 : decode mL_law.2.1 360 = .ok (.iconst 1, 1) := by decide +kernel
theorem dL_law_361 : decode mL_law.2.1 361 = .ok (.iadd, 1) := by decide +kernel
theorem dL_law_362 : decode mL_law.2.1 362 = .ok (.iaload, 1) := by decide +kernel
theorem dL_law_363 : decode mL_law.2.1 363 = .ok (.aload_n 0, 1) := by decide +kernel
theorem dL_law_364 : decode mL_law.2.1 364 = .ok (.iload 4, 2) := by decide +kernel
theorem dL_law_366 : decode mL_law.2.1 366 = .ok (.iconst 2, 1) := by decide +kernel
theorem dL_law_367 : decode mL_law.2.1 367 = .ok (.iadd, 1) := by decide +kernel
theorem dL_law_368 : decode mL_law.2.1 368 = .ok (.iaload, 1) := by decide +kernel
theorem dL_law_369 : decode mL_law.2.1 369 = .ok (.invokevirtual 38, 3) := by decide +kernel
theorem dL_law_372 : decode mL_law.2.1 372 = .ok (.aload_n 2, 1) := by decide +kernel
theorem dL_law_373 : decode mL_law.2.1 373 = .ok (.aload_n 0, 1) := by decide +kernel
theorem dL_law_374 : decode mL_law.2.1 374 = .ok (.iload 4, 2) := by decide +kernel
theorem dL_law_376 : decode mL_law.2.1 376 = .ok (.iconst 1, 1) := by decide +kernel
theorem dL_law_377 : decode mL_law.2.1 377 = .ok (.iadd, 1) := by decide +kernel
theorem dL_law_378 : decode mL_law.2.1 378 = .ok (.iaload, 1) := by decide +kernel
theorem dL_law_379 : decode mL_law.2.1 379 = .ok (.aload_n 0, 1) := by decide +kernel
theorem dL_law_380 : decode mL_law.2.1 380 = .ok (.iload 4, 2) := by decide +kernel
theorem dL_law_382 : decode mL_law.2.1 382 = .ok (.iconst 2, 1) := by decide +kernel
theorem dL_law_383 : decode mL_law.2.1 383 = .ok (.iadd, 1) := by decide +kernel
theorem dL_law_384 : decode mL_law.2.1 384 = .ok (.iaload, 1) := by decide +kernel
theorem dL_law_385 : decode mL_law.2.1 385 = .ok (.invokevirtual 41, 3) := by decide +kernel
theorem dL_law_388 : decode mL_law.2.1 388 = .ok (.if_icmp .eq 1169, 3) := by decide +kernel
theorem dL_law_391 : decode mL_law.2.1 391 = .ok (.iconst 0, 1) := by decide +kernel
theorem dL_law_392 : decode mL_law.2.1 392 = .ok (.ireturn, 1) := by decide +kernel
theorem dL_law_393 : decode mL_law.2.1 393 = .ok (.aload_n 1, 1) := by decide +kernel
theorem dL_law_394 : decode mL_law.2.1 394 = .ok (.aload_n 0, 1) := by decide +kernel
theorem dL_law_395 : decode mL_law.2.1 395 = .ok (.iload 4, 2) := by decide +kernel
theorem dL_law_397 : decode mL_law.2.1 397 = .ok (.iconst 1, 1) := by decide +kernel
theorem dL_law_398 : decode mL_law.2.1 398 = .ok (.iadd, 1) := by decide +kernel
theorem dL_law_399 : decode mL_law.2.1 399 = .ok (.iaload, 1) := by decide +kernel
theorem dL_law_400 : decode mL_law.2.1 400 = .ok (.aload_n 0, 1) := by decide +kernel
theorem dL_law_401 : decode mL_law.2.1 401 = .ok (.iload 4, 2) := by decide +kernel
theorem dL_law_403 : decode mL_law.2.1 403 = .ok (.iconst 2, 1) := by decide +kernel
theorem dL_law_404 : decode mL_law.2.1 404 = .ok (.iadd, 1) := by decide +kernel
theorem dL_law_405 : decode mL_law.2.1 405 = .ok (.iaload, 1) := by decide +kernel
theorem dL_law_406 : decode mL_law.2.1 406 = .ok (.aload_n 3, 1) := by decide +kernel
theorem dL_law_407 : decode mL_law.2.1 407 = .ok (.invokestatic 42, 3) := by decide +kernel
theorem dL_law_410 : decode mL_law.2.1 410 = .ok (.istore 5, 2) := by decide +kernel
theorem dL_law_412 : decode mL_law.2.1 412 = .ok (.aload_n 2, 1) := by decide +kernel
theorem dL_law_413 : decode mL_law.2.1 413 = .ok (.aload_n 0, 1) := by decide +kernel
theorem dL_law_414 : decode mL_law.2.1 414 = .ok (.iload 4, 2) := by decide +kernel
theorem dL_law_416 : decode mL_law.2.1 416 = .ok (.iconst 1, 1) := by decide +kernel
theorem dL_law_417 : decode mL_law.2.1 417 = .ok (.iadd, 1) := by decide +kernel
theorem dL_law_418 : decode mL_law.2.1 418 = .ok (.iaload, 1) := by decide +kernel
theorem dL_law_419 : decode mL_law.2.1 419 = .ok (.aload_n 0, 1) := by decide +kernel
theorem dL_law_420 : decode mL_law.2.1 420 = .ok (.iload 4, 2) := by decide +kernel
theorem dL_law_422 : decode mL_law.2.1 422 = .ok (.iconst 2, 1) := by decide +kernel
theorem dL_law_423 : decode mL_law.2.1 423 = .ok (.iadd, 1) := by decide +kernel
theorem dL_law_424 : decode mL_law.2.1 424 = .ok (.iaload, 1) := by decide +kernel
theorem dL_law_425 : decode mL_law.2.1 425 = .ok (.invokevirtual 47, 3) := by decide +kernel
theorem dL_law_428 : decode mL_law.2.1 428 = .ok (.istore 6, 2) := by decide +kernel
theorem dL_law_430 : decode mL_law.2.1 430 = .ok (.aload_n 2, 1) := by decide +kernel
theorem dL_law_431 : decode mL_law.2.1 431 = .ok (.invokevirtual 48, 3) := by decide +kernel
theorem dL_law_434 : decode mL_law.2.1 434 = .ok (.iload 5, 2) := by decide +kernel
theorem dL_law_436 : decode mL_law.2.1 436 = .ok (.if_icmp .eq 5, 3) := by decide +kernel
theorem dL_law_439 : decode mL_law.2.1 439 = .ok (.iconst 0, 1) := by decide +kernel
theorem dL_law_440 : decode mL_law.2.1 440 = .ok (.ireturn, 1) := by decide +kernel
theorem dL_law_441 : decode mL_law.2.1 441 = .ok (.iload 5, 2) := by decide +kernel
theorem dL_law_443 : decode mL_law.2.1 443 = .ok (.ifCond .ne 15, 3) := by decide +kernel
theorem dL_law_446 : decode mL_law.2.1 446 = .ok (.aload_n 3, 1) := by decide +kernel
theorem dL_law_447 : decode mL_law.2.1 447 = .ok (.iconst 0, 1) := by decide +kernel
theorem dL_law_448 : decode mL_law.2.1 448 = .ok (.laload, 1) := by decide +kernel
theorem dL_law_449 : decode mL_law.2.1 449 = .ok (.iload 6, 2) := by decide +kernel
theorem dL_law_451 : decode mL_law.2.1 451 = .ok (.i2l, 1) := by decide +kernel
theorem dL_law_452 : decode mL_law.2.1 452 = .ok (.lcmp, 1) := by decide +kernel
theorem dL_law_453 : decode mL_law.2.1 453 = .ok (.ifCond .eq 5, 3) := by decide +kernel
theorem dL_law_456 : decode mL_law.2.1 456 = .ok (.iconst 0, 1) := by decide +kernel
theorem dL_law_457 : decode mL_law.2.1 457 = .ok (.ireturn, 1) := by decide +kernel
theorem dL_law_458 : decode mL_law.2.1 458 = .ok (.goto 1099, 3) := by decide +kernel
theorem dL_law_461 : decode mL_law.2.1 461 = .ok (.aload_n 1, 1) := by decide +kernel
theorem dL_law_462 : decode mL_law.2.1 462 = .ok (.aload_n 0, 1) := by decide +kernel
theorem dL_law_463 : decode mL_law.2.1 463 = .ok (.iload 4, 2) := by decide +kernel
theorem dL_law_465 : decode mL_law.2.1 465 = .ok (.iconst 1, 1) := by decide +kernel
theorem dL_law_466 : decode mL_law.2.1 466 = .ok (.iadd, 1) := by decide +kernel
theorem dL_law_467 : decode mL_law.2.1 467 = .ok (.iaload, 1) := by decide +kernel
theorem dL_law_468 : decode mL_law.2.1 468 = .ok (.invokevirtual 52, 3) := by decide +kernel
theorem dL_law_471 : decode mL_law.2.1 471 = .ok (.aload_n 2, 1) := by decide +kernel
theorem dL_law_472 : decode mL_law.2.1 472 = .ok (.aload_n 0, 1) := by decide +kernel
theorem dL_law_473 : decode mL_law.2.1 473 = .ok (.iload 4, 2) := by decide +kernel
theorem dL_law_475 : decode mL_law.2.1 475 = .ok (.iconst 1, 1) := by decide +kernel
theorem dL_law_476 : decode mL_law.2.1 476 = .ok (.iadd, 1) := by decide +kernel
theorem dL_law_477 : decode mL_law.2.1 477 = .ok (.iaload, 1) := by decide +kernel
theorem dL_law_478 : decode mL_law.2.1 478 = .ok (.invokevirtual 55, 3) := by decide +kernel
theorem dL_law_481 : decode mL_law.2.1 481 = .ok (.if_icmp .eq 1076, 3) := by decide +kernel
theorem dL_law_484 : decode mL_law.2.1 484 = .ok (.iconst 0, 1) := by decide +kernel
theorem dL_law_485 : decode mL_law.2.1 485 = .ok (.ireturn, 1) := by decide +kernel
theorem dL_law_486 : decode mL_law.2.1 486 = .ok (.aload_n 1, 1) := by decide +kernel
theorem dL_law_487 : decode mL_law.2.1 487 = .ok (.aload_n 0, 1) := by decide +kernel
theorem dL_law_488 : decode mL_law.2.1 488 = .ok (.iload 4, 2) := by decide +kernel
theorem dL_law_490 : decode mL_law.2.1 490 = .ok (.iconst 1, 1) := by decide +kernel
theorem dL_law_491 : decode mL_law.2.1 491 = .ok (.iadd, 1) := by decide +kernel
theorem dL_law_492 : decode mL_law.2.1 492 = .ok (.iaload, 1) := by decide +kernel
theorem dL_law_493 : decode mL_law.2.1 493 = .ok (.invokevirtual 56, 3) := by decide +kernel
theorem dL_law_496 : decode mL_law.2.1 496 = .ok (.aload_n 2, 1) := by decide +kernel
theorem dL_law_497 : decode mL_law.2.1 497 = .ok (.aload_n 0, 1) := by decide +kernel
theorem dL_law_498 : decode mL_law.2.1 498 = .ok (.iload 4, 2) := by decide +kernel
theorem dL_law_500 : decode mL_law.2.1 500 = .ok (.iconst 1, 1) := by decide +kernel
theorem dL_law_501 : decode mL_law.2.1 501 = .ok (.iadd, 1) := by decide +kernel
theorem dL_law_502 : decode mL_law.2.1 502 = .ok (.iaload, 1) := by decide +kernel
theorem dL_law_503 : decode mL_law.2.1 503 = .ok (.invokevirtual 59, 3) := by decide +kernel
theorem dL_law_506 : decode mL_law.2.1 506 = .ok (.if_icmp .eq 1051, 3) := by decide +kernel
theorem dL_law_509 : decode mL_law.2.1 509 = .ok (.iconst 0, 1) := by decide +kernel
theorem dL_law_510 : decode mL_law.2.1 510 = .ok (.ireturn, 1) := by decide +kernel
theorem dL_law_511 : decode mL_law.2.1 511 = .ok (.aload_n 1, 1) := by decide +kernel
theorem dL_law_512 : decode mL_law.2.1 512 = .ok (.invokevirtual 60, 3) := by decide +kernel
theorem dL_law_515 : decode mL_law.2.1 515 = .ok (.aload_n 2, 1) := by decide +kernel
theorem dL_law_516 : decode mL_law.2.1 516 = .ok (.invokevirtual 63, 3) := by decide +kernel
theorem dL_law_519 : decode mL_law.2.1 519 = .ok (.if_icmp .eq 1038, 3) := by decide +kernel
theorem dL_law_522 : decode mL_law.2.1 522 = .ok (.iconst 0, 1) := by decide +kernel
theorem dL_law_523 : decode mL_law.2.1 523 = .ok (.ireturn, 1) := by decide +kernel
theorem dL_law_524 : decode mL_law.2.1 524 = .ok (.aload_n 1, 1) := by decide +kernel
theorem dL_law_525 : decode mL_law.2.1 525 = .ok (.aload_n 0, 1) := by decide +kernel
theorem dL_law_526 : decode mL_law.2.1 526 = .ok (.iload 4, 2) := by decide +kernel
theorem dL_law_528 : decode mL_law.2.1 528 = .ok (.iconst 1, 1) := by decide +kernel
