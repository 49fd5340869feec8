theorem dL_law_0 : decode cL_law 0 = .ok (.new 7, 3) := by decide +kernel
theorem dL_law_3 : decode cL_law 3 = .ok (.dup, 1) := by decide +kernel
theorem dL_law_4 : decode cL_law 4 = .ok (.invokespecial 9, 3) := by decide +kernel
theorem dL_law_7 : decode cL_law 7 = .ok (.astore_n 1, 1) := by decide +kernel
theorem dL_law_8 : decode cL_law 8 = .ok (.new 10, 3) := by decide +kernel
theorem dL_law_11 : decode cL_law 11 = .ok (.dup, 1) := by decide +kernel
theorem dL_law_12 : decode cL_law 12 = .ok (.invokespecial 12, 3) := by decide +kernel
theorem dL_law_15 : decode cL_law 15 = .ok (.astore_n 2, 1) := by decide +kernel
theorem dL_law_16 : decode cL_law 16 = .ok (.iconst 0, 1) := by decide +kernel
theorem dL_law_17 : decode cL_law 17 = .ok (.istore_n 3, 1) := by decide +kernel
theorem dL_law_18 : decode cL_law 18 = .ok (.iload_n 3, 1) := by decide +kernel
theorem dL_law_19 : decode cL_law 19 = .ok (.aload_n 0, 1) := by decide +kernel
theorem dL_law_20 : decode cL_law 20 = .ok (.arraylength, 1) := by decide +kernel
theorem dL_law_21 : decode cL_law 21 = .ok (.bipush 6, 2) := by decide +kernel
theorem dL_law_23 : decode cL_law 23 = .ok (.isub, 1) := by decide +kernel
theorem dL_law_24 : decode cL_law 24 = .ok (.if_icmp .gt 1384, 3) := by decide +kernel
theorem dL_law_27 : decode cL_law 27 = .ok (.aload_n 0, 1) := by decide +kernel
theorem dL_law_28 : decode cL_law 28 = .ok (.iload_n 3, 1) := by decide +kernel
theorem dL_law_29 : decode cL_law 29 = .ok (.iaload, 1) := by decide +kernel
theorem dL_law_30 : decode cL_law 30 = .ok (.bipush 63, 2) := by decide +kernel
theorem dL_law_32 : decode cL_law 32 = .ok (.iand, 1) := by decide +kernel
theorem dL_law_33 : decode cL_law 33 = .ok (.tableswitch 1369 0 42 #[187, 230, 263, 296, 309, 352, 385, 448, 471, 484, 497, 510, 523, 536, 549, 572, 595, 628, 651, 684, 697, 710, 764, 817, 860, 893, 937, 970, 993, 1016, 1049, 1082, 1095, 1108, 1131, 1144, 1178, 1221, 1254, 1287, 1310, 1333, 1356], 187) := by decide +kernel
theorem dL_law_220 : decode cL_law 220 = .ok (.aload_n 1, 1) := by decide +kernel
theorem dL_law_221 : decode cL_law 221 = .ok (.aload_n 0, 1) := by decide +kernel
theorem dL_law_222 : decode cL_law 222 = .ok (.iload_n 3, 1) := by decide +kernel
theorem dL_law_223 : decode cL_law 223 = .ok (.iconst 1, 1) := by decide +kernel
theorem dL_law_224 : decode cL_law 224 = .ok (.iadd, 1) := by decide +kernel
theorem dL_law_225 : decode cL_law 225 = .ok (.iaload, 1) := by decide +kernel
theorem dL_law_226 : decode cL_law 226 = .ok (.aload_n 0, 1) := by decide +kernel
theorem dL_law_227 : decode cL_law 227 = .ok (.iload_n 3, 1) := by decide +kernel
theorem dL_law_228 : decode cL_law 228 = .ok (.iconst 2, 1) := by decide +kernel
theorem dL_law_229 : decode cL_law 229 = .ok (.iadd, 1) := by decide +kernel
theorem dL_law_230 : decode cL_law 230 = .ok (.iaload, 1) := by decide +kernel
theorem dL_law_231 : decode cL_law 231 = .ok (.aload_n 0, 1) := by decide +kernel
theorem dL_law_232 : decode cL_law 232 = .ok (.iload_n 3, 1) := by decide +kernel
theorem dL_law_233 : decode cL_law 233 = .ok (.iconst 3, 1) := by decide +kernel
theorem dL_law_234 : decode cL_law 234 = .ok (.iadd, 1) := by decide +kernel
theorem dL_law_235 : decode cL_law 235 = .ok (.iaload, 1) := by decide +kernel
theorem dL_law_236 : decode cL_law 236 = .ok (.invokevirtual 13, 3) := by decide +kernel
theorem dL_law_239 : decode cL_law 239 = .ok (.aload_n 2, 1) := by decide +kernel
theorem dL_law_240 : decode cL_law 240 = .ok (.aload_n 0, 1) := by decide +kernel
theorem dL_law_241 : decode cL_law 241 = .ok (.iload_n 3, 1) := by decide +kernel
theorem dL_law_242 : decode cL_law 242 = .ok (.iconst 1, 1) := by decide +kernel
theorem dL_law_243 : decode cL_law 243 = .ok (.iadd, 1) := by decide +kernel
theorem dL_law_244 : decode cL_law 244 = .ok (.iaload, 1) := by decide +kernel
theorem dL_law_245 : decode cL_law 245 = .ok (.aload_n 0, 1) := by decide +kernel
theorem dL_law_246 : decode cL_law 246 = .ok (.iload_n 3, 1) := by decide +kernel
theorem dL_law_247 : decode cL_law 247 = .ok (.iconst 2, 1) := by decide +kernel
theorem dL_law_248 : decode cL_law 248 = .ok (.iadd, 1) := by decide +kernel
theorem dL_law_249 : decode cL_law 249 = .ok (.iaload, 1) := by decide +kernel
theorem dL_law_250 : decode cL_law 250 = .ok (.aload_n 0, 1) := by decide +kernel
theorem dL_law_251 : decode cL_law 251 = .ok (.iload_n 3, 1) := by decide +kernel
theorem dL_law_252 : decode cL_law 252 = .ok (.iconst 3, 1) := by decide +kernel
theorem dL_law_253 : decode cL_law 253 = .ok (.iadd, 1) := by decide +kernel
theorem dL_law_254 : decode cL_law 254 = .ok (.iaload, 1) := by decide +kernel
theorem dL_law_255 : decode cL_law 255 = .ok (.invokevirtual 17, 3) := by decide +kernel
theorem dL_law_258 : decode cL_law 258 = .ok (.if_icmp .eq 1144, 3) := by decide +kernel
theorem dL_law_261 : decode cL_law 261 = .ok (.iconst 0, 1) := by decide +kernel
theorem dL_law_262 : decode cL_law 262 = .ok (.ireturn, 1) := by decide +kernel
theorem dL_law_263 : decode cL_law 263 = .ok (.aload_n 1, 1) := by decide +kernel
theorem dL_law_264 : decode cL_law 264 = .ok (.aload_n 0, 1) := by decide +kernel
theorem dL_law_265 : decode cL_law 265 = .ok (.iload_n 3, 1) := by decide +kernel
theorem dL_law_266 : decode cL_law 266 = .ok (.iconst 1, 1) := by decide +kernel
theorem dL_law_267 : decode cL_law 267 = .ok (.iadd, 1) := by decide +kernel
theorem dL_law_268 : decode cL_law 268 = .ok (.iaload, 1) := by decide +kernel
theorem dL_law_269 : decode cL_law 269 = .ok (.aload_n 0, 1) := by decide +kernel
theorem dL_law_270 : decode cL_law 270 = .ok (.iload_n 3, 1) := by decide +kernel
theorem dL_law_271 : decode cL_law 271 = .ok (.iconst 2, 1) := by decide +kernel
theorem dL_law_272 : decode cL_law 272 = .ok (.iadd, 1) := by decide +kernel
theorem dL_law_273 : decode cL_law 273 = .ok (.iaload, 1) := by decide +kernel
theorem dL_law_274 : decode cL_law 274 = .ok (.invokevirtual 18, 3) := by decide +kernel
theorem dL_law_277 : decode cL_law 277 = .ok (.aload_n 2, 1) := by decide +kernel
theorem dL_law_278 : decode cL_law 278 = .ok (.aload_n 0, 1) := by decide +kernel
theorem dL_law_279 : decode cL_law 279 = .ok (.iload_n 3, 1) := by decide +kernel
theorem dL_law_280 : decode cL_law 280 = .ok (.iconst 1, 1) := by decide +kernel
theorem dL_law_281 : decode cL_law 281 = .ok (.iadd, 1) := by decide +kernel
theorem dL_law_282 : decode cL_law 282 = .ok (.iaload, 1) := by decide +kernel
theorem dL_law_283 : decode cL_law 283 = .ok (.aload_n 0, 1) := by decide +kernel
theorem dL_law_284 : decode cL_law 284 = .ok (.iload_n 3, 1) := by decide +kernel
theorem dL_law_285 : decode cL_law 285 = .ok (.iconst 2, 1) := by decide +kernel
theorem dL_law_286 : decode cL_law 286 = .ok (.iadd, 1) := by decide +kernel
theorem dL_law_287 : decode cL_law 287 = .ok (.iaload, 1) := by decide +kernel
theorem dL_law_288 : decode cL_law 288 = .ok (.invokevirtual 22, 3) := by decide +kernel
theorem dL_law_291 : decode cL_law 291 = .ok (.if_icmp .eq 1111, 3) := by decide +kernel
theorem dL_law_294 : decode cL_law 294 = .ok (.iconst 0, 1) := by decide +kernel
theorem dL_law_295 : decode cL_law 295 = .ok (.ireturn, 1) := by decide +kernel
theorem dL_law_296 : decode cL_law 296 = .ok (.aload_n 1, 1) := by decide +kernel
theorem dL_law_297 : decode cL_law 297 = .ok (.aload_n 0, 1) := by decide +kernel
theorem dL_law_298 : decode cL_law 298 = .ok (.iload_n 3, 1) := by decide +kernel
theorem dL_law_299 : decode cL_law 299 = .ok (.iconst 1, 1) := by decide +kernel
theorem dL_law_300 : decode cL_law 300 = .ok (.iadd, 1) := by decide +kernel
theorem dL_law_301 : decode cL_law 301 = .ok (.iaload, 1) := by decide +kernel
theorem dL_law_302 : decode cL_law 302 = .ok (.aload_n 0, 1) := by decide +kernel
theorem dL_law_303 : decode cL_law 303 = .ok (.iload_n 3, 1) := by decide +kernel
theorem dL_law_304 : decode cL_law 304 = .ok (.iconst 2, 1) := by decide +kernel
theorem dL_law_305 : decode cL_law 305 = .ok (.iadd, 1) := by decide +kernel
theorem dL_law_306 : decode cL_law 306 = .ok (.iaload, 1) := by decide +kernel
theorem dL_law_307 : decode cL_law 307 = .ok (.invokevirtual 23, 3) := by decide +kernel
theorem dL_law_310 : decode cL_law 310 = .ok (.aload_n 2, 1) := by decide +kernel
theorem dL_law_311 : decode cL_law 311 = .ok (.aload_n 0, 1) := by decide +kernel
theorem dL_law_312 : decode cL_law 312 = .ok (.iload_n 3, 1) := by decide +kernel
theorem dL_law_313 : decode cL_law 313 = .ok (.iconst 1, 1) := by decide +kernel
theorem dL_law_314 : decode cL_law 314 = .ok (.iadd, 1) := by decide +kernel
theorem dL_law_315 : decode cL_law 315 = .ok (.iaload, 1) := by decide +kernel
theorem dL_law_316 : decode cL_law 316 = .ok (.aload_n 0, 1) := by decide +kernel
theorem dL_law_317 : decode cL_law 317 = .ok (.iload_n 3, 1) := by decide +kernel
theorem dL_law_318 : decode cL_law 318 = .ok (.iconst 2, 1) := by decide +kernel
theorem dL_law_319 : decode cL_law 319 = .ok (.iadd, 1) := by decide +kernel
theorem dL_law_320 : decode cL_law 320 = .ok (.iaload, 1) := by decide +kernel
theorem dL_law_321 : decode cL_law 321 = .ok (.invokevirtual 26, 3) := by decide +kernel
theorem dL_law_324 : decode cL_law 324 = .ok (.if_icmp .eq 1078, 3) := by decide +kernel
theorem dL_law_327 : decode cL_law 327 = .ok (.iconst 0, 1) := by decide +kernel
theorem dL_law_328 : decode cL_law 328 = .ok (.ireturn, 1) := by decide +kernel
theorem dL_law_329 : decode cL_law 329 = .ok (.aload_n 1, 1) := by decide +kernel
theorem dL_law_330 : decode cL_law 330 = .ok (.invokevirtual 27, 3) := by decide +kernel
theorem dL_law_333 : decode cL_law 333 = .ok (.aload_n 2, 1) := by decide +kernel
theorem dL_law_334 : decode cL_law 334 = .ok (.invokevirtual 31, 3) := by decide +kernel
theorem dL_law_337 : decode cL_law 337 = .ok (.if_icmp .eq 1065, 3) := by decide +kernel
theorem dL_law_340 : decode cL_law 340 = .ok (.iconst 0, 1) := by decide +kernel
theorem dL_law_341 : decode cL_law 341 = .ok (.ireturn, 1) := by decide +kernel
theorem dL_law_342 : decode cL_law 342 = .ok (.aload_n 1, 1) := by decide +kernel
theorem dL_law_343 : decode cL_law 343 = .ok (.aload_n 0, 1) := by decide +kernel
theorem dL_law_344 : decode cL_law 344 = .ok (.iload_n 3, 1) := by decide +kernel
theorem dL_law_345 : decode cL_law 345 = .ok (.iconst 1, 1) := by decide +kernel
theorem dL_law_346 : decode cL_law 346 = .ok (.iadd, 1) := by decide +kernel
theorem dL_law_347 : decode cL_law 347 = .ok (.iaload, 1) := by decide +kernel
theorem dL_law_348 : decode cL_law 348 = .ok (.aload_n 0, 1) := by decide +kernel
theorem dL_law_349 : decode cL_law 349 = .ok (.iload_n 3, 1) := by decide +kernel
theorem dL_law_350 : decode cL_law 350 = .ok (.iconst 2, 1) := by decide +kernel
theorem dL_law_351 : decode cL_law 351 = .ok (.iadd, 1) := by decide +kernel
theorem dL_law_352 : decode cL_law 352 = .ok (.iaload, 1) := by decide +kernel
theorem dL_law_353 : decode cL_law 353 = .ok (.aload_n 0, 1) := by decide +kernel
theorem dL_law_354 : decode cL_law 354 = .ok (.iload_n 3, 1) := by decide +kernel
theorem dL_law_355 : decode cL_law 355 = .ok (.iconst 3, 1) := by decide +kernel
theorem dL_law_356 : decode cL_law 356 = .ok (.iadd, 1) := by decide +kernel
theorem dL_law_357 : decode cL_law 357 = .ok (.iaload, 1) := by decide +kernel
theorem dL_law_358 : decode cL_law 358 = .ok (.invokevirtual 32, 3) := by decide +kernel
theorem dL_law_361 : decode cL_law 361 = .ok (.aload_n 2, 1) := by decide +kernel
theorem dL_law_362 : decode cL_law 362 = .ok (.aload_n 0, 1) := by decide +kernel
theorem dL_law_363 : decode cL_law 363 = .ok (.iload_n 3, 1) := by decide +kernel
theorem dL_law_364 : decode cL_law 364 = .ok (.iconst 1, 1) := by decide +kernel
theorem dL_law_365 : decode cL_law 365 = .ok (.iadd, 1) := by decide +kernel
theorem dL_law_366 : decode cL_law 366 = .ok (.iaload, 1) := by decide +kernel
theorem dL_law_367 : decode cL_law 367 = .ok (.aload_n 0, 1) := by decide +kernel
theorem dL_law_368 : decode cL_law 368 = .ok (.iload_n 3, 1) := by decide +kernel
theorem dL_law_369 : decode cL_law 369 = .ok (.iconst 2, 1) := by decide +kernel
theorem dL_law_370 : decode cL_law 370 = .ok (.iadd, 1) := by decide +kernel
theorem dL_law_371 : decode cL_law 371 = .ok (.iaload, 1) := by decide +kernel
theorem dL_law_372 : decode cL_law 372 = .ok (.aload_n 0, 1) := by decide +kernel
theorem dL_law_373 : decode cL_law 373 = .ok (.iload_n 3, 1) := by decide +kernel
theorem dL_law_374 : decode cL_law 374 = .ok (.iconst 3, 1) := by decide +kernel
theorem dL_law_375 : decode cL_law 375 = .ok (.iadd, 1) := by decide +kernel
theorem dL_law_376 : decode cL_law 376 = .ok (.iaload, 1) := by decide +kernel
theorem dL_law_377 : decode cL_law 377 = .ok (.invokevirtual 35, 3) := by decide +kernel
theorem dL_law_380 : decode cL_law 380 = .ok (.if_icmp .eq 1022, 3) := by decide +kernel
theorem dL_law_383 : decode cL_law 383 = .ok (.iconst 0, 1) := by decide +kernel
theorem dL_law_384 : decode cL_law 384 = .ok (.ireturn, 1) := by decide +kernel
theorem dL_law_385 : decode cL_law 385 = .ok (.aload_n 1, 1) := by decide +kernel
theorem dL_law_386 : decode cL_law 386 = .ok (.aload_n 0, 1) := by decide +kernel
theorem dL_law_387 : decode cL_law 387 = .ok (.iload_n 3, 1) := by decide +kernel
theorem dL_law_388 : decode cL_law 388 = .ok (.iconst 1, 1) := by decide +kernel
theorem dL_law_389 : decode cL_law 389 = .ok (.iadd, 1) := by decide +kernel
theorem dL_law_390 : decode cL_law 390 = .ok (.iaload, 1) := by decide +kernel
theorem dL_law_391 : decode cL_law 391 = .ok (.aload_n 0, 1) := by decide +kernel
theorem dL_law_392 : decode cL_law 392 = .ok (.iload_n 3, 1) := by decide +kernel
theorem dL_law_393 : decode cL_law 393 = .ok (.iconst 2, 1) := by decide +kernel
theorem dL_law_394 : decode cL_law 394 = .ok (.iadd, 1) := by decide +kernel
theorem dL_law_395 : decode cL_law 395 = .ok (.iaload, 1) := by decide +kernel
theorem dL_law_396 : decode cL_law 396 = .ok (.invokevirtual 36, 3) := by decide +kernel
theorem dL_law_399 : decode cL_law 399 = .ok (.aload_n 2, 1) := by decide +kernel
theorem dL_law_400 : decode cL_law 400 = .ok (.aload_n 0, 1) := by decide +kernel
theorem dL_law_401 : decode cL_law 401 = .ok (.iload_n 3, 1) := by decide +kernel
theorem dL_law_402 : decode cL_law 402 = .ok (.iconst 1, 1) := by decide +kernel
theorem dL_law_403 : decode cL_law 403 = .ok (.iadd, 1) := by decide +kernel
theorem dL_law_404 : decode cL_law 404 = .ok (.iaload, 1) := by decide +kernel
theorem dL_law_405 : decode cL_law 405 = .ok (.aload_n 0, 1) := by decide +kernel
theorem dL_law_406 : decode cL_law 406 = .ok (.iload_n 3, 1) := by decide +kernel
theorem dL_law_407 : decode cL_law 407 = .ok (.iconst 2, 1) := by decide +kernel
theorem dL_law_408 : decode cL_law 408 = .ok (.iadd, 1) := by decide +kernel
theorem dL_law_409 : decode cL_law 409 = .ok (.iaload, 1) := by decide +kernel
theorem dL_law_410 : decode cL_law 410 = .ok (.invokevirtual 39, 3) := by decide +kernel
theorem dL_law_413 : decode cL_law 413 = .ok (.if_icmp .eq 989, 3) := by decide +kernel
theorem dL_law_416 : decode cL_law 416 = .ok (.iconst 0, 1) := by decide +kernel
theorem dL_law_417 : decode cL_law 417 = .ok (.ireturn, 1) := by decide +kernel
theorem dL_law_418 : decode cL_law 418 = .ok (.aload_n 1, 1) := by decide +kernel
theorem dL_law_419 : decode cL_law 419 = .ok (.aload_n 0, 1) := by decide +kernel
theorem dL_law_420 : decode cL_law 420 = .ok (.iload_n 3, 1) := by decide +kernel
theorem dL_law_421 : decode cL_law 421 = .ok (.iconst 1, 1) := by decide +kernel
theorem dL_law_422 : decode cL_law 422 = .ok (.iadd, 1) := by decide +kernel
theorem dL_law_423 : decode cL_law 423 = .ok (.iaload, 1) := by decide +kernel
theorem dL_law_424 : decode cL_law 424 = .ok (.aload_n 0, 1) := by decide +kernel
theorem dL_law_425 : decode cL_law 425 = .ok (.iload_n 3, 1) := by decide +kernel
theorem dL_law_426 : decode cL_law 426 = .ok (.iconst 2, 1) := by decide +kernel
theorem dL_law_427 : decode cL_law 427 = .ok (.iadd, 1) := by decide +kernel
theorem dL_law_428 : decode cL_law 428 = .ok (.iaload, 1) := by decide +kernel
theorem dL_law_429 : decode cL_law 429 = .ok (.aload_n 0, 1) := by decide +kernel
theorem dL_law_430 : decode cL_law 430 = .ok (.iload_n 3, 1) := by decide +kernel
theorem dL_law_431 : decode cL_law 431 = .ok (.iconst 3, 1) := by decide +kernel
theorem dL_law_432 : decode cL_law 432 = .ok (.iadd, 1) := by decide +kernel
theorem dL_law_433 : decode cL_law 433 = .ok (.iaload, 1) := by decide +kernel
theorem dL_law_434 : decode cL_law 434 = .ok (.aload_n 0, 1) := by decide +kernel
theorem dL_law_435 : decode cL_law 435 = .ok (.iload_n 3, 1) := by decide +kernel
theorem dL_law_436 : decode cL_law 436 = .ok (.iconst 4, 1) := by decide +kernel
theorem dL_law_437 : decode cL_law 437 = .ok (.iadd, 1) := by decide +kernel
theorem dL_law_438 : decode cL_law 438 = .ok (.iaload, 1) := by decide +kernel
theorem dL_law_439 : decode cL_law 439 = .ok (.aload_n 0, 1) := by decide +kernel
theorem dL_law_440 : decode cL_law 440 = .ok (.iload_n 3, 1) := by decide +kernel
theorem dL_law_441 : decode cL_law 441 = .ok (.iconst 5, 1) := by decide +kernel
theorem dL_law_442 : decode cL_law 442 = .ok (.iadd, 1) := by decide +kernel
theorem dL_law_443 : decode cL_law 443 = .ok (.iaload, 1) := by decide +kernel
theorem dL_law_444 : decode cL_law 444 = .ok (.invokevirtual 40, 3) := by decide +kernel
theorem dL_law_447 : decode cL_law 447 = .ok (.aload_n 2, 1) := by decide +kernel
theorem dL_law_448 : decode cL_law 448 = .ok (.aload_n 0, 1) := by decide +kernel
theorem dL_law_449 : decode cL_law 449 = .ok (.iload_n 3, 1) := by decide +kernel
theorem dL_law_450 : decode cL_law 450 = .ok (.iconst 1, 1) := by decide +kernel
theorem dL_law_451 : decode cL_law 451 = .ok (.iadd, 1) := by decide +kernel
theorem dL_law_452 : decode cL_law 452 = .ok (.iaload, 1) := by decide +kernel
theorem dL_law_453 : decode cL_law 453 = .ok (.aload_n 0, 1) := by decide +kernel
theorem dL_law_454 : decode cL_law 454 = .ok (.iload_n 3, 1) := by decide +kernel
theorem dL_law_455 : decode cL_law 455 = .ok (.iconst 2, 1) := by decide +kernel
theorem dL_law_456 : decode cL_law 456 = .ok (.iadd, 1) := by decide +kernel
theorem dL_law_457 : decode cL_law 457 = .ok (.iaload, 1) := by decide +kernel
theorem dL_law_458 : decode cL_law 458 = .ok (.aload_n 0, 1) := by decide +kernel
theorem dL_law_459 : decode cL_law 459 = .ok (.iload_n 3, 1) := by decide +kernel
theorem dL_law_460 : decode cL_law 460 = .ok (.iconst 3, 1) := by decide +kernel
theorem dL_law_461 : decode cL_law 461 = .ok (.iadd, 1) := by decide +kernel
theorem dL_law_462 : decode cL_law 462 = .ok (.iaload, 1) := by decide +kernel
theorem dL_law_463 : decode cL_law 463 = .ok (.aload_n 0, 1) := by decide +kernel
theorem dL_law_464 : decode cL_law 464 = .ok (.iload_n 3, 1) := by decide +kernel
theorem dL_law_465 : decode cL_law 465 = .ok (.iconst 4, 1) := by decide +kernel
theorem dL_law_466 : decode cL_law 466 = .ok (.iadd, 1) := by decide +kernel
theorem dL_law_467 : decode cL_law 467 = .ok (.iaload, 1) := by decide +kernel
theorem dL_law_468 : decode cL_law 468 = .ok (.aload_n 0, 1) := by decide +kernel
theorem dL_law_469 : decode cL_law 469 = .ok (.iload_n 3, 1) := by decide +kernel
theorem dL_law_470 : decode cL_law 470 = .ok (.iconst 5, 1) := by decide +kernel
theorem dL_law_471 : decode cL_law 471 = .ok (.iadd, 1) := by decide +kernel
theorem dL_law_472 : decode cL_law 472 = .ok (.iaload, 1) := by decide +kernel
theorem dL_law_473 : decode cL_law 473 = .ok (.invokevirtual 44, 3) := by decide +kernel
theorem dL_law_476 : decode cL_law 476 = .ok (.if_icmp .eq 926, 3) := by decide +kernel
theorem dL_law_479 : decode cL_law 479 = .ok (.iconst 0, 1) := by decide +kernel
theorem dL_law_480 : decode cL_law 480 = .ok (.ireturn, 1) := by decide +kernel
theorem dL_law_481 : decode cL_law 481 = .ok (.aload_n 1, 1) := by decide +kernel
theorem dL_law_482 : decode cL_law 482 = .ok (.aload_n 0, 1) := by decide +kernel
theorem dL_law_483 : decode cL_law 483 = .ok (.iload_n 3, 1) := by decide +kernel
theorem dL_law_484 : decode cL_law 484 = .ok (.iconst 1, 1) := by decide +kernel
theorem dL_law_485 : decode cL_law 485 = .ok (.iadd, 1) := by decide +kernel
theorem dL_law_486 : decode cL_law 486 = .ok (.iaload, 1) := by decide +kernel
theorem dL_law_487 : decode cL_law 487 = .ok (.invokevirtual 45, 3) := by decide +kernel
theorem dL_law_490 : decode cL_law 490 = .ok (.aload_n 2, 1) := by decide +kernel
theorem dL_law_491 : decode cL_law 491 = .ok (.aload_n 0, 1) := by decide +kernel
theorem dL_law_492 : decode cL_law 492 = .ok (.iload_n 3, 1) := by decide +kernel
theorem dL_law_493 : decode cL_law 493 = .ok (.iconst 1, 1) := by decide +kernel
theorem dL_law_494 : decode cL_law 494 = .ok (.iadd, 1) := by decide +kernel
theorem dL_law_495 : decode cL_law 495 = .ok (.iaload, 1) := by decide +kernel
theorem dL_law_496 : decode cL_law 496 = .ok (.invokevirtual 49, 3) := by decide +kernel
theorem dL_law_499 : decode cL_law 499 = .ok (.if_icmp .eq 903, 3) := by decide +kernel
theorem dL_law_502 : decode cL_law 502 = .ok (.iconst 0, 1) := by decide +kernel
theorem dL_law_503 : decode cL_law 503 = .ok (.ireturn, 1) := by decide +kernel
theorem dL_law_504 : decode cL_law 504 = .ok (.aload_n 1, 1) := by decide +kernel
theorem dL_law_505 : decode cL_law 505 = .ok (.invokevirtual 50, 3) := by decide +kernel
theorem dL_law_508 : decode cL_law 508 = .ok (.aload_n 2, 1) := by decide +kernel
theorem dL_law_509 : decode cL_law 509 = .ok (.invokevirtual 53, 3) := by decide +kernel
theorem dL_law_512 : decode cL_law 512 = .ok (.if_icmp .eq 890, 3) := by decide +kernel
theorem dL_law_515 : decode cL_law 515 = .ok (.iconst 0, 1) := by decide +kernel
theorem dL_law_516 : decode cL_law 516 = .ok (.ireturn, 1) := by decide +kernel
theorem dL_law_517 : decode cL_law 517 = .ok (.aload_n 1, 1) := by decide +kernel
theorem dL_law_518 : decode cL_law 518 = .ok (.invokevirtual 54, 3) := by decide +kernel
theorem dL_law_521 : decode cL_law 521 = .ok (.aload_n 2, 1) := by decide +kernel
theorem dL_law_522 : decode cL_law 522 = .ok (.invokevirtual 57, 3) := by decide +kernel
theorem dL_law_525 : decode cL_law 525 = .ok (.if_icmp .eq 877, 3) := by decide +kernel
theorem dL_law_528 : decode cL_law 528 = .ok (.iconst 0, 1) := by decide +kernel
theorem dL_law_529 : decode cL_law 529 = .ok (.ireturn, 1) := by decide +kernel
theorem dL_law_530 : decode cL_law 530 = .ok (.aload_n 1, 1) := by decide +kernel
theorem dL_law_531 : decode cL_law 531 = .ok (.invokevirtual 58, 3) := by decide +kernel
theorem dL_law_534 : decode cL_law 534 = .ok (.aload_n 2, 1) := by decide +kernel
theorem dL_law_535 : decode cL_law 535 = .ok (.invokevirtual 61, 3) := by decide +kernel
theorem dL_law_538 : decode cL_law 538 = .ok (.if_icmp .eq 864, 3) := by decide +kernel
theorem dL_law_541 : decode cL_law 541 = .ok (.iconst 0, 1) := by decide +kernel
theorem dL_law_542 : decode cL_law 542 = .ok (.ireturn, 1) := by decide +kernel
theorem dL_law_543 : decode cL_law 543 = .ok (.aload_n 1, 1) := by decide +kernel
theorem dL_law_544 : decode cL_law 544 = .ok (.invokevirtual 62, 3) := by decide +kernel
theorem dL_law_547 : decode cL_law 547 = .ok (.aload_n 2, 1) := by decide +kernel
theorem dL_law_548 : decode cL_law 548 = .ok (.invokevirtual 65, 3) := by decide +kernel
theorem dL_law_551 : decode cL_law 551 = .ok (.if_icmp .eq 851, 3) := by decide +kernel
theorem dL_law_554 : decode cL_law 554 = .ok (.iconst 0, 1) := by decide +kernel
theorem dL_law_555 : decode cL_law 555 = .ok (.ireturn, 1) := by decide +kernel
theorem dL_law_556 : decode cL_law 556 = .ok (.aload_n 1, 1) := by decide +kernel
theorem dL_law_557 : decode cL_law 557 = .ok (.invokevirtual 66, 3) := by decide +kernel
theorem dL_law_560 : decode cL_law 560 = .ok (.aload_n 2, 1) := by decide +kernel
theorem dL_law_561 : decode cL_law 561 = .ok (.invokevirtual 69, 3) := by decide +kernel
theorem dL_law_564 : decode cL_law 564 = .ok (.if_icmp .eq 838, 3) := by decide +kernel
theorem dL_law_567 : decode cL_law 567 = .ok (.iconst 0, 1) := by decide +kernel
theorem dL_law_568 : decode cL_law 568 = .ok (.ireturn, 1) := by decide +kernel
theorem dL_law_569 : decode cL_law 569 = .ok (.aload_n 1, 1) := by decide +kernel
theorem dL_law_570 : decode cL_law 570 = .ok (.invokevirtual 70, 3) := by decide +kernel
theorem dL_law_573 : decode cL_law 573 = .ok (.aload_n 2, 1) := by decide +kernel
theorem dL_law_574 : decode cL_law 574 = .ok (.invokevirtual 73, 3) := by decide +kernel
theorem dL_law_577 : decode cL_law 577 = .ok (.if_icmp .eq 825, 3) := by decide +kernel
theorem dL_law_580 : decode cL_law 580 = .ok (.iconst 0, 1) := by decide +kernel
theorem dL_law_581 : decode cL_law 581 = .ok (.ireturn, 1) := by decide +kernel
theorem dL_law_582 : decode cL_law 582 = .ok (.aload_n 1, 1) := by decide +kernel
theorem dL_law_583 : decode cL_law 583 = .ok (.aload_n 0, 1) := by decide +kernel
theorem dL_law_584 : decode cL_law 584 = .ok (.iload_n 3, 1) := by decide +kernel
theorem dL_law_585 : decode cL_law 585 = .ok (.iconst 1, 1) := by decide +kernel
theorem dL_law_586 : decode cL_law 586 = .ok (.iadd, 1) := by decide +kernel
theorem dL_law_587 : decode cL_law 587 = .ok (.iaload, 1) := by decide +kernel
theorem dL_law_588 : decode cL_law 588 = .ok (.invokevirtual 74, 3) := by decide +kernel
theorem dL_law_591 : decode cL_law 591 = .ok (.aload_n 2, 1) := by decide +kernel
theorem dL_law_592 : decode cL_law 592 = .ok (.aload_n 0, 1) := by decide +kernel
theorem dL_law_593 : decode cL_law 593 = .ok (.iload_n 3, 1) := by decide +kernel
theorem dL_law_594 : decode cL_law 594 = .ok (.iconst 1, 1) := by decide +kernel
theorem dL_law_595 : decode cL_law 595 = .ok (.iadd, 1) := by decide +kernel
theorem dL_law_596 : decode cL_law 596 = .ok (.iaload, 1) := by decide +kernel
theorem dL_law_597 : decode cL_law 597 = .ok (.invokevirtual 77, 3) := by decide +kernel
theorem dL_law_600 : decode cL_law 600 = .ok (.if_icmp .eq 802, 3) := by decide +kernel
theorem dL_law_603 : decode cL_law 603 = .ok (.iconst 0, 1) := by decide +kernel
theorem dL_law_604 : decode cL_law 604 = .ok (.ireturn, 1) := by decide +kernel
theorem dL_law_605 : decode cL_law 605 = .ok (.aload_n 1, 1) := by decide +kernel
theorem dL_law_606 : decode cL_law 606 = .ok (.aload_n 0, 1) := by decide +kernel
theorem dL_law_607 : decode cL_law 607 = .ok (.iload_n 3, 1) := by decide +kernel
theorem dL_law_608 : decode cL_law 608 = .ok (.iconst 1, 1) := by decide +kernel
theorem dL_law_609 : decode cL_law 609 = .ok (.iadd, 1) := by decide +kernel
theorem dL_law_610 : decode cL_law 610 = .ok (.iaload, 1) := by decide +kernel
theorem dL_law_611 : decode cL_law 611 = .ok (.invokevirtual 78, 3) := by decide +kernel
theorem dL_law_614 : decode cL_law 614 = .ok (.aload_n 2, 1) := by decide +kernel
theorem dL_law_615 : decode cL_law 615 = .ok (.aload_n 0, 1) := by decide +kernel
theorem dL_law_616 : decode cL_law 616 = .ok (.iload_n 3, 1) := by decide +kernel
theorem dL_law_617 : decode cL_law 617 = .ok (.iconst 1, 1) := by decide +kernel
theorem dL_law_618 : decode cL_law 618 = .ok (.iadd, 1) := by decide +kernel
theorem dL_law_619 : decode cL_law 619 = .ok (.iaload, 1) := by decide +kernel
theorem dL_law_620 : decode cL_law 620 = .ok (.invokevirtual 81, 3) := by decide +kernel
theorem dL_law_623 : decode cL_law 623 = .ok (.if_icmp .eq 779, 3) := by decide +kernel
theorem dL_law_626 : decode cL_law 626 = .ok (.iconst 0, 1) := by decide +kernel
theorem dL_law_627 : decode cL_law 627 = .ok (.ireturn, 1) := by decide +kernel
theorem dL_law_628 : decode cL_law 628 = .ok (.aload_n 1, 1) := by decide +kernel
theorem dL_law_629 : decode cL_law 629 = .ok (.aload_n 0, 1) := by decide +kernel
theorem dL_law_630 : decode cL_law 630 = .ok (.iload_n 3, 1) := by decide +kernel
theorem dL_law_631 : decode cL_law 631 = .ok (.iconst 1, 1) := by decide +kernel
theorem dL_law_632 : decode cL_law 632 = .ok (.iadd, 1) := by decide +kernel
theorem dL_law_633 : decode cL_law 633 = .ok (.iaload, 1) := by decide +kernel
theorem dL_law_634 : decode cL_law 634 = .ok (.aload_n 0, 1) := by decide +kernel
theorem dL_law_635 : decode cL_law 635 = .ok (.iload_n 3, 1) := by decide +kernel
theorem dL_law_636 : decode cL_law 636 = .ok (.iconst 2, 1) := by decide +kernel
theorem dL_law_637 : decode cL_law 637 = .ok (.iadd, 1) := by decide +kernel
theorem dL_law_638 : decode cL_law 638 = .ok (.iaload, 1) := by decide +kernel
theorem dL_law_639 : decode cL_law 639 = .ok (.invokevirtual 82, 3) := by decide +kernel
theorem dL_law_642 : decode cL_law 642 = .ok (.aload_n 2, 1) := by decide +kernel
theorem dL_law_643 : decode cL_law 643 = .ok (.aload_n 0, 1) := by decide +kernel
theorem dL_law_644 : decode cL_law 644 = .ok (.iload_n 3, 1) := by decide +kernel
theorem dL_law_645 : decode cL_law 645 = .ok (.iconst 1, 1) := by decide +kernel
theorem dL_law_646 : decode cL_law 646 = .ok (.iadd, 1) := by decide +kernel
theorem dL_law_647 : decode cL_law 647 = .ok (.iaload, 1) := by decide +kernel
theorem dL_law_648 : decode cL_law 648 = .ok (.aload_n 0, 1) := by decide +kernel
theorem dL_law_649 : decode cL_law 649 = .ok (.iload_n 3, 1) := by decide +kernel
theorem dL_law_650 : decode cL_law 650 = .ok (.iconst 2, 1) := by decide +kernel
theorem dL_law_651 : decode cL_law 651 = .ok (.iadd, 1) := by decide +kernel
theorem dL_law_652 : decode cL_law 652 = .ok (.iaload, 1) := by decide +kernel
theorem dL_law_653 : decode cL_law 653 = .ok (.invokevirtual 85, 3) := by decide +kernel
theorem dL_law_656 : decode cL_law 656 = .ok (.if_icmp .eq 746, 3) := by decide +kernel
theorem dL_law_659 : decode cL_law 659 = .ok (.iconst 0, 1) := by decide +kernel
theorem dL_law_660 : decode cL_law 660 = .ok (.ireturn, 1) := by decide +kernel
theorem dL_law_661 : decode cL_law 661 = .ok (.aload_n 1, 1) := by decide +kernel
theorem dL_law_662 : decode cL_law 662 = .ok (.aload_n 0, 1) := by decide +kernel
theorem dL_law_663 : decode cL_law 663 = .ok (.iload_n 3, 1) := by decide +kernel
theorem dL_law_664 : decode cL_law 664 = .ok (.iconst 1, 1) := by decide +kernel
theorem dL_law_665 : decode cL_law 665 = .ok (.iadd, 1) := by decide +kernel
theorem dL_law_666 : decode cL_law 666 = .ok (.iaload, 1) := by decide +kernel
theorem dL_law_667 : decode cL_law 667 = .ok (.invokevirtual 86, 3) := by decide +kernel
theorem dL_law_670 : decode cL_law 670 = .ok (.aload_n 2, 1) := by decide +kernel
theorem dL_law_671 : decode cL_law 671 = .ok (.aload_n 0, 1) := by decide +kernel
theorem dL_law_672 : decode cL_law 672 = .ok (.iload_n 3, 1) := by decide +kernel
theorem dL_law_673 : decode cL_law 673 = .ok (.iconst 1, 1) := by decide +kernel
theorem dL_law_674 : decode cL_law 674 = .ok (.iadd, 1) := by decide +kernel
theorem dL_law_675 : decode cL_law 675 = .ok (.iaload, 1) := by decide +kernel
theorem dL_law_676 : decode cL_law 676 = .ok (.invokevirtual 89, 3) := by decide +kernel
theorem dL_law_679 : decode cL_law 679 = .ok (.if_icmp .eq 723, 3) := by decide +kernel
theorem dL_law_682 : decode cL_law 682 = .ok (.iconst 0, 1) := by decide +kernel
theorem dL_law_683 : decode cL_law 683 = .ok (.ireturn, 1) := by decide +kernel
theorem dL_law_684 : decode cL_law 684 = .ok (.aload_n 1, 1) := by decide +kernel
theorem dL_law_685 : decode cL_law 685 = .ok (.aload_n 0, 1) := by decide +kernel
theorem dL_law_686 : decode cL_law 686 = .ok (.iload_n 3, 1) := by decide +kernel
theorem dL_law_687 : decode cL_law 687 = .ok (.iconst 1, 1) := by decide +kernel
theorem dL_law_688 : decode cL_law 688 = .ok (.iadd, 1) := by decide +kernel
theorem dL_law_689 : decode cL_law 689 = .ok (.iaload, 1) := by decide +kernel
theorem dL_law_690 : decode cL_law 690 = .ok (.aload_n 0, 1) := by decide +kernel
theorem dL_law_691 : decode cL_law 691 = .ok (.iload_n 3, 1) := by decide +kernel
theorem dL_law_692 : decode cL_law 692 = .ok (.iconst 2, 1) := by decide +kernel
theorem dL_law_693 : decode cL_law 693 = .ok (.iadd, 1) := by decide +kernel
theorem dL_law_694 : decode cL_law 694 = .ok (.iaload, 1) := by decide +kernel
theorem dL_law_695 : decode cL_law 695 = .ok (.invokevirtual 90, 3) := by decide +kernel
theorem dL_law_698 : decode cL_law 698 = .ok (.aload_n 2, 1) := by decide +kernel
theorem dL_law_699 : decode cL_law 699 = .ok (.aload_n 0, 1) := by decide +kernel
theorem dL_law_700 : decode cL_law 700 = .ok (.iload_n 3, 1) := by decide +kernel
theorem dL_law_701 : decode cL_law 701 = .ok (.iconst 1, 1) := by decide +kernel
theorem dL_law_702 : decode cL_law 702 = .ok (.iadd, 1) := by decide +kernel
theorem dL_law_703 : decode cL_law 703 = .ok (.iaload, 1) := by decide +kernel
theorem dL_law_704 : decode cL_law 704 = .ok (.aload_n 0, 1) := by decide +kernel
theorem dL_law_705 : decode cL_law 705 = .ok (.iload_n 3, 1) := by decide +kernel
theorem dL_law_706 : decode cL_law 706 = .ok (.iconst 2, 1) := by decide +kernel
theorem dL_law_707 : decode cL_law 707 = .ok (.iadd, 1) := by decide +kernel
theorem dL_law_708 : decode cL_law 708 = .ok (.iaload, 1) := by decide +kernel
theorem dL_law_709 : decode cL_law 709 = .ok (.invokevirtual 93, 3) := by decide +kernel
theorem dL_law_712 : decode cL_law 712 = .ok (.if_icmp .eq 690, 3) := by decide +kernel
theorem dL_law_715 : decode cL_law 715 = .ok (.iconst 0, 1) := by decide +kernel
theorem dL_law_716 : decode cL_law 716 = .ok (.ireturn, 1) := by decide +kernel
theorem dL_law_717 : decode cL_law 717 = .ok (.aload_n 1, 1) := by decide +kernel
theorem dL_law_718 : decode cL_law 718 = .ok (.invokevirtual 94, 3) := by decide +kernel
theorem dL_law_721 : decode cL_law 721 = .ok (.aload_n 2, 1) := by decide +kernel
theorem dL_law_722 : decode cL_law 722 = .ok (.invokevirtual 97, 3) := by decide +kernel
theorem dL_law_725 : decode cL_law 725 = .ok (.if_icmp .eq 677, 3) := by decide +kernel
theorem dL_law_728 : decode cL_law 728 = .ok (.iconst 0, 1) := by decide +kernel
theorem dL_law_729 : decode cL_law 729 = .ok (.ireturn, 1) := by decide +kernel
theorem dL_law_730 : decode cL_law 730 = .ok (.aload_n 1, 1) := by decide +kernel
theorem dL_law_731 : decode cL_law 731 = .ok (.invokevirtual 98, 3) := by decide +kernel
theorem dL_law_734 : decode cL_law 734 = .ok (.aload_n 2, 1) := by decide +kernel
theorem dL_law_735 : decode cL_law 735 = .ok (.invokevirtual 101, 3) := by decide +kernel
theorem dL_law_738 : decode cL_law 738 = .ok (.if_icmp .eq 664, 3) := by decide +kernel
theorem dL_law_741 : decode cL_law 741 = .ok (.iconst 0, 1) := by decide +kernel
theorem dL_law_742 : decode cL_law 742 = .ok (.ireturn, 1) := by decide +kernel
theorem dL_law_743 : decode cL_law 743 = .ok (.aload_n 1, 1) := by decide +kernel
theorem dL_law_744 : decode cL_law 744 = .ok (.aload_n 0, 1) := by decide +kernel
theorem dL_law_745 : decode cL_law 745 = .ok (.iload_n 3, 1) := by decide +kernel
theorem dL_law_746 : decode cL_law 746 = .ok (.iconst 1, 1) := by decide +kernel
theorem dL_law_747 : decode cL_law 747 = .ok (.iadd, 1) := by decide +kernel
theorem dL_law_748 : decode cL_law 748 = .ok (.iaload, 1) := by decide +kernel
theorem dL_law_749 : decode cL_law 749 = .ok (.aload_n 0, 1) := by decide +kernel
theorem dL_law_750 : decode cL_law 750 = .ok (.iload_n 3, 1) := by decide +kernel
theorem dL_law_751 : decode cL_law 751 = .ok (.iconst 2, 1) := by decide +kernel
theorem dL_law_752 : decode cL_law 752 = .ok (.iadd, 1) := by decide +kernel
theorem dL_law_753 : decode cL_law 753 = .ok (.iaload, 1) := by decide +kernel
theorem dL_law_754 : decode cL_law 754 = .ok (.aload_n 0, 1) := by decide +kernel
theorem dL_law_755 : decode cL_law 755 = .ok (.iload_n 3, 1) := by decide +kernel
theorem dL_law_756 : decode cL_law 756 = .ok (.iconst 3, 1) := by decide +kernel
theorem dL_law_757 : decode cL_law 757 = .ok (.iadd, 1) := by decide +kernel
theorem dL_law_758 : decode cL_law 758 = .ok (.iaload, 1) := by decide +kernel
theorem dL_law_759 : decode cL_law 759 = .ok (.aload_n 0, 1) := by decide +kernel
theorem dL_law_760 : decode cL_law 760 = .ok (.iload_n 3, 1) := by decide +kernel
theorem dL_law_761 : decode cL_law 761 = .ok (.iconst 4, 1) := by decide +kernel
theorem dL_law_762 : decode cL_law 762 = .ok (.iadd, 1) := by decide +kernel
theorem dL_law_763 : decode cL_law 763 = .ok (.iaload, 1) := by decide +kernel
theorem dL_law_764 : decode cL_law 764 = .ok (.invokevirtual 102, 3) := by decide +kernel
theorem dL_law_767 : decode cL_law 767 = .ok (.aload_n 2, 1) := by decide +kernel
theorem dL_law_768 : decode cL_law 768 = .ok (.aload_n 0, 1) := by decide +kernel
theorem dL_law_769 : decode cL_law 769 = .ok (.iload_n 3, 1) := by decide +kernel
theorem dL_law_770 : decode cL_law 770 = .ok (.iconst 1, 1) := by decide +kernel
theorem dL_law_771 : decode cL_law 771 = .ok (.iadd, 1) := by decide +kernel
theorem dL_law_772 : decode cL_law 772 = .ok (.iaload, 1) := by decide +kernel
theorem dL_law_773 : decode cL_law 773 = .ok (.aload_n 0, 1) := by decide +kernel
theorem dL_law_774 : decode cL_law 774 = .ok (.iload_n 3, 1) := by decide +kernel
theorem dL_law_775 : decode cL_law 775 = .ok (.iconst 2, 1) := by decide +kernel
theorem dL_law_776 : decode cL_law 776 = .ok (.iadd, 1) := by decide +kernel
theorem dL_law_777 : decode cL_law 777 = .ok (.iaload, 1) := by decide +kernel
theorem dL_law_778 : decode cL_law 778 = .ok (.aload_n 0, 1) := by decide +kernel
theorem dL_law_779 : decode cL_law 779 = .ok (.iload_n 3, 1) := by decide +kernel
theorem dL_law_780 : decode cL_law 780 = .ok (.iconst 3, 1) := by decide +kernel
theorem dL_law_781 : decode cL_law 781 = .ok (.iadd, 1) := by decide +kernel
theorem dL_law_782 : decode cL_law 782 = .ok (.iaload, 1) := by decide +kernel
theorem dL_law_783 : decode cL_law 783 = .ok (.aload_n 0, 1) := by decide +kernel
theorem dL_law_784 : decode cL_law 784 = .ok (.iload_n 3, 1) := by decide +kernel
theorem dL_law_785 : decode cL_law 785 = .ok (.iconst 4, 1) := by decide +kernel
theorem dL_law_786 : decode cL_law 786 = .ok (.iadd, 1) := by decide +kernel
theorem dL_law_787 : decode cL_law 787 = .ok (.iaload, 1) := by decide +kernel
theorem dL_law_788 : decode cL_law 788 = .ok (.invokevirtual 106, 3) := by decide +kernel
theorem dL_law_791 : decode cL_law 791 = .ok (.lcmp, 1) := by decide +kernel
theorem dL_law_792 : decode cL_law 792 = .ok (.ifCond .eq 610, 3) := by decide +kernel
theorem dL_law_795 : decode cL_law 795 = .ok (.iconst 0, 1) := by decide +kernel
theorem dL_law_796 : decode cL_law 796 = .ok (.ireturn, 1) := by decide +kernel
theorem dL_law_797 : decode cL_law 797 = .ok (.aload_n 1, 1) := by decide +kernel
theorem dL_law_798 : decode cL_law 798 = .ok (.aload_n 0, 1) := by decide +kernel
theorem dL_law_799 : decode cL_law 799 = .ok (.iload_n 3, 1) := by decide +kernel
theorem dL_law_800 : decode cL_law 800 = .ok (.iconst 1, 1) := by decide +kernel
theorem dL_law_801 : decode cL_law 801 = .ok (.iadd, 1) := by decide +kernel
theorem dL_law_802 : decode cL_law 802 = .ok (.iaload, 1) := by decide +kernel
theorem dL_law_803 : decode cL_law 803 = .ok (.aload_n 0, 1) := by decide +kernel
theorem dL_law_804 : decode cL_law 804 = .ok (.iload_n 3, 1) := by decide +kernel
theorem dL_law_805 : decode cL_law 805 = .ok (.iconst 2, 1) := by decide +kernel
theorem dL_law_806 : decode cL_law 806 = .ok (.iadd, 1) := by decide +kernel
theorem dL_law_807 : decode cL_law 807 = .ok (.iaload, 1) := by decide +kernel
theorem dL_law_808 : decode cL_law 808 = .ok (.aload_n 0, 1) := by decide +kernel
theorem dL_law_809 : decode cL_law 809 = .ok (.iload_n 3, 1) := by decide +kernel
theorem dL_law_810 : decode cL_law 810 = .ok (.iconst 3, 1) := by decide +kernel
theorem dL_law_811 : decode cL_law 811 = .ok (.iadd, 1) := by decide +kernel
theorem dL_law_812 : decode cL_law 812 = .ok (.iaload, 1) := by decide +kernel
theorem dL_law_813 : decode cL_law 813 = .ok (.aload_n 0, 1) := by decide +kernel
theorem dL_law_814 : decode cL_law 814 = .ok (.iload_n 3, 1) := by decide +kernel
theorem dL_law_815 : decode cL_law 815 = .ok (.iconst 4, 1) := by decide +kernel
theorem dL_law_816 : decode cL_law 816 = .ok (.iadd, 1) := by decide +kernel
theorem dL_law_817 : decode cL_law 817 = .ok (.iaload, 1) := by decide +kernel
theorem dL_law_818 : decode cL_law 818 = .ok (.invokevirtual 107, 3) := by decide +kernel
theorem dL_law_821 : decode cL_law 821 = .ok (.aload_n 2, 1) := by decide +kernel
theorem dL_law_822 : decode cL_law 822 = .ok (.aload_n 0, 1) := by decide +kernel
theorem dL_law_823 : decode cL_law 823 = .ok (.iload_n 3, 1) := by decide +kernel
theorem dL_law_824 : decode cL_law 824 = .ok (.iconst 1, 1) := by decide +kernel
theorem dL_law_825 : decode cL_law 825 = .ok (.iadd, 1) := by decide +kernel
theorem dL_law_826 : decode cL_law 826 = .ok (.iaload, 1) := by decide +kernel
theorem dL_law_827 : decode cL_law 827 = .ok (.aload_n 0, 1) := by decide +kernel
theorem dL_law_828 : decode cL_law 828 = .ok (.iload_n 3, 1) := by decide +kernel
theorem dL_law_829 : decode cL_law 829 = .ok (.iconst 2, 1) := by decide +kernel
theorem dL_law_830 : decode cL_law 830 = .ok (.iadd, 1) := by decide +kernel
theorem dL_law_831 : decode cL_law 831 = .ok (.iaload, 1) := by decide +kernel
theorem dL_law_832 : decode cL_law 832 = .ok (.aload_n 0, 1) := by decide +kernel
theorem dL_law_833 : decode cL_law 833 = .ok (.iload_n 3, 1) := by decide +kernel
theorem dL_law_834 : decode cL_law 834 = .ok (.iconst 3, 1) := by decide +kernel
theorem dL_law_835 : decode cL_law 835 = .ok (.iadd, 1) := by decide +kernel
theorem dL_law_836 : decode cL_law 836 = .ok (.iaload, 1) := by decide +kernel
theorem dL_law_837 : decode cL_law 837 = .ok (.aload_n 0, 1) := by decide +kernel
theorem dL_law_838 : decode cL_law 838 = .ok (.iload_n 3, 1) := by decide +kernel
theorem dL_law_839 : decode cL_law 839 = .ok (.iconst 4, 1) := by decide +kernel
theorem dL_law_840 : decode cL_law 840 = .ok (.iadd, 1) := by decide +kernel
theorem dL_law_841 : decode cL_law 841 = .ok (.iaload, 1) := by decide +kernel
theorem dL_law_842 : decode cL_law 842 = .ok (.invokevirtual 111, 3) := by decide +kernel
theorem dL_law_845 : decode cL_law 845 = .ok (.if_icmp .eq 557, 3) := by decide +kernel
theorem dL_law_848 : decode cL_law 848 = .ok (.iconst 0, 1) := by decide +kernel
theorem dL_law_849 : decode cL_law 849 = .ok (.ireturn, 1) := by decide +kernel
theorem dL_law_850 : decode cL_law 850 = .ok (.aload_n 1, 1) := by decide +kernel
theorem dL_law_851 : decode cL_law 851 = .ok (.aload_n 0, 1) := by decide +kernel
theorem dL_law_852 : decode cL_law 852 = .ok (.iload_n 3, 1) := by decide +kernel
theorem dL_law_853 : decode cL_law 853 = .ok (.iconst 1, 1) := by decide +kernel
theorem dL_law_854 : decode cL_law 854 = .ok (.iadd, 1) := by decide +kernel
theorem dL_law_855 : decode cL_law 855 = .ok (.iaload, 1) := by decide +kernel
theorem dL_law_856 : decode cL_law 856 = .ok (.aload_n 0, 1) := by decide +kernel
theorem dL_law_857 : decode cL_law 857 = .ok (.iload_n 3, 1) := by decide +kernel
theorem dL_law_858 : decode cL_law 858 = .ok (.iconst 2, 1) := by decide +kernel
theorem dL_law_859 : decode cL_law 859 = .ok (.iadd, 1) := by decide +kernel
theorem dL_law_860 : decode cL_law 860 = .ok (.iaload, 1) := by decide +kernel
theorem dL_law_861 : decode cL_law 861 = .ok (.aload_n 0, 1) := by decide +kernel
theorem dL_law_862 : decode cL_law 862 = .ok (.iload_n 3, 1) := by decide +kernel
theorem dL_law_863 : decode cL_law 863 = .ok (.iconst 3, 1) := by decide +kernel
theorem dL_law_864 : decode cL_law 864 = .ok (.iadd, 1) := by decide +kernel
theorem dL_law_865 : decode cL_law 865 = .ok (.iaload, 1) := by decide +kernel
theorem dL_law_866 : decode cL_law 866 = .ok (.invokevirtual 112, 3) := by decide +kernel
theorem dL_law_869 : decode cL_law 869 = .ok (.aload_n 2, 1) := by decide +kernel
theorem dL_law_870 : decode cL_law 870 = .ok (.aload_n 0, 1) := by decide +kernel
theorem dL_law_871 : decode cL_law 871 = .ok (.iload_n 3, 1) := by decide +kernel
theorem dL_law_872 : decode cL_law 872 = .ok (.iconst 1, 1) := by decide +kernel
theorem dL_law_873 : decode cL_law 873 = .ok (.iadd, 1) := by decide +kernel
theorem dL_law_874 : decode cL_law 874 = .ok (.iaload, 1) := by decide +kernel
theorem dL_law_875 : decode cL_law 875 = .ok (.aload_n 0, 1) := by decide +kernel
theorem dL_law_876 : decode cL_law 876 = .ok (.iload_n 3, 1) := by decide +kernel
theorem dL_law_877 : decode cL_law 877 = .ok (.iconst 2, 1) := by decide +kernel
theorem dL_law_878 : decode cL_law 878 = .ok (.iadd, 1) := by decide +kernel
theorem dL_law_879 : decode cL_law 879 = .ok (.iaload, 1) := by decide +kernel
theorem dL_law_880 : decode cL_law 880 = .ok (.aload_n 0, 1) := by decide +kernel
theorem dL_law_881 : decode cL_law 881 = .ok (.iload_n 3, 1) := by decide +kernel
theorem dL_law_882 : decode cL_law 882 = .ok (.iconst 3, 1) := by decide +kernel
theorem dL_law_883 : decode cL_law 883 = .ok (.iadd, 1) := by decide +kernel
theorem dL_law_884 : decode cL_law 884 = .ok (.iaload, 1) := by decide +kernel
theorem dL_law_885 : decode cL_law 885 = .ok (.invokevirtual 115, 3) := by decide +kernel
theorem dL_law_888 : decode cL_law 888 = .ok (.if_icmp .eq 514, 3) := by decide +kernel
theorem dL_law_891 : decode cL_law 891 = .ok (.iconst 0, 1) := by decide +kernel
theorem dL_law_892 : decode cL_law 892 = .ok (.ireturn, 1) := by decide +kernel
theorem dL_law_893 : decode cL_law 893 = .ok (.aload_n 1, 1) := by decide +kernel
theorem dL_law_894 : decode cL_law 894 = .ok (.aload_n 0, 1) := by decide +kernel
theorem dL_law_895 : decode cL_law 895 = .ok (.iload_n 3, 1) := by decide +kernel
theorem dL_law_896 : decode cL_law 896 = .ok (.iconst 1, 1) := by decide +kernel
theorem dL_law_897 : decode cL_law 897 = .ok (.iadd, 1) := by decide +kernel
theorem dL_law_898 : decode cL_law 898 = .ok (.iaload, 1) := by decide +kernel
theorem dL_law_899 : decode cL_law 899 = .ok (.aload_n 0, 1) := by decide +kernel
theorem dL_law_900 : decode cL_law 900 = .ok (.iload_n 3, 1) := by decide +kernel
theorem dL_law_901 : decode cL_law 901 = .ok (.iconst 2, 1) := by decide +kernel
theorem dL_law_902 : decode cL_law 902 = .ok (.iadd, 1) := by decide +kernel
theorem dL_law_903 : decode cL_law 903 = .ok (.iaload, 1) := by decide +kernel
theorem dL_law_904 : decode cL_law 904 = .ok (.invokevirtual 116, 3) := by decide +kernel
theorem dL_law_907 : decode cL_law 907 = .ok (.aload_n 2, 1) := by decide +kernel
theorem dL_law_908 : decode cL_law 908 = .ok (.aload_n 0, 1) := by decide +kernel
theorem dL_law_909 : decode cL_law 909 = .ok (.iload_n 3, 1) := by decide +kernel
theorem dL_law_910 : decode cL_law 910 = .ok (.iconst 1, 1) := by decide +kernel
theorem dL_law_911 : decode cL_law 911 = .ok (.iadd, 1) := by decide +kernel
theorem dL_law_912 : decode cL_law 912 = .ok (.iaload, 1) := by decide +kernel
theorem dL_law_913 : decode cL_law 913 = .ok (.aload_n 0, 1) := by decide +kernel
theorem dL_law_914 : decode cL_law 914 = .ok (.iload_n 3, 1) := by decide +kernel
theorem dL_law_915 : decode cL_law 915 = .ok (.iconst 2, 1) := by decide +kernel
theorem dL_law_916 : decode cL_law 916 = .ok (.iadd, 1) := by decide +kernel
theorem dL_law_917 : decode cL_law 917 = .ok (.iaload, 1) := by decide +kernel
theorem dL_law_918 : decode cL_law 918 = .ok (.invokevirtual 119, 3) := by decide +kernel
theorem dL_law_921 : decode cL_law 921 = .ok (.if_icmp .eq 481, 3) := by decide +kernel
theorem dL_law_924 : decode cL_law 924 = .ok (.iconst 0, 1) := by decide +kernel
theorem dL_law_925 : decode cL_law 925 = .ok (.ireturn, 1) := by decide +kernel
theorem dL_law_926 : decode cL_law 926 = .ok (.aload_n 1, 1) := by decide +kernel
theorem dL_law_927 : decode cL_law 927 = .ok (.aload_n 0, 1) := by decide +kernel
theorem dL_law_928 : decode cL_law 928 = .ok (.iload_n 3, 1) := by decide +kernel
theorem dL_law_929 : decode cL_law 929 = .ok (.iconst 1, 1) := by decide +kernel
theorem dL_law_930 : decode cL_law 930 = .ok (.iadd, 1) := by decide +kernel
theorem dL_law_931 : decode cL_law 931 = .ok (.iaload, 1) := by decide +kernel
theorem dL_law_932 : decode cL_law 932 = .ok (.aload_n 0, 1) := by decide +kernel
theorem dL_law_933 : decode cL_law 933 = .ok (.iload_n 3, 1) := by decide +kernel
theorem dL_law_934 : decode cL_law 934 = .ok (.iconst 2, 1) := by decide +kernel
theorem dL_law_935 : decode cL_law 935 = .ok (.iadd, 1) := by decide +kernel
theorem dL_law_936 : decode cL_law 936 = .ok (.iaload, 1) := by decide +kernel
theorem dL_law_937 : decode cL_law 937 = .ok (.aload_n 0, 1) := by decide +kernel
theorem dL_law_938 : decode cL_law 938 = .ok (.iload_n 3, 1) := by decide +kernel
theorem dL_law_939 : decode cL_law 939 = .ok (.iconst 3, 1) := by decide +kernel
theorem dL_law_940 : decode cL_law 940 = .ok (.iadd, 1) := by decide +kernel
theorem dL_law_941 : decode cL_law 941 = .ok (.iaload, 1) := by decide +kernel
theorem dL_law_942 : decode cL_law 942 = .ok (.invokevirtual 120, 3) := by decide +kernel
theorem dL_law_945 : decode cL_law 945 = .ok (.aload_n 2, 1) := by decide +kernel
theorem dL_law_946 : decode cL_law 946 = .ok (.aload_n 0, 1) := by decide +kernel
theorem dL_law_947 : decode cL_law 947 = .ok (.iload_n 3, 1) := by decide +kernel
theorem dL_law_948 : decode cL_law 948 = .ok (.iconst 1, 1) := by decide +kernel
theorem dL_law_949 : decode cL_law 949 = .ok (.iadd, 1) := by decide +kernel
theorem dL_law_950 : decode cL_law 950 = .ok (.iaload, 1) := by decide +kernel
theorem dL_law_951 : decode cL_law 951 = .ok (.aload_n 0, 1) := by decide +kernel
theorem dL_law_952 : decode cL_law 952 = .ok (.iload_n 3, 1) := by decide +kernel
theorem dL_law_953 : decode cL_law 953 = .ok (.iconst 2, 1) := by decide +kernel
theorem dL_law_954 : decode cL_law 954 = .ok (.iadd, 1) := by decide +kernel
theorem dL_law_955 : decode cL_law 955 = .ok (.iaload, 1) := by decide +kernel
theorem dL_law_956 : decode cL_law 956 = .ok (.aload_n 0, 1) := by decide +kernel
theorem dL_law_957 : decode cL_law 957 = .ok (.iload_n 3, 1) := by decide +kernel
theorem dL_law_958 : decode cL_law 958 = .ok (.iconst 3, 1) := by decide +kernel
theorem dL_law_959 : decode cL_law 959 = .ok (.iadd, 1) := by decide +kernel
theorem dL_law_960 : decode cL_law 960 = .ok (.iaload, 1) := by decide +kernel
theorem dL_law_961 : decode cL_law 961 = .ok (.invokevirtual 124, 3) := by decide +kernel
theorem dL_law_964 : decode cL_law 964 = .ok (.lcmp, 1) := by decide +kernel
theorem dL_law_965 : decode cL_law 965 = .ok (.ifCond .eq 437, 3) := by decide +kernel
theorem dL_law_968 : decode cL_law 968 = .ok (.iconst 0, 1) := by decide +kernel
theorem dL_law_969 : decode cL_law 969 = .ok (.ireturn, 1) := by decide +kernel
theorem dL_law_970 : decode cL_law 970 = .ok (.aload_n 1, 1) := by decide +kernel
theorem dL_law_971 : decode cL_law 971 = .ok (.aload_n 0, 1) := by decide +kernel
theorem dL_law_972 : decode cL_law 972 = .ok (.iload_n 3, 1) := by decide +kernel
theorem dL_law_973 : decode cL_law 973 = .ok (.iconst 1, 1) := by decide +kernel
theorem dL_law_974 : decode cL_law 974 = .ok (.iadd, 1) := by decide +kernel
theorem dL_law_975 : decode cL_law 975 = .ok (.iaload, 1) := by decide +kernel
theorem dL_law_976 : decode cL_law 976 = .ok (.aload_n 0, 1) := by decide +kernel
theorem dL_law_977 : decode cL_law 977 = .ok (.iload_n 3, 1) := by decide +kernel
theorem dL_law_978 : decode cL_law 978 = .ok (.iconst 2, 1) := by decide +kernel
theorem dL_law_979 : decode cL_law 979 = .ok (.iadd, 1) := by decide +kernel
theorem dL_law_980 : decode cL_law 980 = .ok (.iaload, 1) := by decide +kernel
theorem dL_law_981 : decode cL_law 981 = .ok (.invokevirtual 125, 3) := by decide +kernel
theorem dL_law_984 : decode cL_law 984 = .ok (.aload_n 2, 1) := by decide +kernel
theorem dL_law_985 : decode cL_law 985 = .ok (.aload_n 0, 1) := by decide +kernel
theorem dL_law_986 : decode cL_law 986 = .ok (.iload_n 3, 1) := by decide +kernel
theorem dL_law_987 : decode cL_law 987 = .ok (.iconst 1, 1) := by decide +kernel
theorem dL_law_988 : decode cL_law 988 = .ok (.iadd, 1) := by decide +kernel
theorem dL_law_989 : decode cL_law 989 = .ok (.iaload, 1) := by decide +kernel
theorem dL_law_990 : decode cL_law 990 = .ok (.aload_n 0, 1) := by decide +kernel
theorem dL_law_991 : decode cL_law 991 = .ok (.iload_n 3, 1) := by decide +kernel
theorem dL_law_992 : decode cL_law 992 = .ok (.iconst 2, 1) := by decide +kernel
theorem dL_law_993 : decode cL_law 993 = .ok (.iadd, 1) := by decide +kernel
theorem dL_law_994 : decode cL_law 994 = .ok (.iaload, 1) := by decide +kernel
theorem dL_law_995 : decode cL_law 995 = .ok (.invokevirtual 128, 3) := by decide +kernel
theorem dL_law_998 : decode cL_law 998 = .ok (.if_icmp .eq 404, 3) := by decide +kernel
theorem dL_law_1001 : decode cL_law 1001 = .ok (.iconst 0, 1) := by decide +kernel
theorem dL_law_1002 : decode cL_law 1002 = .ok (.ireturn, 1) := by decide +kernel
theorem dL_law_1003 : decode cL_law 1003 = .ok (.aload_n 1, 1) := by decide +kernel
theorem dL_law_1004 : decode cL_law 1004 = .ok (.aload_n 0, 1) := by decide +kernel
theorem dL_law_1005 : decode cL_law 1005 = .ok (.iload_n 3, 1) := by decide +kernel
theorem dL_law_1006 : decode cL_law 1006 = .ok (.iconst 1, 1) := by decide +kernel
theorem dL_law_1007 : decode cL_law 1007 = .ok (.iadd, 1) := by decide +kernel
theorem dL_law_1008 : decode cL_law 1008 = .ok (.iaload, 1) := by decide +kernel
theorem dL_law_1009 : decode cL_law 1009 = .ok (.invokevirtual 129, 3) := by decide +kernel
theorem dL_law_1012 : decode cL_law 1012 = .ok (.aload_n 2, 1) := by decide +kernel
theorem dL_law_1013 : decode cL_law 1013 = .ok (.aload_n 0, 1) := by decide +kernel
theorem dL_law_1014 : decode cL_law 1014 = .ok (.iload_n 3, 1) := by decide +kernel
theorem dL_law_1015 : decode cL_law 1015 = .ok (.iconst 1, 1) := by decide +kernel
theorem dL_law_1016 : decode cL_law 1016 = .ok (.iadd, 1) := by decide +kernel
theorem dL_law_1017 : decode cL_law 1017 = .ok (.iaload, 1) := by decide +kernel
theorem dL_law_1018 : decode cL_law 1018 = .ok (.invokevirtual 132, 3) := by decide +kernel
theorem dL_law_1021 : decode cL_law 1021 = .ok (.if_icmp .eq 381, 3) := by decide +kernel
theorem dL_law_1024 : decode cL_law 1024 = .ok (.iconst 0, 1) := by decide +kernel
theorem dL_law_1025 : decode cL_law 1025 = .ok (.ireturn, 1) := by decide +kernel
theorem dL_law_1026 : decode cL_law 1026 = .ok (.aload_n 1, 1) := by decide +kernel
theorem dL_law_1027 : decode cL_law 1027 = .ok (.aload_n 0, 1) := by decide +kernel
theorem dL_law_1028 : decode cL_law 1028 = .ok (.iload_n 3, 1) := by decide +kernel
theorem dL_law_1029 : decode cL_law 1029 = .ok (.iconst 1, 1) := by decide +kernel
theorem dL_law_1030 : decode cL_law 1030 = .ok (.iadd, 1) := by decide +kernel
theorem dL_law_1031 : decode cL_law 1031 = .ok (.iaload, 1) := by decide +kernel
theorem dL_law_1032 : decode cL_law 1032 = .ok (.invokevirtual 133, 3) := by decide +kernel
theorem dL_law_1035 : decode cL_law 1035 = .ok (.aload_n 2, 1) := by decide +kernel
theorem dL_law_1036 : decode cL_law 1036 = .ok (.aload_n 0, 1) := by decide +kernel
theorem dL_law_1037 : decode cL_law 1037 = .ok (.iload_n 3, 1) := by decide +kernel
theorem dL_law_1038 : decode cL_law 1038 = .ok (.iconst 1, 1) := by decide +kernel
theorem dL_law_1039 : decode cL_law 1039 = .ok (.iadd, 1) := by decide +kernel
theorem dL_law_1040 : decode cL_law 1040 = .ok (.iaload, 1) := by decide +kernel
theorem dL_law_1041 : decode cL_law 1041 = .ok (.invokevirtual 136, 3) := by decide +kernel
theorem dL_law_1044 : decode cL_law 1044 = .ok (.if_icmp .eq 358, 3) := by decide +kernel
theorem dL_law_1047 : decode cL_law 1047 = .ok (.iconst 0, 1) := by decide +kernel
theorem dL_law_1048 : decode cL_law 1048 = .ok (.ireturn, 1) := by decide +kernel
theorem dL_law_1049 : decode cL_law 1049 = .ok (.aload_n 1, 1) := by decide +kernel
theorem dL_law_1050 : decode cL_law 1050 = .ok (.aload_n 0, 1) := by decide +kernel
theorem dL_law_1051 : decode cL_law 1051 = .ok (.iload_n 3, 1) := by decide +kernel
theorem dL_law_1052 : decode cL_law 1052 = .ok (.iconst 1, 1) := by decide +kernel
theorem dL_law_1053 : decode cL_law 1053 = .ok (.iadd, 1) := by decide +kernel
theorem dL_law_1054 : decode cL_law 1054 = .ok (.iaload, 1) := by decide +kernel
theorem dL_law_1055 : decode cL_law 1055 = .ok (.aload_n 0, 1) := by decide +kernel
theorem dL_law_1056 : decode cL_law 1056 = .ok (.iload_n 3, 1) := by decide +kernel
theorem dL_law_1057 : decode cL_law 1057 = .ok (.iconst 2, 1) := by decide +kernel
theorem dL_law_1058 : decode cL_law 1058 = .ok (.iadd, 1) := by decide +kernel
theorem dL_law_1059 : decode cL_law 1059 = .ok (.iaload, 1) := by decide +kernel
theorem dL_law_1060 : decode cL_law 1060 = .ok (.invokevirtual 137, 3) := by decide +kernel
theorem dL_law_1063 : decode cL_law 1063 = .ok (.aload_n 2, 1) := by decide +kernel
theorem dL_law_1064 : decode cL_law 1064 = .ok (.aload_n 0, 1) := by decide +kernel
theorem dL_law_1065 : decode cL_law 1065 = .ok (.iload_n 3, 1) := by decide +kernel
theorem dL_law_1066 : decode cL_law 1066 = .ok (.iconst 1, 1) := by decide +kernel
theorem dL_law_1067 : decode cL_law 1067 = .ok (.iadd, 1) := by decide +kernel
theorem dL_law_1068 : decode cL_law 1068 = .ok (.iaload, 1) := by decide +kernel
theorem dL_law_1069 : decode cL_law 1069 = .ok (.aload_n 0, 1) := by decide +kernel
theorem dL_law_1070 : decode cL_law 1070 = .ok (.iload_n 3, 1) := by decide +kernel
theorem dL_law_1071 : decode cL_law 1071 = .ok (.iconst 2, 1) := by decide +kernel
theorem dL_law_1072 : decode cL_law 1072 = .ok (.iadd, 1) := by decide +kernel
theorem dL_law_1073 : decode cL_law 1073 = .ok (.iaload, 1) := by decide +kernel
theorem dL_law_1074 : decode cL_law 1074 = .ok (.invokevirtual 140, 3) := by decide +kernel
theorem dL_law_1077 : decode cL_law 1077 = .ok (.if_icmp .eq 325, 3) := by decide +kernel
theorem dL_law_1080 : decode cL_law 1080 = .ok (.iconst 0, 1) := by decide +kernel
theorem dL_law_1081 : decode cL_law 1081 = .ok (.ireturn, 1) := by decide +kernel
theorem dL_law_1082 : decode cL_law 1082 = .ok (.aload_n 1, 1) := by decide +kernel
theorem dL_law_1083 : decode cL_law 1083 = .ok (.aload_n 0, 1) := by decide +kernel
theorem dL_law_1084 : decode cL_law 1084 = .ok (.iload_n 3, 1) := by decide +kernel
theorem dL_law_1085 : decode cL_law 1085 = .ok (.iconst 1, 1) := by decide +kernel
theorem dL_law_1086 : decode cL_law 1086 = .ok (.iadd, 1) := by decide +kernel
theorem dL_law_1087 : decode cL_law 1087 = .ok (.iaload, 1) := by decide +kernel
theorem dL_law_1088 : decode cL_law 1088 = .ok (.aload_n 0, 1) := by decide +kernel
theorem dL_law_1089 : decode cL_law 1089 = .ok (.iload_n 3, 1) := by decide +kernel
theorem dL_law_1090 : decode cL_law 1090 = .ok (.iconst 2, 1) := by decide +kernel
theorem dL_law_1091 : decode cL_law 1091 = .ok (.iadd, 1) := by decide +kernel
theorem dL_law_1092 : decode cL_law 1092 = .ok (.iaload, 1) := by decide +kernel
theorem dL_law_1093 : decode cL_law 1093 = .ok (.invokevirtual 141, 3) := by decide +kernel
theorem dL_law_1096 : decode cL_law 1096 = .ok (.aload_n 2, 1) := by decide +kernel
theorem dL_law_1097 : decode cL_law 1097 = .ok (.aload_n 0, 1) := by decide +kernel
theorem dL_law_1098 : decode cL_law 1098 = .ok (.iload_n 3, 1) := by decide +kernel
theorem dL_law_1099 : decode cL_law 1099 = .ok (.iconst 1, 1) := by decide +kernel
theorem dL_law_1100 : decode cL_law 1100 = .ok (.iadd, 1) := by decide +kernel
theorem dL_law_1101 : decode cL_law 1101 = .ok (.iaload, 1) := by decide +kernel
theorem dL_law_1102 : decode cL_law 1102 = .ok (.aload_n 0, 1) := by decide +kernel
theorem dL_law_1103 : decode cL_law 1103 = .ok (.iload_n 3, 1) := by decide +kernel
theorem dL_law_1104 : decode cL_law 1104 = .ok (.iconst 2, 1) := by decide +kernel
theorem dL_law_1105 : decode cL_law 1105 = .ok (.iadd, 1) := by decide +kernel
theorem dL_law_1106 : decode cL_law 1106 = .ok (.iaload, 1) := by decide +kernel
theorem dL_law_1107 : decode cL_law 1107 = .ok (.invokevirtual 144, 3) := by decide +kernel
theorem dL_law_1110 : decode cL_law 1110 = .ok (.if_icmp .eq 292, 3) := by decide +kernel
theorem dL_law_1113 : decode cL_law 1113 = .ok (.iconst 0, 1) := by decide +kernel
theorem dL_law_1114 : decode cL_law 1114 = .ok (.ireturn, 1) := by decide +kernel
theorem dL_law_1115 : decode cL_law 1115 = .ok (.aload_n 1, 1) := by decide +kernel
theorem dL_law_1116 : decode cL_law 1116 = .ok (.invokevirtual 145, 3) := by decide +kernel
theorem dL_law_1119 : decode cL_law 1119 = .ok (.aload_n 2, 1) := by decide +kernel
theorem dL_law_1120 : decode cL_law 1120 = .ok (.invokevirtual 148, 3) := by decide +kernel
theorem dL_law_1123 : decode cL_law 1123 = .ok (.if_icmp .eq 279, 3) := by decide +kernel
theorem dL_law_1126 : decode cL_law 1126 = .ok (.iconst 0, 1) := by decide +kernel
theorem dL_law_1127 : decode cL_law 1127 = .ok (.ireturn, 1) := by decide +kernel
theorem dL_law_1128 : decode cL_law 1128 = .ok (.aload_n 1, 1) := by decide +kernel
theorem dL_law_1129 : decode cL_law 1129 = .ok (.invokevirtual 149, 3) := by decide +kernel
theorem dL_law_1132 : decode cL_law 1132 = .ok (.aload_n 2, 1) := by decide +kernel
theorem dL_law_1133 : decode cL_law 1133 = .ok (.invokevirtual 152, 3) := by decide +kernel
theorem dL_law_1136 : decode cL_law 1136 = .ok (.if_icmp .eq 266, 3) := by decide +kernel
theorem dL_law_1139 : decode cL_law 1139 = .ok (.iconst 0, 1) := by decide +kernel
theorem dL_law_1140 : decode cL_law 1140 = .ok (.ireturn, 1) := by decide +kernel
theorem dL_law_1141 : decode cL_law 1141 = .ok (.aload_n 1, 1) := by decide +kernel
theorem dL_law_1142 : decode cL_law 1142 = .ok (.aload_n 0, 1) := by decide +kernel
theorem dL_law_1143 : decode cL_law 1143 = .ok (.iload_n 3, 1) := by decide +kernel
theorem dL_law_1144 : decode cL_law 1144 = .ok (.iconst 1, 1) := by decide +kernel
theorem dL_law_1145 : decode cL_law 1145 = .ok (.iadd, 1) := by decide +kernel
theorem dL_law_1146 : decode cL_law 1146 = .ok (.iaload, 1) := by decide +kernel
theorem dL_law_1147 : decode cL_law 1147 = .ok (.invokevirtual 153, 3) := by decide +kernel
theorem dL_law_1150 : decode cL_law 1150 = .ok (.aload_n 2, 1) := by decide +kernel
theorem dL_law_1151 : decode cL_law 1151 = .ok (.aload_n 0, 1) := by decide +kernel
theorem dL_law_1152 : decode cL_law 1152 = .ok (.iload_n 3, 1) := by decide +kernel
theorem dL_law_1153 : decode cL_law 1153 = .ok (.iconst 1, 1) := by decide +kernel
theorem dL_law_1154 : decode cL_law 1154 = .ok (.iadd, 1) := by decide +kernel
theorem dL_law_1155 : decode cL_law 1155 = .ok (.iaload, 1) := by decide +kernel
theorem dL_law_1156 : decode cL_law 1156 = .ok (.invokevirtual 156, 3) := by decide +kernel
theorem dL_law_1159 : decode cL_law 1159 = .ok (.if_icmp .eq 243, 3) := by decide +kernel
theorem dL_law_1162 : decode cL_law 1162 = .ok (.iconst 0, 1) := by decide +kernel
theorem dL_law_1163 : decode cL_law 1163 = .ok (.ireturn, 1) := by decide +kernel
theorem dL_law_1164 : decode cL_law 1164 = .ok (.aload_n 1, 1) := by decide +kernel
theorem dL_law_1165 : decode cL_law 1165 = .ok (.invokevirtual 157, 3) := by decide +kernel
theorem dL_law_1168 : decode cL_law 1168 = .ok (.aload_n 2, 1) := by decide +kernel
theorem dL_law_1169 : decode cL_law 1169 = .ok (.invokevirtual 160, 3) := by decide +kernel
theorem dL_law_1172 : decode cL_law 1172 = .ok (.if_icmp .eq 230, 3) := by decide +kernel
theorem dL_law_1175 : decode cL_law 1175 = .ok (.iconst 0, 1) := by decide +kernel
theorem dL_law_1176 : decode cL_law 1176 = .ok (.ireturn, 1) := by decide +kernel
theorem dL_law_1177 : decode cL_law 1177 = .ok (.aload_n 1, 1) := by decide +kernel
theorem dL_law_1178 : decode cL_law 1178 = .ok (.aload_n 0, 1) := by decide +kernel
theorem dL_law_1179 : decode cL_law 1179 = .ok (.iload_n 3, 1) := by decide +kernel
theorem dL_law_1180 : decode cL_law 1180 = .ok (.iconst 1, 1) := by decide +kernel
theorem dL_law_1181 : decode cL_law 1181 = .ok (.iadd, 1) := by decide +kernel
theorem dL_law_1182 : decode cL_law 1182 = .ok (.iaload, 1) := by decide +kernel
theorem dL_law_1183 : decode cL_law 1183 = .ok (.aload_n 0, 1) := by decide +kernel
theorem dL_law_1184 : decode cL_law 1184 = .ok (.iload_n 3, 1) := by decide +kernel
theorem dL_law_1185 : decode cL_law 1185 = .ok (.iconst 2, 1) := by decide +kernel
theorem dL_law_1186 : decode cL_law 1186 = .ok (.iadd, 1) := by decide +kernel
theorem dL_law_1187 : decode cL_law 1187 = .ok (.iaload, 1) := by decide +kernel
theorem dL_law_1188 : decode cL_law 1188 = .ok (.invokevirtual 161, 3) := by decide +kernel
theorem dL_law_1191 : decode cL_law 1191 = .ok (.aload_n 2, 1) := by decide +kernel
theorem dL_law_1192 : decode cL_law 1192 = .ok (.aload_n 0, 1) := by decide +kernel
theorem dL_law_1193 : decode cL_law 1193 = .ok (.iload_n 3, 1) := by decide +kernel
theorem dL_law_1194 : decode cL_law 1194 = .ok (.iconst 1, 1) := by decide +kernel
theorem dL_law_1195 : decode cL_law 1195 = .ok (.iadd, 1) := by decide +kernel
theorem dL_law_1196 : decode cL_law 1196 = .ok (.iaload, 1) := by decide +kernel
theorem dL_law_1197 : decode cL_law 1197 = .ok (.aload_n 0, 1) := by decide +kernel
theorem dL_law_1198 : decode cL_law 1198 = .ok (.iload_n 3, 1) := by decide +kernel
theorem dL_law_1199 : decode cL_law 1199 = .ok (.iconst 2, 1) := by decide +kernel
theorem dL_law_1200 : decode cL_law 1200 = .ok (.iadd, 1) := by decide +kernel
theorem dL_law_1201 : decode cL_law 1201 = .ok (.iaload, 1) := by decide +kernel
theorem dL_law_1202 : decode cL_law 1202 = .ok (.invokevirtual 165, 3) := by decide +kernel
theorem dL_law_1205 : decode cL_law 1205 = .ok (.lcmp, 1) := by decide +kernel
theorem dL_law_1206 : decode cL_law 1206 = .ok (.ifCond .eq 196, 3) := by decide +kernel
theorem dL_law_1209 : decode cL_law 1209 = .ok (.iconst 0, 1) := by decide +kernel
theorem dL_law_1210 : decode cL_law 1210 = .ok (.ireturn, 1) := by decide +kernel
theorem dL_law_1211 : decode cL_law 1211 = .ok (.aload_n 1, 1) := by decide +kernel
theorem dL_law_1212 : decode cL_law 1212 = .ok (.aload_n 0, 1) := by decide +kernel
theorem dL_law_1213 : decode cL_law 1213 = .ok (.iload_n 3, 1) := by decide +kernel
theorem dL_law_1214 : decode cL_law 1214 = .ok (.iconst 1, 1) := by decide +kernel
theorem dL_law_1215 : decode cL_law 1215 = .ok (.iadd, 1) := by decide +kernel
theorem dL_law_1216 : decode cL_law 1216 = .ok (.iaload, 1) := by decide +kernel
theorem dL_law_1217 : decode cL_law 1217 = .ok (.aload_n 0, 1) := by decide +kernel
theorem dL_law_1218 : decode cL_law 1218 = .ok (.iload_n 3, 1) := by decide +kernel
theorem dL_law_1219 : decode cL_law 1219 = .ok (.iconst 2, 1) := by decide +kernel
theorem dL_law_1220 : decode cL_law 1220 = .ok (.iadd, 1) := by decide +kernel
theorem dL_law_1221 : decode cL_law 1221 = .ok (.iaload, 1) := by decide +kernel
theorem dL_law_1222 : decode cL_law 1222 = .ok (.aload_n 0, 1) := by decide +kernel
theorem dL_law_1223 : decode cL_law 1223 = .ok (.iload_n 3, 1) := by decide +kernel
theorem dL_law_1224 : decode cL_law 1224 = .ok (.iconst 3, 1) := by decide +kernel
theorem dL_law_1225 : decode cL_law 1225 = .ok (.iadd, 1) := by decide +kernel
theorem dL_law_1226 : decode cL_law 1226 = .ok (.iaload, 1) := by decide +kernel
theorem dL_law_1227 : decode cL_law 1227 = .ok (.invokevirtual 166, 3) := by decide +kernel
theorem dL_law_1230 : decode cL_law 1230 = .ok (.aload_n 2, 1) := by decide +kernel
theorem dL_law_1231 : decode cL_law 1231 = .ok (.aload_n 0, 1) := by decide +kernel
theorem dL_law_1232 : decode cL_law 1232 = .ok (.iload_n 3, 1) := by decide +kernel
theorem dL_law_1233 : decode cL_law 1233 = .ok (.iconst 1, 1) := by decide +kernel
theorem dL_law_1234 : decode cL_law 1234 = .ok (.iadd, 1) := by decide +kernel
theorem dL_law_1235 : decode cL_law 1235 = .ok (.iaload, 1) := by decide +kernel
theorem dL_law_1236 : decode cL_law 1236 = .ok (.aload_n 0, 1) := by decide +kernel
theorem dL_law_1237 : decode cL_law 1237 = .ok (.iload_n 3, 1) := by decide +kernel
theorem dL_law_1238 : decode cL_law 1238 = .ok (.iconst 2, 1) := by decide +kernel
theorem dL_law_1239 : decode cL_law 1239 = .ok (.iadd, 1) := by decide +kernel
theorem dL_law_1240 : decode cL_law 1240 = .ok (.iaload, 1) := by decide +kernel
theorem dL_law_1241 : decode cL_law 1241 = .ok (.aload_n 0, 1) := by decide +kernel
theorem dL_law_1242 : decode cL_law 1242 = .ok (.iload_n 3, 1) := by decide +kernel
theorem dL_law_1243 : decode cL_law 1243 = .ok (.iconst 3, 1) := by decide +kernel
theorem dL_law_1244 : decode cL_law 1244 = .ok (.iadd, 1) := by decide +kernel
theorem dL_law_1245 : decode cL_law 1245 = .ok (.iaload, 1) := by decide +kernel
theorem dL_law_1246 : decode cL_law 1246 = .ok (.invokevirtual 169, 3) := by decide +kernel
theorem dL_law_1249 : decode cL_law 1249 = .ok (.if_icmp .eq 153, 3) := by decide +kernel
theorem dL_law_1252 : decode cL_law 1252 = .ok (.iconst 0, 1) := by decide +kernel
theorem dL_law_1253 : decode cL_law 1253 = .ok (.ireturn, 1) := by decide +kernel
theorem dL_law_1254 : decode cL_law 1254 = .ok (.aload_n 1, 1) := by decide +kernel
theorem dL_law_1255 : decode cL_law 1255 = .ok (.aload_n 0, 1) := by decide +kernel
theorem dL_law_1256 : decode cL_law 1256 = .ok (.iload_n 3, 1) := by decide +kernel
theorem dL_law_1257 : decode cL_law 1257 = .ok (.iconst 1, 1) := by decide +kernel
theorem dL_law_1258 : decode cL_law 1258 = .ok (.iadd, 1) := by decide +kernel
theorem dL_law_1259 : decode cL_law 1259 = .ok (.iaload, 1) := by decide +kernel
theorem dL_law_1260 : decode cL_law 1260 = .ok (.aload_n 0, 1) := by decide +kernel
theorem dL_law_1261 : decode cL_law 1261 = .ok (.iload_n 3, 1) := by decide +kernel
theorem dL_law_1262 : decode cL_law 1262 = .ok (.iconst 2, 1) := by decide +kernel
theorem dL_law_1263 : decode cL_law 1263 = .ok (.iadd, 1) := by decide +kernel
theorem dL_law_1264 : decode cL_law 1264 = .ok (.iaload, 1) := by decide +kernel
theorem dL_law_1265 : decode cL_law 1265 = .ok (.invokevirtual 170, 3) := by decide +kernel
theorem dL_law_1268 : decode cL_law 1268 = .ok (.aload_n 2, 1) := by decide +kernel
theorem dL_law_1269 : decode cL_law 1269 = .ok (.aload_n 0, 1) := by decide +kernel
theorem dL_law_1270 : decode cL_law 1270 = .ok (.iload_n 3, 1) := by decide +kernel
theorem dL_law_1271 : decode cL_law 1271 = .ok (.iconst 1, 1) := by decide +kernel
theorem dL_law_1272 : decode cL_law 1272 = .ok (.iadd, 1) := by decide +kernel
theorem dL_law_1273 : decode cL_law 1273 = .ok (.iaload, 1) := by decide +kernel
theorem dL_law_1274 : decode cL_law 1274 = .ok (.aload_n 0, 1) := by decide +kernel
theorem dL_law_1275 : decode cL_law 1275 = .ok (.iload_n 3, 1) := by decide +kernel
theorem dL_law_1276 : decode cL_law 1276 = .ok (.iconst 2, 1) := by decide +kernel
theorem dL_law_1277 : decode cL_law 1277 = .ok (.iadd, 1) := by decide +kernel
theorem dL_law_1278 : decode cL_law 1278 = .ok (.iaload, 1) := by decide +kernel
theorem dL_law_1279 : decode cL_law 1279 = .ok (.invokevirtual 173, 3) := by decide +kernel
theorem dL_law_1282 : decode cL_law 1282 = .ok (.if_icmp .eq 120, 3) := by decide +kernel
theorem dL_law_1285 : decode cL_law 1285 = .ok (.iconst 0, 1) := by decide +kernel
theorem dL_law_1286 : decode cL_law 1286 = .ok (.ireturn, 1) := by decide +kernel
theorem dL_law_1287 : decode cL_law 1287 = .ok (.aload_n 1, 1) := by decide +kernel
theorem dL_law_1288 : decode cL_law 1288 = .ok (.aload_n 0, 1) := by decide +kernel
theorem dL_law_1289 : decode cL_law 1289 = .ok (.iload_n 3, 1) := by decide +kernel
theorem dL_law_1290 : decode cL_law 1290 = .ok (.iconst 1, 1) := by decide +kernel
theorem dL_law_1291 : decode cL_law 1291 = .ok (.iadd, 1) := by decide +kernel
theorem dL_law_1292 : decode cL_law 1292 = .ok (.iaload, 1) := by decide +kernel
theorem dL_law_1293 : decode cL_law 1293 = .ok (.aload_n 0, 1) := by decide +kernel
theorem dL_law_1294 : decode cL_law 1294 = .ok (.iload_n 3, 1) := by decide +kernel
theorem dL_law_1295 : decode cL_law 1295 = .ok (.iconst 2, 1) := by decide +kernel
theorem dL_law_1296 : decode cL_law 1296 = .ok (.iadd, 1) := by decide +kernel
theorem dL_law_1297 : decode cL_law 1297 = .ok (.iaload, 1) := by decide +kernel
theorem dL_law_1298 : decode cL_law 1298 = .ok (.invokevirtual 174, 3) := by decide +kernel
theorem dL_law_1301 : decode cL_law 1301 = .ok (.aload_n 2, 1) := by decide +kernel
theorem dL_law_1302 : decode cL_law 1302 = .ok (.aload_n 0, 1) := by decide +kernel
theorem dL_law_1303 : decode cL_law 1303 = .ok (.iload_n 3, 1) := by decide +kernel
theorem dL_law_1304 : decode cL_law 1304 = .ok (.iconst 1, 1) := by decide +kernel
theorem dL_law_1305 : decode cL_law 1305 = .ok (.iadd, 1) := by decide +kernel
theorem dL_law_1306 : decode cL_law 1306 = .ok (.iaload, 1) := by decide +kernel
theorem dL_law_1307 : decode cL_law 1307 = .ok (.aload_n 0, 1) := by decide +kernel
theorem dL_law_1308 : decode cL_law 1308 = .ok (.iload_n 3, 1) := by decide +kernel
theorem dL_law_1309 : decode cL_law 1309 = .ok (.iconst 2, 1) := by decide +kernel
theorem dL_law_1310 : decode cL_law 1310 = .ok (.iadd, 1) := by decide +kernel
theorem dL_law_1311 : decode cL_law 1311 = .ok (.iaload, 1) := by decide +kernel
theorem dL_law_1312 : decode cL_law 1312 = .ok (.invokevirtual 177, 3) := by decide +kernel
theorem dL_law_1315 : decode cL_law 1315 = .ok (.if_icmp .eq 87, 3) := by decide +kernel
theorem dL_law_1318 : decode cL_law 1318 = .ok (.iconst 0, 1) := by decide +kernel
theorem dL_law_1319 : decode cL_law 1319 = .ok (.ireturn, 1) := by decide +kernel
theorem dL_law_1320 : decode cL_law 1320 = .ok (.aload_n 1, 1) := by decide +kernel
theorem dL_law_1321 : decode cL_law 1321 = .ok (.aload_n 0, 1) := by decide +kernel
theorem dL_law_1322 : decode cL_law 1322 = .ok (.iload_n 3, 1) := by decide +kernel
theorem dL_law_1323 : decode cL_law 1323 = .ok (.iconst 1, 1) := by decide +kernel
theorem dL_law_1324 : decode cL_law 1324 = .ok (.iadd, 1) := by decide +kernel
theorem dL_law_1325 : decode cL_law 1325 = .ok (.iaload, 1) := by decide +kernel
theorem dL_law_1326 : decode cL_law 1326 = .ok (.invokevirtual 178, 3) := by decide +kernel
theorem dL_law_1329 : decode cL_law 1329 = .ok (.aload_n 2, 1) := by decide +kernel
theorem dL_law_1330 : decode cL_law 1330 = .ok (.aload_n 0, 1) := by decide +kernel
theorem dL_law_1331 : decode cL_law 1331 = .ok (.iload_n 3, 1) := by decide +kernel
theorem dL_law_1332 : decode cL_law 1332 = .ok (.iconst 1, 1) := by decide +kernel
theorem dL_law_1333 : decode cL_law 1333 = .ok (.iadd, 1) := by decide +kernel
theorem dL_law_1334 : decode cL_law 1334 = .ok (.iaload, 1) := by decide +kernel
theorem dL_law_1335 : decode cL_law 1335 = .ok (.invokevirtual 181, 3) := by decide +kernel
theorem dL_law_1338 : decode cL_law 1338 = .ok (.if_icmp .eq 64, 3) := by decide +kernel
theorem dL_law_1341 : decode cL_law 1341 = .ok (.iconst 0, 1) := by decide +kernel
theorem dL_law_1342 : decode cL_law 1342 = .ok (.ireturn, 1) := by decide +kernel
theorem dL_law_1343 : decode cL_law 1343 = .ok (.aload_n 1, 1) := by decide +kernel
theorem dL_law_1344 : decode cL_law 1344 = .ok (.aload_n 0, 1) := by decide +kernel
theorem dL_law_1345 : decode cL_law 1345 = .ok (.iload_n 3, 1) := by decide +kernel
theorem dL_law_1346 : decode cL_law 1346 = .ok (.iconst 1, 1) := by decide +kernel
theorem dL_law_1347 : decode cL_law 1347 = .ok (.iadd, 1) := by decide +kernel
theorem dL_law_1348 : decode cL_law 1348 = .ok (.iaload, 1) := by decide +kernel
theorem dL_law_1349 : decode cL_law 1349 = .ok (.invokevirtual 182, 3) := by decide +kernel
theorem dL_law_1352 : decode cL_law 1352 = .ok (.aload_n 2, 1) := by decide +kernel
theorem dL_law_1353 : decode cL_law 1353 = .ok (.aload_n 0, 1) := by decide +kernel
theorem dL_law_1354 : decode cL_law 1354 = .ok (.iload_n 3, 1) := by decide +kernel
theorem dL_law_1355 : decode cL_law 1355 = .ok (.iconst 1, 1) := by decide +kernel
theorem dL_law_1356 : decode cL_law 1356 = .ok (.iadd, 1) := by decide +kernel
theorem dL_law_1357 : decode cL_law 1357 = .ok (.iaload, 1) := by decide +kernel
theorem dL_law_1358 : decode cL_law 1358 = .ok (.invokevirtual 185, 3) := by decide +kernel
theorem dL_law_1361 : decode cL_law 1361 = .ok (.if_icmp .eq 41, 3) := by decide +kernel
theorem dL_law_1364 : decode cL_law 1364 = .ok (.iconst 0, 1) := by decide +kernel
theorem dL_law_1365 : decode cL_law 1365 = .ok (.ireturn, 1) := by decide +kernel
theorem dL_law_1366 : decode cL_law 1366 = .ok (.aload_n 1, 1) := by decide +kernel
theorem dL_law_1367 : decode cL_law 1367 = .ok (.aload_n 0, 1) := by decide +kernel
theorem dL_law_1368 : decode cL_law 1368 = .ok (.iload_n 3, 1) := by decide +kernel
theorem dL_law_1369 : decode cL_law 1369 = .ok (.iconst 1, 1) := by decide +kernel
theorem dL_law_1370 : decode cL_law 1370 = .ok (.iadd, 1) := by decide +kernel
theorem dL_law_1371 : decode cL_law 1371 = .ok (.iaload, 1) := by decide +kernel
theorem dL_law_1372 : decode cL_law 1372 = .ok (.invokevirtual 186, 3) := by decide +kernel
theorem dL_law_1375 : decode cL_law 1375 = .ok (.aload_n 2, 1) := by decide +kernel
theorem dL_law_1376 : decode cL_law 1376 = .ok (.aload_n 0, 1) := by decide +kernel
theorem dL_law_1377 : decode cL_law 1377 = .ok (.iload_n 3, 1) := by decide +kernel
theorem dL_law_1378 : decode cL_law 1378 = .ok (.iconst 1, 1) := by decide +kernel
theorem dL_law_1379 : decode cL_law 1379 = .ok (.iadd, 1) := by decide +kernel
theorem dL_law_1380 : decode cL_law 1380 = .ok (.iaload, 1) := by decide +kernel
theorem dL_law_1381 : decode cL_law 1381 = .ok (.invokevirtual 189, 3) := by decide +kernel
theorem dL_law_1384 : decode cL_law 1384 = .ok (.if_icmp .eq 18, 3) := by decide +kernel
theorem dL_law_1387 : decode cL_law 1387 = .ok (.iconst 0, 1) := by decide +kernel
theorem dL_law_1388 : decode cL_law 1388 = .ok (.ireturn, 1) := by decide +kernel
theorem dL_law_1389 : decode cL_law 1389 = .ok (.aload_n 1, 1) := by decide +kernel
theorem dL_law_1390 : decode cL_law 1390 = .ok (.invokevirtual 190, 3) := by decide +kernel
theorem dL_law_1393 : decode cL_law 1393 = .ok (.aload_n 2, 1) := by decide +kernel
theorem dL_law_1394 : decode cL_law 1394 = .ok (.invokevirtual 193, 3) := by decide +kernel
theorem dL_law_1397 : decode cL_law 1397 = .ok (.if_icmp .eq 5, 3) := by decide +kernel
theorem dL_law_1400 : decode cL_law 1400 = .ok (.iconst 0, 1) := by decide +kernel
theorem dL_law_1401 : decode cL_law 1401 = .ok (.ireturn, 1) := by decide +kernel
theorem dL_law_1402 : decode cL_law 1402 = .ok (.iinc 3 6, 3) := by decide +kernel
theorem dL_law_1405 : decode cL_law 1405 = .ok (.goto (-1387), 3) := by decide +kernel
theorem dL_law_1408 : decode cL_law 1408 = .ok (.iconst 1, 1) := by decide +kernel
theorem dL_law_1409 : decode cL_law 1409 = .ok (.ireturn, 1) := by decide +kernel
def D_L_law_1402 (sc : Nat × (Nat → Int32)) (k18 : z_H → Option Nat → Option Nat → Int32 → Option (Int32 × z_H)) (h : z_H) (l1 : Option Nat) (l2 : Option Nat) (l3 : Int32) : Option (Int32 × z_H) :=
  (some (l3 + (6:Int32))).bind fun x4214 =>
  k18 h l1 l2 x4214
set_option maxRecDepth 100000 in
set_option maxHeartbeats 4000000 in
theorem S_L_law_1402 {G : z_G} {l : Launch} {k18 : z_H → Option Nat → Option Nat → Int32 → Option (Int32 × z_H)} (hk18 : ∀ {h : z_H} {l1 : Option Nat} {l2 : Option Nat} {l3 : Int32} {res : (Int32 × z_H)}, k18 h l1 l2 l3 = some res → z_Run G l 100 M_L_law 18 [(0, .retAddr 0), (1, z_r l1), (2, z_r l2), (3, .int l3)] [] h res.2 (some (.int res.1))) {h : z_H} {l1 : Option Nat} {l2 : Option Nat} {l3 : Int32} {res : (Int32 × z_H)} (e : D_L_law_1402 G.2.2.2.2 k18 h l1 l2 l3 = some res) : z_Run G l 100 M_L_law 1402 [(0, .retAddr 0), (1, z_r l1), (2, z_r l2), (3, .int l3)] [] h res.2 (some (.int res.1)) := by
  unfold D_L_law_1402 at e
  replace e := z_bd e; obtain ⟨x4214, ex4214, e⟩ := e
  refine z_iinc (q := 3) (v := x4214) (L' := [(3, .int x4214), (0, .retAddr 0), (1, z_r l1), (2, z_r l2)]) dL_law_1402 rfl (Option.some.inj ex4214) (by decide) (by simp [z_cr]) ?_
  refine z_goto (tgt := 18) dL_law_1405 (by decide) ?_
  exact z_weak [1, 2, 3, 0] rfl (hk18 e)
def D_L_law_18b (sc : Nat × (Nat → Int32)) (k18 : z_H → Option Nat → Option Nat → Int32 → Option (Int32 × z_H)) (h : z_H) (l1 : Option Nat) (l2 : Option Nat) (l3 : Int32) : Option (Int32 × z_H) :=
  if ((Int32.ofNat sc.1) - (6:Int32)) < l3 then
    some ((1:Int32), h)
  else
    (z_xI sc l3).bind fun x4216 =>
    (some (x4216 &&& (63:Int32))).bind fun x4217 =>
    if x4217 = 0 then
      (z_xI sc (l3 + (1:Int32))).bind fun x4219 =>
      (z_xI sc (l3 + (2:Int32))).bind fun x4220 =>
      (z_xI sc (l3 + (3:Int32))).bind fun x4221 =>
      (z_ob 10 h l1).bind fun _ =>
      (D_X10_pair  h l1 x4219 x4220 x4221).bind fun p4222 =>
      (z_xI sc (l3 + (1:Int32))).bind fun x4224 =>
      (z_xI sc (l3 + (2:Int32))).bind fun x4225 =>
      (z_xI sc (l3 + (3:Int32))).bind fun x4226 =>
      (z_ob 11 p4222.2 l2).bind fun _ =>
      (D_X11_pair  p4222.2 l2 x4224 x4225 x4226).bind fun p4227 =>
      if p4222.1 = p4227.1 then
        D_L_law_1402 sc k18 p4227.2 l1 l2 l3
      else
        some ((0:Int32), p4227.2)
    else
    if x4217 = 1 then
      (z_xI sc (l3 + (1:Int32))).bind fun x4231 =>
      (z_xI sc (l3 + (2:Int32))).bind fun x4232 =>
      (z_ob 10 h l1).bind fun _ =>
      (D_X10_of  h l1 x4231 x4232).bind fun p4233 =>
      (z_xI sc (l3 + (1:Int32))).bind fun x4235 =>
      (z_xI sc (l3 + (2:Int32))).bind fun x4236 =>
      (z_ob 11 p4233.2 l2).bind fun _ =>
      (D_X11_of  p4233.2 l2 x4235 x4236).bind fun p4237 =>
      if p4233.1 = p4237.1 then
        D_L_law_1402 sc k18 p4237.2 l1 l2 l3
      else
        some ((0:Int32), p4237.2)
    else
    if x4217 = 2 then
      (z_xI sc (l3 + (1:Int32))).bind fun x4241 =>
      (z_xI sc (l3 + (2:Int32))).bind fun x4242 =>
      (z_ob 10 h l1).bind fun _ =>
      (D_X10_wall  h l1 x4241 x4242).bind fun p4243 =>
      (z_xI sc (l3 + (1:Int32))).bind fun x4245 =>
      (z_xI sc (l3 + (2:Int32))).bind fun x4246 =>
      (z_ob 11 p4243.2 l2).bind fun _ =>
      (D_X11_wall  p4243.2 l2 x4245 x4246).bind fun p4247 =>
      if p4243.1 = p4247.1 then
        D_L_law_1402 sc k18 p4247.2 l1 l2 l3
      else
        some ((0:Int32), p4247.2)
    else
    if x4217 = 3 then
      (z_ob 10 h l1).bind fun _ =>
      (D_X10_walls  h l1).bind fun p4251 =>
      (z_ob 11 p4251.2 l2).bind fun _ =>
      (D_X11_walls  p4251.2 l2).bind fun p4253 =>
      if p4251.1 = p4253.1 then
        D_L_law_1402 sc k18 p4253.2 l1 l2 l3
      else
        some ((0:Int32), p4253.2)
    else
    if x4217 = 4 then
      (z_xI sc (l3 + (1:Int32))).bind fun x4257 =>
      (z_xI sc (l3 + (2:Int32))).bind fun x4258 =>
      (z_xI sc (l3 + (3:Int32))).bind fun x4259 =>
      (z_ob 10 h l1).bind fun _ =>
      (D_X10_asks  h l1 x4257 x4258 x4259).bind fun p4260 =>
      (z_xI sc (l3 + (1:Int32))).bind fun x4262 =>
      (z_xI sc (l3 + (2:Int32))).bind fun x4263 =>
      (z_xI sc (l3 + (3:Int32))).bind fun x4264 =>
      (z_ob 11 p4260.2 l2).bind fun _ =>
      (D_X11_asks  p4260.2 l2 x4262 x4263 x4264).bind fun p4265 =>
      if p4260.1 = p4265.1 then
        D_L_law_1402 sc k18 p4265.2 l1 l2 l3
      else
        some ((0:Int32), p4265.2)
    else
    if x4217 = 5 then
      (z_xI sc (l3 + (1:Int32))).bind fun x4269 =>
      (z_xI sc (l3 + (2:Int32))).bind fun x4270 =>
      (z_ob 10 h l1).bind fun _ =>
      (D_X10_terms  h l1 x4269 x4270).bind fun p4271 =>
      (z_xI sc (l3 + (1:Int32))).bind fun x4273 =>
      (z_xI sc (l3 + (2:Int32))).bind fun x4274 =>
      (z_ob 11 p4271.2 l2).bind fun _ =>
      (D_X11_terms  p4271.2 l2 x4273 x4274).bind fun p4275 =>
      if p4271.1 = p4275.1 then
        D_L_law_1402 sc k18 p4275.2 l1 l2 l3
      else
        some ((0:Int32), p4275.2)
    else
    if x4217 = 6 then
      (z_xI sc (l3 + (1:Int32))).bind fun x4279 =>
      (z_xI sc (l3 + (2:Int32))).bind fun x4280 =>
      (z_xI sc (l3 + (3:Int32))).bind fun x4281 =>
      (z_xI sc (l3 + (4:Int32))).bind fun x4282 =>
      (z_xI sc (l3 + (5:Int32))).bind fun x4283 =>
      (z_ob 10 h l1).bind fun _ =>
      (D_X10_feed  h l1 x4279 x4280 x4281 x4282 x4283).bind fun p4284 =>
      (z_xI sc (l3 + (1:Int32))).bind fun x4286 =>
      (z_xI sc (l3 + (2:Int32))).bind fun x4287 =>
      (z_xI sc (l3 + (3:Int32))).bind fun x4288 =>
      (z_xI sc (l3 + (4:Int32))).bind fun x4289 =>
      (z_xI sc (l3 + (5:Int32))).bind fun x4290 =>
      (z_ob 11 p4284.2 l2).bind fun _ =>
      (D_X11_feed  p4284.2 l2 x4286 x4287 x4288 x4289 x4290).bind fun p4291 =>
      if p4284.1 = p4291.1 then
        D_L_law_1402 sc k18 p4291.2 l1 l2 l3
      else
        some ((0:Int32), p4291.2)
    else
    if x4217 = 7 then
      (z_xI sc (l3 + (1:Int32))).bind fun x4295 =>
      (z_ob 10 h l1).bind fun _ =>
      (D_X10_end  h l1 x4295).bind fun p4296 =>
      (z_xI sc (l3 + (1:Int32))).bind fun x4298 =>
      (z_ob 11 p4296.2 l2).bind fun _ =>
      (D_X11_end  p4296.2 l2 x4298).bind fun p4299 =>
      if p4296.1 = p4299.1 then
        D_L_law_1402 sc k18 p4299.2 l1 l2 l3
      else
        some ((0:Int32), p4299.2)
    else
    if x4217 = 8 then
      (z_ob 10 h l1).bind fun _ =>
      (D_X10_row  h l1).bind fun p4303 =>
      (z_ob 11 p4303.2 l2).bind fun _ =>
      (D_X11_row  p4303.2 l2).bind fun p4305 =>
      if p4303.1 = p4305.1 then
        D_L_law_1402 sc k18 p4305.2 l1 l2 l3
      else
        some ((0:Int32), p4305.2)
    else
    if x4217 = 9 then
      (z_ob 10 h l1).bind fun _ =>
      (D_X10_brads  h l1).bind fun p4309 =>
      (z_ob 11 p4309.2 l2).bind fun _ =>
      (D_X11_brads  p4309.2 l2).bind fun p4311 =>
      if p4309.1 = p4311.1 then
        D_L_law_1402 sc k18 p4311.2 l1 l2 l3
      else
        some ((0:Int32), p4311.2)
    else
    if x4217 = 10 then
      (z_ob 10 h l1).bind fun _ =>
      (D_X10_law  h l1).bind fun p4315 =>
      (z_ob 11 p4315.2 l2).bind fun _ =>
      (D_X11_law  p4315.2 l2).bind fun p4317 =>
      if p4315.1 = p4317.1 then
        D_L_law_1402 sc k18 p4317.2 l1 l2 l3
      else
        some ((0:Int32), p4317.2)
    else
    if x4217 = 11 then
      (z_ob 10 h l1).bind fun _ =>
      (D_X10_orders  h l1).bind fun p4321 =>
      (z_ob 11 p4321.2 l2).bind fun _ =>
      (D_X11_orders  p4321.2 l2).bind fun p4323 =>
      if p4321.1 = p4323.1 then
        D_L_law_1402 sc k18 p4323.2 l1 l2 l3
      else
        some ((0:Int32), p4323.2)
    else
    if x4217 = 12 then
      (z_ob 10 h l1).bind fun _ =>
      (D_X10_fault  h l1).bind fun p4327 =>
      (z_ob 11 p4327.2 l2).bind fun _ =>
      (D_X11_fault  p4327.2 l2).bind fun p4329 =>
      if p4327.1 = p4329.1 then
        D_L_law_1402 sc k18 p4329.2 l1 l2 l3
      else
        some ((0:Int32), p4329.2)
    else
    if x4217 = 13 then
      (z_ob 10 h l1).bind fun _ =>
      (D_X10_stopped  h l1).bind fun p4333 =>
      (z_ob 11 p4333.2 l2).bind fun _ =>
      (D_X11_stopped  p4333.2 l2).bind fun p4335 =>
      if p4333.1 = p4335.1 then
        D_L_law_1402 sc k18 p4335.2 l1 l2 l3
      else
        some ((0:Int32), p4335.2)
    else
    if x4217 = 14 then
      (z_xI sc (l3 + (1:Int32))).bind fun x4339 =>
      (z_ob 10 h l1).bind fun _ =>
      (D_X10_force  h l1 x4339).bind fun p4340 =>
      (z_xI sc (l3 + (1:Int32))).bind fun x4342 =>
      (z_ob 11 p4340.2 l2).bind fun _ =>
      (D_X11_force  p4340.2 l2 x4342).bind fun p4343 =>
      if p4340.1 = p4343.1 then
        D_L_law_1402 sc k18 p4343.2 l1 l2 l3
      else
        some ((0:Int32), p4343.2)
    else
    if x4217 = 15 then
      (z_xI sc (l3 + (1:Int32))).bind fun x4347 =>
      (z_ob 10 h l1).bind fun _ =>
      (D_X10_step  h l1 x4347).bind fun p4348 =>
      (z_xI sc (l3 + (1:Int32))).bind fun x4350 =>
      (z_ob 11 p4348.2 l2).bind fun _ =>
      (D_X11_step  p4348.2 l2 x4350).bind fun p4351 =>
      if p4348.1 = p4351.1 then
        D_L_law_1402 sc k18 p4351.2 l1 l2 l3
      else
        some ((0:Int32), p4351.2)
    else
    if x4217 = 16 then
      (z_xI sc (l3 + (1:Int32))).bind fun x4355 =>
      (z_xI sc (l3 + (2:Int32))).bind fun x4356 =>
      (z_ob 10 h l1).bind fun _ =>
      (D_X10_turn  h l1 x4355 x4356).bind fun p4357 =>
      (z_xI sc (l3 + (1:Int32))).bind fun x4359 =>
      (z_xI sc (l3 + (2:Int32))).bind fun x4360 =>
      (z_ob 11 p4357.2 l2).bind fun _ =>
      (D_X11_turn  p4357.2 l2 x4359 x4360).bind fun p4361 =>
      if p4357.1 = p4361.1 then
        D_L_law_1402 sc k18 p4361.2 l1 l2 l3
      else
        some ((0:Int32), p4361.2)
    else
    if x4217 = 17 then
      (z_xI sc (l3 + (1:Int32))).bind fun x4365 =>
      (z_ob 10 h l1).bind fun _ =>
      (D_X10_pause  h l1 x4365).bind fun p4366 =>
      (z_xI sc (l3 + (1:Int32))).bind fun x4368 =>
      (z_ob 11 p4366.2 l2).bind fun _ =>
      (D_X11_pause  p4366.2 l2 x4368).bind fun p4369 =>
      if p4366.1 = p4369.1 then
        D_L_law_1402 sc k18 p4369.2 l1 l2 l3
      else
        some ((0:Int32), p4369.2)
    else
    if x4217 = 18 then
      (z_xI sc (l3 + (1:Int32))).bind fun x4373 =>
      (z_xI sc (l3 + (2:Int32))).bind fun x4374 =>
      (z_ob 10 h l1).bind fun _ =>
      (D_X10_mend  h l1 x4373 x4374).bind fun p4375 =>
      (z_xI sc (l3 + (1:Int32))).bind fun x4377 =>
      (z_xI sc (l3 + (2:Int32))).bind fun x4378 =>
      (z_ob 11 p4375.2 l2).bind fun _ =>
      (D_X11_mend  p4375.2 l2 x4377 x4378).bind fun p4379 =>
      if p4375.1 = p4379.1 then
        D_L_law_1402 sc k18 p4379.2 l1 l2 l3
      else
        some ((0:Int32), p4379.2)
    else
    if x4217 = 19 then
      (z_ob 10 h l1).bind fun _ =>
      (D_X10_pass  h l1).bind fun p4383 =>
      (z_ob 11 p4383.2 l2).bind fun _ =>
      (D_X11_pass  p4383.2 l2).bind fun p4385 =>
      if p4383.1 = p4385.1 then
        D_L_law_1402 sc k18 p4385.2 l1 l2 l3
      else
        some ((0:Int32), p4385.2)
    else
    if x4217 = 20 then
      (z_ob 10 h l1).bind fun _ =>
      (D_X10_undo  h l1).bind fun p4389 =>
      (z_ob 11 p4389.2 l2).bind fun _ =>
      (D_X11_undo  p4389.2 l2).bind fun p4391 =>
      if p4389.1 = p4391.1 then
        D_L_law_1402 sc k18 p4391.2 l1 l2 l3
      else
        some ((0:Int32), p4391.2)
    else
    if x4217 = 21 then
      (z_xI sc (l3 + (1:Int32))).bind fun x4395 =>
      (z_xI sc (l3 + (2:Int32))).bind fun x4396 =>
      (z_xI sc (l3 + (3:Int32))).bind fun x4397 =>
      (z_xI sc (l3 + (4:Int32))).bind fun x4398 =>
      (z_ob 10 h l1).bind fun _ =>
      (D_X10_ways  h l1 x4395 x4396 x4397 x4398).bind fun p4399 =>
      (z_xI sc (l3 + (1:Int32))).bind fun x4401 =>
      (z_xI sc (l3 + (2:Int32))).bind fun x4402 =>
      (z_xI sc (l3 + (3:Int32))).bind fun x4403 =>
      (z_xI sc (l3 + (4:Int32))).bind fun x4404 =>
      (z_ob 11 p4399.2 l2).bind fun _ =>
      (D_X11_ways  p4399.2 l2 x4401 x4402 x4403 x4404).bind fun p4405 =>
      if (lg_cmp p4399.1 p4405.1) = 0 then
        D_L_law_1402 sc k18 p4405.2 l1 l2 l3
      else
        some ((0:Int32), p4405.2)
    else
    if x4217 = 22 then
      (z_xI sc (l3 + (1:Int32))).bind fun x4409 =>
      (z_xI sc (l3 + (2:Int32))).bind fun x4410 =>
      (z_xI sc (l3 + (3:Int32))).bind fun x4411 =>
      (z_xI sc (l3 + (4:Int32))).bind fun x4412 =>
      (z_ob 10 h l1).bind fun _ =>
      (D_X10_ends  h l1 x4409 x4410 x4411 x4412).bind fun p4413 =>
      (z_xI sc (l3 + (1:Int32))).bind fun x4415 =>
      (z_xI sc (l3 + (2:Int32))).bind fun x4416 =>
      (z_xI sc (l3 + (3:Int32))).bind fun x4417 =>
      (z_xI sc (l3 + (4:Int32))).bind fun x4418 =>
      (z_ob 11 p4413.2 l2).bind fun _ =>
      (D_X11_ends  p4413.2 l2 x4415 x4416 x4417 x4418).bind fun p4419 =>
      if p4413.1 = p4419.1 then
        D_L_law_1402 sc k18 p4419.2 l1 l2 l3
      else
        some ((0:Int32), p4419.2)
    else
    if x4217 = 23 then
      (z_xI sc (l3 + (1:Int32))).bind fun x4423 =>
      (z_xI sc (l3 + (2:Int32))).bind fun x4424 =>
      (z_xI sc (l3 + (3:Int32))).bind fun x4425 =>
      (z_ob 10 h l1).bind fun _ =>
      (D_X10_way  h l1 x4423 x4424 x4425).bind fun p4426 =>
      (z_xI sc (l3 + (1:Int32))).bind fun x4428 =>
      (z_xI sc (l3 + (2:Int32))).bind fun x4429 =>
      (z_xI sc (l3 + (3:Int32))).bind fun x4430 =>
      (z_ob 11 p4426.2 l2).bind fun _ =>
      (D_X11_way  p4426.2 l2 x4428 x4429 x4430).bind fun p4431 =>
      if p4426.1 = p4431.1 then
        D_L_law_1402 sc k18 p4431.2 l1 l2 l3
      else
        some ((0:Int32), p4431.2)
    else
    if x4217 = 24 then
      (z_xI sc (l3 + (1:Int32))).bind fun x4435 =>
      (z_xI sc (l3 + (2:Int32))).bind fun x4436 =>
      (z_ob 10 h l1).bind fun _ =>
      (D_X10_least  h l1 x4435 x4436).bind fun p4437 =>
      (z_xI sc (l3 + (1:Int32))).bind fun x4439 =>
      (z_xI sc (l3 + (2:Int32))).bind fun x4440 =>
      (z_ob 11 p4437.2 l2).bind fun _ =>
      (D_X11_least  p4437.2 l2 x4439 x4440).bind fun p4441 =>
      if p4437.1 = p4441.1 then
        D_L_law_1402 sc k18 p4441.2 l1 l2 l3
      else
        some ((0:Int32), p4441.2)
    else
    if x4217 = 25 then
      (z_xI sc (l3 + (1:Int32))).bind fun x4445 =>
      (z_xI sc (l3 + (2:Int32))).bind fun x4446 =>
      (z_xI sc (l3 + (3:Int32))).bind fun x4447 =>
      (z_ob 10 h l1).bind fun _ =>
      (D_X10_chance  h l1 x4445 x4446 x4447).bind fun p4448 =>
      (z_xI sc (l3 + (1:Int32))).bind fun x4450 =>
      (z_xI sc (l3 + (2:Int32))).bind fun x4451 =>
      (z_xI sc (l3 + (3:Int32))).bind fun x4452 =>
      (z_ob 11 p4448.2 l2).bind fun _ =>
      (D_X11_chance  p4448.2 l2 x4450 x4451 x4452).bind fun p4453 =>
      if (lg_cmp p4448.1 p4453.1) = 0 then
        D_L_law_1402 sc k18 p4453.2 l1 l2 l3
      else
        some ((0:Int32), p4453.2)
    else
    if x4217 = 26 then
      (z_xI sc (l3 + (1:Int32))).bind fun x4457 =>
      (z_xI sc (l3 + (2:Int32))).bind fun x4458 =>
      (z_ob 10 h l1).bind fun _ =>
      (D_X10_within  h l1 x4457 x4458).bind fun p4459 =>
      (z_xI sc (l3 + (1:Int32))).bind fun x4461 =>
      (z_xI sc (l3 + (2:Int32))).bind fun x4462 =>
      (z_ob 11 p4459.2 l2).bind fun _ =>
      (D_X11_within  p4459.2 l2 x4461 x4462).bind fun p4463 =>
      if p4459.1 = p4463.1 then
        D_L_law_1402 sc k18 p4463.2 l1 l2 l3
      else
        some ((0:Int32), p4463.2)
    else
    if x4217 = 27 then
      (z_xI sc (l3 + (1:Int32))).bind fun x4467 =>
      (z_ob 10 h l1).bind fun _ =>
      (D_X10_couples  h l1 x4467).bind fun p4468 =>
      (z_xI sc (l3 + (1:Int32))).bind fun x4470 =>
      (z_ob 11 p4468.2 l2).bind fun _ =>
      (D_X11_couples  p4468.2 l2 x4470).bind fun p4471 =>
      if p4468.1 = p4471.1 then
        D_L_law_1402 sc k18 p4471.2 l1 l2 l3
      else
        some ((0:Int32), p4471.2)
    else
    if x4217 = 28 then
      (z_xI sc (l3 + (1:Int32))).bind fun x4475 =>
      (z_ob 10 h l1).bind fun _ =>
      (D_X10_likest  h l1 x4475).bind fun p4476 =>
      (z_xI sc (l3 + (1:Int32))).bind fun x4478 =>
      (z_ob 11 p4476.2 l2).bind fun _ =>
      (D_X11_likest  p4476.2 l2 x4478).bind fun p4479 =>
      if p4476.1 = p4479.1 then
        D_L_law_1402 sc k18 p4479.2 l1 l2 l3
      else
        some ((0:Int32), p4479.2)
    else
    if x4217 = 29 then
      (z_xI sc (l3 + (1:Int32))).bind fun x4483 =>
      (z_xI sc (l3 + (2:Int32))).bind fun x4484 =>
      (z_ob 10 h l1).bind fun _ =>
      (D_X10_lasts  h l1 x4483 x4484).bind fun p4485 =>
      (z_xI sc (l3 + (1:Int32))).bind fun x4487 =>
      (z_xI sc (l3 + (2:Int32))).bind fun x4488 =>
      (z_ob 11 p4485.2 l2).bind fun _ =>
      (D_X11_lasts  p4485.2 l2 x4487 x4488).bind fun p4489 =>
      if p4485.1 = p4489.1 then
        D_L_law_1402 sc k18 p4489.2 l1 l2 l3
      else
        some ((0:Int32), p4489.2)
    else
    if x4217 = 30 then
      (z_xI sc (l3 + (1:Int32))).bind fun x4493 =>
      (z_xI sc (l3 + (2:Int32))).bind fun x4494 =>
      (z_ob 10 h l1).bind fun _ =>
      (D_X10_seen  h l1 x4493 x4494).bind fun p4495 =>
      (z_xI sc (l3 + (1:Int32))).bind fun x4497 =>
      (z_xI sc (l3 + (2:Int32))).bind fun x4498 =>
      (z_ob 11 p4495.2 l2).bind fun _ =>
      (D_X11_seen  p4495.2 l2 x4497 x4498).bind fun p4499 =>
      if p4495.1 = p4499.1 then
        D_L_law_1402 sc k18 p4499.2 l1 l2 l3
      else
        some ((0:Int32), p4499.2)
    else
    if x4217 = 31 then
      (z_ob 10 h l1).bind fun _ =>
      (D_X10_forget  h l1).bind fun p4503 =>
      (z_ob 11 p4503.2 l2).bind fun _ =>
      (D_X11_forget  p4503.2 l2).bind fun p4505 =>
      if p4503.1 = p4505.1 then
        D_L_law_1402 sc k18 p4505.2 l1 l2 l3
      else
        some ((0:Int32), p4505.2)
    else
    if x4217 = 32 then
      (z_ob 10 h l1).bind fun _ =>
      (D_X10_canBe  h l1).bind fun p4509 =>
      (z_ob 11 p4509.2 l2).bind fun _ =>
      (D_X11_canBe  p4509.2 l2).bind fun p4511 =>
      if p4509.1 = p4511.1 then
        D_L_law_1402 sc k18 p4511.2 l1 l2 l3
      else
        some ((0:Int32), p4511.2)
    else
    if x4217 = 33 then
      (z_xI sc (l3 + (1:Int32))).bind fun x4515 =>
      (z_ob 10 h l1).bind fun _ =>
      (D_X10_look  h l1 x4515).bind fun p4516 =>
      (z_xI sc (l3 + (1:Int32))).bind fun x4518 =>
      (z_ob 11 p4516.2 l2).bind fun _ =>
      (D_X11_look  p4516.2 l2 x4518).bind fun p4519 =>
      if p4516.1 = p4519.1 then
        D_L_law_1402 sc k18 p4519.2 l1 l2 l3
      else
        some ((0:Int32), p4519.2)
    else
    if x4217 = 34 then
      (z_ob 10 h l1).bind fun _ =>
      (D_X10_cutOff  h l1).bind fun p4523 =>
      (z_ob 11 p4523.2 l2).bind fun _ =>
      (D_X11_cutOff  p4523.2 l2).bind fun p4525 =>
      if p4523.1 = p4525.1 then
        D_L_law_1402 sc k18 p4525.2 l1 l2 l3
      else
        some ((0:Int32), p4525.2)
    else
    if x4217 = 35 then
      (z_xI sc (l3 + (1:Int32))).bind fun x4529 =>
      (z_xI sc (l3 + (2:Int32))).bind fun x4530 =>
      (z_ob 10 h l1).bind fun _ =>
      (D_X10_few  h l1 x4529 x4530).bind fun p4531 =>
      (z_xI sc (l3 + (1:Int32))).bind fun x4533 =>
      (z_xI sc (l3 + (2:Int32))).bind fun x4534 =>
      (z_ob 11 p4531.2 l2).bind fun _ =>
      (D_X11_few  p4531.2 l2 x4533 x4534).bind fun p4535 =>
      if (lg_cmp p4531.1 p4535.1) = 0 then
        D_L_law_1402 sc k18 p4535.2 l1 l2 l3
      else
        some ((0:Int32), p4535.2)
    else
    if x4217 = 36 then
      (z_xI sc (l3 + (1:Int32))).bind fun x4539 =>
      (z_xI sc (l3 + (2:Int32))).bind fun x4540 =>
      (z_xI sc (l3 + (3:Int32))).bind fun x4541 =>
      (z_ob 10 h l1).bind fun _ =>
      (D_X10_compare  h l1 x4539 x4540 x4541).bind fun p4542 =>
      (z_xI sc (l3 + (1:Int32))).bind fun x4544 =>
      (z_xI sc (l3 + (2:Int32))).bind fun x4545 =>
      (z_xI sc (l3 + (3:Int32))).bind fun x4546 =>
      (z_ob 11 p4542.2 l2).bind fun _ =>
      (D_X11_compare  p4542.2 l2 x4544 x4545 x4546).bind fun p4547 =>
      if p4542.1 = p4547.1 then
        D_L_law_1402 sc k18 p4547.2 l1 l2 l3
      else
        some ((0:Int32), p4547.2)
    else
    if x4217 = 37 then
      (z_xI sc (l3 + (1:Int32))).bind fun x4551 =>
      (z_xI sc (l3 + (2:Int32))).bind fun x4552 =>
      (z_ob 10 h l1).bind fun _ =>
      (D_X10_years  h l1 x4551 x4552).bind fun p4553 =>
      (z_xI sc (l3 + (1:Int32))).bind fun x4555 =>
      (z_xI sc (l3 + (2:Int32))).bind fun x4556 =>
      (z_ob 11 p4553.2 l2).bind fun _ =>
      (D_X11_years  p4553.2 l2 x4555 x4556).bind fun p4557 =>
      if p4553.1 = p4557.1 then
        D_L_law_1402 sc k18 p4557.2 l1 l2 l3
      else
        some ((0:Int32), p4557.2)
    else
    if x4217 = 38 then
      (z_xI sc (l3 + (1:Int32))).bind fun x4561 =>
      (z_xI sc (l3 + (2:Int32))).bind fun x4562 =>
      (z_ob 10 h l1).bind fun _ =>
      (D_X10_drawn  h l1 x4561 x4562).bind fun p4563 =>
      (z_xI sc (l3 + (1:Int32))).bind fun x4565 =>
      (z_xI sc (l3 + (2:Int32))).bind fun x4566 =>
      (z_ob 11 p4563.2 l2).bind fun _ =>
      (D_X11_drawn  p4563.2 l2 x4565 x4566).bind fun p4567 =>
      if p4563.1 = p4567.1 then
        D_L_law_1402 sc k18 p4567.2 l1 l2 l3
      else
        some ((0:Int32), p4567.2)
    else
    if x4217 = 39 then
      (z_xI sc (l3 + (1:Int32))).bind fun x4571 =>
      (z_ob 10 h l1).bind fun _ =>
      (D_X10_image  h l1 x4571).bind fun p4572 =>
      (z_xI sc (l3 + (1:Int32))).bind fun x4574 =>
      (z_ob 11 p4572.2 l2).bind fun _ =>
      (D_X11_image  p4572.2 l2 x4574).bind fun p4575 =>
      if p4572.1 = p4575.1 then
        D_L_law_1402 sc k18 p4575.2 l1 l2 l3
      else
        some ((0:Int32), p4575.2)
    else
    if x4217 = 40 then
      (z_xI sc (l3 + (1:Int32))).bind fun x4579 =>
      (z_ob 10 h l1).bind fun _ =>
      (D_X10_back  h l1 x4579).bind fun p4580 =>
      (z_xI sc (l3 + (1:Int32))).bind fun x4582 =>
      (z_ob 11 p4580.2 l2).bind fun _ =>
      (D_X11_back  p4580.2 l2 x4582).bind fun p4583 =>
      if p4580.1 = p4583.1 then
        D_L_law_1402 sc k18 p4583.2 l1 l2 l3
      else
        some ((0:Int32), p4583.2)
    else
    if x4217 = 41 then
      (z_xI sc (l3 + (1:Int32))).bind fun x4587 =>
      (z_ob 10 h l1).bind fun _ =>
      (D_X10_count  h l1 x4587).bind fun p4588 =>
      (z_xI sc (l3 + (1:Int32))).bind fun x4590 =>
      (z_ob 11 p4588.2 l2).bind fun _ =>
      (D_X11_count  p4588.2 l2 x4590).bind fun p4591 =>
      if p4588.1 = p4591.1 then
        D_L_law_1402 sc k18 p4591.2 l1 l2 l3
      else
        some ((0:Int32), p4591.2)
    else
    if x4217 = 42 then
      (z_ob 10 h l1).bind fun _ =>
      (D_X10_status  h l1).bind fun p4595 =>
      (z_ob 11 p4595.2 l2).bind fun _ =>
      (D_X11_status  p4595.2 l2).bind fun p4597 =>
      if p4595.1 = p4597.1 then
        D_L_law_1402 sc k18 p4597.2 l1 l2 l3
      else
        some ((0:Int32), p4597.2)
    else
    D_L_law_1402 sc k18 h l1 l2 l3
def D_L_law_18 (sc : Nat × (Nat → Int32)) (n : Nat) : z_H → Option Nat → Option Nat → Int32 → Option (Int32 × z_H) := Nat.rec (motive := fun _ => z_H → Option Nat → Option Nat → Int32 → Option (Int32 × z_H)) (fun _ _ _ _ => none) (fun _ k => D_L_law_18b sc  k) n
set_option maxRecDepth 100000 in
set_option maxHeartbeats 4000000 in
theorem S_L_law_18 {G : z_G} {l : Launch}  (n : Nat) : ∀ {h : z_H} {l1 : Option Nat} {l2 : Option Nat} {l3 : Int32} {res : (Int32 × z_H)}, D_L_law_18 G.2.2.2.2  n h l1 l2 l3 = some res → z_Run G l 100 M_L_law 18 [(0, .retAddr 0), (1, z_r l1), (2, z_r l2), (3, .int l3)] [] h res.2 (some (.int res.1)) := by
  induction n with
  | zero => intro h l1 l2 l3 res e; cases e
  | succ n hk18 =>
    intro h l1 l2 l3 res e
    replace e : D_L_law_18b G.2.2.2.2  (D_L_law_18 G.2.2.2.2  n) h l1 l2 l3 = some res := e
    unfold D_L_law_18b at e
    refine z_iload_n 3 dL_law_18 rfl ?_
    refine z_xload_n 0 dL_law_19 rfl ?_
    refine z_xlen (p0 := G.2.2.2.2) rfl dL_law_20 ?_
    refine z_bipush (v := 6) dL_law_21 (by decide) ?_
    refine z_isub dL_law_23 ?_
    refine z_icmp_gt (tgt := 1408) dL_law_24 (by decide) (fun c4215 => ?_) (fun c4215 => ?_)
    · rw [if_pos c4215] at e
      refine z_iconst (v := 1) dL_law_1408 (by decide) ?_
      cases e
      exact z_zret dL_law_1409 rfl (by decide)
    · rw [if_neg c4215] at e
      refine z_xload_n 0 dL_law_27 rfl ?_
      refine z_iload_n 3 dL_law_28 rfl ?_
      replace e := z_bd e; obtain ⟨x4216, ex4216, e⟩ := e
      refine z_xald (p0 := G.2.2.2.2) rfl ex4216 dL_law_29 ?_
      refine z_bipush (v := 63) dL_law_30 (by decide) ?_
      refine z_iand dL_law_32 ?_
      replace e := z_bd e; obtain ⟨x4217, ex4217, e⟩ := e
      refine z_topI ex4217 ?_
      by_cases c4218 : x4217 = 0
      · rw [if_pos c4218] at e
        refine z_tableIn (off := 187) (tgt := 220) dL_law_33 (by rw [c4218]; decide) (by rw [c4218]; decide) (by rw [c4218]; decide) (by decide) ?_
        refine z_aload_n 1 dL_law_220 rfl ?_
        refine z_xload_n 0 dL_law_221 rfl ?_
        refine z_iload_n 3 dL_law_222 rfl ?_
        refine z_iconst (v := 1) dL_law_223 (by decide) ?_
        refine z_iadd dL_law_224 ?_
        replace e := z_bd e; obtain ⟨x4219, ex4219, e⟩ := e
        refine z_xald (p0 := G.2.2.2.2) rfl ex4219 dL_law_225 ?_
        refine z_xload_n 0 dL_law_226 rfl ?_
        refine z_iload_n 3 dL_law_227 rfl ?_
        refine z_iconst (v := 2) dL_law_228 (by decide) ?_
        refine z_iadd dL_law_229 ?_
        replace e := z_bd e; obtain ⟨x4220, ex4220, e⟩ := e
        refine z_xald (p0 := G.2.2.2.2) rfl ex4220 dL_law_230 ?_
        refine z_xload_n 0 dL_law_231 rfl ?_
        refine z_iload_n 3 dL_law_232 rfl ?_
        refine z_iconst (v := 3) dL_law_233 (by decide) ?_
        refine z_iadd dL_law_234 ?_
        replace e := z_bd e; obtain ⟨x4221, ex4221, e⟩ := e
        refine z_xald (p0 := G.2.2.2.2) rfl ex4221 dL_law_235 ?_
        replace e := z_bd e; obtain ⟨o4223, eo4223, e⟩ := e
        replace e := z_bd e; obtain ⟨p4222, ep4222, e⟩ := e
        refine z_cV [.int x4219, .int x4220, .int x4221] (S_X10_pair  ep4222) eo4223 rfl ml_L_13 ck_X10_pair vk_X10_pair dL_law_236 (by decide) rfl (Nat.zero_le _) rfl ?_
        refine z_aload_n 2 dL_law_239 rfl ?_
        refine z_xload_n 0 dL_law_240 rfl ?_
        refine z_iload_n 3 dL_law_241 rfl ?_
        refine z_iconst (v := 1) dL_law_242 (by decide) ?_
        refine z_iadd dL_law_243 ?_
        replace e := z_bd e; obtain ⟨x4224, ex4224, e⟩ := e
        refine z_xald (p0 := G.2.2.2.2) rfl ex4224 dL_law_244 ?_
        refine z_xload_n 0 dL_law_245 rfl ?_
        refine z_iload_n 3 dL_law_246 rfl ?_
        refine z_iconst (v := 2) dL_law_247 (by decide) ?_
        refine z_iadd dL_law_248 ?_
        replace e := z_bd e; obtain ⟨x4225, ex4225, e⟩ := e
        refine z_xald (p0 := G.2.2.2.2) rfl ex4225 dL_law_249 ?_
        refine z_xload_n 0 dL_law_250 rfl ?_
        refine z_iload_n 3 dL_law_251 rfl ?_
        refine z_iconst (v := 3) dL_law_252 (by decide) ?_
        refine z_iadd dL_law_253 ?_
        replace e := z_bd e; obtain ⟨x4226, ex4226, e⟩ := e
        refine z_xald (p0 := G.2.2.2.2) rfl ex4226 dL_law_254 ?_
        replace e := z_bd e; obtain ⟨o4228, eo4228, e⟩ := e
        replace e := z_bd e; obtain ⟨p4227, ep4227, e⟩ := e
        refine z_cV [.int x4224, .int x4225, .int x4226] (S_X11_pair  ep4227) eo4228 rfl ml_L_17 ck_X11_pair vk_X11_pair dL_law_255 (by decide) rfl (by simp [z_ci, z_cj, z_cr, z_cx]) rfl ?_
        refine z_icmp_eq (tgt := 1402) dL_law_258 (by decide) (fun c4229 => ?_) (fun c4229 => ?_)
        · rw [if_pos c4229] at e
          exact z_weak [0, 1, 2, 3] rfl (S_L_law_1402  @hk18 e)
        · rw [if_neg c4229] at e
          refine z_iconst (v := 0) dL_law_261 (by decide) ?_
          cases e
          exact z_zret dL_law_262 rfl (by decide)
      rw [if_neg c4218] at e
      by_cases c4230 : x4217 = 1
      · rw [if_pos c4230] at e
        refine z_tableIn (off := 230) (tgt := 263) dL_law_33 (by rw [c4230]; decide) (by rw [c4230]; decide) (by rw [c4230]; decide) (by decide) ?_
        refine z_aload_n 1 dL_law_263 rfl ?_
        refine z_xload_n 0 dL_law_264 rfl ?_
        refine z_iload_n 3 dL_law_265 rfl ?_
        refine z_iconst (v := 1) dL_law_266 (by decide) ?_
        refine z_iadd dL_law_267 ?_
        replace e := z_bd e; obtain ⟨x4231, ex4231, e⟩ := e
        refine z_xald (p0 := G.2.2.2.2) rfl ex4231 dL_law_268 ?_
        refine z_xload_n 0 dL_law_269 rfl ?_
        refine z_iload_n 3 dL_law_270 rfl ?_
        refine z_iconst (v := 2) dL_law_271 (by decide) ?_
        refine z_iadd dL_law_272 ?_
        replace e := z_bd e; obtain ⟨x4232, ex4232, e⟩ := e
        refine z_xald (p0 := G.2.2.2.2) rfl ex4232 dL_law_273 ?_
        replace e := z_bd e; obtain ⟨o4234, eo4234, e⟩ := e
        replace e := z_bd e; obtain ⟨p4233, ep4233, e⟩ := e
        refine z_cV [.int x4231, .int x4232] (S_X10_of  ep4233) eo4234 rfl ml_L_18 ck_X10_of vk_X10_of dL_law_274 (by decide) rfl (Nat.zero_le _) rfl ?_
        refine z_aload_n 2 dL_law_277 rfl ?_
        refine z_xload_n 0 dL_law_278 rfl ?_
        refine z_iload_n 3 dL_law_279 rfl ?_
        refine z_iconst (v := 1) dL_law_280 (by decide) ?_
        refine z_iadd dL_law_281 ?_
        replace e := z_bd e; obtain ⟨x4235, ex4235, e⟩ := e
        refine z_xald (p0 := G.2.2.2.2) rfl ex4235 dL_law_282 ?_
        refine z_xload_n 0 dL_law_283 rfl ?_
        refine z_iload_n 3 dL_law_284 rfl ?_
        refine z_iconst (v := 2) dL_law_285 (by decide) ?_
        refine z_iadd dL_law_286 ?_
        replace e := z_bd e; obtain ⟨x4236, ex4236, e⟩ := e
        refine z_xald (p0 := G.2.2.2.2) rfl ex4236 dL_law_287 ?_
        replace e := z_bd e; obtain ⟨o4238, eo4238, e⟩ := e
        replace e := z_bd e; obtain ⟨p4237, ep4237, e⟩ := e
        refine z_cV [.int x4235, .int x4236] (S_X11_of  ep4237) eo4238 rfl ml_L_22 ck_X11_of vk_X11_of dL_law_288 (by decide) rfl (by simp [z_ci, z_cj, z_cr, z_cx]) rfl ?_
        refine z_icmp_eq (tgt := 1402) dL_law_291 (by decide) (fun c4239 => ?_) (fun c4239 => ?_)
        · rw [if_pos c4239] at e
          exact z_weak [0, 1, 2, 3] rfl (S_L_law_1402  @hk18 e)
        · rw [if_neg c4239] at e
          refine z_iconst (v := 0) dL_law_294 (by decide) ?_
          cases e
          exact z_zret dL_law_295 rfl (by decide)
      rw [if_neg c4230] at e
      by_cases c4240 : x4217 = 2
      · rw [if_pos c4240] at e
        refine z_tableIn (off := 263) (tgt := 296) dL_law_33 (by rw [c4240]; decide) (by rw [c4240]; decide) (by rw [c4240]; decide) (by decide) ?_
        refine z_aload_n 1 dL_law_296 rfl ?_
        refine z_xload_n 0 dL_law_297 rfl ?_
        refine z_iload_n 3 dL_law_298 rfl ?_
        refine z_iconst (v := 1) dL_law_299 (by decide) ?_
        refine z_iadd dL_law_300 ?_
        replace e := z_bd e; obtain ⟨x4241, ex4241, e⟩ := e
        refine z_xald (p0 := G.2.2.2.2) rfl ex4241 dL_law_301 ?_
        refine z_xload_n 0 dL_law_302 rfl ?_
        refine z_iload_n 3 dL_law_303 rfl ?_
        refine z_iconst (v := 2) dL_law_304 (by decide) ?_
        refine z_iadd dL_law_305 ?_
        replace e := z_bd e; obtain ⟨x4242, ex4242, e⟩ := e
        refine z_xald (p0 := G.2.2.2.2) rfl ex4242 dL_law_306 ?_
        replace e := z_bd e; obtain ⟨o4244, eo4244, e⟩ := e
        replace e := z_bd e; obtain ⟨p4243, ep4243, e⟩ := e
        refine z_cV [.int x4241, .int x4242] (S_X10_wall  ep4243) eo4244 rfl ml_L_23 ck_X10_wall vk_X10_wall dL_law_307 (by decide) rfl (Nat.zero_le _) rfl ?_
        refine z_aload_n 2 dL_law_310 rfl ?_
        refine z_xload_n 0 dL_law_311 rfl ?_
        refine z_iload_n 3 dL_law_312 rfl ?_
        refine z_iconst (v := 1) dL_law_313 (by decide) ?_
        refine z_iadd dL_law_314 ?_
        replace e := z_bd e; obtain ⟨x4245, ex4245, e⟩ := e
        refine z_xald (p0 := G.2.2.2.2) rfl ex4245 dL_law_315 ?_
        refine z_xload_n 0 dL_law_316 rfl ?_
        refine z_iload_n 3 dL_law_317 rfl ?_
        refine z_iconst (v := 2) dL_law_318 (by decide) ?_
        refine z_iadd dL_law_319 ?_
        replace e := z_bd e; obtain ⟨x4246, ex4246, e⟩ := e
        refine z_xald (p0 := G.2.2.2.2) rfl ex4246 dL_law_320 ?_
        replace e := z_bd e; obtain ⟨o4248, eo4248, e⟩ := e
        replace e := z_bd e; obtain ⟨p4247, ep4247, e⟩ := e
        refine z_cV [.int x4245, .int x4246] (S_X11_wall  ep4247) eo4248 rfl ml_L_26 ck_X11_wall vk_X11_wall dL_law_321 (by decide) rfl (by simp [z_ci, z_cj, z_cr, z_cx]) rfl ?_
        refine z_icmp_eq (tgt := 1402) dL_law_324 (by decide) (fun c4249 => ?_) (fun c4249 => ?_)
        · rw [if_pos c4249] at e
          exact z_weak [0, 1, 2, 3] rfl (S_L_law_1402  @hk18 e)
        · rw [if_neg c4249] at e
          refine z_iconst (v := 0) dL_law_327 (by decide) ?_
          cases e
          exact z_zret dL_law_328 rfl (by decide)
      rw [if_neg c4240] at e
      by_cases c4250 : x4217 = 3
      · rw [if_pos c4250] at e
        refine z_tableIn (off := 296) (tgt := 329) dL_law_33 (by rw [c4250]; decide) (by rw [c4250]; decide) (by rw [c4250]; decide) (by decide) ?_
        refine z_aload_n 1 dL_law_329 rfl ?_
        replace e := z_bd e; obtain ⟨o4252, eo4252, e⟩ := e
        replace e := z_bd e; obtain ⟨p4251, ep4251, e⟩ := e
        refine z_cV [] (S_X10_walls  ep4251) eo4252 rfl ml_L_27 ck_X10_walls vk_X10_walls dL_law_330 (by decide) rfl (Nat.zero_le _) rfl ?_
        refine z_aload_n 2 dL_law_333 rfl ?_
        replace e := z_bd e; obtain ⟨o4254, eo4254, e⟩ := e
        replace e := z_bd e; obtain ⟨p4253, ep4253, e⟩ := e
        refine z_cV [] (S_X11_walls  ep4253) eo4254 rfl ml_L_31 ck_X11_walls vk_X11_walls dL_law_334 (by decide) rfl (by simp [z_ci, z_cj, z_cr, z_cx]) rfl ?_
        refine z_icmp_eq (tgt := 1402) dL_law_337 (by decide) (fun c4255 => ?_) (fun c4255 => ?_)
        · rw [if_pos c4255] at e
          exact z_weak [0, 1, 2, 3] rfl (S_L_law_1402  @hk18 e)
        · rw [if_neg c4255] at e
          refine z_iconst (v := 0) dL_law_340 (by decide) ?_
          cases e
          exact z_zret dL_law_341 rfl (by decide)
      rw [if_neg c4250] at e
      by_cases c4256 : x4217 = 4
      · rw [if_pos c4256] at e
        refine z_tableIn (off := 309) (tgt := 342) dL_law_33 (by rw [c4256]; decide) (by rw [c4256]; decide) (by rw [c4256]; decide) (by decide) ?_
        refine z_aload_n 1 dL_law_342 rfl ?_
        refine z_xload_n 0 dL_law_343 rfl ?_
        refine z_iload_n 3 dL_law_344 rfl ?_
        refine z_iconst (v := 1) dL_law_345 (by decide) ?_
        refine z_iadd dL_law_346 ?_
        replace e := z_bd e; obtain ⟨x4257, ex4257, e⟩ := e
        refine z_xald (p0 := G.2.2.2.2) rfl ex4257 dL_law_347 ?_
        refine z_xload_n 0 dL_law_348 rfl ?_
        refine z_iload_n 3 dL_law_349 rfl ?_
        refine z_iconst (v := 2) dL_law_350 (by decide) ?_
        refine z_iadd dL_law_351 ?_
        replace e := z_bd e; obtain ⟨x4258, ex4258, e⟩ := e
        refine z_xald (p0 := G.2.2.2.2) rfl ex4258 dL_law_352 ?_
        refine z_xload_n 0 dL_law_353 rfl ?_
        refine z_iload_n 3 dL_law_354 rfl ?_
        refine z_iconst (v := 3) dL_law_355 (by decide) ?_
        refine z_iadd dL_law_356 ?_
        replace e := z_bd e; obtain ⟨x4259, ex4259, e⟩ := e
        refine z_xald (p0 := G.2.2.2.2) rfl ex4259 dL_law_357 ?_
        replace e := z_bd e; obtain ⟨o4261, eo4261, e⟩ := e
        replace e := z_bd e; obtain ⟨p4260, ep4260, e⟩ := e
        refine z_cV [.int x4257, .int x4258, .int x4259] (S_X10_asks  ep4260) eo4261 rfl ml_L_32 ck_X10_asks vk_X10_asks dL_law_358 (by decide) rfl (Nat.zero_le _) rfl ?_
        refine z_aload_n 2 dL_law_361 rfl ?_
        refine z_xload_n 0 dL_law_362 rfl ?_
        refine z_iload_n 3 dL_law_363 rfl ?_
        refine z_iconst (v := 1) dL_law_364 (by decide) ?_
        refine z_iadd dL_law_365 ?_
        replace e := z_bd e; obtain ⟨x4262, ex4262, e⟩ := e
        refine z_xald (p0 := G.2.2.2.2) rfl ex4262 dL_law_366 ?_
        refine z_xload_n 0 dL_law_367 rfl ?_
        refine z_iload_n 3 dL_law_368 rfl ?_
        refine z_iconst (v := 2) dL_law_369 (by decide) ?_
        refine z_iadd dL_law_370 ?_
        replace e := z_bd e; obtain ⟨x4263, ex4263, e⟩ := e
        refine z_xald (p0 := G.2.2.2.2) rfl ex4263 dL_law_371 ?_
        refine z_xload_n 0 dL_law_372 rfl ?_
        refine z_iload_n 3 dL_law_373 rfl ?_
        refine z_iconst (v := 3) dL_law_374 (by decide) ?_
        refine z_iadd dL_law_375 ?_
        replace e := z_bd e; obtain ⟨x4264, ex4264, e⟩ := e
        refine z_xald (p0 := G.2.2.2.2) rfl ex4264 dL_law_376 ?_
        replace e := z_bd e; obtain ⟨o4266, eo4266, e⟩ := e
        replace e := z_bd e; obtain ⟨p4265, ep4265, e⟩ := e
        refine z_cV [.int x4262, .int x4263, .int x4264] (S_X11_asks  ep4265) eo4266 rfl ml_L_35 ck_X11_asks vk_X11_asks dL_law_377 (by decide) rfl (by simp [z_ci, z_cj, z_cr, z_cx]) rfl ?_
        refine z_icmp_eq (tgt := 1402) dL_law_380 (by decide) (fun c4267 => ?_) (fun c4267 => ?_)
        · rw [if_pos c4267] at e
          exact z_weak [0, 1, 2, 3] rfl (S_L_law_1402  @hk18 e)
        · rw [if_neg c4267] at e
          refine z_iconst (v := 0) dL_law_383 (by decide) ?_
          cases e
          exact z_zret dL_law_384 rfl (by decide)
      rw [if_neg c4256] at e
      by_cases c4268 : x4217 = 5
      · rw [if_pos c4268] at e
        refine z_tableIn (off := 352) (tgt := 385) dL_law_33 (by rw [c4268]; decide) (by rw [c4268]; decide) (by rw [c4268]; decide) (by decide) ?_
        refine z_aload_n 1 dL_law_385 rfl ?_
        refine z_xload_n 0 dL_law_386 rfl ?_
        refine z_iload_n 3 dL_law_387 rfl ?_
        refine z_iconst (v := 1) dL_law_388 (by decide) ?_
        refine z_iadd dL_law_389 ?_
        replace e := z_bd e; obtain ⟨x4269, ex4269, e⟩ := e
        refine z_xald (p0 := G.2.2.2.2) rfl ex4269 dL_law_390 ?_
        refine z_xload_n 0 dL_law_391 rfl ?_
        refine z_iload_n 3 dL_law_392 rfl ?_
        refine z_iconst (v := 2) dL_law_393 (by decide) ?_
        refine z_iadd dL_law_394 ?_
        replace e := z_bd e; obtain ⟨x4270, ex4270, e⟩ := e
        refine z_xald (p0 := G.2.2.2.2) rfl ex4270 dL_law_395 ?_
        replace e := z_bd e; obtain ⟨o4272, eo4272, e⟩ := e
        replace e := z_bd e; obtain ⟨p4271, ep4271, e⟩ := e
        refine z_cV [.int x4269, .int x4270] (S_X10_terms  ep4271) eo4272 rfl ml_L_36 ck_X10_terms vk_X10_terms dL_law_396 (by decide) rfl (Nat.zero_le _) rfl ?_
        refine z_aload_n 2 dL_law_399 rfl ?_
        refine z_xload_n 0 dL_law_400 rfl ?_
        refine z_iload_n 3 dL_law_401 rfl ?_
        refine z_iconst (v := 1) dL_law_402 (by decide) ?_
        refine z_iadd dL_law_403 ?_
        replace e := z_bd e; obtain ⟨x4273, ex4273, e⟩ := e
        refine z_xald (p0 := G.2.2.2.2) rfl ex4273 dL_law_404 ?_
        refine z_xload_n 0 dL_law_405 rfl ?_
        refine z_iload_n 3 dL_law_406 rfl ?_
        refine z_iconst (v := 2) dL_law_407 (by decide) ?_
        refine z_iadd dL_law_408 ?_
        replace e := z_bd e; obtain ⟨x4274, ex4274, e⟩ := e
        refine z_xald (p0 := G.2.2.2.2) rfl ex4274 dL_law_409 ?_
        replace e := z_bd e; obtain ⟨o4276, eo4276, e⟩ := e
        replace e := z_bd e; obtain ⟨p4275, ep4275, e⟩ := e
        refine z_cV [.int x4273, .int x4274] (S_X11_terms  ep4275) eo4276 rfl ml_L_39 ck_X11_terms vk_X11_terms dL_law_410 (by decide) rfl (by simp [z_ci, z_cj, z_cr, z_cx]) rfl ?_
        refine z_icmp_eq (tgt := 1402) dL_law_413 (by decide) (fun c4277 => ?_) (fun c4277 => ?_)
        · rw [if_pos c4277] at e
          exact z_weak [0, 1, 2, 3] rfl (S_L_law_1402  @hk18 e)
        · rw [if_neg c4277] at e
          refine z_iconst (v := 0) dL_law_416 (by decide) ?_
          cases e
          exact z_zret dL_law_417 rfl (by decide)
      rw [if_neg c4268] at e
      by_cases c4278 : x4217 = 6
      · rw [if_pos c4278] at e
        refine z_tableIn (off := 385) (tgt := 418) dL_law_33 (by rw [c4278]; decide) (by rw [c4278]; decide) (by rw [c4278]; decide) (by decide) ?_
        refine z_aload_n 1 dL_law_418 rfl ?_
        refine z_xload_n 0 dL_law_419 rfl ?_
        refine z_iload_n 3 dL_law_420 rfl ?_
        refine z_iconst (v := 1) dL_law_421 (by decide) ?_
        refine z_iadd dL_law_422 ?_
        replace e := z_bd e; obtain ⟨x4279, ex4279, e⟩ := e
        refine z_xald (p0 := G.2.2.2.2) rfl ex4279 dL_law_423 ?_
        refine z_xload_n 0 dL_law_424 rfl ?_
        refine z_iload_n 3 dL_law_425 rfl ?_
        refine z_iconst (v := 2) dL_law_426 (by decide) ?_
        refine z_iadd dL_law_427 ?_
        replace e := z_bd e; obtain ⟨x4280, ex4280, e⟩ := e
        refine z_xald (p0 := G.2.2.2.2) rfl ex4280 dL_law_428 ?_
        refine z_xload_n 0 dL_law_429 rfl ?_
        refine z_iload_n 3 dL_law_430 rfl ?_
        refine z_iconst (v := 3) dL_law_431 (by decide) ?_
        refine z_iadd dL_law_432 ?_
        replace e := z_bd e; obtain ⟨x4281, ex4281, e⟩ := e
        refine z_xald (p0 := G.2.2.2.2) rfl ex4281 dL_law_433 ?_
        refine z_xload_n 0 dL_law_434 rfl ?_
        refine z_iload_n 3 dL_law_435 rfl ?_
        refine z_iconst (v := 4) dL_law_436 (by decide) ?_
        refine z_iadd dL_law_437 ?_
        replace e := z_bd e; obtain ⟨x4282, ex4282, e⟩ := e
        refine z_xald (p0 := G.2.2.2.2) rfl ex4282 dL_law_438 ?_
        refine z_xload_n 0 dL_law_439 rfl ?_
        refine z_iload_n 3 dL_law_440 rfl ?_
        refine z_iconst (v := 5) dL_law_441 (by decide) ?_
        refine z_iadd dL_law_442 ?_
        replace e := z_bd e; obtain ⟨x4283, ex4283, e⟩ := e
        refine z_xald (p0 := G.2.2.2.2) rfl ex4283 dL_law_443 ?_
        replace e := z_bd e; obtain ⟨o4285, eo4285, e⟩ := e
        replace e := z_bd e; obtain ⟨p4284, ep4284, e⟩ := e
        refine z_cV [.int x4279, .int x4280, .int x4281, .int x4282, .int x4283] (S_X10_feed  ep4284) eo4285 rfl ml_L_40 ck_X10_feed vk_X10_feed dL_law_444 (by decide) rfl (Nat.zero_le _) rfl ?_
        refine z_aload_n 2 dL_law_447 rfl ?_
        refine z_xload_n 0 dL_law_448 rfl ?_
        refine z_iload_n 3 dL_law_449 rfl ?_
        refine z_iconst (v := 1) dL_law_450 (by decide) ?_
        refine z_iadd dL_law_451 ?_
        replace e := z_bd e; obtain ⟨x4286, ex4286, e⟩ := e
        refine z_xald (p0 := G.2.2.2.2) rfl ex4286 dL_law_452 ?_
        refine z_xload_n 0 dL_law_453 rfl ?_
        refine z_iload_n 3 dL_law_454 rfl ?_
        refine z_iconst (v := 2) dL_law_455 (by decide) ?_
        refine z_iadd dL_law_456 ?_
        replace e := z_bd e; obtain ⟨x4287, ex4287, e⟩ := e
        refine z_xald (p0 := G.2.2.2.2) rfl ex4287 dL_law_457 ?_
        refine z_xload_n 0 dL_law_458 rfl ?_
        refine z_iload_n 3 dL_law_459 rfl ?_
        refine z_iconst (v := 3) dL_law_460 (by decide) ?_
        refine z_iadd dL_law_461 ?_
        replace e := z_bd e; obtain ⟨x4288, ex4288, e⟩ := e
        refine z_xald (p0 := G.2.2.2.2) rfl ex4288 dL_law_462 ?_
        refine z_xload_n 0 dL_law_463 rfl ?_
        refine z_iload_n 3 dL_law_464 rfl ?_
        refine z_iconst (v := 4) dL_law_465 (by decide) ?_
        refine z_iadd dL_law_466 ?_
        replace e := z_bd e; obtain ⟨x4289, ex4289, e⟩ := e
        refine z_xald (p0 := G.2.2.2.2) rfl ex4289 dL_law_467 ?_
        refine z_xload_n 0 dL_law_468 rfl ?_
        refine z_iload_n 3 dL_law_469 rfl ?_
        refine z_iconst (v := 5) dL_law_470 (by decide) ?_
        refine z_iadd dL_law_471 ?_
        replace e := z_bd e; obtain ⟨x4290, ex4290, e⟩ := e
        refine z_xald (p0 := G.2.2.2.2) rfl ex4290 dL_law_472 ?_
        replace e := z_bd e; obtain ⟨o4292, eo4292, e⟩ := e
        replace e := z_bd e; obtain ⟨p4291, ep4291, e⟩ := e
        refine z_cV [.int x4286, .int x4287, .int x4288, .int x4289, .int x4290] (S_X11_feed  ep4291) eo4292 rfl ml_L_44 ck_X11_feed vk_X11_feed dL_law_473 (by decide) rfl (by simp [z_ci, z_cj, z_cr, z_cx]) rfl ?_
        refine z_icmp_eq (tgt := 1402) dL_law_476 (by decide) (fun c4293 => ?_) (fun c4293 => ?_)
        · rw [if_pos c4293] at e
          exact z_weak [0, 1, 2, 3] rfl (S_L_law_1402  @hk18 e)
        · rw [if_neg c4293] at e
          refine z_iconst (v := 0) dL_law_479 (by decide) ?_
          cases e
          exact z_zret dL_law_480 rfl (by decide)
      rw [if_neg c4278] at e
      by_cases c4294 : x4217 = 7
      · rw [if_pos c4294] at e
        refine z_tableIn (off := 448) (tgt := 481) dL_law_33 (by rw [c4294]; decide) (by rw [c4294]; decide) (by rw [c4294]; decide) (by decide) ?_
        refine z_aload_n 1 dL_law_481 rfl ?_
        refine z_xload_n 0 dL_law_482 rfl ?_
        refine z_iload_n 3 dL_law_483 rfl ?_
        refine z_iconst (v := 1) dL_law_484 (by decide) ?_
        refine z_iadd dL_law_485 ?_
        replace e := z_bd e; obtain ⟨x4295, ex4295, e⟩ := e
        refine z_xald (p0 := G.2.2.2.2) rfl ex4295 dL_law_486 ?_
        replace e := z_bd e; obtain ⟨o4297, eo4297, e⟩ := e
        replace e := z_bd e; obtain ⟨p4296, ep4296, e⟩ := e
        refine z_cV [.int x4295] (S_X10_end  ep4296) eo4297 rfl ml_L_45 ck_X10_end vk_X10_end dL_law_487 (by decide) rfl (Nat.zero_le _) rfl ?_
        refine z_aload_n 2 dL_law_490 rfl ?_
        refine z_xload_n 0 dL_law_491 rfl ?_
        refine z_iload_n 3 dL_law_492 rfl ?_
        refine z_iconst (v := 1) dL_law_493 (by decide) ?_
        refine z_iadd dL_law_494 ?_
        replace e := z_bd e; obtain ⟨x4298, ex4298, e⟩ := e
        refine z_xald (p0 := G.2.2.2.2) rfl ex4298 dL_law_495 ?_
        replace e := z_bd e; obtain ⟨o4300, eo4300, e⟩ := e
        replace e := z_bd e; obtain ⟨p4299, ep4299, e⟩ := e
        refine z_cV [.int x4298] (S_X11_end  ep4299) eo4300 rfl ml_L_49 ck_X11_end vk_X11_end dL_law_496 (by decide) rfl (by simp [z_ci, z_cj, z_cr, z_cx]) rfl ?_
        refine z_icmp_eq (tgt := 1402) dL_law_499 (by decide) (fun c4301 => ?_) (fun c4301 => ?_)
        · rw [if_pos c4301] at e
          exact z_weak [0, 1, 2, 3] rfl (S_L_law_1402  @hk18 e)
        · rw [if_neg c4301] at e
          refine z_iconst (v := 0) dL_law_502 (by decide) ?_
          cases e
          exact z_zret dL_law_503 rfl (by decide)
      rw [if_neg c4294] at e
      by_cases c4302 : x4217 = 8
      · rw [if_pos c4302] at e
        refine z_tableIn (off := 471) (tgt := 504) dL_law_33 (by rw [c4302]; decide) (by rw [c4302]; decide) (by rw [c4302]; decide) (by decide) ?_
        refine z_aload_n 1 dL_law_504 rfl ?_
        replace e := z_bd e; obtain ⟨o4304, eo4304, e⟩ := e
        replace e := z_bd e; obtain ⟨p4303, ep4303, e⟩ := e
        refine z_cV [] (S_X10_row  ep4303) eo4304 rfl ml_L_50 ck_X10_row vk_X10_row dL_law_505 (by decide) rfl (Nat.zero_le _) rfl ?_
        refine z_aload_n 2 dL_law_508 rfl ?_
        replace e := z_bd e; obtain ⟨o4306, eo4306, e⟩ := e
        replace e := z_bd e; obtain ⟨p4305, ep4305, e⟩ := e
        refine z_cV [] (S_X11_row  ep4305) eo4306 rfl ml_L_53 ck_X11_row vk_X11_row dL_law_509 (by decide) rfl (by simp [z_ci, z_cj, z_cr, z_cx]) rfl ?_
        refine z_icmp_eq (tgt := 1402) dL_law_512 (by decide) (fun c4307 => ?_) (fun c4307 => ?_)
        · rw [if_pos c4307] at e
          exact z_weak [0, 1, 2, 3] rfl (S_L_law_1402  @hk18 e)
        · rw [if_neg c4307] at e
          refine z_iconst (v := 0) dL_law_515 (by decide) ?_
          cases e
          exact z_zret dL_law_516 rfl (by decide)
      rw [if_neg c4302] at e
      by_cases c4308 : x4217 = 9
      · rw [if_pos c4308] at e
        refine z_tableIn (off := 484) (tgt := 517) dL_law_33 (by rw [c4308]; decide) (by rw [c4308]; decide) (by rw [c4308]; decide) (by decide) ?_
        refine z_aload_n 1 dL_law_517 rfl ?_
        replace e := z_bd e; obtain ⟨o4310, eo4310, e⟩ := e
        replace e := z_bd e; obtain ⟨p4309, ep4309, e⟩ := e
        refine z_cV [] (S_X10_brads  ep4309) eo4310 rfl ml_L_54 ck_X10_brads vk_X10_brads dL_law_518 (by decide) rfl (Nat.zero_le _) rfl ?_
        refine z_aload_n 2 dL_law_521 rfl ?_
        replace e := z_bd e; obtain ⟨o4312, eo4312, e⟩ := e
        replace e := z_bd e; obtain ⟨p4311, ep4311, e⟩ := e
        refine z_cV [] (S_X11_brads  ep4311) eo4312 rfl ml_L_57 ck_X11_brads vk_X11_brads dL_law_522 (by decide) rfl (by simp [z_ci, z_cj, z_cr, z_cx]) rfl ?_
        refine z_icmp_eq (tgt := 1402) dL_law_525 (by decide) (fun c4313 => ?_) (fun c4313 => ?_)
        · rw [if_pos c4313] at e
          exact z_weak [0, 1, 2, 3] rfl (S_L_law_1402  @hk18 e)
        · rw [if_neg c4313] at e
          refine z_iconst (v := 0) dL_law_528 (by decide) ?_
          cases e
          exact z_zret dL_law_529 rfl (by decide)
      rw [if_neg c4308] at e
      by_cases c4314 : x4217 = 10
      · rw [if_pos c4314] at e
        refine z_tableIn (off := 497) (tgt := 530) dL_law_33 (by rw [c4314]; decide) (by rw [c4314]; decide) (by rw [c4314]; decide) (by decide) ?_
        refine z_aload_n 1 dL_law_530 rfl ?_
        replace e := z_bd e; obtain ⟨o4316, eo4316, e⟩ := e
        replace e := z_bd e; obtain ⟨p4315, ep4315, e⟩ := e
        refine z_cV [] (S_X10_law  ep4315) eo4316 rfl ml_L_58 ck_X10_law vk_X10_law dL_law_531 (by decide) rfl (Nat.zero_le _) rfl ?_
        refine z_aload_n 2 dL_law_534 rfl ?_
        replace e := z_bd e; obtain ⟨o4318, eo4318, e⟩ := e
        replace e := z_bd e; obtain ⟨p4317, ep4317, e⟩ := e
        refine z_cV [] (S_X11_law  ep4317) eo4318 rfl ml_L_61 ck_X11_law vk_X11_law dL_law_535 (by decide) rfl (by simp [z_ci, z_cj, z_cr, z_cx]) rfl ?_
        refine z_icmp_eq (tgt := 1402) dL_law_538 (by decide) (fun c4319 => ?_) (fun c4319 => ?_)
        · rw [if_pos c4319] at e
          exact z_weak [0, 1, 2, 3] rfl (S_L_law_1402  @hk18 e)
        · rw [if_neg c4319] at e
          refine z_iconst (v := 0) dL_law_541 (by decide) ?_
          cases e
          exact z_zret dL_law_542 rfl (by decide)
      rw [if_neg c4314] at e
      by_cases c4320 : x4217 = 11
      · rw [if_pos c4320] at e
        refine z_tableIn (off := 510) (tgt := 543) dL_law_33 (by rw [c4320]; decide) (by rw [c4320]; decide) (by rw [c4320]; decide) (by decide) ?_
        refine z_aload_n 1 dL_law_543 rfl ?_
        replace e := z_bd e; obtain ⟨o4322, eo4322, e⟩ := e
        replace e := z_bd e; obtain ⟨p4321, ep4321, e⟩ := e
        refine z_cV [] (S_X10_orders  ep4321) eo4322 rfl ml_L_62 ck_X10_orders vk_X10_orders dL_law_544 (by decide) rfl (Nat.zero_le _) rfl ?_
        refine z_aload_n 2 dL_law_547 rfl ?_
        replace e := z_bd e; obtain ⟨o4324, eo4324, e⟩ := e
        replace e := z_bd e; obtain ⟨p4323, ep4323, e⟩ := e
        refine z_cV [] (S_X11_orders  ep4323) eo4324 rfl ml_L_65 ck_X11_orders vk_X11_orders dL_law_548 (by decide) rfl (by simp [z_ci, z_cj, z_cr, z_cx]) rfl ?_
        refine z_icmp_eq (tgt := 1402) dL_law_551 (by decide) (fun c4325 => ?_) (fun c4325 => ?_)
        · rw [if_pos c4325] at e
          exact z_weak [0, 1, 2, 3] rfl (S_L_law_1402  @hk18 e)
        · rw [if_neg c4325] at e
          refine z_iconst (v := 0) dL_law_554 (by decide) ?_
          cases e
          exact z_zret dL_law_555 rfl (by decide)
      rw [if_neg c4320] at e
      by_cases c4326 : x4217 = 12
      · rw [if_pos c4326] at e
        refine z_tableIn (off := 523) (tgt := 556) dL_law_33 (by rw [c4326]; decide) (by rw [c4326]; decide) (by rw [c4326]; decide) (by decide) ?_
        refine z_aload_n 1 dL_law_556 rfl ?_
        replace e := z_bd e; obtain ⟨o4328, eo4328, e⟩ := e
        replace e := z_bd e; obtain ⟨p4327, ep4327, e⟩ := e
        refine z_cV [] (S_X10_fault  ep4327) eo4328 rfl ml_L_66 ck_X10_fault vk_X10_fault dL_law_557 (by decide) rfl (Nat.zero_le _) rfl ?_
        refine z_aload_n 2 dL_law_560 rfl ?_
        replace e := z_bd e; obtain ⟨o4330, eo4330, e⟩ := e
        replace e := z_bd e; obtain ⟨p4329, ep4329, e⟩ := e
        refine z_cV [] (S_X11_fault  ep4329) eo4330 rfl ml_L_69 ck_X11_fault vk_X11_fault dL_law_561 (by decide) rfl (by simp [z_ci, z_cj, z_cr, z_cx]) rfl ?_
        refine z_icmp_eq (tgt := 1402) dL_law_564 (by decide) (fun c4331 => ?_) (fun c4331 => ?_)
        · rw [if_pos c4331] at e
          exact z_weak [0, 1, 2, 3] rfl (S_L_law_1402  @hk18 e)
        · rw [if_neg c4331] at e
          refine z_iconst (v := 0) dL_law_567 (by decide) ?_
          cases e
          exact z_zret dL_law_568 rfl (by decide)
      rw [if_neg c4326] at e
      by_cases c4332 : x4217 = 13
      · rw [if_pos c4332] at e
        refine z_tableIn (off := 536) (tgt := 569) dL_law_33 (by rw [c4332]; decide) (by rw [c4332]; decide) (by rw [c4332]; decide) (by decide) ?_
        refine z_aload_n 1 dL_law_569 rfl ?_
        replace e := z_bd e; obtain ⟨o4334, eo4334, e⟩ := e
        replace e := z_bd e; obtain ⟨p4333, ep4333, e⟩ := e
        refine z_cV [] (S_X10_stopped  ep4333) eo4334 rfl ml_L_70 ck_X10_stopped vk_X10_stopped dL_law_570 (by decide) rfl (Nat.zero_le _) rfl ?_
        refine z_aload_n 2 dL_law_573 rfl ?_
        replace e := z_bd e; obtain ⟨o4336, eo4336, e⟩ := e
        replace e := z_bd e; obtain ⟨p4335, ep4335, e⟩ := e
        refine z_cV [] (S_X11_stopped  ep4335) eo4336 rfl ml_L_73 ck_X11_stopped vk_X11_stopped dL_law_574 (by decide) rfl (by simp [z_ci, z_cj, z_cr, z_cx]) rfl ?_
        refine z_icmp_eq (tgt := 1402) dL_law_577 (by decide) (fun c4337 => ?_) (fun c4337 => ?_)
        · rw [if_pos c4337] at e
          exact z_weak [0, 1, 2, 3] rfl (S_L_law_1402  @hk18 e)
        · rw [if_neg c4337] at e
          refine z_iconst (v := 0) dL_law_580 (by decide) ?_
          cases e
          exact z_zret dL_law_581 rfl (by decide)
      rw [if_neg c4332] at e
      by_cases c4338 : x4217 = 14
      · rw [if_pos c4338] at e
        refine z_tableIn (off := 549) (tgt := 582) dL_law_33 (by rw [c4338]; decide) (by rw [c4338]; decide) (by rw [c4338]; decide) (by decide) ?_
        refine z_aload_n 1 dL_law_582 rfl ?_
        refine z_xload_n 0 dL_law_583 rfl ?_
        refine z_iload_n 3 dL_law_584 rfl ?_
        refine z_iconst (v := 1) dL_law_585 (by decide) ?_
        refine z_iadd dL_law_586 ?_
        replace e := z_bd e; obtain ⟨x4339, ex4339, e⟩ := e
        refine z_xald (p0 := G.2.2.2.2) rfl ex4339 dL_law_587 ?_
        replace e := z_bd e; obtain ⟨o4341, eo4341, e⟩ := e
        replace e := z_bd e; obtain ⟨p4340, ep4340, e⟩ := e
        refine z_cV [.int x4339] (S_X10_force  ep4340) eo4341 rfl ml_L_74 ck_X10_force vk_X10_force dL_law_588 (by decide) rfl (Nat.zero_le _) rfl ?_
        refine z_aload_n 2 dL_law_591 rfl ?_
        refine z_xload_n 0 dL_law_592 rfl ?_
        refine z_iload_n 3 dL_law_593 rfl ?_
        refine z_iconst (v := 1) dL_law_594 (by decide) ?_
        refine z_iadd dL_law_595 ?_
        replace e := z_bd e; obtain ⟨x4342, ex4342, e⟩ := e
        refine z_xald (p0 := G.2.2.2.2) rfl ex4342 dL_law_596 ?_
        replace e := z_bd e; obtain ⟨o4344, eo4344, e⟩ := e
        replace e := z_bd e; obtain ⟨p4343, ep4343, e⟩ := e
        refine z_cV [.int x4342] (S_X11_force  ep4343) eo4344 rfl ml_L_77 ck_X11_force vk_X11_force dL_law_597 (by decide) rfl (by simp [z_ci, z_cj, z_cr, z_cx]) rfl ?_
        refine z_icmp_eq (tgt := 1402) dL_law_600 (by decide) (fun c4345 => ?_) (fun c4345 => ?_)
        · rw [if_pos c4345] at e
          exact z_weak [0, 1, 2, 3] rfl (S_L_law_1402  @hk18 e)
        · rw [if_neg c4345] at e
          refine z_iconst (v := 0) dL_law_603 (by decide) ?_
          cases e
          exact z_zret dL_law_604 rfl (by decide)
      rw [if_neg c4338] at e
      by_cases c4346 : x4217 = 15
      · rw [if_pos c4346] at e
        refine z_tableIn (off := 572) (tgt := 605) dL_law_33 (by rw [c4346]; decide) (by rw [c4346]; decide) (by rw [c4346]; decide) (by decide) ?_
        refine z_aload_n 1 dL_law_605 rfl ?_
        refine z_xload_n 0 dL_law_606 rfl ?_
        refine z_iload_n 3 dL_law_607 rfl ?_
        refine z_iconst (v := 1) dL_law_608 (by decide) ?_
        refine z_iadd dL_law_609 ?_
        replace e := z_bd e; obtain ⟨x4347, ex4347, e⟩ := e
        refine z_xald (p0 := G.2.2.2.2) rfl ex4347 dL_law_610 ?_
        replace e := z_bd e; obtain ⟨o4349, eo4349, e⟩ := e
        replace e := z_bd e; obtain ⟨p4348, ep4348, e⟩ := e
        refine z_cV [.int x4347] (S_X10_step  ep4348) eo4349 rfl ml_L_78 ck_X10_step vk_X10_step dL_law_611 (by decide) rfl (Nat.zero_le _) rfl ?_
        refine z_aload_n 2 dL_law_614 rfl ?_
        refine z_xload_n 0 dL_law_615 rfl ?_
        refine z_iload_n 3 dL_law_616 rfl ?_
        refine z_iconst (v := 1) dL_law_617 (by decide) ?_
        refine z_iadd dL_law_618 ?_
        replace e := z_bd e; obtain ⟨x4350, ex4350, e⟩ := e
        refine z_xald (p0 := G.2.2.2.2) rfl ex4350 dL_law_619 ?_
        replace e := z_bd e; obtain ⟨o4352, eo4352, e⟩ := e
        replace e := z_bd e; obtain ⟨p4351, ep4351, e⟩ := e
        refine z_cV [.int x4350] (S_X11_step  ep4351) eo4352 rfl ml_L_81 ck_X11_step vk_X11_step dL_law_620 (by decide) rfl (by simp [z_ci, z_cj, z_cr, z_cx]) rfl ?_
        refine z_icmp_eq (tgt := 1402) dL_law_623 (by decide) (fun c4353 => ?_) (fun c4353 => ?_)
        · rw [if_pos c4353] at e
          exact z_weak [0, 1, 2, 3] rfl (S_L_law_1402  @hk18 e)
        · rw [if_neg c4353] at e
          refine z_iconst (v := 0) dL_law_626 (by decide) ?_
          cases e
          exact z_zret dL_law_627 rfl (by decide)
      rw [if_neg c4346] at e
      by_cases c4354 : x4217 = 16
      · rw [if_pos c4354] at e
        refine z_tableIn (off := 595) (tgt := 628) dL_law_33 (by rw [c4354]; decide) (by rw [c4354]; decide) (by rw [c4354]; decide) (by decide) ?_
        refine z_aload_n 1 dL_law_628 rfl ?_
        refine z_xload_n 0 dL_law_629 rfl ?_
        refine z_iload_n 3 dL_law_630 rfl ?_
        refine z_iconst (v := 1) dL_law_631 (by decide) ?_
        refine z_iadd dL_law_632 ?_
        replace e := z_bd e; obtain ⟨x4355, ex4355, e⟩ := e
        refine z_xald (p0 := G.2.2.2.2) rfl ex4355 dL_law_633 ?_
        refine z_xload_n 0 dL_law_634 rfl ?_
        refine z_iload_n 3 dL_law_635 rfl ?_
        refine z_iconst (v := 2) dL_law_636 (by decide) ?_
        refine z_iadd dL_law_637 ?_
        replace e := z_bd e; obtain ⟨x4356, ex4356, e⟩ := e
        refine z_xald (p0 := G.2.2.2.2) rfl ex4356 dL_law_638 ?_
        replace e := z_bd e; obtain ⟨o4358, eo4358, e⟩ := e
        replace e := z_bd e; obtain ⟨p4357, ep4357, e⟩ := e
        refine z_cV [.int x4355, .int x4356] (S_X10_turn  ep4357) eo4358 rfl ml_L_82 ck_X10_turn vk_X10_turn dL_law_639 (by decide) rfl (Nat.zero_le _) rfl ?_
        refine z_aload_n 2 dL_law_642 rfl ?_
        refine z_xload_n 0 dL_law_643 rfl ?_
        refine z_iload_n 3 dL_law_644 rfl ?_
        refine z_iconst (v := 1) dL_law_645 (by decide) ?_
        refine z_iadd dL_law_646 ?_
        replace e := z_bd e; obtain ⟨x4359, ex4359, e⟩ := e
        refine z_xald (p0 := G.2.2.2.2) rfl ex4359 dL_law_647 ?_
        refine z_xload_n 0 dL_law_648 rfl ?_
        refine z_iload_n 3 dL_law_649 rfl ?_
        refine z_iconst (v := 2) dL_law_650 (by decide) ?_
        refine z_iadd dL_law_651 ?_
        replace e := z_bd e; obtain ⟨x4360, ex4360, e⟩ := e
        refine z_xald (p0 := G.2.2.2.2) rfl ex4360 dL_law_652 ?_
        replace e := z_bd e; obtain ⟨o4362, eo4362, e⟩ := e
        replace e := z_bd e; obtain ⟨p4361, ep4361, e⟩ := e
        refine z_cV [.int x4359, .int x4360] (S_X11_turn  ep4361) eo4362 rfl ml_L_85 ck_X11_turn vk_X11_turn dL_law_653 (by decide) rfl (by simp [z_ci, z_cj, z_cr, z_cx]) rfl ?_
        refine z_icmp_eq (tgt := 1402) dL_law_656 (by decide) (fun c4363 => ?_) (fun c4363 => ?_)
        · rw [if_pos c4363] at e
          exact z_weak [0, 1, 2, 3] rfl (S_L_law_1402  @hk18 e)
        · rw [if_neg c4363] at e
          refine z_iconst (v := 0) dL_law_659 (by decide) ?_
          cases e
          exact z_zret dL_law_660 rfl (by decide)
      rw [if_neg c4354] at e
      by_cases c4364 : x4217 = 17
      · rw [if_pos c4364] at e
        refine z_tableIn (off := 628) (tgt := 661) dL_law_33 (by rw [c4364]; decide) (by rw [c4364]; decide) (by rw [c4364]; decide) (by decide) ?_
        refine z_aload_n 1 dL_law_661 rfl ?_
        refine z_xload_n 0 dL_law_662 rfl ?_
        refine z_iload_n 3 dL_law_663 rfl ?_
        refine z_iconst (v := 1) dL_law_664 (by decide) ?_
        refine z_iadd dL_law_665 ?_
        replace e := z_bd e; obtain ⟨x4365, ex4365, e⟩ := e
        refine z_xald (p0 := G.2.2.2.2) rfl ex4365 dL_law_666 ?_
        replace e := z_bd e; obtain ⟨o4367, eo4367, e⟩ := e
        replace e := z_bd e; obtain ⟨p4366, ep4366, e⟩ := e
        refine z_cV [.int x4365] (S_X10_pause  ep4366) eo4367 rfl ml_L_86 ck_X10_pause vk_X10_pause dL_law_667 (by decide) rfl (Nat.zero_le _) rfl ?_
        refine z_aload_n 2 dL_law_670 rfl ?_
        refine z_xload_n 0 dL_law_671 rfl ?_
        refine z_iload_n 3 dL_law_672 rfl ?_
        refine z_iconst (v := 1) dL_law_673 (by decide) ?_
        refine z_iadd dL_law_674 ?_
        replace e := z_bd e; obtain ⟨x4368, ex4368, e⟩ := e
        refine z_xald (p0 := G.2.2.2.2) rfl ex4368 dL_law_675 ?_
        replace e := z_bd e; obtain ⟨o4370, eo4370, e⟩ := e
        replace e := z_bd e; obtain ⟨p4369, ep4369, e⟩ := e
        refine z_cV [.int x4368] (S_X11_pause  ep4369) eo4370 rfl ml_L_89 ck_X11_pause vk_X11_pause dL_law_676 (by decide) rfl (by simp [z_ci, z_cj, z_cr, z_cx]) rfl ?_
        refine z_icmp_eq (tgt := 1402) dL_law_679 (by decide) (fun c4371 => ?_) (fun c4371 => ?_)
        · rw [if_pos c4371] at e
          exact z_weak [0, 1, 2, 3] rfl (S_L_law_1402  @hk18 e)
        · rw [if_neg c4371] at e
          refine z_iconst (v := 0) dL_law_682 (by decide) ?_
          cases e
          exact z_zret dL_law_683 rfl (by decide)
      rw [if_neg c4364] at e
      by_cases c4372 : x4217 = 18
      · rw [if_pos c4372] at e
        refine z_tableIn (off := 651) (tgt := 684) dL_law_33 (by rw [c4372]; decide) (by rw [c4372]; decide) (by rw [c4372]; decide) (by decide) ?_
        refine z_aload_n 1 dL_law_684 rfl ?_
        refine z_xload_n 0 dL_law_685 rfl ?_
        refine z_iload_n 3 dL_law_686 rfl ?_
        refine z_iconst (v := 1) dL_law_687 (by decide) ?_
        refine z_iadd dL_law_688 ?_
        replace e := z_bd e; obtain ⟨x4373, ex4373, e⟩ := e
        refine z_xald (p0 := G.2.2.2.2) rfl ex4373 dL_law_689 ?_
        refine z_xload_n 0 dL_law_690 rfl ?_
        refine z_iload_n 3 dL_law_691 rfl ?_
        refine z_iconst (v := 2) dL_law_692 (by decide) ?_
        refine z_iadd dL_law_693 ?_
        replace e := z_bd e; obtain ⟨x4374, ex4374, e⟩ := e
        refine z_xald (p0 := G.2.2.2.2) rfl ex4374 dL_law_694 ?_
        replace e := z_bd e; obtain ⟨o4376, eo4376, e⟩ := e
        replace e := z_bd e; obtain ⟨p4375, ep4375, e⟩ := e
        refine z_cV [.int x4373, .int x4374] (S_X10_mend  ep4375) eo4376 rfl ml_L_90 ck_X10_mend vk_X10_mend dL_law_695 (by decide) rfl (Nat.zero_le _) rfl ?_
        refine z_aload_n 2 dL_law_698 rfl ?_
        refine z_xload_n 0 dL_law_699 rfl ?_
        refine z_iload_n 3 dL_law_700 rfl ?_
        refine z_iconst (v := 1) dL_law_701 (by decide) ?_
        refine z_iadd dL_law_702 ?_
        replace e := z_bd e; obtain ⟨x4377, ex4377, e⟩ := e
        refine z_xald (p0 := G.2.2.2.2) rfl ex4377 dL_law_703 ?_
        refine z_xload_n 0 dL_law_704 rfl ?_
        refine z_iload_n 3 dL_law_705 rfl ?_
        refine z_iconst (v := 2) dL_law_706 (by decide) ?_
        refine z_iadd dL_law_707 ?_
        replace e := z_bd e; obtain ⟨x4378, ex4378, e⟩ := e
        refine z_xald (p0 := G.2.2.2.2) rfl ex4378 dL_law_708 ?_
        replace e := z_bd e; obtain ⟨o4380, eo4380, e⟩ := e
        replace e := z_bd e; obtain ⟨p4379, ep4379, e⟩ := e
        refine z_cV [.int x4377, .int x4378] (S_X11_mend  ep4379) eo4380 rfl ml_L_93 ck_X11_mend vk_X11_mend dL_law_709 (by decide) rfl (by simp [z_ci, z_cj, z_cr, z_cx]) rfl ?_
        refine z_icmp_eq (tgt := 1402) dL_law_712 (by decide) (fun c4381 => ?_) (fun c4381 => ?_)
        · rw [if_pos c4381] at e
          exact z_weak [0, 1, 2, 3] rfl (S_L_law_1402  @hk18 e)
        · rw [if_neg c4381] at e
          refine z_iconst (v := 0) dL_law_715 (by decide) ?_
          cases e
          exact z_zret dL_law_716 rfl (by decide)
      rw [if_neg c4372] at e
      by_cases c4382 : x4217 = 19
      · rw [if_pos c4382] at e
        refine z_tableIn (off := 684) (tgt := 717) dL_law_33 (by rw [c4382]; decide) (by rw [c4382]; decide) (by rw [c4382]; decide) (by decide) ?_
        refine z_aload_n 1 dL_law_717 rfl ?_
        replace e := z_bd e; obtain ⟨o4384, eo4384, e⟩ := e
        replace e := z_bd e; obtain ⟨p4383, ep4383, e⟩ := e
        refine z_cV [] (S_X10_pass  ep4383) eo4384 rfl ml_L_94 ck_X10_pass vk_X10_pass dL_law_718 (by decide) rfl (Nat.zero_le _) rfl ?_
        refine z_aload_n 2 dL_law_721 rfl ?_
        replace e := z_bd e; obtain ⟨o4386, eo4386, e⟩ := e
        replace e := z_bd e; obtain ⟨p4385, ep4385, e⟩ := e
        refine z_cV [] (S_X11_pass  ep4385) eo4386 rfl ml_L_97 ck_X11_pass vk_X11_pass dL_law_722 (by decide) rfl (by simp [z_ci, z_cj, z_cr, z_cx]) rfl ?_
        refine z_icmp_eq (tgt := 1402) dL_law_725 (by decide) (fun c4387 => ?_) (fun c4387 => ?_)
        · rw [if_pos c4387] at e
          exact z_weak [0, 1, 2, 3] rfl (S_L_law_1402  @hk18 e)
        · rw [if_neg c4387] at e
          refine z_iconst (v := 0) dL_law_728 (by decide) ?_
          cases e
          exact z_zret dL_law_729 rfl (by decide)
      rw [if_neg c4382] at e
      by_cases c4388 : x4217 = 20
      · rw [if_pos c4388] at e
        refine z_tableIn (off := 697) (tgt := 730) dL_law_33 (by rw [c4388]; decide) (by rw [c4388]; decide) (by rw [c4388]; decide) (by decide) ?_
        refine z_aload_n 1 dL_law_730 rfl ?_
        replace e := z_bd e; obtain ⟨o4390, eo4390, e⟩ := e
        replace e := z_bd e; obtain ⟨p4389, ep4389, e⟩ := e
        refine z_cV [] (S_X10_undo  ep4389) eo4390 rfl ml_L_98 ck_X10_undo vk_X10_undo dL_law_731 (by decide) rfl (Nat.zero_le _) rfl ?_
        refine z_aload_n 2 dL_law_734 rfl ?_
        replace e := z_bd e; obtain ⟨o4392, eo4392, e⟩ := e
        replace e := z_bd e; obtain ⟨p4391, ep4391, e⟩ := e
        refine z_cV [] (S_X11_undo  ep4391) eo4392 rfl ml_L_101 ck_X11_undo vk_X11_undo dL_law_735 (by decide) rfl (by simp [z_ci, z_cj, z_cr, z_cx]) rfl ?_
        refine z_icmp_eq (tgt := 1402) dL_law_738 (by decide) (fun c4393 => ?_) (fun c4393 => ?_)
        · rw [if_pos c4393] at e
          exact z_weak [0, 1, 2, 3] rfl (S_L_law_1402  @hk18 e)
        · rw [if_neg c4393] at e
          refine z_iconst (v := 0) dL_law_741 (by decide) ?_
          cases e
          exact z_zret dL_law_742 rfl (by decide)
      rw [if_neg c4388] at e
      by_cases c4394 : x4217 = 21
      · rw [if_pos c4394] at e
        refine z_tableIn (off := 710) (tgt := 743) dL_law_33 (by rw [c4394]; decide) (by rw [c4394]; decide) (by rw [c4394]; decide) (by decide) ?_
        refine z_aload_n 1 dL_law_743 rfl ?_
        refine z_xload_n 0 dL_law_744 rfl ?_
        refine z_iload_n 3 dL_law_745 rfl ?_
        refine z_iconst (v := 1) dL_law_746 (by decide) ?_
        refine z_iadd dL_law_747 ?_
        replace e := z_bd e; obtain ⟨x4395, ex4395, e⟩ := e
        refine z_xald (p0 := G.2.2.2.2) rfl ex4395 dL_law_748 ?_
        refine z_xload_n 0 dL_law_749 rfl ?_
        refine z_iload_n 3 dL_law_750 rfl ?_
        refine z_iconst (v := 2) dL_law_751 (by decide) ?_
        refine z_iadd dL_law_752 ?_
        replace e := z_bd e; obtain ⟨x4396, ex4396, e⟩ := e
        refine z_xald (p0 := G.2.2.2.2) rfl ex4396 dL_law_753 ?_
        refine z_xload_n 0 dL_law_754 rfl ?_
        refine z_iload_n 3 dL_law_755 rfl ?_
        refine z_iconst (v := 3) dL_law_756 (by decide) ?_
        refine z_iadd dL_law_757 ?_
        replace e := z_bd e; obtain ⟨x4397, ex4397, e⟩ := e
        refine z_xald (p0 := G.2.2.2.2) rfl ex4397 dL_law_758 ?_
        refine z_xload_n 0 dL_law_759 rfl ?_
        refine z_iload_n 3 dL_law_760 rfl ?_
        refine z_iconst (v := 4) dL_law_761 (by decide) ?_
        refine z_iadd dL_law_762 ?_
        replace e := z_bd e; obtain ⟨x4398, ex4398, e⟩ := e
        refine z_xald (p0 := G.2.2.2.2) rfl ex4398 dL_law_763 ?_
        replace e := z_bd e; obtain ⟨o4400, eo4400, e⟩ := e
        replace e := z_bd e; obtain ⟨p4399, ep4399, e⟩ := e
        refine z_cV [.int x4395, .int x4396, .int x4397, .int x4398] (S_X10_ways  ep4399) eo4400 rfl ml_L_102 ck_X10_ways vk_X10_ways dL_law_764 (by decide) rfl (Nat.zero_le _) rfl ?_
        refine z_aload_n 2 dL_law_767 rfl ?_
        refine z_xload_n 0 dL_law_768 rfl ?_
        refine z_iload_n 3 dL_law_769 rfl ?_
        refine z_iconst (v := 1) dL_law_770 (by decide) ?_
        refine z_iadd dL_law_771 ?_
        replace e := z_bd e; obtain ⟨x4401, ex4401, e⟩ := e
        refine z_xald (p0 := G.2.2.2.2) rfl ex4401 dL_law_772 ?_
        refine z_xload_n 0 dL_law_773 rfl ?_
        refine z_iload_n 3 dL_law_774 rfl ?_
        refine z_iconst (v := 2) dL_law_775 (by decide) ?_
        refine z_iadd dL_law_776 ?_
        replace e := z_bd e; obtain ⟨x4402, ex4402, e⟩ := e
        refine z_xald (p0 := G.2.2.2.2) rfl ex4402 dL_law_777 ?_
        refine z_xload_n 0 dL_law_778 rfl ?_
        refine z_iload_n 3 dL_law_779 rfl ?_
        refine z_iconst (v := 3) dL_law_780 (by decide) ?_
        refine z_iadd dL_law_781 ?_
        replace e := z_bd e; obtain ⟨x4403, ex4403, e⟩ := e
        refine z_xald (p0 := G.2.2.2.2) rfl ex4403 dL_law_782 ?_
        refine z_xload_n 0 dL_law_783 rfl ?_
        refine z_iload_n 3 dL_law_784 rfl ?_
        refine z_iconst (v := 4) dL_law_785 (by decide) ?_
        refine z_iadd dL_law_786 ?_
        replace e := z_bd e; obtain ⟨x4404, ex4404, e⟩ := e
        refine z_xald (p0 := G.2.2.2.2) rfl ex4404 dL_law_787 ?_
        replace e := z_bd e; obtain ⟨o4406, eo4406, e⟩ := e
        replace e := z_bd e; obtain ⟨p4405, ep4405, e⟩ := e
        refine z_cV [.int x4401, .int x4402, .int x4403, .int x4404] (S_X11_ways  ep4405) eo4406 rfl ml_L_106 ck_X11_ways vk_X11_ways dL_law_788 (by decide) rfl (by simp [z_ci, z_cj, z_cr, z_cx]) rfl ?_
        refine z_lcmp dL_law_791 ?_
        refine z_if_eq (tgt := 1402) dL_law_792 (by decide) (fun c4407 => ?_) (fun c4407 => ?_)
        · rw [if_pos c4407] at e
          exact z_weak [0, 1, 2, 3] rfl (S_L_law_1402  @hk18 e)
        · rw [if_neg c4407] at e
          refine z_iconst (v := 0) dL_law_795 (by decide) ?_
          cases e
          exact z_zret dL_law_796 rfl (by decide)
      rw [if_neg c4394] at e
      by_cases c4408 : x4217 = 22
      · rw [if_pos c4408] at e
        refine z_tableIn (off := 764) (tgt := 797) dL_law_33 (by rw [c4408]; decide) (by rw [c4408]; decide) (by rw [c4408]; decide) (by decide) ?_
        refine z_aload_n 1 dL_law_797 rfl ?_
        refine z_xload_n 0 dL_law_798 rfl ?_
        refine z_iload_n 3 dL_law_799 rfl ?_
        refine z_iconst (v := 1) dL_law_800 (by decide) ?_
        refine z_iadd dL_law_801 ?_
        replace e := z_bd e; obtain ⟨x4409, ex4409, e⟩ := e
        refine z_xald (p0 := G.2.2.2.2) rfl ex4409 dL_law_802 ?_
        refine z_xload_n 0 dL_law_803 rfl ?_
        refine z_iload_n 3 dL_law_804 rfl ?_
        refine z_iconst (v := 2) dL_law_805 (by decide) ?_
        refine z_iadd dL_law_806 ?_
        replace e := z_bd e; obtain ⟨x4410, ex4410, e⟩ := e
        refine z_xald (p0 := G.2.2.2.2) rfl ex4410 dL_law_807 ?_
        refine z_xload_n 0 dL_law_808 rfl ?_
        refine z_iload_n 3 dL_law_809 rfl ?_
        refine z_iconst (v := 3) dL_law_810 (by decide) ?_
        refine z_iadd dL_law_811 ?_
        replace e := z_bd e; obtain ⟨x4411, ex4411, e⟩ := e
        refine z_xald (p0 := G.2.2.2.2) rfl ex4411 dL_law_812 ?_
        refine z_xload_n 0 dL_law_813 rfl ?_
        refine z_iload_n 3 dL_law_814 rfl ?_
        refine z_iconst (v := 4) dL_law_815 (by decide) ?_
        refine z_iadd dL_law_816 ?_
        replace e := z_bd e; obtain ⟨x4412, ex4412, e⟩ := e
        refine z_xald (p0 := G.2.2.2.2) rfl ex4412 dL_law_817 ?_
        replace e := z_bd e; obtain ⟨o4414, eo4414, e⟩ := e
        replace e := z_bd e; obtain ⟨p4413, ep4413, e⟩ := e
        refine z_cV [.int x4409, .int x4410, .int x4411, .int x4412] (S_X10_ends  ep4413) eo4414 rfl ml_L_107 ck_X10_ends vk_X10_ends dL_law_818 (by decide) rfl (Nat.zero_le _) rfl ?_
        refine z_aload_n 2 dL_law_821 rfl ?_
        refine z_xload_n 0 dL_law_822 rfl ?_
        refine z_iload_n 3 dL_law_823 rfl ?_
        refine z_iconst (v := 1) dL_law_824 (by decide) ?_
        refine z_iadd dL_law_825 ?_
        replace e := z_bd e; obtain ⟨x4415, ex4415, e⟩ := e
        refine z_xald (p0 := G.2.2.2.2) rfl ex4415 dL_law_826 ?_
        refine z_xload_n 0 dL_law_827 rfl ?_
        refine z_iload_n 3 dL_law_828 rfl ?_
        refine z_iconst (v := 2) dL_law_829 (by decide) ?_
        refine z_iadd dL_law_830 ?_
        replace e := z_bd e; obtain ⟨x4416, ex4416, e⟩ := e
        refine z_xald (p0 := G.2.2.2.2) rfl ex4416 dL_law_831 ?_
        refine z_xload_n 0 dL_law_832 rfl ?_
        refine z_iload_n 3 dL_law_833 rfl ?_
        refine z_iconst (v := 3) dL_law_834 (by decide) ?_
        refine z_iadd dL_law_835 ?_
        replace e := z_bd e; obtain ⟨x4417, ex4417, e⟩ := e
        refine z_xald (p0 := G.2.2.2.2) rfl ex4417 dL_law_836 ?_
        refine z_xload_n 0 dL_law_837 rfl ?_
        refine z_iload_n 3 dL_law_838 rfl ?_
        refine z_iconst (v := 4) dL_law_839 (by decide) ?_
        refine z_iadd dL_law_840 ?_
        replace e := z_bd e; obtain ⟨x4418, ex4418, e⟩ := e
        refine z_xald (p0 := G.2.2.2.2) rfl ex4418 dL_law_841 ?_
        replace e := z_bd e; obtain ⟨o4420, eo4420, e⟩ := e
        replace e := z_bd e; obtain ⟨p4419, ep4419, e⟩ := e
        refine z_cV [.int x4415, .int x4416, .int x4417, .int x4418] (S_X11_ends  ep4419) eo4420 rfl ml_L_111 ck_X11_ends vk_X11_ends dL_law_842 (by decide) rfl (by simp [z_ci, z_cj, z_cr, z_cx]) rfl ?_
        refine z_icmp_eq (tgt := 1402) dL_law_845 (by decide) (fun c4421 => ?_) (fun c4421 => ?_)
        · rw [if_pos c4421] at e
          exact z_weak [0, 1, 2, 3] rfl (S_L_law_1402  @hk18 e)
        · rw [if_neg c4421] at e
          refine z_iconst (v := 0) dL_law_848 (by decide) ?_
          cases e
          exact z_zret dL_law_849 rfl (by decide)
      rw [if_neg c4408] at e
      by_cases c4422 : x4217 = 23
      · rw [if_pos c4422] at e
        refine z_tableIn (off := 817) (tgt := 850) dL_law_33 (by rw [c4422]; decide) (by rw [c4422]; decide) (by rw [c4422]; decide) (by decide) ?_
        refine z_aload_n 1 dL_law_850 rfl ?_
        refine z_xload_n 0 dL_law_851 rfl ?_
        refine z_iload_n 3 dL_law_852 rfl ?_
        refine z_iconst (v := 1) dL_law_853 (by decide) ?_
        refine z_iadd dL_law_854 ?_
        replace e := z_bd e; obtain ⟨x4423, ex4423, e⟩ := e
        refine z_xald (p0 := G.2.2.2.2) rfl ex4423 dL_law_855 ?_
        refine z_xload_n 0 dL_law_856 rfl ?_
        refine z_iload_n 3 dL_law_857 rfl ?_
        refine z_iconst (v := 2) dL_law_858 (by decide) ?_
        refine z_iadd dL_law_859 ?_
        replace e := z_bd e; obtain ⟨x4424, ex4424, e⟩ := e
        refine z_xald (p0 := G.2.2.2.2) rfl ex4424 dL_law_860 ?_
        refine z_xload_n 0 dL_law_861 rfl ?_
        refine z_iload_n 3 dL_law_862 rfl ?_
        refine z_iconst (v := 3) dL_law_863 (by decide) ?_
        refine z_iadd dL_law_864 ?_
        replace e := z_bd e; obtain ⟨x4425, ex4425, e⟩ := e
        refine z_xald (p0 := G.2.2.2.2) rfl ex4425 dL_law_865 ?_
        replace e := z_bd e; obtain ⟨o4427, eo4427, e⟩ := e
        replace e := z_bd e; obtain ⟨p4426, ep4426, e⟩ := e
        refine z_cV [.int x4423, .int x4424, .int x4425] (S_X10_way  ep4426) eo4427 rfl ml_L_112 ck_X10_way vk_X10_way dL_law_866 (by decide) rfl (Nat.zero_le _) rfl ?_
        refine z_aload_n 2 dL_law_869 rfl ?_
        refine z_xload_n 0 dL_law_870 rfl ?_
        refine z_iload_n 3 dL_law_871 rfl ?_
        refine z_iconst (v := 1) dL_law_872 (by decide) ?_
        refine z_iadd dL_law_873 ?_
        replace e := z_bd e; obtain ⟨x4428, ex4428, e⟩ := e
        refine z_xald (p0 := G.2.2.2.2) rfl ex4428 dL_law_874 ?_
        refine z_xload_n 0 dL_law_875 rfl ?_
        refine z_iload_n 3 dL_law_876 rfl ?_
        refine z_iconst (v := 2) dL_law_877 (by decide) ?_
        refine z_iadd dL_law_878 ?_
        replace e := z_bd e; obtain ⟨x4429, ex4429, e⟩ := e
        refine z_xald (p0 := G.2.2.2.2) rfl ex4429 dL_law_879 ?_
        refine z_xload_n 0 dL_law_880 rfl ?_
        refine z_iload_n 3 dL_law_881 rfl ?_
        refine z_iconst (v := 3) dL_law_882 (by decide) ?_
        refine z_iadd dL_law_883 ?_
        replace e := z_bd e; obtain ⟨x4430, ex4430, e⟩ := e
        refine z_xald (p0 := G.2.2.2.2) rfl ex4430 dL_law_884 ?_
        replace e := z_bd e; obtain ⟨o4432, eo4432, e⟩ := e
        replace e := z_bd e; obtain ⟨p4431, ep4431, e⟩ := e
        refine z_cV [.int x4428, .int x4429, .int x4430] (S_X11_way  ep4431) eo4432 rfl ml_L_115 ck_X11_way vk_X11_way dL_law_885 (by decide) rfl (by simp [z_ci, z_cj, z_cr, z_cx]) rfl ?_
        refine z_icmp_eq (tgt := 1402) dL_law_888 (by decide) (fun c4433 => ?_) (fun c4433 => ?_)
        · rw [if_pos c4433] at e
          exact z_weak [0, 1, 2, 3] rfl (S_L_law_1402  @hk18 e)
        · rw [if_neg c4433] at e
          refine z_iconst (v := 0) dL_law_891 (by decide) ?_
          cases e
          exact z_zret dL_law_892 rfl (by decide)
      rw [if_neg c4422] at e
      by_cases c4434 : x4217 = 24
      · rw [if_pos c4434] at e
        refine z_tableIn (off := 860) (tgt := 893) dL_law_33 (by rw [c4434]; decide) (by rw [c4434]; decide) (by rw [c4434]; decide) (by decide) ?_
        refine z_aload_n 1 dL_law_893 rfl ?_
        refine z_xload_n 0 dL_law_894 rfl ?_
        refine z_iload_n 3 dL_law_895 rfl ?_
        refine z_iconst (v := 1) dL_law_896 (by decide) ?_
        refine z_iadd dL_law_897 ?_
        replace e := z_bd e; obtain ⟨x4435, ex4435, e⟩ := e
        refine z_xald (p0 := G.2.2.2.2) rfl ex4435 dL_law_898 ?_
        refine z_xload_n 0 dL_law_899 rfl ?_
        refine z_iload_n 3 dL_law_900 rfl ?_
        refine z_iconst (v := 2) dL_law_901 (by decide) ?_
        refine z_iadd dL_law_902 ?_
        replace e := z_bd e; obtain ⟨x4436, ex4436, e⟩ := e
        refine z_xald (p0 := G.2.2.2.2) rfl ex4436 dL_law_903 ?_
        replace e := z_bd e; obtain ⟨o4438, eo4438, e⟩ := e
        replace e := z_bd e; obtain ⟨p4437, ep4437, e⟩ := e
        refine z_cV [.int x4435, .int x4436] (S_X10_least  ep4437) eo4438 rfl ml_L_116 ck_X10_least vk_X10_least dL_law_904 (by decide) rfl (Nat.zero_le _) rfl ?_
        refine z_aload_n 2 dL_law_907 rfl ?_
        refine z_xload_n 0 dL_law_908 rfl ?_
        refine z_iload_n 3 dL_law_909 rfl ?_
        refine z_iconst (v := 1) dL_law_910 (by decide) ?_
        refine z_iadd dL_law_911 ?_
        replace e := z_bd e; obtain ⟨x4439, ex4439, e⟩ := e
        refine z_xald (p0 := G.2.2.2.2) rfl ex4439 dL_law_912 ?_
        refine z_xload_n 0 dL_law_913 rfl ?_
        refine z_iload_n 3 dL_law_914 rfl ?_
        refine z_iconst (v := 2) dL_law_915 (by decide) ?_
        refine z_iadd dL_law_916 ?_
        replace e := z_bd e; obtain ⟨x4440, ex4440, e⟩ := e
        refine z_xald (p0 := G.2.2.2.2) rfl ex4440 dL_law_917 ?_
        replace e := z_bd e; obtain ⟨o4442, eo4442, e⟩ := e
        replace e := z_bd e; obtain ⟨p4441, ep4441, e⟩ := e
        refine z_cV [.int x4439, .int x4440] (S_X11_least  ep4441) eo4442 rfl ml_L_119 ck_X11_least vk_X11_least dL_law_918 (by decide) rfl (by simp [z_ci, z_cj, z_cr, z_cx]) rfl ?_
        refine z_icmp_eq (tgt := 1402) dL_law_921 (by decide) (fun c4443 => ?_) (fun c4443 => ?_)
        · rw [if_pos c4443] at e
          exact z_weak [0, 1, 2, 3] rfl (S_L_law_1402  @hk18 e)
        · rw [if_neg c4443] at e
          refine z_iconst (v := 0) dL_law_924 (by decide) ?_
          cases e
          exact z_zret dL_law_925 rfl (by decide)
      rw [if_neg c4434] at e
      by_cases c4444 : x4217 = 25
      · rw [if_pos c4444] at e
        refine z_tableIn (off := 893) (tgt := 926) dL_law_33 (by rw [c4444]; decide) (by rw [c4444]; decide) (by rw [c4444]; decide) (by decide) ?_
        refine z_aload_n 1 dL_law_926 rfl ?_
        refine z_xload_n 0 dL_law_927 rfl ?_
        refine z_iload_n 3 dL_law_928 rfl ?_
        refine z_iconst (v := 1) dL_law_929 (by decide) ?_
        refine z_iadd dL_law_930 ?_
        replace e := z_bd e; obtain ⟨x4445, ex4445, e⟩ := e
        refine z_xald (p0 := G.2.2.2.2) rfl ex4445 dL_law_931 ?_
        refine z_xload_n 0 dL_law_932 rfl ?_
        refine z_iload_n 3 dL_law_933 rfl ?_
        refine z_iconst (v := 2) dL_law_934 (by decide) ?_
        refine z_iadd dL_law_935 ?_
        replace e := z_bd e; obtain ⟨x4446, ex4446, e⟩ := e
        refine z_xald (p0 := G.2.2.2.2) rfl ex4446 dL_law_936 ?_
        refine z_xload_n 0 dL_law_937 rfl ?_
        refine z_iload_n 3 dL_law_938 rfl ?_
        refine z_iconst (v := 3) dL_law_939 (by decide) ?_
        refine z_iadd dL_law_940 ?_
        replace e := z_bd e; obtain ⟨x4447, ex4447, e⟩ := e
        refine z_xald (p0 := G.2.2.2.2) rfl ex4447 dL_law_941 ?_
        replace e := z_bd e; obtain ⟨o4449, eo4449, e⟩ := e
        replace e := z_bd e; obtain ⟨p4448, ep4448, e⟩ := e
        refine z_cV [.int x4445, .int x4446, .int x4447] (S_X10_chance  ep4448) eo4449 rfl ml_L_120 ck_X10_chance vk_X10_chance dL_law_942 (by decide) rfl (Nat.zero_le _) rfl ?_
        refine z_aload_n 2 dL_law_945 rfl ?_
        refine z_xload_n 0 dL_law_946 rfl ?_
        refine z_iload_n 3 dL_law_947 rfl ?_
        refine z_iconst (v := 1) dL_law_948 (by decide) ?_
        refine z_iadd dL_law_949 ?_
        replace e := z_bd e; obtain ⟨x4450, ex4450, e⟩ := e
        refine z_xald (p0 := G.2.2.2.2) rfl ex4450 dL_law_950 ?_
        refine z_xload_n 0 dL_law_951 rfl ?_
        refine z_iload_n 3 dL_law_952 rfl ?_
        refine z_iconst (v := 2) dL_law_953 (by decide) ?_
        refine z_iadd dL_law_954 ?_
        replace e := z_bd e; obtain ⟨x4451, ex4451, e⟩ := e
        refine z_xald (p0 := G.2.2.2.2) rfl ex4451 dL_law_955 ?_
        refine z_xload_n 0 dL_law_956 rfl ?_
        refine z_iload_n 3 dL_law_957 rfl ?_
        refine z_iconst (v := 3) dL_law_958 (by decide) ?_
        refine z_iadd dL_law_959 ?_
        replace e := z_bd e; obtain ⟨x4452, ex4452, e⟩ := e
        refine z_xald (p0 := G.2.2.2.2) rfl ex4452 dL_law_960 ?_
        replace e := z_bd e; obtain ⟨o4454, eo4454, e⟩ := e
        replace e := z_bd e; obtain ⟨p4453, ep4453, e⟩ := e
        refine z_cV [.int x4450, .int x4451, .int x4452] (S_X11_chance  ep4453) eo4454 rfl ml_L_124 ck_X11_chance vk_X11_chance dL_law_961 (by decide) rfl (by simp [z_ci, z_cj, z_cr, z_cx]) rfl ?_
        refine z_lcmp dL_law_964 ?_
        refine z_if_eq (tgt := 1402) dL_law_965 (by decide) (fun c4455 => ?_) (fun c4455 => ?_)
        · rw [if_pos c4455] at e
          exact z_weak [0, 1, 2, 3] rfl (S_L_law_1402  @hk18 e)
        · rw [if_neg c4455] at e
          refine z_iconst (v := 0) dL_law_968 (by decide) ?_
          cases e
          exact z_zret dL_law_969 rfl (by decide)
      rw [if_neg c4444] at e
      by_cases c4456 : x4217 = 26
      · rw [if_pos c4456] at e
        refine z_tableIn (off := 937) (tgt := 970) dL_law_33 (by rw [c4456]; decide) (by rw [c4456]; decide) (by rw [c4456]; decide) (by decide) ?_
        refine z_aload_n 1 dL_law_970 rfl ?_
        refine z_xload_n 0 dL_law_971 rfl ?_
        refine z_iload_n 3 dL_law_972 rfl ?_
        refine z_iconst (v := 1) dL_law_973 (by decide) ?_
        refine z_iadd dL_law_974 ?_
        replace e := z_bd e; obtain ⟨x4457, ex4457, e⟩ := e
        refine z_xald (p0 := G.2.2.2.2) rfl ex4457 dL_law_975 ?_
        refine z_xload_n 0 dL_law_976 rfl ?_
        refine z_iload_n 3 dL_law_977 rfl ?_
        refine z_iconst (v := 2) dL_law_978 (by decide) ?_
        refine z_iadd dL_law_979 ?_
        replace e := z_bd e; obtain ⟨x4458, ex4458, e⟩ := e
        refine z_xald (p0 := G.2.2.2.2) rfl ex4458 dL_law_980 ?_
        replace e := z_bd e; obtain ⟨o4460, eo4460, e⟩ := e
        replace e := z_bd e; obtain ⟨p4459, ep4459, e⟩ := e
        refine z_cV [.int x4457, .int x4458] (S_X10_within  ep4459) eo4460 rfl ml_L_125 ck_X10_within vk_X10_within dL_law_981 (by decide) rfl (Nat.zero_le _) rfl ?_
        refine z_aload_n 2 dL_law_984 rfl ?_
        refine z_xload_n 0 dL_law_985 rfl ?_
        refine z_iload_n 3 dL_law_986 rfl ?_
        refine z_iconst (v := 1) dL_law_987 (by decide) ?_
        refine z_iadd dL_law_988 ?_
        replace e := z_bd e; obtain ⟨x4461, ex4461, e⟩ := e
        refine z_xald (p0 := G.2.2.2.2) rfl ex4461 dL_law_989 ?_
        refine z_xload_n 0 dL_law_990 rfl ?_
        refine z_iload_n 3 dL_law_991 rfl ?_
        refine z_iconst (v := 2) dL_law_992 (by decide) ?_
        refine z_iadd dL_law_993 ?_
        replace e := z_bd e; obtain ⟨x4462, ex4462, e⟩ := e
        refine z_xald (p0 := G.2.2.2.2) rfl ex4462 dL_law_994 ?_
        replace e := z_bd e; obtain ⟨o4464, eo4464, e⟩ := e
        replace e := z_bd e; obtain ⟨p4463, ep4463, e⟩ := e
        refine z_cV [.int x4461, .int x4462] (S_X11_within  ep4463) eo4464 rfl ml_L_128 ck_X11_within vk_X11_within dL_law_995 (by decide) rfl (by simp [z_ci, z_cj, z_cr, z_cx]) rfl ?_
        refine z_icmp_eq (tgt := 1402) dL_law_998 (by decide) (fun c4465 => ?_) (fun c4465 => ?_)
        · rw [if_pos c4465] at e
          exact z_weak [0, 1, 2, 3] rfl (S_L_law_1402  @hk18 e)
        · rw [if_neg c4465] at e
          refine z_iconst (v := 0) dL_law_1001 (by decide) ?_
          cases e
          exact z_zret dL_law_1002 rfl (by decide)
      rw [if_neg c4456] at e
      by_cases c4466 : x4217 = 27
      · rw [if_pos c4466] at e
        refine z_tableIn (off := 970) (tgt := 1003) dL_law_33 (by rw [c4466]; decide) (by rw [c4466]; decide) (by rw [c4466]; decide) (by decide) ?_
        refine z_aload_n 1 dL_law_1003 rfl ?_
        refine z_xload_n 0 dL_law_1004 rfl ?_
        refine z_iload_n 3 dL_law_1005 rfl ?_
        refine z_iconst (v := 1) dL_law_1006 (by decide) ?_
        refine z_iadd dL_law_1007 ?_
        replace e := z_bd e; obtain ⟨x4467, ex4467, e⟩ := e
        refine z_xald (p0 := G.2.2.2.2) rfl ex4467 dL_law_1008 ?_
        replace e := z_bd e; obtain ⟨o4469, eo4469, e⟩ := e
        replace e := z_bd e; obtain ⟨p4468, ep4468, e⟩ := e
        refine z_cV [.int x4467] (S_X10_couples  ep4468) eo4469 rfl ml_L_129 ck_X10_couples vk_X10_couples dL_law_1009 (by decide) rfl (Nat.zero_le _) rfl ?_
        refine z_aload_n 2 dL_law_1012 rfl ?_
        refine z_xload_n 0 dL_law_1013 rfl ?_
        refine z_iload_n 3 dL_law_1014 rfl ?_
        refine z_iconst (v := 1) dL_law_1015 (by decide) ?_
        refine z_iadd dL_law_1016 ?_
        replace e := z_bd e; obtain ⟨x4470, ex4470, e⟩ := e
        refine z_xald (p0 := G.2.2.2.2) rfl ex4470 dL_law_1017 ?_
        replace e := z_bd e; obtain ⟨o4472, eo4472, e⟩ := e
        replace e := z_bd e; obtain ⟨p4471, ep4471, e⟩ := e
        refine z_cV [.int x4470] (S_X11_couples  ep4471) eo4472 rfl ml_L_132 ck_X11_couples vk_X11_couples dL_law_1018 (by decide) rfl (by simp [z_ci, z_cj, z_cr, z_cx]) rfl ?_
        refine z_icmp_eq (tgt := 1402) dL_law_1021 (by decide) (fun c4473 => ?_) (fun c4473 => ?_)
        · rw [if_pos c4473] at e
          exact z_weak [0, 1, 2, 3] rfl (S_L_law_1402  @hk18 e)
        · rw [if_neg c4473] at e
          refine z_iconst (v := 0) dL_law_1024 (by decide) ?_
          cases e
          exact z_zret dL_law_1025 rfl (by decide)
      rw [if_neg c4466] at e
      by_cases c4474 : x4217 = 28
      · rw [if_pos c4474] at e
        refine z_tableIn (off := 993) (tgt := 1026) dL_law_33 (by rw [c4474]; decide) (by rw [c4474]; decide) (by rw [c4474]; decide) (by decide) ?_
        refine z_aload_n 1 dL_law_1026 rfl ?_
        refine z_xload_n 0 dL_law_1027 rfl ?_
        refine z_iload_n 3 dL_law_1028 rfl ?_
        refine z_iconst (v := 1) dL_law_1029 (by decide) ?_
        refine z_iadd dL_law_1030 ?_
        replace e := z_bd e; obtain ⟨x4475, ex4475, e⟩ := e
        refine z_xald (p0 := G.2.2.2.2) rfl ex4475 dL_law_1031 ?_
        replace e := z_bd e; obtain ⟨o4477, eo4477, e⟩ := e
        replace e := z_bd e; obtain ⟨p4476, ep4476, e⟩ := e
        refine z_cV [.int x4475] (S_X10_likest  ep4476) eo4477 rfl ml_L_133 ck_X10_likest vk_X10_likest dL_law_1032 (by decide) rfl (Nat.zero_le _) rfl ?_
        refine z_aload_n 2 dL_law_1035 rfl ?_
        refine z_xload_n 0 dL_law_1036 rfl ?_
        refine z_iload_n 3 dL_law_1037 rfl ?_
        refine z_iconst (v := 1) dL_law_1038 (by decide) ?_
        refine z_iadd dL_law_1039 ?_
        replace e := z_bd e; obtain ⟨x4478, ex4478, e⟩ := e
        refine z_xald (p0 := G.2.2.2.2) rfl ex4478 dL_law_1040 ?_
        replace e := z_bd e; obtain ⟨o4480, eo4480, e⟩ := e
        replace e := z_bd e; obtain ⟨p4479, ep4479, e⟩ := e
        refine z_cV [.int x4478] (S_X11_likest  ep4479) eo4480 rfl ml_L_136 ck_X11_likest vk_X11_likest dL_law_1041 (by decide) rfl (by simp [z_ci, z_cj, z_cr, z_cx]) rfl ?_
        refine z_icmp_eq (tgt := 1402) dL_law_1044 (by decide) (fun c4481 => ?_) (fun c4481 => ?_)
        · rw [if_pos c4481] at e
          exact z_weak [0, 1, 2, 3] rfl (S_L_law_1402  @hk18 e)
        · rw [if_neg c4481] at e
          refine z_iconst (v := 0) dL_law_1047 (by decide) ?_
          cases e
          exact z_zret dL_law_1048 rfl (by decide)
      rw [if_neg c4474] at e
      by_cases c4482 : x4217 = 29
      · rw [if_pos c4482] at e
        refine z_tableIn (off := 1016) (tgt := 1049) dL_law_33 (by rw [c4482]; decide) (by rw [c4482]; decide) (by rw [c4482]; decide) (by decide) ?_
        refine z_aload_n 1 dL_law_1049 rfl ?_
        refine z_xload_n 0 dL_law_1050 rfl ?_
        refine z_iload_n 3 dL_law_1051 rfl ?_
        refine z_iconst (v := 1) dL_law_1052 (by decide) ?_
        refine z_iadd dL_law_1053 ?_
        replace e := z_bd e; obtain ⟨x4483, ex4483, e⟩ := e
        refine z_xald (p0 := G.2.2.2.2) rfl ex4483 dL_law_1054 ?_
        refine z_xload_n 0 dL_law_1055 rfl ?_
        refine z_iload_n 3 dL_law_1056 rfl ?_
        refine z_iconst (v := 2) dL_law_1057 (by decide) ?_
        refine z_iadd dL_law_1058 ?_
        replace e := z_bd e; obtain ⟨x4484, ex4484, e⟩ := e
        refine z_xald (p0 := G.2.2.2.2) rfl ex4484 dL_law_1059 ?_
        replace e := z_bd e; obtain ⟨o4486, eo4486, e⟩ := e
        replace e := z_bd e; obtain ⟨p4485, ep4485, e⟩ := e
        refine z_cV [.int x4483, .int x4484] (S_X10_lasts  ep4485) eo4486 rfl ml_L_137 ck_X10_lasts vk_X10_lasts dL_law_1060 (by decide) rfl (Nat.zero_le _) rfl ?_
        refine z_aload_n 2 dL_law_1063 rfl ?_
        refine z_xload_n 0 dL_law_1064 rfl ?_
        refine z_iload_n 3 dL_law_1065 rfl ?_
        refine z_iconst (v := 1) dL_law_1066 (by decide) ?_
        refine z_iadd dL_law_1067 ?_
        replace e := z_bd e; obtain ⟨x4487, ex4487, e⟩ := e
        refine z_xald (p0 := G.2.2.2.2) rfl ex4487 dL_law_1068 ?_
        refine z_xload_n 0 dL_law_1069 rfl ?_
        refine z_iload_n 3 dL_law_1070 rfl ?_
        refine z_iconst (v := 2) dL_law_1071 (by decide) ?_
        refine z_iadd dL_law_1072 ?_
        replace e := z_bd e; obtain ⟨x4488, ex4488, e⟩ := e
        refine z_xald (p0 := G.2.2.2.2) rfl ex4488 dL_law_1073 ?_
        replace e := z_bd e; obtain ⟨o4490, eo4490, e⟩ := e
        replace e := z_bd e; obtain ⟨p4489, ep4489, e⟩ := e
        refine z_cV [.int x4487, .int x4488] (S_X11_lasts  ep4489) eo4490 rfl ml_L_140 ck_X11_lasts vk_X11_lasts dL_law_1074 (by decide) rfl (by simp [z_ci, z_cj, z_cr, z_cx]) rfl ?_
        refine z_icmp_eq (tgt := 1402) dL_law_1077 (by decide) (fun c4491 => ?_) (fun c4491 => ?_)
        · rw [if_pos c4491] at e
          exact z_weak [0, 1, 2, 3] rfl (S_L_law_1402  @hk18 e)
        · rw [if_neg c4491] at e
          refine z_iconst (v := 0) dL_law_1080 (by decide) ?_
          cases e
          exact z_zret dL_law_1081 rfl (by decide)
      rw [if_neg c4482] at e
      by_cases c4492 : x4217 = 30
      · rw [if_pos c4492] at e
        refine z_tableIn (off := 1049) (tgt := 1082) dL_law_33 (by rw [c4492]; decide) (by rw [c4492]; decide) (by rw [c4492]; decide) (by decide) ?_
        refine z_aload_n 1 dL_law_1082 rfl ?_
        refine z_xload_n 0 dL_law_1083 rfl ?_
        refine z_iload_n 3 dL_law_1084 rfl ?_
        refine z_iconst (v := 1) dL_law_1085 (by decide) ?_
        refine z_iadd dL_law_1086 ?_
        replace e := z_bd e; obtain ⟨x4493, ex4493, e⟩ := e
        refine z_xald (p0 := G.2.2.2.2) rfl ex4493 dL_law_1087 ?_
        refine z_xload_n 0 dL_law_1088 rfl ?_
        refine z_iload_n 3 dL_law_1089 rfl ?_
        refine z_iconst (v := 2) dL_law_1090 (by decide) ?_
        refine z_iadd dL_law_1091 ?_
        replace e := z_bd e; obtain ⟨x4494, ex4494, e⟩ := e
        refine z_xald (p0 := G.2.2.2.2) rfl ex4494 dL_law_1092 ?_
        replace e := z_bd e; obtain ⟨o4496, eo4496, e⟩ := e
        replace e := z_bd e; obtain ⟨p4495, ep4495, e⟩ := e
        refine z_cV [.int x4493, .int x4494] (S_X10_seen  ep4495) eo4496 rfl ml_L_141 ck_X10_seen vk_X10_seen dL_law_1093 (by decide) rfl (Nat.zero_le _) rfl ?_
        refine z_aload_n 2 dL_law_1096 rfl ?_
        refine z_xload_n 0 dL_law_1097 rfl ?_
        refine z_iload_n 3 dL_law_1098 rfl ?_
        refine z_iconst (v := 1) dL_law_1099 (by decide) ?_
        refine z_iadd dL_law_1100 ?_
        replace e := z_bd e; obtain ⟨x4497, ex4497, e⟩ := e
        refine z_xald (p0 := G.2.2.2.2) rfl ex4497 dL_law_1101 ?_
        refine z_xload_n 0 dL_law_1102 rfl ?_
        refine z_iload_n 3 dL_law_1103 rfl ?_
        refine z_iconst (v := 2) dL_law_1104 (by decide) ?_
        refine z_iadd dL_law_1105 ?_
        replace e := z_bd e; obtain ⟨x4498, ex4498, e⟩ := e
        refine z_xald (p0 := G.2.2.2.2) rfl ex4498 dL_law_1106 ?_
        replace e := z_bd e; obtain ⟨o4500, eo4500, e⟩ := e
        replace e := z_bd e; obtain ⟨p4499, ep4499, e⟩ := e
        refine z_cV [.int x4497, .int x4498] (S_X11_seen  ep4499) eo4500 rfl ml_L_144 ck_X11_seen vk_X11_seen dL_law_1107 (by decide) rfl (by simp [z_ci, z_cj, z_cr, z_cx]) rfl ?_
        refine z_icmp_eq (tgt := 1402) dL_law_1110 (by decide) (fun c4501 => ?_) (fun c4501 => ?_)
        · rw [if_pos c4501] at e
          exact z_weak [0, 1, 2, 3] rfl (S_L_law_1402  @hk18 e)
        · rw [if_neg c4501] at e
          refine z_iconst (v := 0) dL_law_1113 (by decide) ?_
          cases e
          exact z_zret dL_law_1114 rfl (by decide)
      rw [if_neg c4492] at e
      by_cases c4502 : x4217 = 31
      · rw [if_pos c4502] at e
        refine z_tableIn (off := 1082) (tgt := 1115) dL_law_33 (by rw [c4502]; decide) (by rw [c4502]; decide) (by rw [c4502]; decide) (by decide) ?_
        refine z_aload_n 1 dL_law_1115 rfl ?_
        replace e := z_bd e; obtain ⟨o4504, eo4504, e⟩ := e
        replace e := z_bd e; obtain ⟨p4503, ep4503, e⟩ := e
        refine z_cV [] (S_X10_forget  ep4503) eo4504 rfl ml_L_145 ck_X10_forget vk_X10_forget dL_law_1116 (by decide) rfl (Nat.zero_le _) rfl ?_
        refine z_aload_n 2 dL_law_1119 rfl ?_
        replace e := z_bd e; obtain ⟨o4506, eo4506, e⟩ := e
        replace e := z_bd e; obtain ⟨p4505, ep4505, e⟩ := e
        refine z_cV [] (S_X11_forget  ep4505) eo4506 rfl ml_L_148 ck_X11_forget vk_X11_forget dL_law_1120 (by decide) rfl (by simp [z_ci, z_cj, z_cr, z_cx]) rfl ?_
        refine z_icmp_eq (tgt := 1402) dL_law_1123 (by decide) (fun c4507 => ?_) (fun c4507 => ?_)
        · rw [if_pos c4507] at e
          exact z_weak [0, 1, 2, 3] rfl (S_L_law_1402  @hk18 e)
        · rw [if_neg c4507] at e
          refine z_iconst (v := 0) dL_law_1126 (by decide) ?_
          cases e
          exact z_zret dL_law_1127 rfl (by decide)
      rw [if_neg c4502] at e
      by_cases c4508 : x4217 = 32
      · rw [if_pos c4508] at e
        refine z_tableIn (off := 1095) (tgt := 1128) dL_law_33 (by rw [c4508]; decide) (by rw [c4508]; decide) (by rw [c4508]; decide) (by decide) ?_
        refine z_aload_n 1 dL_law_1128 rfl ?_
        replace e := z_bd e; obtain ⟨o4510, eo4510, e⟩ := e
        replace e := z_bd e; obtain ⟨p4509, ep4509, e⟩ := e
        refine z_cV [] (S_X10_canBe  ep4509) eo4510 rfl ml_L_149 ck_X10_canBe vk_X10_canBe dL_law_1129 (by decide) rfl (Nat.zero_le _) rfl ?_
        refine z_aload_n 2 dL_law_1132 rfl ?_
        replace e := z_bd e; obtain ⟨o4512, eo4512, e⟩ := e
        replace e := z_bd e; obtain ⟨p4511, ep4511, e⟩ := e
        refine z_cV [] (S_X11_canBe  ep4511) eo4512 rfl ml_L_152 ck_X11_canBe vk_X11_canBe dL_law_1133 (by decide) rfl (by simp [z_ci, z_cj, z_cr, z_cx]) rfl ?_
        refine z_icmp_eq (tgt := 1402) dL_law_1136 (by decide) (fun c4513 => ?_) (fun c4513 => ?_)
        · rw [if_pos c4513] at e
          exact z_weak [0, 1, 2, 3] rfl (S_L_law_1402  @hk18 e)
        · rw [if_neg c4513] at e
          refine z_iconst (v := 0) dL_law_1139 (by decide) ?_
          cases e
          exact z_zret dL_law_1140 rfl (by decide)
      rw [if_neg c4508] at e
      by_cases c4514 : x4217 = 33
      · rw [if_pos c4514] at e
        refine z_tableIn (off := 1108) (tgt := 1141) dL_law_33 (by rw [c4514]; decide) (by rw [c4514]; decide) (by rw [c4514]; decide) (by decide) ?_
        refine z_aload_n 1 dL_law_1141 rfl ?_
        refine z_xload_n 0 dL_law_1142 rfl ?_
        refine z_iload_n 3 dL_law_1143 rfl ?_
        refine z_iconst (v := 1) dL_law_1144 (by decide) ?_
        refine z_iadd dL_law_1145 ?_
        replace e := z_bd e; obtain ⟨x4515, ex4515, e⟩ := e
        refine z_xald (p0 := G.2.2.2.2) rfl ex4515 dL_law_1146 ?_
        replace e := z_bd e; obtain ⟨o4517, eo4517, e⟩ := e
        replace e := z_bd e; obtain ⟨p4516, ep4516, e⟩ := e
        refine z_cV [.int x4515] (S_X10_look  ep4516) eo4517 rfl ml_L_153 ck_X10_look vk_X10_look dL_law_1147 (by decide) rfl (Nat.zero_le _) rfl ?_
        refine z_aload_n 2 dL_law_1150 rfl ?_
        refine z_xload_n 0 dL_law_1151 rfl ?_
        refine z_iload_n 3 dL_law_1152 rfl ?_
        refine z_iconst (v := 1) dL_law_1153 (by decide) ?_
        refine z_iadd dL_law_1154 ?_
        replace e := z_bd e; obtain ⟨x4518, ex4518, e⟩ := e
        refine z_xald (p0 := G.2.2.2.2) rfl ex4518 dL_law_1155 ?_
        replace e := z_bd e; obtain ⟨o4520, eo4520, e⟩ := e
        replace e := z_bd e; obtain ⟨p4519, ep4519, e⟩ := e
        refine z_cV [.int x4518] (S_X11_look  ep4519) eo4520 rfl ml_L_156 ck_X11_look vk_X11_look dL_law_1156 (by decide) rfl (by simp [z_ci, z_cj, z_cr, z_cx]) rfl ?_
        refine z_icmp_eq (tgt := 1402) dL_law_1159 (by decide) (fun c4521 => ?_) (fun c4521 => ?_)
        · rw [if_pos c4521] at e
          exact z_weak [0, 1, 2, 3] rfl (S_L_law_1402  @hk18 e)
        · rw [if_neg c4521] at e
          refine z_iconst (v := 0) dL_law_1162 (by decide) ?_
          cases e
          exact z_zret dL_law_1163 rfl (by decide)
      rw [if_neg c4514] at e
      by_cases c4522 : x4217 = 34
      · rw [if_pos c4522] at e
        refine z_tableIn (off := 1131) (tgt := 1164) dL_law_33 (by rw [c4522]; decide) (by rw [c4522]; decide) (by rw [c4522]; decide) (by decide) ?_
        refine z_aload_n 1 dL_law_1164 rfl ?_
        replace e := z_bd e; obtain ⟨o4524, eo4524, e⟩ := e
        replace e := z_bd e; obtain ⟨p4523, ep4523, e⟩ := e
        refine z_cV [] (S_X10_cutOff  ep4523) eo4524 rfl ml_L_157 ck_X10_cutOff vk_X10_cutOff dL_law_1165 (by decide) rfl (Nat.zero_le _) rfl ?_
        refine z_aload_n 2 dL_law_1168 rfl ?_
        replace e := z_bd e; obtain ⟨o4526, eo4526, e⟩ := e
        replace e := z_bd e; obtain ⟨p4525, ep4525, e⟩ := e
        refine z_cV [] (S_X11_cutOff  ep4525) eo4526 rfl ml_L_160 ck_X11_cutOff vk_X11_cutOff dL_law_1169 (by decide) rfl (by simp [z_ci, z_cj, z_cr, z_cx]) rfl ?_
        refine z_icmp_eq (tgt := 1402) dL_law_1172 (by decide) (fun c4527 => ?_) (fun c4527 => ?_)
        · rw [if_pos c4527] at e
          exact z_weak [0, 1, 2, 3] rfl (S_L_law_1402  @hk18 e)
        · rw [if_neg c4527] at e
          refine z_iconst (v := 0) dL_law_1175 (by decide) ?_
          cases e
          exact z_zret dL_law_1176 rfl (by decide)
      rw [if_neg c4522] at e
      by_cases c4528 : x4217 = 35
      · rw [if_pos c4528] at e
        refine z_tableIn (off := 1144) (tgt := 1177) dL_law_33 (by rw [c4528]; decide) (by rw [c4528]; decide) (by rw [c4528]; decide) (by decide) ?_
        refine z_aload_n 1 dL_law_1177 rfl ?_
        refine z_xload_n 0 dL_law_1178 rfl ?_
        refine z_iload_n 3 dL_law_1179 rfl ?_
        refine z_iconst (v := 1) dL_law_1180 (by decide) ?_
        refine z_iadd dL_law_1181 ?_
        replace e := z_bd e; obtain ⟨x4529, ex4529, e⟩ := e
        refine z_xald (p0 := G.2.2.2.2) rfl ex4529 dL_law_1182 ?_
        refine z_xload_n 0 dL_law_1183 rfl ?_
        refine z_iload_n 3 dL_law_1184 rfl ?_
        refine z_iconst (v := 2) dL_law_1185 (by decide) ?_
        refine z_iadd dL_law_1186 ?_
        replace e := z_bd e; obtain ⟨x4530, ex4530, e⟩ := e
        refine z_xald (p0 := G.2.2.2.2) rfl ex4530 dL_law_1187 ?_
        replace e := z_bd e; obtain ⟨o4532, eo4532, e⟩ := e
        replace e := z_bd e; obtain ⟨p4531, ep4531, e⟩ := e
        refine z_cV [.int x4529, .int x4530] (S_X10_few  ep4531) eo4532 rfl ml_L_161 ck_X10_few vk_X10_few dL_law_1188 (by decide) rfl (Nat.zero_le _) rfl ?_
        refine z_aload_n 2 dL_law_1191 rfl ?_
        refine z_xload_n 0 dL_law_1192 rfl ?_
        refine z_iload_n 3 dL_law_1193 rfl ?_
        refine z_iconst (v := 1) dL_law_1194 (by decide) ?_
        refine z_iadd dL_law_1195 ?_
        replace e := z_bd e; obtain ⟨x4533, ex4533, e⟩ := e
        refine z_xald (p0 := G.2.2.2.2) rfl ex4533 dL_law_1196 ?_
        refine z_xload_n 0 dL_law_1197 rfl ?_
        refine z_iload_n 3 dL_law_1198 rfl ?_
        refine z_iconst (v := 2) dL_law_1199 (by decide) ?_
        refine z_iadd dL_law_1200 ?_
        replace e := z_bd e; obtain ⟨x4534, ex4534, e⟩ := e
        refine z_xald (p0 := G.2.2.2.2) rfl ex4534 dL_law_1201 ?_
        replace e := z_bd e; obtain ⟨o4536, eo4536, e⟩ := e
        replace e := z_bd e; obtain ⟨p4535, ep4535, e⟩ := e
        refine z_cV [.int x4533, .int x4534] (S_X11_few  ep4535) eo4536 rfl ml_L_165 ck_X11_few vk_X11_few dL_law_1202 (by decide) rfl (by simp [z_ci, z_cj, z_cr, z_cx]) rfl ?_
        refine z_lcmp dL_law_1205 ?_
        refine z_if_eq (tgt := 1402) dL_law_1206 (by decide) (fun c4537 => ?_) (fun c4537 => ?_)
        · rw [if_pos c4537] at e
          exact z_weak [0, 1, 2, 3] rfl (S_L_law_1402  @hk18 e)
        · rw [if_neg c4537] at e
          refine z_iconst (v := 0) dL_law_1209 (by decide) ?_
          cases e
          exact z_zret dL_law_1210 rfl (by decide)
      rw [if_neg c4528] at e
      by_cases c4538 : x4217 = 36
      · rw [if_pos c4538] at e
        refine z_tableIn (off := 1178) (tgt := 1211) dL_law_33 (by rw [c4538]; decide) (by rw [c4538]; decide) (by rw [c4538]; decide) (by decide) ?_
        refine z_aload_n 1 dL_law_1211 rfl ?_
        refine z_xload_n 0 dL_law_1212 rfl ?_
        refine z_iload_n 3 dL_law_1213 rfl ?_
        refine z_iconst (v := 1) dL_law_1214 (by decide) ?_
        refine z_iadd dL_law_1215 ?_
        replace e := z_bd e; obtain ⟨x4539, ex4539, e⟩ := e
        refine z_xald (p0 := G.2.2.2.2) rfl ex4539 dL_law_1216 ?_
        refine z_xload_n 0 dL_law_1217 rfl ?_
        refine z_iload_n 3 dL_law_1218 rfl ?_
        refine z_iconst (v := 2) dL_law_1219 (by decide) ?_
        refine z_iadd dL_law_1220 ?_
        replace e := z_bd e; obtain ⟨x4540, ex4540, e⟩ := e
        refine z_xald (p0 := G.2.2.2.2) rfl ex4540 dL_law_1221 ?_
        refine z_xload_n 0 dL_law_1222 rfl ?_
        refine z_iload_n 3 dL_law_1223 rfl ?_
        refine z_iconst (v := 3) dL_law_1224 (by decide) ?_
        refine z_iadd dL_law_1225 ?_
        replace e := z_bd e; obtain ⟨x4541, ex4541, e⟩ := e
        refine z_xald (p0 := G.2.2.2.2) rfl ex4541 dL_law_1226 ?_
        replace e := z_bd e; obtain ⟨o4543, eo4543, e⟩ := e
        replace e := z_bd e; obtain ⟨p4542, ep4542, e⟩ := e
        refine z_cV [.int x4539, .int x4540, .int x4541] (S_X10_compare  ep4542) eo4543 rfl ml_L_166 ck_X10_compare vk_X10_compare dL_law_1227 (by decide) rfl (Nat.zero_le _) rfl ?_
        refine z_aload_n 2 dL_law_1230 rfl ?_
        refine z_xload_n 0 dL_law_1231 rfl ?_
        refine z_iload_n 3 dL_law_1232 rfl ?_
        refine z_iconst (v := 1) dL_law_1233 (by decide) ?_
        refine z_iadd dL_law_1234 ?_
        replace e := z_bd e; obtain ⟨x4544, ex4544, e⟩ := e
        refine z_xald (p0 := G.2.2.2.2) rfl ex4544 dL_law_1235 ?_
        refine z_xload_n 0 dL_law_1236 rfl ?_
        refine z_iload_n 3 dL_law_1237 rfl ?_
        refine z_iconst (v := 2) dL_law_1238 (by decide) ?_
        refine z_iadd dL_law_1239 ?_
        replace e := z_bd e; obtain ⟨x4545, ex4545, e⟩ := e
        refine z_xald (p0 := G.2.2.2.2) rfl ex4545 dL_law_1240 ?_
        refine z_xload_n 0 dL_law_1241 rfl ?_
        refine z_iload_n 3 dL_law_1242 rfl ?_
        refine z_iconst (v := 3) dL_law_1243 (by decide) ?_
        refine z_iadd dL_law_1244 ?_
        replace e := z_bd e; obtain ⟨x4546, ex4546, e⟩ := e
        refine z_xald (p0 := G.2.2.2.2) rfl ex4546 dL_law_1245 ?_
        replace e := z_bd e; obtain ⟨o4548, eo4548, e⟩ := e
        replace e := z_bd e; obtain ⟨p4547, ep4547, e⟩ := e
        refine z_cV [.int x4544, .int x4545, .int x4546] (S_X11_compare  ep4547) eo4548 rfl ml_L_169 ck_X11_compare vk_X11_compare dL_law_1246 (by decide) rfl (by simp [z_ci, z_cj, z_cr, z_cx]) rfl ?_
        refine z_icmp_eq (tgt := 1402) dL_law_1249 (by decide) (fun c4549 => ?_) (fun c4549 => ?_)
        · rw [if_pos c4549] at e
          exact z_weak [0, 1, 2, 3] rfl (S_L_law_1402  @hk18 e)
        · rw [if_neg c4549] at e
          refine z_iconst (v := 0) dL_law_1252 (by decide) ?_
          cases e
          exact z_zret dL_law_1253 rfl (by decide)
      rw [if_neg c4538] at e
      by_cases c4550 : x4217 = 37
      · rw [if_pos c4550] at e
        refine z_tableIn (off := 1221) (tgt := 1254) dL_law_33 (by rw [c4550]; decide) (by rw [c4550]; decide) (by rw [c4550]; decide) (by decide) ?_
        refine z_aload_n 1 dL_law_1254 rfl ?_
        refine z_xload_n 0 dL_law_1255 rfl ?_
        refine z_iload_n 3 dL_law_1256 rfl ?_
        refine z_iconst (v := 1) dL_law_1257 (by decide) ?_
        refine z_iadd dL_law_1258 ?_
        replace e := z_bd e; obtain ⟨x4551, ex4551, e⟩ := e
        refine z_xald (p0 := G.2.2.2.2) rfl ex4551 dL_law_1259 ?_
        refine z_xload_n 0 dL_law_1260 rfl ?_
        refine z_iload_n 3 dL_law_1261 rfl ?_
        refine z_iconst (v := 2) dL_law_1262 (by decide) ?_
        refine z_iadd dL_law_1263 ?_
        replace e := z_bd e; obtain ⟨x4552, ex4552, e⟩ := e
        refine z_xald (p0 := G.2.2.2.2) rfl ex4552 dL_law_1264 ?_
        replace e := z_bd e; obtain ⟨o4554, eo4554, e⟩ := e
        replace e := z_bd e; obtain ⟨p4553, ep4553, e⟩ := e
        refine z_cV [.int x4551, .int x4552] (S_X10_years  ep4553) eo4554 rfl ml_L_170 ck_X10_years vk_X10_years dL_law_1265 (by decide) rfl (Nat.zero_le _) rfl ?_
        refine z_aload_n 2 dL_law_1268 rfl ?_
        refine z_xload_n 0 dL_law_1269 rfl ?_
        refine z_iload_n 3 dL_law_1270 rfl ?_
        refine z_iconst (v := 1) dL_law_1271 (by decide) ?_
        refine z_iadd dL_law_1272 ?_
        replace e := z_bd e; obtain ⟨x4555, ex4555, e⟩ := e
        refine z_xald (p0 := G.2.2.2.2) rfl ex4555 dL_law_1273 ?_
        refine z_xload_n 0 dL_law_1274 rfl ?_
        refine z_iload_n 3 dL_law_1275 rfl ?_
        refine z_iconst (v := 2) dL_law_1276 (by decide) ?_
        refine z_iadd dL_law_1277 ?_
        replace e := z_bd e; obtain ⟨x4556, ex4556, e⟩ := e
        refine z_xald (p0 := G.2.2.2.2) rfl ex4556 dL_law_1278 ?_
        replace e := z_bd e; obtain ⟨o4558, eo4558, e⟩ := e
        replace e := z_bd e; obtain ⟨p4557, ep4557, e⟩ := e
        refine z_cV [.int x4555, .int x4556] (S_X11_years  ep4557) eo4558 rfl ml_L_173 ck_X11_years vk_X11_years dL_law_1279 (by decide) rfl (by simp [z_ci, z_cj, z_cr, z_cx]) rfl ?_
        refine z_icmp_eq (tgt := 1402) dL_law_1282 (by decide) (fun c4559 => ?_) (fun c4559 => ?_)
        · rw [if_pos c4559] at e
          exact z_weak [0, 1, 2, 3] rfl (S_L_law_1402  @hk18 e)
        · rw [if_neg c4559] at e
          refine z_iconst (v := 0) dL_law_1285 (by decide) ?_
          cases e
          exact z_zret dL_law_1286 rfl (by decide)
      rw [if_neg c4550] at e
      by_cases c4560 : x4217 = 38
      · rw [if_pos c4560] at e
        refine z_tableIn (off := 1254) (tgt := 1287) dL_law_33 (by rw [c4560]; decide) (by rw [c4560]; decide) (by rw [c4560]; decide) (by decide) ?_
        refine z_aload_n 1 dL_law_1287 rfl ?_
        refine z_xload_n 0 dL_law_1288 rfl ?_
        refine z_iload_n 3 dL_law_1289 rfl ?_
        refine z_iconst (v := 1) dL_law_1290 (by decide) ?_
        refine z_iadd dL_law_1291 ?_
        replace e := z_bd e; obtain ⟨x4561, ex4561, e⟩ := e
        refine z_xald (p0 := G.2.2.2.2) rfl ex4561 dL_law_1292 ?_
        refine z_xload_n 0 dL_law_1293 rfl ?_
        refine z_iload_n 3 dL_law_1294 rfl ?_
        refine z_iconst (v := 2) dL_law_1295 (by decide) ?_
        refine z_iadd dL_law_1296 ?_
        replace e := z_bd e; obtain ⟨x4562, ex4562, e⟩ := e
        refine z_xald (p0 := G.2.2.2.2) rfl ex4562 dL_law_1297 ?_
        replace e := z_bd e; obtain ⟨o4564, eo4564, e⟩ := e
        replace e := z_bd e; obtain ⟨p4563, ep4563, e⟩ := e
        refine z_cV [.int x4561, .int x4562] (S_X10_drawn  ep4563) eo4564 rfl ml_L_174 ck_X10_drawn vk_X10_drawn dL_law_1298 (by decide) rfl (Nat.zero_le _) rfl ?_
        refine z_aload_n 2 dL_law_1301 rfl ?_
        refine z_xload_n 0 dL_law_1302 rfl ?_
        refine z_iload_n 3 dL_law_1303 rfl ?_
        refine z_iconst (v := 1) dL_law_1304 (by decide) ?_
        refine z_iadd dL_law_1305 ?_
        replace e := z_bd e; obtain ⟨x4565, ex4565, e⟩ := e
        refine z_xald (p0 := G.2.2.2.2) rfl ex4565 dL_law_1306 ?_
        refine z_xload_n 0 dL_law_1307 rfl ?_
        refine z_iload_n 3 dL_law_1308 rfl ?_
        refine z_iconst (v := 2) dL_law_1309 (by decide) ?_
        refine z_iadd dL_law_1310 ?_
        replace e := z_bd e; obtain ⟨x4566, ex4566, e⟩ := e
        refine z_xald (p0 := G.2.2.2.2) rfl ex4566 dL_law_1311 ?_
        replace e := z_bd e; obtain ⟨o4568, eo4568, e⟩ := e
        replace e := z_bd e; obtain ⟨p4567, ep4567, e⟩ := e
        refine z_cV [.int x4565, .int x4566] (S_X11_drawn  ep4567) eo4568 rfl ml_L_177 ck_X11_drawn vk_X11_drawn dL_law_1312 (by decide) rfl (by simp [z_ci, z_cj, z_cr, z_cx]) rfl ?_
        refine z_icmp_eq (tgt := 1402) dL_law_1315 (by decide) (fun c4569 => ?_) (fun c4569 => ?_)
        · rw [if_pos c4569] at e
          exact z_weak [0, 1, 2, 3] rfl (S_L_law_1402  @hk18 e)
        · rw [if_neg c4569] at e
          refine z_iconst (v := 0) dL_law_1318 (by decide) ?_
          cases e
          exact z_zret dL_law_1319 rfl (by decide)
      rw [if_neg c4560] at e
      by_cases c4570 : x4217 = 39
      · rw [if_pos c4570] at e
        refine z_tableIn (off := 1287) (tgt := 1320) dL_law_33 (by rw [c4570]; decide) (by rw [c4570]; decide) (by rw [c4570]; decide) (by decide) ?_
        refine z_aload_n 1 dL_law_1320 rfl ?_
        refine z_xload_n 0 dL_law_1321 rfl ?_
        refine z_iload_n 3 dL_law_1322 rfl ?_
        refine z_iconst (v := 1) dL_law_1323 (by decide) ?_
        refine z_iadd dL_law_1324 ?_
        replace e := z_bd e; obtain ⟨x4571, ex4571, e⟩ := e
        refine z_xald (p0 := G.2.2.2.2) rfl ex4571 dL_law_1325 ?_
        replace e := z_bd e; obtain ⟨o4573, eo4573, e⟩ := e
        replace e := z_bd e; obtain ⟨p4572, ep4572, e⟩ := e
        refine z_cV [.int x4571] (S_X10_image  ep4572) eo4573 rfl ml_L_178 ck_X10_image vk_X10_image dL_law_1326 (by decide) rfl (Nat.zero_le _) rfl ?_
        refine z_aload_n 2 dL_law_1329 rfl ?_
        refine z_xload_n 0 dL_law_1330 rfl ?_
        refine z_iload_n 3 dL_law_1331 rfl ?_
        refine z_iconst (v := 1) dL_law_1332 (by decide) ?_
        refine z_iadd dL_law_1333 ?_
        replace e := z_bd e; obtain ⟨x4574, ex4574, e⟩ := e
        refine z_xald (p0 := G.2.2.2.2) rfl ex4574 dL_law_1334 ?_
        replace e := z_bd e; obtain ⟨o4576, eo4576, e⟩ := e
        replace e := z_bd e; obtain ⟨p4575, ep4575, e⟩ := e
        refine z_cV [.int x4574] (S_X11_image  ep4575) eo4576 rfl ml_L_181 ck_X11_image vk_X11_image dL_law_1335 (by decide) rfl (by simp [z_ci, z_cj, z_cr, z_cx]) rfl ?_
        refine z_icmp_eq (tgt := 1402) dL_law_1338 (by decide) (fun c4577 => ?_) (fun c4577 => ?_)
        · rw [if_pos c4577] at e
          exact z_weak [0, 1, 2, 3] rfl (S_L_law_1402  @hk18 e)
        · rw [if_neg c4577] at e
          refine z_iconst (v := 0) dL_law_1341 (by decide) ?_
          cases e
          exact z_zret dL_law_1342 rfl (by decide)
      rw [if_neg c4570] at e
      by_cases c4578 : x4217 = 40
      · rw [if_pos c4578] at e
        refine z_tableIn (off := 1310) (tgt := 1343) dL_law_33 (by rw [c4578]; decide) (by rw [c4578]; decide) (by rw [c4578]; decide) (by decide) ?_
        refine z_aload_n 1 dL_law_1343 rfl ?_
        refine z_xload_n 0 dL_law_1344 rfl ?_
        refine z_iload_n 3 dL_law_1345 rfl ?_
        refine z_iconst (v := 1) dL_law_1346 (by decide) ?_
        refine z_iadd dL_law_1347 ?_
        replace e := z_bd e; obtain ⟨x4579, ex4579, e⟩ := e
        refine z_xald (p0 := G.2.2.2.2) rfl ex4579 dL_law_1348 ?_
        replace e := z_bd e; obtain ⟨o4581, eo4581, e⟩ := e
        replace e := z_bd e; obtain ⟨p4580, ep4580, e⟩ := e
        refine z_cV [.int x4579] (S_X10_back  ep4580) eo4581 rfl ml_L_182 ck_X10_back vk_X10_back dL_law_1349 (by decide) rfl (Nat.zero_le _) rfl ?_
        refine z_aload_n 2 dL_law_1352 rfl ?_
        refine z_xload_n 0 dL_law_1353 rfl ?_
        refine z_iload_n 3 dL_law_1354 rfl ?_
        refine z_iconst (v := 1) dL_law_1355 (by decide) ?_
        refine z_iadd dL_law_1356 ?_
        replace e := z_bd e; obtain ⟨x4582, ex4582, e⟩ := e
        refine z_xald (p0 := G.2.2.2.2) rfl ex4582 dL_law_1357 ?_
        replace e := z_bd e; obtain ⟨o4584, eo4584, e⟩ := e
        replace e := z_bd e; obtain ⟨p4583, ep4583, e⟩ := e
        refine z_cV [.int x4582] (S_X11_back  ep4583) eo4584 rfl ml_L_185 ck_X11_back vk_X11_back dL_law_1358 (by decide) rfl (by simp [z_ci, z_cj, z_cr, z_cx]) rfl ?_
        refine z_icmp_eq (tgt := 1402) dL_law_1361 (by decide) (fun c4585 => ?_) (fun c4585 => ?_)
        · rw [if_pos c4585] at e
          exact z_weak [0, 1, 2, 3] rfl (S_L_law_1402  @hk18 e)
        · rw [if_neg c4585] at e
          refine z_iconst (v := 0) dL_law_1364 (by decide) ?_
          cases e
          exact z_zret dL_law_1365 rfl (by decide)
      rw [if_neg c4578] at e
      by_cases c4586 : x4217 = 41
      · rw [if_pos c4586] at e
        refine z_tableIn (off := 1333) (tgt := 1366) dL_law_33 (by rw [c4586]; decide) (by rw [c4586]; decide) (by rw [c4586]; decide) (by decide) ?_
        refine z_aload_n 1 dL_law_1366 rfl ?_
        refine z_xload_n 0 dL_law_1367 rfl ?_
        refine z_iload_n 3 dL_law_1368 rfl ?_
        refine z_iconst (v := 1) dL_law_1369 (by decide) ?_
        refine z_iadd dL_law_1370 ?_
        replace e := z_bd e; obtain ⟨x4587, ex4587, e⟩ := e
        refine z_xald (p0 := G.2.2.2.2) rfl ex4587 dL_law_1371 ?_
        replace e := z_bd e; obtain ⟨o4589, eo4589, e⟩ := e
        replace e := z_bd e; obtain ⟨p4588, ep4588, e⟩ := e
        refine z_cV [.int x4587] (S_X10_count  ep4588) eo4589 rfl ml_L_186 ck_X10_count vk_X10_count dL_law_1372 (by decide) rfl (Nat.zero_le _) rfl ?_
        refine z_aload_n 2 dL_law_1375 rfl ?_
        refine z_xload_n 0 dL_law_1376 rfl ?_
        refine z_iload_n 3 dL_law_1377 rfl ?_
        refine z_iconst (v := 1) dL_law_1378 (by decide) ?_
        refine z_iadd dL_law_1379 ?_
        replace e := z_bd e; obtain ⟨x4590, ex4590, e⟩ := e
        refine z_xald (p0 := G.2.2.2.2) rfl ex4590 dL_law_1380 ?_
        replace e := z_bd e; obtain ⟨o4592, eo4592, e⟩ := e
        replace e := z_bd e; obtain ⟨p4591, ep4591, e⟩ := e
        refine z_cV [.int x4590] (S_X11_count  ep4591) eo4592 rfl ml_L_189 ck_X11_count vk_X11_count dL_law_1381 (by decide) rfl (by simp [z_ci, z_cj, z_cr, z_cx]) rfl ?_
        refine z_icmp_eq (tgt := 1402) dL_law_1384 (by decide) (fun c4593 => ?_) (fun c4593 => ?_)
        · rw [if_pos c4593] at e
          exact z_weak [0, 1, 2, 3] rfl (S_L_law_1402  @hk18 e)
        · rw [if_neg c4593] at e
          refine z_iconst (v := 0) dL_law_1387 (by decide) ?_
          cases e
          exact z_zret dL_law_1388 rfl (by decide)
      rw [if_neg c4586] at e
      by_cases c4594 : x4217 = 42
      · rw [if_pos c4594] at e
        refine z_tableIn (off := 1356) (tgt := 1389) dL_law_33 (by rw [c4594]; decide) (by rw [c4594]; decide) (by rw [c4594]; decide) (by decide) ?_
        refine z_aload_n 1 dL_law_1389 rfl ?_
        replace e := z_bd e; obtain ⟨o4596, eo4596, e⟩ := e
        replace e := z_bd e; obtain ⟨p4595, ep4595, e⟩ := e
        refine z_cV [] (S_X10_status  ep4595) eo4596 rfl ml_L_190 ck_X10_status vk_X10_status dL_law_1390 (by decide) rfl (Nat.zero_le _) rfl ?_
        refine z_aload_n 2 dL_law_1393 rfl ?_
        replace e := z_bd e; obtain ⟨o4598, eo4598, e⟩ := e
        replace e := z_bd e; obtain ⟨p4597, ep4597, e⟩ := e
        refine z_cV [] (S_X11_status  ep4597) eo4598 rfl ml_L_193 ck_X11_status vk_X11_status dL_law_1394 (by decide) rfl (by simp [z_ci, z_cj, z_cr, z_cx]) rfl ?_
        refine z_icmp_eq (tgt := 1402) dL_law_1397 (by decide) (fun c4599 => ?_) (fun c4599 => ?_)
        · rw [if_pos c4599] at e
          exact z_weak [0, 1, 2, 3] rfl (S_L_law_1402  @hk18 e)
        · rw [if_neg c4599] at e
          refine z_iconst (v := 0) dL_law_1400 (by decide) ?_
          cases e
          exact z_zret dL_law_1401 rfl (by decide)
      rw [if_neg c4594] at e
      have nc4218 := lv_neT (a := 0) c4218 (by decide)
      have nc4230 := lv_neT (a := 1) c4230 (by decide)
      have nc4240 := lv_neT (a := 2) c4240 (by decide)
      have nc4250 := lv_neT (a := 3) c4250 (by decide)
      have nc4256 := lv_neT (a := 4) c4256 (by decide)
      have nc4268 := lv_neT (a := 5) c4268 (by decide)
      have nc4278 := lv_neT (a := 6) c4278 (by decide)
      have nc4294 := lv_neT (a := 7) c4294 (by decide)
      have nc4302 := lv_neT (a := 8) c4302 (by decide)
      have nc4308 := lv_neT (a := 9) c4308 (by decide)
      have nc4314 := lv_neT (a := 10) c4314 (by decide)
      have nc4320 := lv_neT (a := 11) c4320 (by decide)
      have nc4326 := lv_neT (a := 12) c4326 (by decide)
      have nc4332 := lv_neT (a := 13) c4332 (by decide)
      have nc4338 := lv_neT (a := 14) c4338 (by decide)
      have nc4346 := lv_neT (a := 15) c4346 (by decide)
      have nc4354 := lv_neT (a := 16) c4354 (by decide)
      have nc4364 := lv_neT (a := 17) c4364 (by decide)
      have nc4372 := lv_neT (a := 18) c4372 (by decide)
      have nc4382 := lv_neT (a := 19) c4382 (by decide)
      have nc4388 := lv_neT (a := 20) c4388 (by decide)
      have nc4394 := lv_neT (a := 21) c4394 (by decide)
      have nc4408 := lv_neT (a := 22) c4408 (by decide)
      have nc4422 := lv_neT (a := 23) c4422 (by decide)
      have nc4434 := lv_neT (a := 24) c4434 (by decide)
      have nc4444 := lv_neT (a := 25) c4444 (by decide)
      have nc4456 := lv_neT (a := 26) c4456 (by decide)
      have nc4466 := lv_neT (a := 27) c4466 (by decide)
      have nc4474 := lv_neT (a := 28) c4474 (by decide)
      have nc4482 := lv_neT (a := 29) c4482 (by decide)
      have nc4492 := lv_neT (a := 30) c4492 (by decide)
      have nc4502 := lv_neT (a := 31) c4502 (by decide)
      have nc4508 := lv_neT (a := 32) c4508 (by decide)
      have nc4514 := lv_neT (a := 33) c4514 (by decide)
      have nc4522 := lv_neT (a := 34) c4522 (by decide)
      have nc4528 := lv_neT (a := 35) c4528 (by decide)
      have nc4538 := lv_neT (a := 36) c4538 (by decide)
      have nc4550 := lv_neT (a := 37) c4550 (by decide)
      have nc4560 := lv_neT (a := 38) c4560 (by decide)
      have nc4570 := lv_neT (a := 39) c4570 (by decide)
      have nc4578 := lv_neT (a := 40) c4578 (by decide)
      have nc4586 := lv_neT (a := 41) c4586 (by decide)
      have nc4594 := lv_neT (a := 42) c4594 (by decide)
      refine z_tableOut (tgt := 1402) dL_law_33 (by omega) (by decide) ?_
      exact z_weak [0, 1, 2, 3] rfl (S_L_law_1402  @hk18 e)
def D_L_law (sc : Nat × (Nat → Int32)) (h : z_H)  : Option (Int32 × z_H) :=
  (some (z_new h 15 (.inr (10, [.null, .null, .null, .null, .null, .null, .null, .null, .null, .null, .null, .null, .null, .int 0, .int 0])))).bind fun h4600 =>
  (D_X10_init  h4600 (some h.1)).bind fun p4601 =>
  (some (z_new p4601 59 (.inr (11, [.int 0, .int 0, .null, .null, .null, .null, .null, .null, .int 0, .null, .null, .int 0, .null, .int 0, .int 0, .int 0, .int 0, .long 0, .int 0, .int 0, .int 0, .int 0, .null, .int 0, .null, .null, .int 0, .null, .null, .int 0, .int 0, .null, .null, .null, .int 0, .null, .null, .null, .int 0, .long 0, .long 0, .null, .null, .null, .null, .null, .null, .null, .null, .null, .null, .null, .int 0, .int 0, .int 0, .int 0, .long 0, .null, .int 0])))).bind fun h4602 =>
  (D_X11_init  h4602 (some p4601.1)).bind fun p4603 =>
  D_L_law_18 sc  z_F p4603 (some h.1) (some p4601.1) (0:Int32)
set_option maxRecDepth 100000 in
set_option maxHeartbeats 4000000 in
theorem S_L_law {G : z_G} {l : Launch} {h : z_H}  {res : (Int32 × z_H)} (e : D_L_law G.2.2.2.2 h = some res) : z_Run G l 100 M_L_law 0 [(0, .retAddr 0)] [] h res.2 (some (.int res.1)) := by
  unfold D_L_law at e
  replace e := z_bd e; obtain ⟨h4600, eh4600, e⟩ := e
  refine z_newE eh4600 nk_L_7 dL_law_0 ?_
  refine z_dup dL_law_3 (z_cr _) ?_
  replace e := z_bd e; obtain ⟨p4601, ep4601, e⟩ := e
  refine z_cI' [] (S_X10_init  ep4601) rfl ml_L_9 ck_X10_init im_X10_init rfl dL_law_4 (by decide) rfl (by simp [z_ci, z_cj, z_cr, z_cx]) rfl ?_
  refine z_astore_n (L' := [(1, z_r (some h.1)), (0, .retAddr 0)]) dL_law_7 rfl (by decide) rfl ?_
  replace e := z_bd e; obtain ⟨h4602, eh4602, e⟩ := e
  refine z_newE eh4602 nk_L_10 dL_law_8 ?_
  refine z_dup dL_law_11 (z_cr _) ?_
  replace e := z_bd e; obtain ⟨p4603, ep4603, e⟩ := e
  refine z_cI' [] (S_X11_init  ep4603) rfl ml_L_12 ck_X11_init im_X11_init rfl dL_law_12 (by decide) rfl (by simp [z_ci, z_cj, z_cr, z_cx]) rfl ?_
  refine z_astore_n (L' := [(2, z_r (some p4601.1)), (1, z_r (some h.1)), (0, .retAddr 0)]) dL_law_15 rfl (by decide) (by simp [z_cr]) ?_
  refine z_iconst (v := 0) dL_law_16 (by decide) ?_
  refine z_istore_n (i := 3) (L' := [(3, .int (0:Int32)), (2, z_r (some p4601.1)), (1, z_r (some h.1)), (0, .retAddr 0)]) dL_law_17 rfl (by decide) (by simp [z_cr, z_ci, z_cj]) ?_
  exact z_weak [3, 2, 1, 0] rfl (S_L_law_18   z_F e)
