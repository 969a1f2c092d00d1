theorem dlaw_0 : decode ylaw.2.1 0 = .ok (.new 7, 3) := by decide +kernel
theorem dlaw_3 : decode ylaw.2.1 3 = .ok (.dup, 1) := by decide +kernel
theorem dlaw_4 : decode ylaw.2.1 4 = .ok (.invokespecial 9, 3) := by decide +kernel
theorem dlaw_7 : decode ylaw.2.1 7 = .ok (.astore_n 1, 1) := by decide +kernel
theorem dlaw_8 : decode ylaw.2.1 8 = .ok (.new 10, 3) := by decide +kernel
theorem dlaw_11 : decode ylaw.2.1 11 = .ok (.dup, 1) := by decide +kernel
theorem dlaw_12 : decode ylaw.2.1 12 = .ok (.invokespecial 12, 3) := by decide +kernel
theorem dlaw_15 : decode ylaw.2.1 15 = .ok (.astore_n 2, 1) := by decide +kernel
theorem dlaw_16 : decode ylaw.2.1 16 = .ok (.iconst 0, 1) := by decide +kernel
theorem dlaw_17 : decode ylaw.2.1 17 = .ok (.istore_n 3, 1) := by decide +kernel
theorem dlaw_18 : decode ylaw.2.1 18 = .ok (.iload_n 3, 1) := by decide +kernel
theorem dlaw_19 : decode ylaw.2.1 19 = .ok (.aload_n 0, 1) := by decide +kernel
theorem dlaw_20 : decode ylaw.2.1 20 = .ok (.arraylength, 1) := by decide +kernel
theorem dlaw_21 : decode ylaw.2.1 21 = .ok (.bipush 6, 2) := by decide +kernel
theorem dlaw_23 : decode ylaw.2.1 23 = .ok (.isub, 1) := by decide +kernel
theorem dlaw_24 : decode ylaw.2.1 24 = .ok (.if_icmp .gt 1484, 3) := by decide +kernel
theorem dlaw_27 : decode ylaw.2.1 27 = .ok (.aload_n 0, 1) := by decide +kernel
theorem dlaw_28 : decode ylaw.2.1 28 = .ok (.iload_n 3, 1) := by decide +kernel
theorem dlaw_29 : decode ylaw.2.1 29 = .ok (.iaload, 1) := by decide +kernel
theorem dlaw_30 : decode ylaw.2.1 30 = .ok (.bipush 63, 2) := by decide +kernel
theorem dlaw_32 : decode ylaw.2.1 32 = .ok (.iand, 1) := by decide +kernel
theorem dlaw_33 : decode ylaw.2.1 33 = .ok (.tableswitch 1469 0 41 #[183, 236, 269, 302, 335, 378, 411, 444, 477, 500, 523, 556, 579, 602, 625, 658, 681, 714, 757, 800, 833, 866, 879, 902, 945, 968, 981, 1014, 1037, 1080, 1123, 1146, 1169, 1232, 1275, 1308, 1341, 1374, 1397, 1420, 1433, 1446], 183) := by decide +kernel
theorem dlaw_216 : decode ylaw.2.1 216 = .ok (.aload_n 1, 1) := by decide +kernel
theorem dlaw_217 : decode ylaw.2.1 217 = .ok (.aload_n 0, 1) := by decide +kernel
theorem dlaw_218 : decode ylaw.2.1 218 = .ok (.iload_n 3, 1) := by decide +kernel
theorem dlaw_219 : decode ylaw.2.1 219 = .ok (.iconst 1, 1) := by decide +kernel
theorem dlaw_220 : decode ylaw.2.1 220 = .ok (.iadd, 1) := by decide +kernel
theorem dlaw_221 : decode ylaw.2.1 221 = .ok (.iaload, 1) := by decide +kernel
theorem dlaw_222 : decode ylaw.2.1 222 = .ok (.aload_n 0, 1) := by decide +kernel
theorem dlaw_223 : decode ylaw.2.1 223 = .ok (.iload_n 3, 1) := by decide +kernel
theorem dlaw_224 : decode ylaw.2.1 224 = .ok (.iconst 2, 1) := by decide +kernel
theorem dlaw_225 : decode ylaw.2.1 225 = .ok (.iadd, 1) := by decide +kernel
theorem dlaw_226 : decode ylaw.2.1 226 = .ok (.iaload, 1) := by decide +kernel
theorem dlaw_227 : decode ylaw.2.1 227 = .ok (.aload_n 0, 1) := by decide +kernel
theorem dlaw_228 : decode ylaw.2.1 228 = .ok (.iload_n 3, 1) := by decide +kernel
theorem dlaw_229 : decode ylaw.2.1 229 = .ok (.iconst 3, 1) := by decide +kernel
theorem dlaw_230 : decode ylaw.2.1 230 = .ok (.iadd, 1) := by decide +kernel
theorem dlaw_231 : decode ylaw.2.1 231 = .ok (.iaload, 1) := by decide +kernel
theorem dlaw_232 : decode ylaw.2.1 232 = .ok (.aload_n 0, 1) := by decide +kernel
theorem dlaw_233 : decode ylaw.2.1 233 = .ok (.iload_n 3, 1) := by decide +kernel
theorem dlaw_234 : decode ylaw.2.1 234 = .ok (.iconst 4, 1) := by decide +kernel
theorem dlaw_235 : decode ylaw.2.1 235 = .ok (.iadd, 1) := by decide +kernel
theorem dlaw_236 : decode ylaw.2.1 236 = .ok (.iaload, 1) := by decide +kernel
theorem dlaw_237 : decode ylaw.2.1 237 = .ok (.invokevirtual 13, 3) := by decide +kernel
theorem dlaw_240 : decode ylaw.2.1 240 = .ok (.aload_n 2, 1) := by decide +kernel
theorem dlaw_241 : decode ylaw.2.1 241 = .ok (.aload_n 0, 1) := by decide +kernel
theorem dlaw_242 : decode ylaw.2.1 242 = .ok (.iload_n 3, 1) := by decide +kernel
theorem dlaw_243 : decode ylaw.2.1 243 = .ok (.iconst 1, 1) := by decide +kernel
theorem dlaw_244 : decode ylaw.2.1 244 = .ok (.iadd, 1) := by decide +kernel
theorem dlaw_245 : decode ylaw.2.1 245 = .ok (.iaload, 1) := by decide +kernel
theorem dlaw_246 : decode ylaw.2.1 246 = .ok (.aload_n 0, 1) := by decide +kernel
theorem dlaw_247 : decode ylaw.2.1 247 = .ok (.iload_n 3, 1) := by decide +kernel
theorem dlaw_248 : decode ylaw.2.1 248 = .ok (.iconst 2, 1) := by decide +kernel
theorem dlaw_249 : decode ylaw.2.1 249 = .ok (.iadd, 1) := by decide +kernel
theorem dlaw_250 : decode ylaw.2.1 250 = .ok (.iaload, 1) := by decide +kernel
theorem dlaw_251 : decode ylaw.2.1 251 = .ok (.aload_n 0, 1) := by decide +kernel
theorem dlaw_252 : decode ylaw.2.1 252 = .ok (.iload_n 3, 1) := by decide +kernel
theorem dlaw_253 : decode ylaw.2.1 253 = .ok (.iconst 3, 1) := by decide +kernel
theorem dlaw_254 : decode ylaw.2.1 254 = .ok (.iadd, 1) := by decide +kernel
theorem dlaw_255 : decode ylaw.2.1 255 = .ok (.iaload, 1) := by decide +kernel
theorem dlaw_256 : decode ylaw.2.1 256 = .ok (.aload_n 0, 1) := by decide +kernel
theorem dlaw_257 : decode ylaw.2.1 257 = .ok (.iload_n 3, 1) := by decide +kernel
theorem dlaw_258 : decode ylaw.2.1 258 = .ok (.iconst 4, 1) := by decide +kernel
theorem dlaw_259 : decode ylaw.2.1 259 = .ok (.iadd, 1) := by decide +kernel
theorem dlaw_260 : decode ylaw.2.1 260 = .ok (.iaload, 1) := by decide +kernel
theorem dlaw_261 : decode ylaw.2.1 261 = .ok (.invokevirtual 17, 3) := by decide +kernel
theorem dlaw_264 : decode ylaw.2.1 264 = .ok (.if_icmp .eq 1238, 3) := by decide +kernel
theorem dlaw_267 : decode ylaw.2.1 267 = .ok (.iconst 0, 1) := by decide +kernel
theorem dlaw_268 : decode ylaw.2.1 268 = .ok (.ireturn, 1) := by decide +kernel
theorem dlaw_269 : decode ylaw.2.1 269 = .ok (.aload_n 1, 1) := by decide +kernel
theorem dlaw_270 : decode ylaw.2.1 270 = .ok (.aload_n 0, 1) := by decide +kernel
theorem dlaw_271 : decode ylaw.2.1 271 = .ok (.iload_n 3, 1) := by decide +kernel
theorem dlaw_272 : decode ylaw.2.1 272 = .ok (.iconst 1, 1) := by decide +kernel
theorem dlaw_273 : decode ylaw.2.1 273 = .ok (.iadd, 1) := by decide +kernel
theorem dlaw_274 : decode ylaw.2.1 274 = .ok (.iaload, 1) := by decide +kernel
theorem dlaw_275 : decode ylaw.2.1 275 = .ok (.aload_n 0, 1) := by decide +kernel
theorem dlaw_276 : decode ylaw.2.1 276 = .ok (.iload_n 3, 1) := by decide +kernel
theorem dlaw_277 : decode ylaw.2.1 277 = .ok (.iconst 2, 1) := by decide +kernel
theorem dlaw_278 : decode ylaw.2.1 278 = .ok (.iadd, 1) := by decide +kernel
theorem dlaw_279 : decode ylaw.2.1 279 = .ok (.iaload, 1) := by decide +kernel
theorem dlaw_280 : decode ylaw.2.1 280 = .ok (.invokevirtual 18, 3) := by decide +kernel
theorem dlaw_283 : decode ylaw.2.1 283 = .ok (.aload_n 2, 1) := by decide +kernel
theorem dlaw_284 : decode ylaw.2.1 284 = .ok (.aload_n 0, 1) := by decide +kernel
theorem dlaw_285 : decode ylaw.2.1 285 = .ok (.iload_n 3, 1) := by decide +kernel
theorem dlaw_286 : decode ylaw.2.1 286 = .ok (.iconst 1, 1) := by decide +kernel
theorem dlaw_287 : decode ylaw.2.1 287 = .ok (.iadd, 1) := by decide +kernel
theorem dlaw_288 : decode ylaw.2.1 288 = .ok (.iaload, 1) := by decide +kernel
theorem dlaw_289 : decode ylaw.2.1 289 = .ok (.aload_n 0, 1) := by decide +kernel
theorem dlaw_290 : decode ylaw.2.1 290 = .ok (.iload_n 3, 1) := by decide +kernel
theorem dlaw_291 : decode ylaw.2.1 291 = .ok (.iconst 2, 1) := by decide +kernel
theorem dlaw_292 : decode ylaw.2.1 292 = .ok (.iadd, 1) := by decide +kernel
theorem dlaw_293 : decode ylaw.2.1 293 = .ok (.iaload, 1) := by decide +kernel
theorem dlaw_294 : decode ylaw.2.1 294 = .ok (.invokevirtual 22, 3) := by decide +kernel
theorem dlaw_297 : decode ylaw.2.1 297 = .ok (.if_icmp .eq 1205, 3) := by decide +kernel
theorem dlaw_300 : decode ylaw.2.1 300 = .ok (.iconst 0, 1) := by decide +kernel
theorem dlaw_301 : decode ylaw.2.1 301 = .ok (.ireturn, 1) := by decide +kernel
theorem dlaw_302 : decode ylaw.2.1 302 = .ok (.aload_n 1, 1) := by decide +kernel
theorem dlaw_303 : decode ylaw.2.1 303 = .ok (.aload_n 0, 1) := by decide +kernel
theorem dlaw_304 : decode ylaw.2.1 304 = .ok (.iload_n 3, 1) := by decide +kernel
theorem dlaw_305 : decode ylaw.2.1 305 = .ok (.iconst 1, 1) := by decide +kernel
theorem dlaw_306 : decode ylaw.2.1 306 = .ok (.iadd, 1) := by decide +kernel
theorem dlaw_307 : decode ylaw.2.1 307 = .ok (.iaload, 1) := by decide +kernel
theorem dlaw_308 : decode ylaw.2.1 308 = .ok (.aload_n 0, 1) := by decide +kernel
theorem dlaw_309 : decode ylaw.2.1 309 = .ok (.iload_n 3, 1) := by decide +kernel
theorem dlaw_310 : decode ylaw.2.1 310 = .ok (.iconst 2, 1) := by decide +kernel
theorem dlaw_311 : decode ylaw.2.1 311 = .ok (.iadd, 1) := by decide +kernel
theorem dlaw_312 : decode ylaw.2.1 312 = .ok (.iaload, 1) := by decide +kernel
theorem dlaw_313 : decode ylaw.2.1 313 = .ok (.invokevirtual 23, 3) := by decide +kernel
theorem dlaw_316 : decode ylaw.2.1 316 = .ok (.aload_n 2, 1) := by decide +kernel
theorem dlaw_317 : decode ylaw.2.1 317 = .ok (.aload_n 0, 1) := by decide +kernel
theorem dlaw_318 : decode ylaw.2.1 318 = .ok (.iload_n 3, 1) := by decide +kernel
theorem dlaw_319 : decode ylaw.2.1 319 = .ok (.iconst 1, 1) := by decide +kernel
theorem dlaw_320 : decode ylaw.2.1 320 = .ok (.iadd, 1) := by decide +kernel
theorem dlaw_321 : decode ylaw.2.1 321 = .ok (.iaload, 1) := by decide +kernel
theorem dlaw_322 : decode ylaw.2.1 322 = .ok (.aload_n 0, 1) := by decide +kernel
theorem dlaw_323 : decode ylaw.2.1 323 = .ok (.iload_n 3, 1) := by decide +kernel
theorem dlaw_324 : decode ylaw.2.1 324 = .ok (.iconst 2, 1) := by decide +kernel
theorem dlaw_325 : decode ylaw.2.1 325 = .ok (.iadd, 1) := by decide +kernel
theorem dlaw_326 : decode ylaw.2.1 326 = .ok (.iaload, 1) := by decide +kernel
theorem dlaw_327 : decode ylaw.2.1 327 = .ok (.invokevirtual 26, 3) := by decide +kernel
theorem dlaw_330 : decode ylaw.2.1 330 = .ok (.if_icmp .eq 1172, 3) := by decide +kernel
theorem dlaw_333 : decode ylaw.2.1 333 = .ok (.iconst 0, 1) := by decide +kernel
theorem dlaw_334 : decode ylaw.2.1 334 = .ok (.ireturn, 1) := by decide +kernel
theorem dlaw_335 : decode ylaw.2.1 335 = .ok (.aload_n 1, 1) := by decide +kernel
theorem dlaw_336 : decode ylaw.2.1 336 = .ok (.aload_n 0, 1) := by decide +kernel
theorem dlaw_337 : decode ylaw.2.1 337 = .ok (.iload_n 3, 1) := by decide +kernel
theorem dlaw_338 : decode ylaw.2.1 338 = .ok (.iconst 1, 1) := by decide +kernel
theorem dlaw_339 : decode ylaw.2.1 339 = .ok (.iadd, 1) := by decide +kernel
theorem dlaw_340 : decode ylaw.2.1 340 = .ok (.iaload, 1) := by decide +kernel
theorem dlaw_341 : decode ylaw.2.1 341 = .ok (.aload_n 0, 1) := by decide +kernel
theorem dlaw_342 : decode ylaw.2.1 342 = .ok (.iload_n 3, 1) := by decide +kernel
theorem dlaw_343 : decode ylaw.2.1 343 = .ok (.iconst 2, 1) := by decide +kernel
theorem dlaw_344 : decode ylaw.2.1 344 = .ok (.iadd, 1) := by decide +kernel
theorem dlaw_345 : decode ylaw.2.1 345 = .ok (.iaload, 1) := by decide +kernel
theorem dlaw_346 : decode ylaw.2.1 346 = .ok (.invokevirtual 27, 3) := by decide +kernel
theorem dlaw_349 : decode ylaw.2.1 349 = .ok (.aload_n 2, 1) := by decide +kernel
theorem dlaw_350 : decode ylaw.2.1 350 = .ok (.aload_n 0, 1) := by decide +kernel
theorem dlaw_351 : decode ylaw.2.1 351 = .ok (.iload_n 3, 1) := by decide +kernel
theorem dlaw_352 : decode ylaw.2.1 352 = .ok (.iconst 1, 1) := by decide +kernel
theorem dlaw_353 : decode ylaw.2.1 353 = .ok (.iadd, 1) := by decide +kernel
theorem dlaw_354 : decode ylaw.2.1 354 = .ok (.iaload, 1) := by decide +kernel
theorem dlaw_355 : decode ylaw.2.1 355 = .ok (.aload_n 0, 1) := by decide +kernel
theorem dlaw_356 : decode ylaw.2.1 356 = .ok (.iload_n 3, 1) := by decide +kernel
theorem dlaw_357 : decode ylaw.2.1 357 = .ok (.iconst 2, 1) := by decide +kernel
theorem dlaw_358 : decode ylaw.2.1 358 = .ok (.iadd, 1) := by decide +kernel
theorem dlaw_359 : decode ylaw.2.1 359 = .ok (.iaload, 1) := by decide +kernel
theorem dlaw_360 : decode ylaw.2.1 360 = .ok (.invokevirtual 30, 3) := by decide +kernel
theorem dlaw_363 : decode ylaw.2.1 363 = .ok (.if_icmp .eq 1139, 3) := by decide +kernel
theorem dlaw_366 : decode ylaw.2.1 366 = .ok (.iconst 0, 1) := by decide +kernel
theorem dlaw_367 : decode ylaw.2.1 367 = .ok (.ireturn, 1) := by decide +kernel
theorem dlaw_368 : decode ylaw.2.1 368 = .ok (.aload_n 1, 1) := by decide +kernel
theorem dlaw_369 : decode ylaw.2.1 369 = .ok (.aload_n 0, 1) := by decide +kernel
theorem dlaw_370 : decode ylaw.2.1 370 = .ok (.iload_n 3, 1) := by decide +kernel
theorem dlaw_371 : decode ylaw.2.1 371 = .ok (.iconst 1, 1) := by decide +kernel
theorem dlaw_372 : decode ylaw.2.1 372 = .ok (.iadd, 1) := by decide +kernel
theorem dlaw_373 : decode ylaw.2.1 373 = .ok (.iaload, 1) := by decide +kernel
theorem dlaw_374 : decode ylaw.2.1 374 = .ok (.aload_n 0, 1) := by decide +kernel
theorem dlaw_375 : decode ylaw.2.1 375 = .ok (.iload_n 3, 1) := by decide +kernel
theorem dlaw_376 : decode ylaw.2.1 376 = .ok (.iconst 2, 1) := by decide +kernel
theorem dlaw_377 : decode ylaw.2.1 377 = .ok (.iadd, 1) := by decide +kernel
theorem dlaw_378 : decode ylaw.2.1 378 = .ok (.iaload, 1) := by decide +kernel
theorem dlaw_379 : decode ylaw.2.1 379 = .ok (.aload_n 0, 1) := by decide +kernel
theorem dlaw_380 : decode ylaw.2.1 380 = .ok (.iload_n 3, 1) := by decide +kernel
theorem dlaw_381 : decode ylaw.2.1 381 = .ok (.iconst 3, 1) := by decide +kernel
theorem dlaw_382 : decode ylaw.2.1 382 = .ok (.iadd, 1) := by decide +kernel
theorem dlaw_383 : decode ylaw.2.1 383 = .ok (.iaload, 1) := by decide +kernel
theorem dlaw_384 : decode ylaw.2.1 384 = .ok (.invokevirtual 31, 3) := by decide +kernel
theorem dlaw_387 : decode ylaw.2.1 387 = .ok (.aload_n 2, 1) := by decide +kernel
theorem dlaw_388 : decode ylaw.2.1 388 = .ok (.aload_n 0, 1) := by decide +kernel
theorem dlaw_389 : decode ylaw.2.1 389 = .ok (.iload_n 3, 1) := by decide +kernel
theorem dlaw_390 : decode ylaw.2.1 390 = .ok (.iconst 1, 1) := by decide +kernel
theorem dlaw_391 : decode ylaw.2.1 391 = .ok (.iadd, 1) := by decide +kernel
theorem dlaw_392 : decode ylaw.2.1 392 = .ok (.iaload, 1) := by decide +kernel
theorem dlaw_393 : decode ylaw.2.1 393 = .ok (.aload_n 0, 1) := by decide +kernel
theorem dlaw_394 : decode ylaw.2.1 394 = .ok (.iload_n 3, 1) := by decide +kernel
theorem dlaw_395 : decode ylaw.2.1 395 = .ok (.iconst 2, 1) := by decide +kernel
theorem dlaw_396 : decode ylaw.2.1 396 = .ok (.iadd, 1) := by decide +kernel
theorem dlaw_397 : decode ylaw.2.1 397 = .ok (.iaload, 1) := by decide +kernel
theorem dlaw_398 : decode ylaw.2.1 398 = .ok (.aload_n 0, 1) := by decide +kernel
theorem dlaw_399 : decode ylaw.2.1 399 = .ok (.iload_n 3, 1) := by decide +kernel
theorem dlaw_400 : decode ylaw.2.1 400 = .ok (.iconst 3, 1) := by decide +kernel
theorem dlaw_401 : decode ylaw.2.1 401 = .ok (.iadd, 1) := by decide +kernel
theorem dlaw_402 : decode ylaw.2.1 402 = .ok (.iaload, 1) := by decide +kernel
theorem dlaw_403 : decode ylaw.2.1 403 = .ok (.invokevirtual 35, 3) := by decide +kernel
theorem dlaw_406 : decode ylaw.2.1 406 = .ok (.if_icmp .eq 1096, 3) := by decide +kernel
theorem dlaw_409 : decode ylaw.2.1 409 = .ok (.iconst 0, 1) := by decide +kernel
theorem dlaw_410 : decode ylaw.2.1 410 = .ok (.ireturn, 1) := by decide +kernel
theorem dlaw_411 : decode ylaw.2.1 411 = .ok (.aload_n 1, 1) := by decide +kernel
theorem dlaw_412 : decode ylaw.2.1 412 = .ok (.aload_n 0, 1) := by decide +kernel
theorem dlaw_413 : decode ylaw.2.1 413 = .ok (.iload_n 3, 1) := by decide +kernel
theorem dlaw_414 : decode ylaw.2.1 414 = .ok (.iconst 1, 1) := by decide +kernel
theorem dlaw_415 : decode ylaw.2.1 415 = .ok (.iadd, 1) := by decide +kernel
theorem dlaw_416 : decode ylaw.2.1 416 = .ok (.iaload, 1) := by decide +kernel
theorem dlaw_417 : decode ylaw.2.1 417 = .ok (.aload_n 0, 1) := by decide +kernel
theorem dlaw_418 : decode ylaw.2.1 418 = .ok (.iload_n 3, 1) := by decide +kernel
theorem dlaw_419 : decode ylaw.2.1 419 = .ok (.iconst 2, 1) := by decide +kernel
theorem dlaw_420 : decode ylaw.2.1 420 = .ok (.iadd, 1) := by decide +kernel
theorem dlaw_421 : decode ylaw.2.1 421 = .ok (.iaload, 1) := by decide +kernel
theorem dlaw_422 : decode ylaw.2.1 422 = .ok (.invokevirtual 36, 3) := by decide +kernel
theorem dlaw_425 : decode ylaw.2.1 425 = .ok (.aload_n 2, 1) := by decide +kernel
theorem dlaw_426 : decode ylaw.2.1 426 = .ok (.aload_n 0, 1) := by decide +kernel
theorem dlaw_427 : decode ylaw.2.1 427 = .ok (.iload_n 3, 1) := by decide +kernel
theorem dlaw_428 : decode ylaw.2.1 428 = .ok (.iconst 1, 1) := by decide +kernel
theorem dlaw_429 : decode ylaw.2.1 429 = .ok (.iadd, 1) := by decide +kernel
theorem dlaw_430 : decode ylaw.2.1 430 = .ok (.iaload, 1) := by decide +kernel
theorem dlaw_431 : decode ylaw.2.1 431 = .ok (.aload_n 0, 1) := by decide +kernel
theorem dlaw_432 : decode ylaw.2.1 432 = .ok (.iload_n 3, 1) := by decide +kernel
theorem dlaw_433 : decode ylaw.2.1 433 = .ok (.iconst 2, 1) := by decide +kernel
theorem dlaw_434 : decode ylaw.2.1 434 = .ok (.iadd, 1) := by decide +kernel
theorem dlaw_435 : decode ylaw.2.1 435 = .ok (.iaload, 1) := by decide +kernel
theorem dlaw_436 : decode ylaw.2.1 436 = .ok (.invokevirtual 39, 3) := by decide +kernel
theorem dlaw_439 : decode ylaw.2.1 439 = .ok (.if_icmp .eq 1063, 3) := by decide +kernel
theorem dlaw_442 : decode ylaw.2.1 442 = .ok (.iconst 0, 1) := by decide +kernel
theorem dlaw_443 : decode ylaw.2.1 443 = .ok (.ireturn, 1) := by decide +kernel
theorem dlaw_444 : decode ylaw.2.1 444 = .ok (.aload_n 1, 1) := by decide +kernel
theorem dlaw_445 : decode ylaw.2.1 445 = .ok (.aload_n 0, 1) := by decide +kernel
theorem dlaw_446 : decode ylaw.2.1 446 = .ok (.iload_n 3, 1) := by decide +kernel
theorem dlaw_447 : decode ylaw.2.1 447 = .ok (.iconst 1, 1) := by decide +kernel
theorem dlaw_448 : decode ylaw.2.1 448 = .ok (.iadd, 1) := by decide +kernel
theorem dlaw_449 : decode ylaw.2.1 449 = .ok (.iaload, 1) := by decide +kernel
theorem dlaw_450 : decode ylaw.2.1 450 = .ok (.aload_n 0, 1) := by decide +kernel
theorem dlaw_451 : decode ylaw.2.1 451 = .ok (.iload_n 3, 1) := by decide +kernel
theorem dlaw_452 : decode ylaw.2.1 452 = .ok (.iconst 2, 1) := by decide +kernel
theorem dlaw_453 : decode ylaw.2.1 453 = .ok (.iadd, 1) := by decide +kernel
theorem dlaw_454 : decode ylaw.2.1 454 = .ok (.iaload, 1) := by decide +kernel
theorem dlaw_455 : decode ylaw.2.1 455 = .ok (.invokevirtual 40, 3) := by decide +kernel
theorem dlaw_458 : decode ylaw.2.1 458 = .ok (.aload_n 2, 1) := by decide +kernel
theorem dlaw_459 : decode ylaw.2.1 459 = .ok (.aload_n 0, 1) := by decide +kernel
theorem dlaw_460 : decode ylaw.2.1 460 = .ok (.iload_n 3, 1) := by decide +kernel
theorem dlaw_461 : decode ylaw.2.1 461 = .ok (.iconst 1, 1) := by decide +kernel
theorem dlaw_462 : decode ylaw.2.1 462 = .ok (.iadd, 1) := by decide +kernel
theorem dlaw_463 : decode ylaw.2.1 463 = .ok (.iaload, 1) := by decide +kernel
theorem dlaw_464 : decode ylaw.2.1 464 = .ok (.aload_n 0, 1) := by decide +kernel
theorem dlaw_465 : decode ylaw.2.1 465 = .ok (.iload_n 3, 1) := by decide +kernel
theorem dlaw_466 : decode ylaw.2.1 466 = .ok (.iconst 2, 1) := by decide +kernel
theorem dlaw_467 : decode ylaw.2.1 467 = .ok (.iadd, 1) := by decide +kernel
theorem dlaw_468 : decode ylaw.2.1 468 = .ok (.iaload, 1) := by decide +kernel
theorem dlaw_469 : decode ylaw.2.1 469 = .ok (.invokevirtual 43, 3) := by decide +kernel
theorem dlaw_472 : decode ylaw.2.1 472 = .ok (.if_icmp .eq 1030, 3) := by decide +kernel
theorem dlaw_475 : decode ylaw.2.1 475 = .ok (.iconst 0, 1) := by decide +kernel
theorem dlaw_476 : decode ylaw.2.1 476 = .ok (.ireturn, 1) := by decide +kernel
theorem dlaw_477 : decode ylaw.2.1 477 = .ok (.aload_n 1, 1) := by decide +kernel
theorem dlaw_478 : decode ylaw.2.1 478 = .ok (.aload_n 0, 1) := by decide +kernel
theorem dlaw_479 : decode ylaw.2.1 479 = .ok (.iload_n 3, 1) := by decide +kernel
theorem dlaw_480 : decode ylaw.2.1 480 = .ok (.iconst 1, 1) := by decide +kernel
theorem dlaw_481 : decode ylaw.2.1 481 = .ok (.iadd, 1) := by decide +kernel
theorem dlaw_482 : decode ylaw.2.1 482 = .ok (.iaload, 1) := by decide +kernel
theorem dlaw_483 : decode ylaw.2.1 483 = .ok (.aload_n 0, 1) := by decide +kernel
theorem dlaw_484 : decode ylaw.2.1 484 = .ok (.iload_n 3, 1) := by decide +kernel
theorem dlaw_485 : decode ylaw.2.1 485 = .ok (.iconst 2, 1) := by decide +kernel
theorem dlaw_486 : decode ylaw.2.1 486 = .ok (.iadd, 1) := by decide +kernel
theorem dlaw_487 : decode ylaw.2.1 487 = .ok (.iaload, 1) := by decide +kernel
theorem dlaw_488 : decode ylaw.2.1 488 = .ok (.invokevirtual 44, 3) := by decide +kernel
theorem dlaw_491 : decode ylaw.2.1 491 = .ok (.aload_n 2, 1) := by decide +kernel
theorem dlaw_492 : decode ylaw.2.1 492 = .ok (.aload_n 0, 1) := by decide +kernel
theorem dlaw_493 : decode ylaw.2.1 493 = .ok (.iload_n 3, 1) := by decide +kernel
theorem dlaw_494 : decode ylaw.2.1 494 = .ok (.iconst 1, 1) := by decide +kernel
theorem dlaw_495 : decode ylaw.2.1 495 = .ok (.iadd, 1) := by decide +kernel
theorem dlaw_496 : decode ylaw.2.1 496 = .ok (.iaload, 1) := by decide +kernel
theorem dlaw_497 : decode ylaw.2.1 497 = .ok (.aload_n 0, 1) := by decide +kernel
theorem dlaw_498 : decode ylaw.2.1 498 = .ok (.iload_n 3, 1) := by decide +kernel
theorem dlaw_499 : decode ylaw.2.1 499 = .ok (.iconst 2, 1) := by decide +kernel
theorem dlaw_500 : decode ylaw.2.1 500 = .ok (.iadd, 1) := by decide +kernel
theorem dlaw_501 : decode ylaw.2.1 501 = .ok (.iaload, 1) := by decide +kernel
theorem dlaw_502 : decode ylaw.2.1 502 = .ok (.invokevirtual 47, 3) := by decide +kernel
theorem dlaw_505 : decode ylaw.2.1 505 = .ok (.if_icmp .eq 997, 3) := by decide +kernel
theorem dlaw_508 : decode ylaw.2.1 508 = .ok (.iconst 0, 1) := by decide +kernel
theorem dlaw_509 : decode ylaw.2.1 509 = .ok (.ireturn, 1) := by decide +kernel
theorem dlaw_510 : decode ylaw.2.1 510 = .ok (.aload_n 1, 1) := by decide +kernel
theorem dlaw_511 : decode ylaw.2.1 511 = .ok (.aload_n 0, 1) := by decide +kernel
theorem dlaw_512 : decode ylaw.2.1 512 = .ok (.iload_n 3, 1) := by decide +kernel
theorem dlaw_513 : decode ylaw.2.1 513 = .ok (.iconst 1, 1) := by decide +kernel
theorem dlaw_514 : decode ylaw.2.1 514 = .ok (.iadd, 1) := by decide +kernel
theorem dlaw_515 : decode ylaw.2.1 515 = .ok (.iaload, 1) := by decide +kernel
theorem dlaw_516 : decode ylaw.2.1 516 = .ok (.invokevirtual 48, 3) := by decide +kernel
theorem dlaw_519 : decode ylaw.2.1 519 = .ok (.aload_n 2, 1) := by decide +kernel
theorem dlaw_520 : decode ylaw.2.1 520 = .ok (.aload_n 0, 1) := by decide +kernel
theorem dlaw_521 : decode ylaw.2.1 521 = .ok (.iload_n 3, 1) := by decide +kernel
theorem dlaw_522 : decode ylaw.2.1 522 = .ok (.iconst 1, 1) := by decide +kernel
theorem dlaw_523 : decode ylaw.2.1 523 = .ok (.iadd, 1) := by decide +kernel
theorem dlaw_524 : decode ylaw.2.1 524 = .ok (.iaload, 1) := by decide +kernel
theorem dlaw_525 : decode ylaw.2.1 525 = .ok (.invokevirtual 52, 3) := by decide +kernel
theorem dlaw_528 : decode ylaw.2.1 528 = .ok (.if_icmp .eq 974, 3) := by decide +kernel
theorem dlaw_531 : decode ylaw.2.1 531 = .ok (.iconst 0, 1) := by decide +kernel
theorem dlaw_532 : decode ylaw.2.1 532 = .ok (.ireturn, 1) := by decide +kernel
theorem dlaw_533 : decode ylaw.2.1 533 = .ok (.aload_n 1, 1) := by decide +kernel
theorem dlaw_534 : decode ylaw.2.1 534 = .ok (.aload_n 0, 1) := by decide +kernel
theorem dlaw_535 : decode ylaw.2.1 535 = .ok (.iload_n 3, 1) := by decide +kernel
theorem dlaw_536 : decode ylaw.2.1 536 = .ok (.iconst 1, 1) := by decide +kernel
theorem dlaw_537 : decode ylaw.2.1 537 = .ok (.iadd, 1) := by decide +kernel
theorem dlaw_538 : decode ylaw.2.1 538 = .ok (.iaload, 1) := by decide +kernel
theorem dlaw_539 : decode ylaw.2.1 539 = .ok (.invokevirtual 53, 3) := by decide +kernel
theorem dlaw_542 : decode ylaw.2.1 542 = .ok (.aload_n 2, 1) := by decide +kernel
theorem dlaw_543 : decode ylaw.2.1 543 = .ok (.aload_n 0, 1) := by decide +kernel
theorem dlaw_544 : decode ylaw.2.1 544 = .ok (.iload_n 3, 1) := by decide +kernel
theorem dlaw_545 : decode ylaw.2.1 545 = .ok (.iconst 1, 1) := by decide +kernel
theorem dlaw_546 : decode ylaw.2.1 546 = .ok (.iadd, 1) := by decide +kernel
theorem dlaw_547 : decode ylaw.2.1 547 = .ok (.iaload, 1) := by decide +kernel
theorem dlaw_548 : decode ylaw.2.1 548 = .ok (.invokevirtual 56, 3) := by decide +kernel
theorem dlaw_551 : decode ylaw.2.1 551 = .ok (.if_icmp .eq 951, 3) := by decide +kernel
theorem dlaw_554 : decode ylaw.2.1 554 = .ok (.iconst 0, 1) := by decide +kernel
theorem dlaw_555 : decode ylaw.2.1 555 = .ok (.ireturn, 1) := by decide +kernel
theorem dlaw_556 : decode ylaw.2.1 556 = .ok (.aload_n 1, 1) := by decide +kernel
theorem dlaw_557 : decode ylaw.2.1 557 = .ok (.aload_n 0, 1) := by decide +kernel
theorem dlaw_558 : decode ylaw.2.1 558 = .ok (.iload_n 3, 1) := by decide +kernel
theorem dlaw_559 : decode ylaw.2.1 559 = .ok (.iconst 1, 1) := by decide +kernel
theorem dlaw_560 : decode ylaw.2.1 560 = .ok (.iadd, 1) := by decide +kernel
theorem dlaw_561 : decode ylaw.2.1 561 = .ok (.iaload, 1) := by decide +kernel
theorem dlaw_562 : decode ylaw.2.1 562 = .ok (.aload_n 0, 1) := by decide +kernel
theorem dlaw_563 : decode ylaw.2.1 563 = .ok (.iload_n 3, 1) := by decide +kernel
theorem dlaw_564 : decode ylaw.2.1 564 = .ok (.iconst 2, 1) := by decide +kernel
theorem dlaw_565 : decode ylaw.2.1 565 = .ok (.iadd, 1) := by decide +kernel
theorem dlaw_566 : decode ylaw.2.1 566 = .ok (.iaload, 1) := by decide +kernel
theorem dlaw_567 : decode ylaw.2.1 567 = .ok (.invokevirtual 57, 3) := by decide +kernel
theorem dlaw_570 : decode ylaw.2.1 570 = .ok (.aload_n 2, 1) := by decide +kernel
theorem dlaw_571 : decode ylaw.2.1 571 = .ok (.aload_n 0, 1) := by decide +kernel
theorem dlaw_572 : decode ylaw.2.1 572 = .ok (.iload_n 3, 1) := by decide +kernel
theorem dlaw_573 : decode ylaw.2.1 573 = .ok (.iconst 1, 1) := by decide +kernel
theorem dlaw_574 : decode ylaw.2.1 574 = .ok (.iadd, 1) := by decide +kernel
theorem dlaw_575 : decode ylaw.2.1 575 = .ok (.iaload, 1) := by decide +kernel
theorem dlaw_576 : decode ylaw.2.1 576 = .ok (.aload_n 0, 1) := by decide +kernel
theorem dlaw_577 : decode ylaw.2.1 577 = .ok (.iload_n 3, 1) := by decide +kernel
theorem dlaw_578 : decode ylaw.2.1 578 = .ok (.iconst 2, 1) := by decide +kernel
theorem dlaw_579 : decode ylaw.2.1 579 = .ok (.iadd, 1) := by decide +kernel
theorem dlaw_580 : decode ylaw.2.1 580 = .ok (.iaload, 1) := by decide +kernel
theorem dlaw_581 : decode ylaw.2.1 581 = .ok (.invokevirtual 60, 3) := by decide +kernel
theorem dlaw_584 : decode ylaw.2.1 584 = .ok (.if_icmp .eq 918, 3) := by decide +kernel
theorem dlaw_587 : decode ylaw.2.1 587 = .ok (.iconst 0, 1) := by decide +kernel
theorem dlaw_588 : decode ylaw.2.1 588 = .ok (.ireturn, 1) := by decide +kernel
theorem dlaw_589 : decode ylaw.2.1 589 = .ok (.aload_n 1, 1) := by decide +kernel
theorem dlaw_590 : decode ylaw.2.1 590 = .ok (.aload_n 0, 1) := by decide +kernel
theorem dlaw_591 : decode ylaw.2.1 591 = .ok (.iload_n 3, 1) := by decide +kernel
theorem dlaw_592 : decode ylaw.2.1 592 = .ok (.iconst 1, 1) := by decide +kernel
theorem dlaw_593 : decode ylaw.2.1 593 = .ok (.iadd, 1) := by decide +kernel
theorem dlaw_594 : decode ylaw.2.1 594 = .ok (.iaload, 1) := by decide +kernel
theorem dlaw_595 : decode ylaw.2.1 595 = .ok (.invokevirtual 61, 3) := by decide +kernel
theorem dlaw_598 : decode ylaw.2.1 598 = .ok (.aload_n 2, 1) := by decide +kernel
theorem dlaw_599 : decode ylaw.2.1 599 = .ok (.aload_n 0, 1) := by decide +kernel
theorem dlaw_600 : decode ylaw.2.1 600 = .ok (.iload_n 3, 1) := by decide +kernel
theorem dlaw_601 : decode ylaw.2.1 601 = .ok (.iconst 1, 1) := by decide +kernel
theorem dlaw_602 : decode ylaw.2.1 602 = .ok (.iadd, 1) := by decide +kernel
theorem dlaw_603 : decode ylaw.2.1 603 = .ok (.iaload, 1) := by decide +kernel
theorem dlaw_604 : decode ylaw.2.1 604 = .ok (.invokevirtual 64, 3) := by decide +kernel
theorem dlaw_607 : decode ylaw.2.1 607 = .ok (.if_icmp .eq 895, 3) := by decide +kernel
theorem dlaw_610 : decode ylaw.2.1 610 = .ok (.iconst 0, 1) := by decide +kernel
theorem dlaw_611 : decode ylaw.2.1 611 = .ok (.ireturn, 1) := by decide +kernel
theorem dlaw_612 : decode ylaw.2.1 612 = .ok (.aload_n 1, 1) := by decide +kernel
theorem dlaw_613 : decode ylaw.2.1 613 = .ok (.aload_n 0, 1) := by decide +kernel
theorem dlaw_614 : decode ylaw.2.1 614 = .ok (.iload_n 3, 1) := by decide +kernel
theorem dlaw_615 : decode ylaw.2.1 615 = .ok (.iconst 1, 1) := by decide +kernel
theorem dlaw_616 : decode ylaw.2.1 616 = .ok (.iadd, 1) := by decide +kernel
theorem dlaw_617 : decode ylaw.2.1 617 = .ok (.iaload, 1) := by decide +kernel
theorem dlaw_618 : decode ylaw.2.1 618 = .ok (.invokevirtual 65, 3) := by decide +kernel
theorem dlaw_621 : decode ylaw.2.1 621 = .ok (.aload_n 2, 1) := by decide +kernel
theorem dlaw_622 : decode ylaw.2.1 622 = .ok (.aload_n 0, 1) := by decide +kernel
theorem dlaw_623 : decode ylaw.2.1 623 = .ok (.iload_n 3, 1) := by decide +kernel
theorem dlaw_624 : decode ylaw.2.1 624 = .ok (.iconst 1, 1) := by decide +kernel
theorem dlaw_625 : decode ylaw.2.1 625 = .ok (.iadd, 1) := by decide +kernel
theorem dlaw_626 : decode ylaw.2.1 626 = .ok (.iaload, 1) := by decide +kernel
theorem dlaw_627 : decode ylaw.2.1 627 = .ok (.invokevirtual 68, 3) := by decide +kernel
theorem dlaw_630 : decode ylaw.2.1 630 = .ok (.if_icmp .eq 872, 3) := by decide +kernel
theorem dlaw_633 : decode ylaw.2.1 633 = .ok (.iconst 0, 1) := by decide +kernel
theorem dlaw_634 : decode ylaw.2.1 634 = .ok (.ireturn, 1) := by decide +kernel
theorem dlaw_635 : decode ylaw.2.1 635 = .ok (.aload_n 1, 1) := by decide +kernel
theorem dlaw_636 : decode ylaw.2.1 636 = .ok (.aload_n 0, 1) := by decide +kernel
theorem dlaw_637 : decode ylaw.2.1 637 = .ok (.iload_n 3, 1) := by decide +kernel
theorem dlaw_638 : decode ylaw.2.1 638 = .ok (.iconst 1, 1) := by decide +kernel
theorem dlaw_639 : decode ylaw.2.1 639 = .ok (.iadd, 1) := by decide +kernel
theorem dlaw_640 : decode ylaw.2.1 640 = .ok (.iaload, 1) := by decide +kernel
theorem dlaw_641 : decode ylaw.2.1 641 = .ok (.invokevirtual 69, 3) := by decide +kernel
theorem dlaw_644 : decode ylaw.2.1 644 = .ok (.aload_n 2, 1) := by decide +kernel
theorem dlaw_645 : decode ylaw.2.1 645 = .ok (.aload_n 0, 1) := by decide +kernel
theorem dlaw_646 : decode ylaw.2.1 646 = .ok (.iload_n 3, 1) := by decide +kernel
theorem dlaw_647 : decode ylaw.2.1 647 = .ok (.iconst 1, 1) := by decide +kernel
theorem dlaw_648 : decode ylaw.2.1 648 = .ok (.iadd, 1) := by decide +kernel
theorem dlaw_649 : decode ylaw.2.1 649 = .ok (.iaload, 1) := by decide +kernel
theorem dlaw_650 : decode ylaw.2.1 650 = .ok (.invokevirtual 72, 3) := by decide +kernel
theorem dlaw_653 : decode ylaw.2.1 653 = .ok (.if_icmp .eq 849, 3) := by decide +kernel
theorem dlaw_656 : decode ylaw.2.1 656 = .ok (.iconst 0, 1) := by decide +kernel
theorem dlaw_657 : decode ylaw.2.1 657 = .ok (.ireturn, 1) := by decide +kernel
theorem dlaw_658 : decode ylaw.2.1 658 = .ok (.aload_n 1, 1) := by decide +kernel
theorem dlaw_659 : decode ylaw.2.1 659 = .ok (.aload_n 0, 1) := by decide +kernel
theorem dlaw_660 : decode ylaw.2.1 660 = .ok (.iload_n 3, 1) := by decide +kernel
theorem dlaw_661 : decode ylaw.2.1 661 = .ok (.iconst 1, 1) := by decide +kernel
theorem dlaw_662 : decode ylaw.2.1 662 = .ok (.iadd, 1) := by decide +kernel
theorem dlaw_663 : decode ylaw.2.1 663 = .ok (.iaload, 1) := by decide +kernel
theorem dlaw_664 : decode ylaw.2.1 664 = .ok (.aload_n 0, 1) := by decide +kernel
theorem dlaw_665 : decode ylaw.2.1 665 = .ok (.iload_n 3, 1) := by decide +kernel
theorem dlaw_666 : decode ylaw.2.1 666 = .ok (.iconst 2, 1) := by decide +kernel
theorem dlaw_667 : decode ylaw.2.1 667 = .ok (.iadd, 1) := by decide +kernel
theorem dlaw_668 : decode ylaw.2.1 668 = .ok (.iaload, 1) := by decide +kernel
theorem dlaw_669 : decode ylaw.2.1 669 = .ok (.invokevirtual 73, 3) := by decide +kernel
theorem dlaw_672 : decode ylaw.2.1 672 = .ok (.aload_n 2, 1) := by decide +kernel
theorem dlaw_673 : decode ylaw.2.1 673 = .ok (.aload_n 0, 1) := by decide +kernel
theorem dlaw_674 : decode ylaw.2.1 674 = .ok (.iload_n 3, 1) := by decide +kernel
theorem dlaw_675 : decode ylaw.2.1 675 = .ok (.iconst 1, 1) := by decide +kernel
theorem dlaw_676 : decode ylaw.2.1 676 = .ok (.iadd, 1) := by decide +kernel
theorem dlaw_677 : decode ylaw.2.1 677 = .ok (.iaload, 1) := by decide +kernel
theorem dlaw_678 : decode ylaw.2.1 678 = .ok (.aload_n 0, 1) := by decide +kernel
theorem dlaw_679 : decode ylaw.2.1 679 = .ok (.iload_n 3, 1) := by decide +kernel
theorem dlaw_680 : decode ylaw.2.1 680 = .ok (.iconst 2, 1) := by decide +kernel
theorem dlaw_681 : decode ylaw.2.1 681 = .ok (.iadd, 1) := by decide +kernel
theorem dlaw_682 : decode ylaw.2.1 682 = .ok (.iaload, 1) := by decide +kernel
theorem dlaw_683 : decode ylaw.2.1 683 = .ok (.invokevirtual 76, 3) := by decide +kernel
theorem dlaw_686 : decode ylaw.2.1 686 = .ok (.if_icmp .eq 816, 3) := by decide +kernel
theorem dlaw_689 : decode ylaw.2.1 689 = .ok (.iconst 0, 1) := by decide +kernel
theorem dlaw_690 : decode ylaw.2.1 690 = .ok (.ireturn, 1) := by decide +kernel
theorem dlaw_691 : decode ylaw.2.1 691 = .ok (.aload_n 1, 1) := by decide +kernel
theorem dlaw_692 : decode ylaw.2.1 692 = .ok (.aload_n 0, 1) := by decide +kernel
theorem dlaw_693 : decode ylaw.2.1 693 = .ok (.iload_n 3, 1) := by decide +kernel
theorem dlaw_694 : decode ylaw.2.1 694 = .ok (.iconst 1, 1) := by decide +kernel
theorem dlaw_695 : decode ylaw.2.1 695 = .ok (.iadd, 1) := by decide +kernel
theorem dlaw_696 : decode ylaw.2.1 696 = .ok (.iaload, 1) := by decide +kernel
theorem dlaw_697 : decode ylaw.2.1 697 = .ok (.invokevirtual 77, 3) := by decide +kernel
theorem dlaw_700 : decode ylaw.2.1 700 = .ok (.aload_n 2, 1) := by decide +kernel
theorem dlaw_701 : decode ylaw.2.1 701 = .ok (.aload_n 0, 1) := by decide +kernel
theorem dlaw_702 : decode ylaw.2.1 702 = .ok (.iload_n 3, 1) := by decide +kernel
theorem dlaw_703 : decode ylaw.2.1 703 = .ok (.iconst 1, 1) := by decide +kernel
theorem dlaw_704 : decode ylaw.2.1 704 = .ok (.iadd, 1) := by decide +kernel
theorem dlaw_705 : decode ylaw.2.1 705 = .ok (.iaload, 1) := by decide +kernel
theorem dlaw_706 : decode ylaw.2.1 706 = .ok (.invokevirtual 80, 3) := by decide +kernel
theorem dlaw_709 : decode ylaw.2.1 709 = .ok (.if_icmp .eq 793, 3) := by decide +kernel
theorem dlaw_712 : decode ylaw.2.1 712 = .ok (.iconst 0, 1) := by decide +kernel
theorem dlaw_713 : decode ylaw.2.1 713 = .ok (.ireturn, 1) := by decide +kernel
theorem dlaw_714 : decode ylaw.2.1 714 = .ok (.aload_n 1, 1) := by decide +kernel
theorem dlaw_715 : decode ylaw.2.1 715 = .ok (.aload_n 0, 1) := by decide +kernel
theorem dlaw_716 : decode ylaw.2.1 716 = .ok (.iload_n 3, 1) := by decide +kernel
theorem dlaw_717 : decode ylaw.2.1 717 = .ok (.iconst 1, 1) := by decide +kernel
theorem dlaw_718 : decode ylaw.2.1 718 = .ok (.iadd, 1) := by decide +kernel
theorem dlaw_719 : decode ylaw.2.1 719 = .ok (.iaload, 1) := by decide +kernel
theorem dlaw_720 : decode ylaw.2.1 720 = .ok (.aload_n 0, 1) := by decide +kernel
theorem dlaw_721 : decode ylaw.2.1 721 = .ok (.iload_n 3, 1) := by decide +kernel
theorem dlaw_722 : decode ylaw.2.1 722 = .ok (.iconst 2, 1) := by decide +kernel
theorem dlaw_723 : decode ylaw.2.1 723 = .ok (.iadd, 1) := by decide +kernel
theorem dlaw_724 : decode ylaw.2.1 724 = .ok (.iaload, 1) := by decide +kernel
theorem dlaw_725 : decode ylaw.2.1 725 = .ok (.invokevirtual 81, 3) := by decide +kernel
theorem dlaw_728 : decode ylaw.2.1 728 = .ok (.aload_n 2, 1) := by decide +kernel
theorem dlaw_729 : decode ylaw.2.1 729 = .ok (.aload_n 0, 1) := by decide +kernel
theorem dlaw_730 : decode ylaw.2.1 730 = .ok (.iload_n 3, 1) := by decide +kernel
theorem dlaw_731 : decode ylaw.2.1 731 = .ok (.iconst 1, 1) := by decide +kernel
theorem dlaw_732 : decode ylaw.2.1 732 = .ok (.iadd, 1) := by decide +kernel
theorem dlaw_733 : decode ylaw.2.1 733 = .ok (.iaload, 1) := by decide +kernel
theorem dlaw_734 : decode ylaw.2.1 734 = .ok (.aload_n 0, 1) := by decide +kernel
theorem dlaw_735 : decode ylaw.2.1 735 = .ok (.iload_n 3, 1) := by decide +kernel
theorem dlaw_736 : decode ylaw.2.1 736 = .ok (.iconst 2, 1) := by decide +kernel
theorem dlaw_737 : decode ylaw.2.1 737 = .ok (.iadd, 1) := by decide +kernel
theorem dlaw_738 : decode ylaw.2.1 738 = .ok (.iaload, 1) := by decide +kernel
theorem dlaw_739 : decode ylaw.2.1 739 = .ok (.invokevirtual 84, 3) := by decide +kernel
theorem dlaw_742 : decode ylaw.2.1 742 = .ok (.if_icmp .eq 760, 3) := by decide +kernel
theorem dlaw_745 : decode ylaw.2.1 745 = .ok (.iconst 0, 1) := by decide +kernel
theorem dlaw_746 : decode ylaw.2.1 746 = .ok (.ireturn, 1) := by decide +kernel
theorem dlaw_747 : decode ylaw.2.1 747 = .ok (.aload_n 1, 1) := by decide +kernel
theorem dlaw_748 : decode ylaw.2.1 748 = .ok (.aload_n 0, 1) := by decide +kernel
theorem dlaw_749 : decode ylaw.2.1 749 = .ok (.iload_n 3, 1) := by decide +kernel
theorem dlaw_750 : decode ylaw.2.1 750 = .ok (.iconst 1, 1) := by decide +kernel
theorem dlaw_751 : decode ylaw.2.1 751 = .ok (.iadd, 1) := by decide +kernel
theorem dlaw_752 : decode ylaw.2.1 752 = .ok (.iaload, 1) := by decide +kernel
theorem dlaw_753 : decode ylaw.2.1 753 = .ok (.aload_n 0, 1) := by decide +kernel
theorem dlaw_754 : decode ylaw.2.1 754 = .ok (.iload_n 3, 1) := by decide +kernel
theorem dlaw_755 : decode ylaw.2.1 755 = .ok (.iconst 2, 1) := by decide +kernel
theorem dlaw_756 : decode ylaw.2.1 756 = .ok (.iadd, 1) := by decide +kernel
theorem dlaw_757 : decode ylaw.2.1 757 = .ok (.iaload, 1) := by decide +kernel
theorem dlaw_758 : decode ylaw.2.1 758 = .ok (.aload_n 0, 1) := by decide +kernel
theorem dlaw_759 : decode ylaw.2.1 759 = .ok (.iload_n 3, 1) := by decide +kernel
theorem dlaw_760 : decode ylaw.2.1 760 = .ok (.iconst 3, 1) := by decide +kernel
theorem dlaw_761 : decode ylaw.2.1 761 = .ok (.iadd, 1) := by decide +kernel
theorem dlaw_762 : decode ylaw.2.1 762 = .ok (.iaload, 1) := by decide +kernel
theorem dlaw_763 : decode ylaw.2.1 763 = .ok (.invokevirtual 85, 3) := by decide +kernel
theorem dlaw_766 : decode ylaw.2.1 766 = .ok (.aload_n 2, 1) := by decide +kernel
theorem dlaw_767 : decode ylaw.2.1 767 = .ok (.aload_n 0, 1) := by decide +kernel
theorem dlaw_768 : decode ylaw.2.1 768 = .ok (.iload_n 3, 1) := by decide +kernel
theorem dlaw_769 : decode ylaw.2.1 769 = .ok (.iconst 1, 1) := by decide +kernel
theorem dlaw_770 : decode ylaw.2.1 770 = .ok (.iadd, 1) := by decide +kernel
theorem dlaw_771 : decode ylaw.2.1 771 = .ok (.iaload, 1) := by decide +kernel
theorem dlaw_772 : decode ylaw.2.1 772 = .ok (.aload_n 0, 1) := by decide +kernel
theorem dlaw_773 : decode ylaw.2.1 773 = .ok (.iload_n 3, 1) := by decide +kernel
theorem dlaw_774 : decode ylaw.2.1 774 = .ok (.iconst 2, 1) := by decide +kernel
theorem dlaw_775 : decode ylaw.2.1 775 = .ok (.iadd, 1) := by decide +kernel
theorem dlaw_776 : decode ylaw.2.1 776 = .ok (.iaload, 1) := by decide +kernel
theorem dlaw_777 : decode ylaw.2.1 777 = .ok (.aload_n 0, 1) := by decide +kernel
theorem dlaw_778 : decode ylaw.2.1 778 = .ok (.iload_n 3, 1) := by decide +kernel
theorem dlaw_779 : decode ylaw.2.1 779 = .ok (.iconst 3, 1) := by decide +kernel
theorem dlaw_780 : decode ylaw.2.1 780 = .ok (.iadd, 1) := by decide +kernel
theorem dlaw_781 : decode ylaw.2.1 781 = .ok (.iaload, 1) := by decide +kernel
theorem dlaw_782 : decode ylaw.2.1 782 = .ok (.invokevirtual 88, 3) := by decide +kernel
theorem dlaw_785 : decode ylaw.2.1 785 = .ok (.if_icmp .eq 717, 3) := by decide +kernel
theorem dlaw_788 : decode ylaw.2.1 788 = .ok (.iconst 0, 1) := by decide +kernel
theorem dlaw_789 : decode ylaw.2.1 789 = .ok (.ireturn, 1) := by decide +kernel
theorem dlaw_790 : decode ylaw.2.1 790 = .ok (.aload_n 1, 1) := by decide +kernel
theorem dlaw_791 : decode ylaw.2.1 791 = .ok (.aload_n 0, 1) := by decide +kernel
theorem dlaw_792 : decode ylaw.2.1 792 = .ok (.iload_n 3, 1) := by decide +kernel
theorem dlaw_793 : decode ylaw.2.1 793 = .ok (.iconst 1, 1) := by decide +kernel
theorem dlaw_794 : decode ylaw.2.1 794 = .ok (.iadd, 1) := by decide +kernel
theorem dlaw_795 : decode ylaw.2.1 795 = .ok (.iaload, 1) := by decide +kernel
theorem dlaw_796 : decode ylaw.2.1 796 = .ok (.aload_n 0, 1) := by decide +kernel
theorem dlaw_797 : decode ylaw.2.1 797 = .ok (.iload_n 3, 1) := by decide +kernel
theorem dlaw_798 : decode ylaw.2.1 798 = .ok (.iconst 2, 1) := by decide +kernel
theorem dlaw_799 : decode ylaw.2.1 799 = .ok (.iadd, 1) := by decide +kernel
theorem dlaw_800 : decode ylaw.2.1 800 = .ok (.iaload, 1) := by decide +kernel
theorem dlaw_801 : decode ylaw.2.1 801 = .ok (.aload_n 0, 1) := by decide +kernel
theorem dlaw_802 : decode ylaw.2.1 802 = .ok (.iload_n 3, 1) := by decide +kernel
theorem dlaw_803 : decode ylaw.2.1 803 = .ok (.iconst 3, 1) := by decide +kernel
theorem dlaw_804 : decode ylaw.2.1 804 = .ok (.iadd, 1) := by decide +kernel
theorem dlaw_805 : decode ylaw.2.1 805 = .ok (.iaload, 1) := by decide +kernel
theorem dlaw_806 : decode ylaw.2.1 806 = .ok (.invokevirtual 89, 3) := by decide +kernel
theorem dlaw_809 : decode ylaw.2.1 809 = .ok (.aload_n 2, 1) := by decide +kernel
theorem dlaw_810 : decode ylaw.2.1 810 = .ok (.aload_n 0, 1) := by decide +kernel
theorem dlaw_811 : decode ylaw.2.1 811 = .ok (.iload_n 3, 1) := by decide +kernel
theorem dlaw_812 : decode ylaw.2.1 812 = .ok (.iconst 1, 1) := by decide +kernel
theorem dlaw_813 : decode ylaw.2.1 813 = .ok (.iadd, 1) := by decide +kernel
theorem dlaw_814 : decode ylaw.2.1 814 = .ok (.iaload, 1) := by decide +kernel
theorem dlaw_815 : decode ylaw.2.1 815 = .ok (.aload_n 0, 1) := by decide +kernel
theorem dlaw_816 : decode ylaw.2.1 816 = .ok (.iload_n 3, 1) := by decide +kernel
theorem dlaw_817 : decode ylaw.2.1 817 = .ok (.iconst 2, 1) := by decide +kernel
theorem dlaw_818 : decode ylaw.2.1 818 = .ok (.iadd, 1) := by decide +kernel
theorem dlaw_819 : decode ylaw.2.1 819 = .ok (.iaload, 1) := by decide +kernel
theorem dlaw_820 : decode ylaw.2.1 820 = .ok (.aload_n 0, 1) := by decide +kernel
theorem dlaw_821 : decode ylaw.2.1 821 = .ok (.iload_n 3, 1) := by decide +kernel
theorem dlaw_822 : decode ylaw.2.1 822 = .ok (.iconst 3, 1) := by decide +kernel
theorem dlaw_823 : decode ylaw.2.1 823 = .ok (.iadd, 1) := by decide +kernel
theorem dlaw_824 : decode ylaw.2.1 824 = .ok (.iaload, 1) := by decide +kernel
theorem dlaw_825 : decode ylaw.2.1 825 = .ok (.invokevirtual 92, 3) := by decide +kernel
theorem dlaw_828 : decode ylaw.2.1 828 = .ok (.if_icmp .eq 674, 3) := by decide +kernel
theorem dlaw_831 : decode ylaw.2.1 831 = .ok (.iconst 0, 1) := by decide +kernel
theorem dlaw_832 : decode ylaw.2.1 832 = .ok (.ireturn, 1) := by decide +kernel
theorem dlaw_833 : decode ylaw.2.1 833 = .ok (.aload_n 1, 1) := by decide +kernel
theorem dlaw_834 : decode ylaw.2.1 834 = .ok (.aload_n 0, 1) := by decide +kernel
theorem dlaw_835 : decode ylaw.2.1 835 = .ok (.iload_n 3, 1) := by decide +kernel
theorem dlaw_836 : decode ylaw.2.1 836 = .ok (.iconst 1, 1) := by decide +kernel
theorem dlaw_837 : decode ylaw.2.1 837 = .ok (.iadd, 1) := by decide +kernel
theorem dlaw_838 : decode ylaw.2.1 838 = .ok (.iaload, 1) := by decide +kernel
theorem dlaw_839 : decode ylaw.2.1 839 = .ok (.aload_n 0, 1) := by decide +kernel
theorem dlaw_840 : decode ylaw.2.1 840 = .ok (.iload_n 3, 1) := by decide +kernel
theorem dlaw_841 : decode ylaw.2.1 841 = .ok (.iconst 2, 1) := by decide +kernel
theorem dlaw_842 : decode ylaw.2.1 842 = .ok (.iadd, 1) := by decide +kernel
theorem dlaw_843 : decode ylaw.2.1 843 = .ok (.iaload, 1) := by decide +kernel
theorem dlaw_844 : decode ylaw.2.1 844 = .ok (.invokevirtual 93, 3) := by decide +kernel
theorem dlaw_847 : decode ylaw.2.1 847 = .ok (.aload_n 2, 1) := by decide +kernel
theorem dlaw_848 : decode ylaw.2.1 848 = .ok (.aload_n 0, 1) := by decide +kernel
theorem dlaw_849 : decode ylaw.2.1 849 = .ok (.iload_n 3, 1) := by decide +kernel
theorem dlaw_850 : decode ylaw.2.1 850 = .ok (.iconst 1, 1) := by decide +kernel
theorem dlaw_851 : decode ylaw.2.1 851 = .ok (.iadd, 1) := by decide +kernel
theorem dlaw_852 : decode ylaw.2.1 852 = .ok (.iaload, 1) := by decide +kernel
theorem dlaw_853 : decode ylaw.2.1 853 = .ok (.aload_n 0, 1) := by decide +kernel
theorem dlaw_854 : decode ylaw.2.1 854 = .ok (.iload_n 3, 1) := by decide +kernel
theorem dlaw_855 : decode ylaw.2.1 855 = .ok (.iconst 2, 1) := by decide +kernel
theorem dlaw_856 : decode ylaw.2.1 856 = .ok (.iadd, 1) := by decide +kernel
theorem dlaw_857 : decode ylaw.2.1 857 = .ok (.iaload, 1) := by decide +kernel
theorem dlaw_858 : decode ylaw.2.1 858 = .ok (.invokevirtual 96, 3) := by decide +kernel
theorem dlaw_861 : decode ylaw.2.1 861 = .ok (.if_icmp .eq 641, 3) := by decide +kernel
theorem dlaw_864 : decode ylaw.2.1 864 = .ok (.iconst 0, 1) := by decide +kernel
theorem dlaw_865 : decode ylaw.2.1 865 = .ok (.ireturn, 1) := by decide +kernel
theorem dlaw_866 : decode ylaw.2.1 866 = .ok (.aload_n 1, 1) := by decide +kernel
theorem dlaw_867 : decode ylaw.2.1 867 = .ok (.aload_n 0, 1) := by decide +kernel
theorem dlaw_868 : decode ylaw.2.1 868 = .ok (.iload_n 3, 1) := by decide +kernel
theorem dlaw_869 : decode ylaw.2.1 869 = .ok (.iconst 1, 1) := by decide +kernel
theorem dlaw_870 : decode ylaw.2.1 870 = .ok (.iadd, 1) := by decide +kernel
theorem dlaw_871 : decode ylaw.2.1 871 = .ok (.iaload, 1) := by decide +kernel
theorem dlaw_872 : decode ylaw.2.1 872 = .ok (.aload_n 0, 1) := by decide +kernel
theorem dlaw_873 : decode ylaw.2.1 873 = .ok (.iload_n 3, 1) := by decide +kernel
theorem dlaw_874 : decode ylaw.2.1 874 = .ok (.iconst 2, 1) := by decide +kernel
theorem dlaw_875 : decode ylaw.2.1 875 = .ok (.iadd, 1) := by decide +kernel
theorem dlaw_876 : decode ylaw.2.1 876 = .ok (.iaload, 1) := by decide +kernel
theorem dlaw_877 : decode ylaw.2.1 877 = .ok (.invokevirtual 97, 3) := by decide +kernel
theorem dlaw_880 : decode ylaw.2.1 880 = .ok (.aload_n 2, 1) := by decide +kernel
theorem dlaw_881 : decode ylaw.2.1 881 = .ok (.aload_n 0, 1) := by decide +kernel
theorem dlaw_882 : decode ylaw.2.1 882 = .ok (.iload_n 3, 1) := by decide +kernel
theorem dlaw_883 : decode ylaw.2.1 883 = .ok (.iconst 1, 1) := by decide +kernel
theorem dlaw_884 : decode ylaw.2.1 884 = .ok (.iadd, 1) := by decide +kernel
theorem dlaw_885 : decode ylaw.2.1 885 = .ok (.iaload, 1) := by decide +kernel
theorem dlaw_886 : decode ylaw.2.1 886 = .ok (.aload_n 0, 1) := by decide +kernel
theorem dlaw_887 : decode ylaw.2.1 887 = .ok (.iload_n 3, 1) := by decide +kernel
theorem dlaw_888 : decode ylaw.2.1 888 = .ok (.iconst 2, 1) := by decide +kernel
theorem dlaw_889 : decode ylaw.2.1 889 = .ok (.iadd, 1) := by decide +kernel
theorem dlaw_890 : decode ylaw.2.1 890 = .ok (.iaload, 1) := by decide +kernel
theorem dlaw_891 : decode ylaw.2.1 891 = .ok (.invokevirtual 100, 3) := by decide +kernel
theorem dlaw_894 : decode ylaw.2.1 894 = .ok (.if_icmp .eq 608, 3) := by decide +kernel
theorem dlaw_897 : decode ylaw.2.1 897 = .ok (.iconst 0, 1) := by decide +kernel
theorem dlaw_898 : decode ylaw.2.1 898 = .ok (.ireturn, 1) := by decide +kernel
theorem dlaw_899 : decode ylaw.2.1 899 = .ok (.aload_n 1, 1) := by decide +kernel
theorem dlaw_900 : decode ylaw.2.1 900 = .ok (.invokevirtual 101, 3) := by decide +kernel
theorem dlaw_903 : decode ylaw.2.1 903 = .ok (.aload_n 2, 1) := by decide +kernel
theorem dlaw_904 : decode ylaw.2.1 904 = .ok (.invokevirtual 105, 3) := by decide +kernel
theorem dlaw_907 : decode ylaw.2.1 907 = .ok (.if_icmp .eq 595, 3) := by decide +kernel
theorem dlaw_910 : decode ylaw.2.1 910 = .ok (.iconst 0, 1) := by decide +kernel
theorem dlaw_911 : decode ylaw.2.1 911 = .ok (.ireturn, 1) := by decide +kernel
theorem dlaw_912 : decode ylaw.2.1 912 = .ok (.aload_n 1, 1) := by decide +kernel
theorem dlaw_913 : decode ylaw.2.1 913 = .ok (.aload_n 0, 1) := by decide +kernel
theorem dlaw_914 : decode ylaw.2.1 914 = .ok (.iload_n 3, 1) := by decide +kernel
theorem dlaw_915 : decode ylaw.2.1 915 = .ok (.iconst 1, 1) := by decide +kernel
theorem dlaw_916 : decode ylaw.2.1 916 = .ok (.iadd, 1) := by decide +kernel
theorem dlaw_917 : decode ylaw.2.1 917 = .ok (.iaload, 1) := by decide +kernel
theorem dlaw_918 : decode ylaw.2.1 918 = .ok (.invokevirtual 106, 3) := by decide +kernel
theorem dlaw_921 : decode ylaw.2.1 921 = .ok (.aload_n 2, 1) := by decide +kernel
theorem dlaw_922 : decode ylaw.2.1 922 = .ok (.aload_n 0, 1) := by decide +kernel
theorem dlaw_923 : decode ylaw.2.1 923 = .ok (.iload_n 3, 1) := by decide +kernel
theorem dlaw_924 : decode ylaw.2.1 924 = .ok (.iconst 1, 1) := by decide +kernel
theorem dlaw_925 : decode ylaw.2.1 925 = .ok (.iadd, 1) := by decide +kernel
theorem dlaw_926 : decode ylaw.2.1 926 = .ok (.iaload, 1) := by decide +kernel
theorem dlaw_927 : decode ylaw.2.1 927 = .ok (.invokevirtual 109, 3) := by decide +kernel
theorem dlaw_930 : decode ylaw.2.1 930 = .ok (.if_icmp .eq 572, 3) := by decide +kernel
theorem dlaw_933 : decode ylaw.2.1 933 = .ok (.iconst 0, 1) := by decide +kernel
theorem dlaw_934 : decode ylaw.2.1 934 = .ok (.ireturn, 1) := by decide +kernel
theorem dlaw_935 : decode ylaw.2.1 935 = .ok (.aload_n 1, 1) := by decide +kernel
theorem dlaw_936 : decode ylaw.2.1 936 = .ok (.aload_n 0, 1) := by decide +kernel
theorem dlaw_937 : decode ylaw.2.1 937 = .ok (.iload_n 3, 1) := by decide +kernel
theorem dlaw_938 : decode ylaw.2.1 938 = .ok (.iconst 1, 1) := by decide +kernel
theorem dlaw_939 : decode ylaw.2.1 939 = .ok (.iadd, 1) := by decide +kernel
theorem dlaw_940 : decode ylaw.2.1 940 = .ok (.iaload, 1) := by decide +kernel
theorem dlaw_941 : decode ylaw.2.1 941 = .ok (.aload_n 0, 1) := by decide +kernel
theorem dlaw_942 : decode ylaw.2.1 942 = .ok (.iload_n 3, 1) := by decide +kernel
theorem dlaw_943 : decode ylaw.2.1 943 = .ok (.iconst 2, 1) := by decide +kernel
theorem dlaw_944 : decode ylaw.2.1 944 = .ok (.iadd, 1) := by decide +kernel
theorem dlaw_945 : decode ylaw.2.1 945 = .ok (.iaload, 1) := by decide +kernel
theorem dlaw_946 : decode ylaw.2.1 946 = .ok (.aload_n 0, 1) := by decide +kernel
theorem dlaw_947 : decode ylaw.2.1 947 = .ok (.iload_n 3, 1) := by decide +kernel
theorem dlaw_948 : decode ylaw.2.1 948 = .ok (.iconst 3, 1) := by decide +kernel
theorem dlaw_949 : decode ylaw.2.1 949 = .ok (.iadd, 1) := by decide +kernel
theorem dlaw_950 : decode ylaw.2.1 950 = .ok (.iaload, 1) := by decide +kernel
theorem dlaw_951 : decode ylaw.2.1 951 = .ok (.invokevirtual 110, 3) := by decide +kernel
theorem dlaw_954 : decode ylaw.2.1 954 = .ok (.aload_n 2, 1) := by decide +kernel
theorem dlaw_955 : decode ylaw.2.1 955 = .ok (.aload_n 0, 1) := by decide +kernel
theorem dlaw_956 : decode ylaw.2.1 956 = .ok (.iload_n 3, 1) := by decide +kernel
theorem dlaw_957 : decode ylaw.2.1 957 = .ok (.iconst 1, 1) := by decide +kernel
theorem dlaw_958 : decode ylaw.2.1 958 = .ok (.iadd, 1) := by decide +kernel
theorem dlaw_959 : decode ylaw.2.1 959 = .ok (.iaload, 1) := by decide +kernel
theorem dlaw_960 : decode ylaw.2.1 960 = .ok (.aload_n 0, 1) := by decide +kernel
theorem dlaw_961 : decode ylaw.2.1 961 = .ok (.iload_n 3, 1) := by decide +kernel
theorem dlaw_962 : decode ylaw.2.1 962 = .ok (.iconst 2, 1) := by decide +kernel
theorem dlaw_963 : decode ylaw.2.1 963 = .ok (.iadd, 1) := by decide +kernel
theorem dlaw_964 : decode ylaw.2.1 964 = .ok (.iaload, 1) := by decide +kernel
theorem dlaw_965 : decode ylaw.2.1 965 = .ok (.aload_n 0, 1) := by decide +kernel
theorem dlaw_966 : decode ylaw.2.1 966 = .ok (.iload_n 3, 1) := by decide +kernel
theorem dlaw_967 : decode ylaw.2.1 967 = .ok (.iconst 3, 1) := by decide +kernel
theorem dlaw_968 : decode ylaw.2.1 968 = .ok (.iadd, 1) := by decide +kernel
theorem dlaw_969 : decode ylaw.2.1 969 = .ok (.iaload, 1) := by decide +kernel
theorem dlaw_970 : decode ylaw.2.1 970 = .ok (.invokevirtual 113, 3) := by decide +kernel
theorem dlaw_973 : decode ylaw.2.1 973 = .ok (.if_icmp .eq 529, 3) := by decide +kernel
theorem dlaw_976 : decode ylaw.2.1 976 = .ok (.iconst 0, 1) := by decide +kernel
theorem dlaw_977 : decode ylaw.2.1 977 = .ok (.ireturn, 1) := by decide +kernel
theorem dlaw_978 : decode ylaw.2.1 978 = .ok (.aload_n 1, 1) := by decide +kernel
theorem dlaw_979 : decode ylaw.2.1 979 = .ok (.aload_n 0, 1) := by decide +kernel
theorem dlaw_980 : decode ylaw.2.1 980 = .ok (.iload_n 3, 1) := by decide +kernel
theorem dlaw_981 : decode ylaw.2.1 981 = .ok (.iconst 1, 1) := by decide +kernel
theorem dlaw_982 : decode ylaw.2.1 982 = .ok (.iadd, 1) := by decide +kernel
theorem dlaw_983 : decode ylaw.2.1 983 = .ok (.iaload, 1) := by decide +kernel
theorem dlaw_984 : decode ylaw.2.1 984 = .ok (.invokevirtual 114, 3) := by decide +kernel
theorem dlaw_987 : decode ylaw.2.1 987 = .ok (.aload_n 2, 1) := by decide +kernel
theorem dlaw_988 : decode ylaw.2.1 988 = .ok (.aload_n 0, 1) := by decide +kernel
theorem dlaw_989 : decode ylaw.2.1 989 = .ok (.iload_n 3, 1) := by decide +kernel
theorem dlaw_990 : decode ylaw.2.1 990 = .ok (.iconst 1, 1) := by decide +kernel
theorem dlaw_991 : decode ylaw.2.1 991 = .ok (.iadd, 1) := by decide +kernel
theorem dlaw_992 : decode ylaw.2.1 992 = .ok (.iaload, 1) := by decide +kernel
theorem dlaw_993 : decode ylaw.2.1 993 = .ok (.invokevirtual 117, 3) := by decide +kernel
theorem dlaw_996 : decode ylaw.2.1 996 = .ok (.if_icmp .eq 506, 3) := by decide +kernel
theorem dlaw_999 : decode ylaw.2.1 999 = .ok (.iconst 0, 1) := by decide +kernel
theorem dlaw_1000 : decode ylaw.2.1 1000 = .ok (.ireturn, 1) := by decide +kernel
theorem dlaw_1001 : decode ylaw.2.1 1001 = .ok (.aload_n 1, 1) := by decide +kernel
theorem dlaw_1002 : decode ylaw.2.1 1002 = .ok (.invokevirtual 118, 3) := by decide +kernel
theorem dlaw_1005 : decode ylaw.2.1 1005 = .ok (.aload_n 2, 1) := by decide +kernel
theorem dlaw_1006 : decode ylaw.2.1 1006 = .ok (.invokevirtual 121, 3) := by decide +kernel
theorem dlaw_1009 : decode ylaw.2.1 1009 = .ok (.if_icmp .eq 493, 3) := by decide +kernel
theorem dlaw_1012 : decode ylaw.2.1 1012 = .ok (.iconst 0, 1) := by decide +kernel
theorem dlaw_1013 : decode ylaw.2.1 1013 = .ok (.ireturn, 1) := by decide +kernel
theorem dlaw_1014 : decode ylaw.2.1 1014 = .ok (.aload_n 1, 1) := by decide +kernel
theorem dlaw_1015 : decode ylaw.2.1 1015 = .ok (.aload_n 0, 1) := by decide +kernel
theorem dlaw_1016 : decode ylaw.2.1 1016 = .ok (.iload_n 3, 1) := by decide +kernel
theorem dlaw_1017 : decode ylaw.2.1 1017 = .ok (.iconst 1, 1) := by decide +kernel
theorem dlaw_1018 : decode ylaw.2.1 1018 = .ok (.iadd, 1) := by decide +kernel
theorem dlaw_1019 : decode ylaw.2.1 1019 = .ok (.iaload, 1) := by decide +kernel
theorem dlaw_1020 : decode ylaw.2.1 1020 = .ok (.aload_n 0, 1) := by decide +kernel
theorem dlaw_1021 : decode ylaw.2.1 1021 = .ok (.iload_n 3, 1) := by decide +kernel
theorem dlaw_1022 : decode ylaw.2.1 1022 = .ok (.iconst 2, 1) := by decide +kernel
theorem dlaw_1023 : decode ylaw.2.1 1023 = .ok (.iadd, 1) := by decide +kernel
theorem dlaw_1024 : decode ylaw.2.1 1024 = .ok (.iaload, 1) := by decide +kernel
theorem dlaw_1025 : decode ylaw.2.1 1025 = .ok (.invokevirtual 122, 3) := by decide +kernel
theorem dlaw_1028 : decode ylaw.2.1 1028 = .ok (.aload_n 2, 1) := by decide +kernel
theorem dlaw_1029 : decode ylaw.2.1 1029 = .ok (.aload_n 0, 1) := by decide +kernel
theorem dlaw_1030 : decode ylaw.2.1 1030 = .ok (.iload_n 3, 1) := by decide +kernel
theorem dlaw_1031 : decode ylaw.2.1 1031 = .ok (.iconst 1, 1) := by decide +kernel
theorem dlaw_1032 : decode ylaw.2.1 1032 = .ok (.iadd, 1) := by decide +kernel
theorem dlaw_1033 : decode ylaw.2.1 1033 = .ok (.iaload, 1) := by decide +kernel
theorem dlaw_1034 : decode ylaw.2.1 1034 = .ok (.aload_n 0, 1) := by decide +kernel
theorem dlaw_1035 : decode ylaw.2.1 1035 = .ok (.iload_n 3, 1) := by decide +kernel
theorem dlaw_1036 : decode ylaw.2.1 1036 = .ok (.iconst 2, 1) := by decide +kernel
theorem dlaw_1037 : decode ylaw.2.1 1037 = .ok (.iadd, 1) := by decide +kernel
theorem dlaw_1038 : decode ylaw.2.1 1038 = .ok (.iaload, 1) := by decide +kernel
theorem dlaw_1039 : decode ylaw.2.1 1039 = .ok (.invokevirtual 125, 3) := by decide +kernel
theorem dlaw_1042 : decode ylaw.2.1 1042 = .ok (.if_icmp .eq 460, 3) := by decide +kernel
theorem dlaw_1045 : decode ylaw.2.1 1045 = .ok (.iconst 0, 1) := by decide +kernel
theorem dlaw_1046 : decode ylaw.2.1 1046 = .ok (.ireturn, 1) := by decide +kernel
theorem dlaw_1047 : decode ylaw.2.1 1047 = .ok (.aload_n 1, 1) := by decide +kernel
theorem dlaw_1048 : decode ylaw.2.1 1048 = .ok (.aload_n 0, 1) := by decide +kernel
theorem dlaw_1049 : decode ylaw.2.1 1049 = .ok (.iload_n 3, 1) := by decide +kernel
theorem dlaw_1050 : decode ylaw.2.1 1050 = .ok (.iconst 1, 1) := by decide +kernel
theorem dlaw_1051 : decode ylaw.2.1 1051 = .ok (.iadd, 1) := by decide +kernel
theorem dlaw_1052 : decode ylaw.2.1 1052 = .ok (.iaload, 1) := by decide +kernel
theorem dlaw_1053 : decode ylaw.2.1 1053 = .ok (.invokevirtual 126, 3) := by decide +kernel
theorem dlaw_1056 : decode ylaw.2.1 1056 = .ok (.aload_n 2, 1) := by decide +kernel
theorem dlaw_1057 : decode ylaw.2.1 1057 = .ok (.aload_n 0, 1) := by decide +kernel
theorem dlaw_1058 : decode ylaw.2.1 1058 = .ok (.iload_n 3, 1) := by decide +kernel
theorem dlaw_1059 : decode ylaw.2.1 1059 = .ok (.iconst 1, 1) := by decide +kernel
theorem dlaw_1060 : decode ylaw.2.1 1060 = .ok (.iadd, 1) := by decide +kernel
theorem dlaw_1061 : decode ylaw.2.1 1061 = .ok (.iaload, 1) := by decide +kernel
theorem dlaw_1062 : decode ylaw.2.1 1062 = .ok (.invokevirtual 129, 3) := by decide +kernel
theorem dlaw_1065 : decode ylaw.2.1 1065 = .ok (.if_icmp .eq 437, 3) := by decide +kernel
theorem dlaw_1068 : decode ylaw.2.1 1068 = .ok (.iconst 0, 1) := by decide +kernel
theorem dlaw_1069 : decode ylaw.2.1 1069 = .ok (.ireturn, 1) := by decide +kernel
theorem dlaw_1070 : decode ylaw.2.1 1070 = .ok (.aload_n 1, 1) := by decide +kernel
theorem dlaw_1071 : decode ylaw.2.1 1071 = .ok (.aload_n 0, 1) := by decide +kernel
theorem dlaw_1072 : decode ylaw.2.1 1072 = .ok (.iload_n 3, 1) := by decide +kernel
theorem dlaw_1073 : decode ylaw.2.1 1073 = .ok (.iconst 1, 1) := by decide +kernel
theorem dlaw_1074 : decode ylaw.2.1 1074 = .ok (.iadd, 1) := by decide +kernel
theorem dlaw_1075 : decode ylaw.2.1 1075 = .ok (.iaload, 1) := by decide +kernel
theorem dlaw_1076 : decode ylaw.2.1 1076 = .ok (.aload_n 0, 1) := by decide +kernel
theorem dlaw_1077 : decode ylaw.2.1 1077 = .ok (.iload_n 3, 1) := by decide +kernel
theorem dlaw_1078 : decode ylaw.2.1 1078 = .ok (.iconst 2, 1) := by decide +kernel
theorem dlaw_1079 : decode ylaw.2.1 1079 = .ok (.iadd, 1) := by decide +kernel
theorem dlaw_1080 : decode ylaw.2.1 1080 = .ok (.iaload, 1) := by decide +kernel
theorem dlaw_1081 : decode ylaw.2.1 1081 = .ok (.aload_n 0, 1) := by decide +kernel
theorem dlaw_1082 : decode ylaw.2.1 1082 = .ok (.iload_n 3, 1) := by decide +kernel
theorem dlaw_1083 : decode ylaw.2.1 1083 = .ok (.iconst 3, 1) := by decide +kernel
theorem dlaw_1084 : decode ylaw.2.1 1084 = .ok (.iadd, 1) := by decide +kernel
theorem dlaw_1085 : decode ylaw.2.1 1085 = .ok (.iaload, 1) := by decide +kernel
theorem dlaw_1086 : decode ylaw.2.1 1086 = .ok (.invokevirtual 130, 3) := by decide +kernel
theorem dlaw_1089 : decode ylaw.2.1 1089 = .ok (.aload_n 2, 1) := by decide +kernel
theorem dlaw_1090 : decode ylaw.2.1 1090 = .ok (.aload_n 0, 1) := by decide +kernel
theorem dlaw_1091 : decode ylaw.2.1 1091 = .ok (.iload_n 3, 1) := by decide +kernel
theorem dlaw_1092 : decode ylaw.2.1 1092 = .ok (.iconst 1, 1) := by decide +kernel
theorem dlaw_1093 : decode ylaw.2.1 1093 = .ok (.iadd, 1) := by decide +kernel
theorem dlaw_1094 : decode ylaw.2.1 1094 = .ok (.iaload, 1) := by decide +kernel
theorem dlaw_1095 : decode ylaw.2.1 1095 = .ok (.aload_n 0, 1) := by decide +kernel
theorem dlaw_1096 : decode ylaw.2.1 1096 = .ok (.iload_n 3, 1) := by decide +kernel
theorem dlaw_1097 : decode ylaw.2.1 1097 = .ok (.iconst 2, 1) := by decide +kernel
theorem dlaw_1098 : decode ylaw.2.1 1098 = .ok (.iadd, 1) := by decide +kernel
theorem dlaw_1099 : decode ylaw.2.1 1099 = .ok (.iaload, 1) := by decide +kernel
theorem dlaw_1100 : decode ylaw.2.1 1100 = .ok (.aload_n 0, 1) := by decide +kernel
theorem dlaw_1101 : decode ylaw.2.1 1101 = .ok (.iload_n 3, 1) := by decide +kernel
theorem dlaw_1102 : decode ylaw.2.1 1102 = .ok (.iconst 3, 1) := by decide +kernel
theorem dlaw_1103 : decode ylaw.2.1 1103 = .ok (.iadd, 1) := by decide +kernel
theorem dlaw_1104 : decode ylaw.2.1 1104 = .ok (.iaload, 1) := by decide +kernel
theorem dlaw_1105 : decode ylaw.2.1 1105 = .ok (.invokevirtual 133, 3) := by decide +kernel
theorem dlaw_1108 : decode ylaw.2.1 1108 = .ok (.if_icmp .eq 394, 3) := by decide +kernel
theorem dlaw_1111 : decode ylaw.2.1 1111 = .ok (.iconst 0, 1) := by decide +kernel
theorem dlaw_1112 : decode ylaw.2.1 1112 = .ok (.ireturn, 1) := by decide +kernel
theorem dlaw_1113 : decode ylaw.2.1 1113 = .ok (.aload_n 1, 1) := by decide +kernel
theorem dlaw_1114 : decode ylaw.2.1 1114 = .ok (.aload_n 0, 1) := by decide +kernel
theorem dlaw_1115 : decode ylaw.2.1 1115 = .ok (.iload_n 3, 1) := by decide +kernel
theorem dlaw_1116 : decode ylaw.2.1 1116 = .ok (.iconst 1, 1) := by decide +kernel
theorem dlaw_1117 : decode ylaw.2.1 1117 = .ok (.iadd, 1) := by decide +kernel
theorem dlaw_1118 : decode ylaw.2.1 1118 = .ok (.iaload, 1) := by decide +kernel
theorem dlaw_1119 : decode ylaw.2.1 1119 = .ok (.aload_n 0, 1) := by decide +kernel
theorem dlaw_1120 : decode ylaw.2.1 1120 = .ok (.iload_n 3, 1) := by decide +kernel
theorem dlaw_1121 : decode ylaw.2.1 1121 = .ok (.iconst 2, 1) := by decide +kernel
theorem dlaw_1122 : decode ylaw.2.1 1122 = .ok (.iadd, 1) := by decide +kernel
theorem dlaw_1123 : decode ylaw.2.1 1123 = .ok (.iaload, 1) := by decide +kernel
theorem dlaw_1124 : decode ylaw.2.1 1124 = .ok (.aload_n 0, 1) := by decide +kernel
theorem dlaw_1125 : decode ylaw.2.1 1125 = .ok (.iload_n 3, 1) := by decide +kernel
theorem dlaw_1126 : decode ylaw.2.1 1126 = .ok (.iconst 3, 1) := by decide +kernel
theorem dlaw_1127 : decode ylaw.2.1 1127 = .ok (.iadd, 1) := by decide +kernel
theorem dlaw_1128 : decode ylaw.2.1 1128 = .ok (.iaload, 1) := by decide +kernel
theorem dlaw_1129 : decode ylaw.2.1 1129 = .ok (.invokevirtual 134, 3) := by decide +kernel
theorem dlaw_1132 : decode ylaw.2.1 1132 = .ok (.aload_n 2, 1) := by decide +kernel
theorem dlaw_1133 : decode ylaw.2.1 1133 = .ok (.aload_n 0, 1) := by decide +kernel
theorem dlaw_1134 : decode ylaw.2.1 1134 = .ok (.iload_n 3, 1) := by decide +kernel
theorem dlaw_1135 : decode ylaw.2.1 1135 = .ok (.iconst 1, 1) := by decide +kernel
theorem dlaw_1136 : decode ylaw.2.1 1136 = .ok (.iadd, 1) := by decide +kernel
theorem dlaw_1137 : decode ylaw.2.1 1137 = .ok (.iaload, 1) := by decide +kernel
theorem dlaw_1138 : decode ylaw.2.1 1138 = .ok (.aload_n 0, 1) := by decide +kernel
theorem dlaw_1139 : decode ylaw.2.1 1139 = .ok (.iload_n 3, 1) := by decide +kernel
theorem dlaw_1140 : decode ylaw.2.1 1140 = .ok (.iconst 2, 1) := by decide +kernel
theorem dlaw_1141 : decode ylaw.2.1 1141 = .ok (.iadd, 1) := by decide +kernel
theorem dlaw_1142 : decode ylaw.2.1 1142 = .ok (.iaload, 1) := by decide +kernel
theorem dlaw_1143 : decode ylaw.2.1 1143 = .ok (.aload_n 0, 1) := by decide +kernel
theorem dlaw_1144 : decode ylaw.2.1 1144 = .ok (.iload_n 3, 1) := by decide +kernel
theorem dlaw_1145 : decode ylaw.2.1 1145 = .ok (.iconst 3, 1) := by decide +kernel
theorem dlaw_1146 : decode ylaw.2.1 1146 = .ok (.iadd, 1) := by decide +kernel
theorem dlaw_1147 : decode ylaw.2.1 1147 = .ok (.iaload, 1) := by decide +kernel
theorem dlaw_1148 : decode ylaw.2.1 1148 = .ok (.invokevirtual 137, 3) := by decide +kernel
theorem dlaw_1151 : decode ylaw.2.1 1151 = .ok (.if_icmp .eq 351, 3) := by decide +kernel
theorem dlaw_1154 : decode ylaw.2.1 1154 = .ok (.iconst 0, 1) := by decide +kernel
theorem dlaw_1155 : decode ylaw.2.1 1155 = .ok (.ireturn, 1) := by decide +kernel
theorem dlaw_1156 : decode ylaw.2.1 1156 = .ok (.aload_n 1, 1) := by decide +kernel
theorem dlaw_1157 : decode ylaw.2.1 1157 = .ok (.aload_n 0, 1) := by decide +kernel
theorem dlaw_1158 : decode ylaw.2.1 1158 = .ok (.iload_n 3, 1) := by decide +kernel
theorem dlaw_1159 : decode ylaw.2.1 1159 = .ok (.iconst 1, 1) := by decide +kernel
theorem dlaw_1160 : decode ylaw.2.1 1160 = .ok (.iadd, 1) := by decide +kernel
theorem dlaw_1161 : decode ylaw.2.1 1161 = .ok (.iaload, 1) := by decide +kernel
theorem dlaw_1162 : decode ylaw.2.1 1162 = .ok (.invokevirtual 138, 3) := by decide +kernel
theorem dlaw_1165 : decode ylaw.2.1 1165 = .ok (.aload_n 2, 1) := by decide +kernel
theorem dlaw_1166 : decode ylaw.2.1 1166 = .ok (.aload_n 0, 1) := by decide +kernel
theorem dlaw_1167 : decode ylaw.2.1 1167 = .ok (.iload_n 3, 1) := by decide +kernel
theorem dlaw_1168 : decode ylaw.2.1 1168 = .ok (.iconst 1, 1) := by decide +kernel
theorem dlaw_1169 : decode ylaw.2.1 1169 = .ok (.iadd, 1) := by decide +kernel
theorem dlaw_1170 : decode ylaw.2.1 1170 = .ok (.iaload, 1) := by decide +kernel
theorem dlaw_1171 : decode ylaw.2.1 1171 = .ok (.invokevirtual 141, 3) := by decide +kernel
theorem dlaw_1174 : decode ylaw.2.1 1174 = .ok (.if_icmp .eq 328, 3) := by decide +kernel
theorem dlaw_1177 : decode ylaw.2.1 1177 = .ok (.iconst 0, 1) := by decide +kernel
theorem dlaw_1178 : decode ylaw.2.1 1178 = .ok (.ireturn, 1) := by decide +kernel
theorem dlaw_1179 : decode ylaw.2.1 1179 = .ok (.aload_n 1, 1) := by decide +kernel
theorem dlaw_1180 : decode ylaw.2.1 1180 = .ok (.aload_n 0, 1) := by decide +kernel
theorem dlaw_1181 : decode ylaw.2.1 1181 = .ok (.iload_n 3, 1) := by decide +kernel
theorem dlaw_1182 : decode ylaw.2.1 1182 = .ok (.iconst 1, 1) := by decide +kernel
theorem dlaw_1183 : decode ylaw.2.1 1183 = .ok (.iadd, 1) := by decide +kernel
theorem dlaw_1184 : decode ylaw.2.1 1184 = .ok (.iaload, 1) := by decide +kernel
theorem dlaw_1185 : decode ylaw.2.1 1185 = .ok (.invokevirtual 142, 3) := by decide +kernel
theorem dlaw_1188 : decode ylaw.2.1 1188 = .ok (.aload_n 2, 1) := by decide +kernel
theorem dlaw_1189 : decode ylaw.2.1 1189 = .ok (.aload_n 0, 1) := by decide +kernel
theorem dlaw_1190 : decode ylaw.2.1 1190 = .ok (.iload_n 3, 1) := by decide +kernel
theorem dlaw_1191 : decode ylaw.2.1 1191 = .ok (.iconst 1, 1) := by decide +kernel
theorem dlaw_1192 : decode ylaw.2.1 1192 = .ok (.iadd, 1) := by decide +kernel
theorem dlaw_1193 : decode ylaw.2.1 1193 = .ok (.iaload, 1) := by decide +kernel
theorem dlaw_1194 : decode ylaw.2.1 1194 = .ok (.invokevirtual 145, 3) := by decide +kernel
theorem dlaw_1197 : decode ylaw.2.1 1197 = .ok (.if_icmp .eq 305, 3) := by decide +kernel
theorem dlaw_1200 : decode ylaw.2.1 1200 = .ok (.iconst 0, 1) := by decide +kernel
theorem dlaw_1201 : decode ylaw.2.1 1201 = .ok (.ireturn, 1) := by decide +kernel
theorem dlaw_1202 : decode ylaw.2.1 1202 = .ok (.aload_n 1, 1) := by decide +kernel
theorem dlaw_1203 : decode ylaw.2.1 1203 = .ok (.aload_n 0, 1) := by decide +kernel
theorem dlaw_1204 : decode ylaw.2.1 1204 = .ok (.iload_n 3, 1) := by decide +kernel
theorem dlaw_1205 : decode ylaw.2.1 1205 = .ok (.iconst 1, 1) := by decide +kernel
theorem dlaw_1206 : decode ylaw.2.1 1206 = .ok (.iadd, 1) := by decide +kernel
theorem dlaw_1207 : decode ylaw.2.1 1207 = .ok (.iaload, 1) := by decide +kernel
theorem dlaw_1208 : decode ylaw.2.1 1208 = .ok (.aload_n 0, 1) := by decide +kernel
theorem dlaw_1209 : decode ylaw.2.1 1209 = .ok (.iload_n 3, 1) := by decide +kernel
theorem dlaw_1210 : decode ylaw.2.1 1210 = .ok (.iconst 2, 1) := by decide +kernel
theorem dlaw_1211 : decode ylaw.2.1 1211 = .ok (.iadd, 1) := by decide +kernel
theorem dlaw_1212 : decode ylaw.2.1 1212 = .ok (.iaload, 1) := by decide +kernel
theorem dlaw_1213 : decode ylaw.2.1 1213 = .ok (.aload_n 0, 1) := by decide +kernel
theorem dlaw_1214 : decode ylaw.2.1 1214 = .ok (.iload_n 3, 1) := by decide +kernel
theorem dlaw_1215 : decode ylaw.2.1 1215 = .ok (.iconst 3, 1) := by decide +kernel
theorem dlaw_1216 : decode ylaw.2.1 1216 = .ok (.iadd, 1) := by decide +kernel
theorem dlaw_1217 : decode ylaw.2.1 1217 = .ok (.iaload, 1) := by decide +kernel
theorem dlaw_1218 : decode ylaw.2.1 1218 = .ok (.aload_n 0, 1) := by decide +kernel
theorem dlaw_1219 : decode ylaw.2.1 1219 = .ok (.iload_n 3, 1) := by decide +kernel
theorem dlaw_1220 : decode ylaw.2.1 1220 = .ok (.iconst 4, 1) := by decide +kernel
theorem dlaw_1221 : decode ylaw.2.1 1221 = .ok (.iadd, 1) := by decide +kernel
theorem dlaw_1222 : decode ylaw.2.1 1222 = .ok (.iaload, 1) := by decide +kernel
theorem dlaw_1223 : decode ylaw.2.1 1223 = .ok (.aload_n 0, 1) := by decide +kernel
theorem dlaw_1224 : decode ylaw.2.1 1224 = .ok (.iload_n 3, 1) := by decide +kernel
theorem dlaw_1225 : decode ylaw.2.1 1225 = .ok (.iconst 5, 1) := by decide +kernel
theorem dlaw_1226 : decode ylaw.2.1 1226 = .ok (.iadd, 1) := by decide +kernel
theorem dlaw_1227 : decode ylaw.2.1 1227 = .ok (.iaload, 1) := by decide +kernel
theorem dlaw_1228 : decode ylaw.2.1 1228 = .ok (.invokevirtual 146, 3) := by decide +kernel
theorem dlaw_1231 : decode ylaw.2.1 1231 = .ok (.aload_n 2, 1) := by decide +kernel
theorem dlaw_1232 : decode ylaw.2.1 1232 = .ok (.aload_n 0, 1) := by decide +kernel
theorem dlaw_1233 : decode ylaw.2.1 1233 = .ok (.iload_n 3, 1) := by decide +kernel
theorem dlaw_1234 : decode ylaw.2.1 1234 = .ok (.iconst 1, 1) := by decide +kernel
theorem dlaw_1235 : decode ylaw.2.1 1235 = .ok (.iadd, 1) := by decide +kernel
theorem dlaw_1236 : decode ylaw.2.1 1236 = .ok (.iaload, 1) := by decide +kernel
theorem dlaw_1237 : decode ylaw.2.1 1237 = .ok (.aload_n 0, 1) := by decide +kernel
theorem dlaw_1238 : decode ylaw.2.1 1238 = .ok (.iload_n 3, 1) := by decide +kernel
theorem dlaw_1239 : decode ylaw.2.1 1239 = .ok (.iconst 2, 1) := by decide +kernel
theorem dlaw_1240 : decode ylaw.2.1 1240 = .ok (.iadd, 1) := by decide +kernel
theorem dlaw_1241 : decode ylaw.2.1 1241 = .ok (.iaload, 1) := by decide +kernel
theorem dlaw_1242 : decode ylaw.2.1 1242 = .ok (.aload_n 0, 1) := by decide +kernel
theorem dlaw_1243 : decode ylaw.2.1 1243 = .ok (.iload_n 3, 1) := by decide +kernel
theorem dlaw_1244 : decode ylaw.2.1 1244 = .ok (.iconst 3, 1) := by decide +kernel
theorem dlaw_1245 : decode ylaw.2.1 1245 = .ok (.iadd, 1) := by decide +kernel
theorem dlaw_1246 : decode ylaw.2.1 1246 = .ok (.iaload, 1) := by decide +kernel
theorem dlaw_1247 : decode ylaw.2.1 1247 = .ok (.aload_n 0, 1) := by decide +kernel
theorem dlaw_1248 : decode ylaw.2.1 1248 = .ok (.iload_n 3, 1) := by decide +kernel
theorem dlaw_1249 : decode ylaw.2.1 1249 = .ok (.iconst 4, 1) := by decide +kernel
theorem dlaw_1250 : decode ylaw.2.1 1250 = .ok (.iadd, 1) := by decide +kernel
theorem dlaw_1251 : decode ylaw.2.1 1251 = .ok (.iaload, 1) := by decide +kernel
theorem dlaw_1252 : decode ylaw.2.1 1252 = .ok (.aload_n 0, 1) := by decide +kernel
theorem dlaw_1253 : decode ylaw.2.1 1253 = .ok (.iload_n 3, 1) := by decide +kernel
theorem dlaw_1254 : decode ylaw.2.1 1254 = .ok (.iconst 5, 1) := by decide +kernel
theorem dlaw_1255 : decode ylaw.2.1 1255 = .ok (.iadd, 1) := by decide +kernel
theorem dlaw_1256 : decode ylaw.2.1 1256 = .ok (.iaload, 1) := by decide +kernel
theorem dlaw_1257 : decode ylaw.2.1 1257 = .ok (.invokevirtual 150, 3) := by decide +kernel
theorem dlaw_1260 : decode ylaw.2.1 1260 = .ok (.if_icmp .eq 242, 3) := by decide +kernel
theorem dlaw_1263 : decode ylaw.2.1 1263 = .ok (.iconst 0, 1) := by decide +kernel
theorem dlaw_1264 : decode ylaw.2.1 1264 = .ok (.ireturn, 1) := by decide +kernel
theorem dlaw_1265 : decode ylaw.2.1 1265 = .ok (.aload_n 1, 1) := by decide +kernel
theorem dlaw_1266 : decode ylaw.2.1 1266 = .ok (.aload_n 0, 1) := by decide +kernel
theorem dlaw_1267 : decode ylaw.2.1 1267 = .ok (.iload_n 3, 1) := by decide +kernel
theorem dlaw_1268 : decode ylaw.2.1 1268 = .ok (.iconst 1, 1) := by decide +kernel
theorem dlaw_1269 : decode ylaw.2.1 1269 = .ok (.iadd, 1) := by decide +kernel
theorem dlaw_1270 : decode ylaw.2.1 1270 = .ok (.iaload, 1) := by decide +kernel
theorem dlaw_1271 : decode ylaw.2.1 1271 = .ok (.aload_n 0, 1) := by decide +kernel
theorem dlaw_1272 : decode ylaw.2.1 1272 = .ok (.iload_n 3, 1) := by decide +kernel
theorem dlaw_1273 : decode ylaw.2.1 1273 = .ok (.iconst 2, 1) := by decide +kernel
theorem dlaw_1274 : decode ylaw.2.1 1274 = .ok (.iadd, 1) := by decide +kernel
theorem dlaw_1275 : decode ylaw.2.1 1275 = .ok (.iaload, 1) := by decide +kernel
theorem dlaw_1276 : decode ylaw.2.1 1276 = .ok (.aload_n 0, 1) := by decide +kernel
theorem dlaw_1277 : decode ylaw.2.1 1277 = .ok (.iload_n 3, 1) := by decide +kernel
theorem dlaw_1278 : decode ylaw.2.1 1278 = .ok (.iconst 3, 1) := by decide +kernel
theorem dlaw_1279 : decode ylaw.2.1 1279 = .ok (.iadd, 1) := by decide +kernel
theorem dlaw_1280 : decode ylaw.2.1 1280 = .ok (.iaload, 1) := by decide +kernel
theorem dlaw_1281 : decode ylaw.2.1 1281 = .ok (.invokevirtual 151, 3) := by decide +kernel
theorem dlaw_1284 : decode ylaw.2.1 1284 = .ok (.aload_n 2, 1) := by decide +kernel
theorem dlaw_1285 : decode ylaw.2.1 1285 = .ok (.aload_n 0, 1) := by decide +kernel
theorem dlaw_1286 : decode ylaw.2.1 1286 = .ok (.iload_n 3, 1) := by decide +kernel
theorem dlaw_1287 : decode ylaw.2.1 1287 = .ok (.iconst 1, 1) := by decide +kernel
theorem dlaw_1288 : decode ylaw.2.1 1288 = .ok (.iadd, 1) := by decide +kernel
theorem dlaw_1289 : decode ylaw.2.1 1289 = .ok (.iaload, 1) := by decide +kernel
theorem dlaw_1290 : decode ylaw.2.1 1290 = .ok (.aload_n 0, 1) := by decide +kernel
theorem dlaw_1291 : decode ylaw.2.1 1291 = .ok (.iload_n 3, 1) := by decide +kernel
theorem dlaw_1292 : decode ylaw.2.1 1292 = .ok (.iconst 2, 1) := by decide +kernel
theorem dlaw_1293 : decode ylaw.2.1 1293 = .ok (.iadd, 1) := by decide +kernel
theorem dlaw_1294 : decode ylaw.2.1 1294 = .ok (.iaload, 1) := by decide +kernel
theorem dlaw_1295 : decode ylaw.2.1 1295 = .ok (.aload_n 0, 1) := by decide +kernel
theorem dlaw_1296 : decode ylaw.2.1 1296 = .ok (.iload_n 3, 1) := by decide +kernel
theorem dlaw_1297 : decode ylaw.2.1 1297 = .ok (.iconst 3, 1) := by decide +kernel
theorem dlaw_1298 : decode ylaw.2.1 1298 = .ok (.iadd, 1) := by decide +kernel
theorem dlaw_1299 : decode ylaw.2.1 1299 = .ok (.iaload, 1) := by decide +kernel
theorem dlaw_1300 : decode ylaw.2.1 1300 = .ok (.invokevirtual 154, 3) := by decide +kernel
theorem dlaw_1303 : decode ylaw.2.1 1303 = .ok (.if_icmp .eq 199, 3) := by decide +kernel
theorem dlaw_1306 : decode ylaw.2.1 1306 = .ok (.iconst 0, 1) := by decide +kernel
theorem dlaw_1307 : decode ylaw.2.1 1307 = .ok (.ireturn, 1) := by decide +kernel
theorem dlaw_1308 : decode ylaw.2.1 1308 = .ok (.aload_n 1, 1) := by decide +kernel
theorem dlaw_1309 : decode ylaw.2.1 1309 = .ok (.aload_n 0, 1) := by decide +kernel
theorem dlaw_1310 : decode ylaw.2.1 1310 = .ok (.iload_n 3, 1) := by decide +kernel
theorem dlaw_1311 : decode ylaw.2.1 1311 = .ok (.iconst 1, 1) := by decide +kernel
theorem dlaw_1312 : decode ylaw.2.1 1312 = .ok (.iadd, 1) := by decide +kernel
theorem dlaw_1313 : decode ylaw.2.1 1313 = .ok (.iaload, 1) := by decide +kernel
theorem dlaw_1314 : decode ylaw.2.1 1314 = .ok (.aload_n 0, 1) := by decide +kernel
theorem dlaw_1315 : decode ylaw.2.1 1315 = .ok (.iload_n 3, 1) := by decide +kernel
theorem dlaw_1316 : decode ylaw.2.1 1316 = .ok (.iconst 2, 1) := by decide +kernel
theorem dlaw_1317 : decode ylaw.2.1 1317 = .ok (.iadd, 1) := by decide +kernel
theorem dlaw_1318 : decode ylaw.2.1 1318 = .ok (.iaload, 1) := by decide +kernel
theorem dlaw_1319 : decode ylaw.2.1 1319 = .ok (.invokevirtual 155, 3) := by decide +kernel
theorem dlaw_1322 : decode ylaw.2.1 1322 = .ok (.aload_n 2, 1) := by decide +kernel
theorem dlaw_1323 : decode ylaw.2.1 1323 = .ok (.aload_n 0, 1) := by decide +kernel
theorem dlaw_1324 : decode ylaw.2.1 1324 = .ok (.iload_n 3, 1) := by decide +kernel
theorem dlaw_1325 : decode ylaw.2.1 1325 = .ok (.iconst 1, 1) := by decide +kernel
theorem dlaw_1326 : decode ylaw.2.1 1326 = .ok (.iadd, 1) := by decide +kernel
theorem dlaw_1327 : decode ylaw.2.1 1327 = .ok (.iaload, 1) := by decide +kernel
theorem dlaw_1328 : decode ylaw.2.1 1328 = .ok (.aload_n 0, 1) := by decide +kernel
theorem dlaw_1329 : decode ylaw.2.1 1329 = .ok (.iload_n 3, 1) := by decide +kernel
theorem dlaw_1330 : decode ylaw.2.1 1330 = .ok (.iconst 2, 1) := by decide +kernel
theorem dlaw_1331 : decode ylaw.2.1 1331 = .ok (.iadd, 1) := by decide +kernel
theorem dlaw_1332 : decode ylaw.2.1 1332 = .ok (.iaload, 1) := by decide +kernel
theorem dlaw_1333 : decode ylaw.2.1 1333 = .ok (.invokevirtual 158, 3) := by decide +kernel
theorem dlaw_1336 : decode ylaw.2.1 1336 = .ok (.if_icmp .eq 166, 3) := by decide +kernel
theorem dlaw_1339 : decode ylaw.2.1 1339 = .ok (.iconst 0, 1) := by decide +kernel
theorem dlaw_1340 : decode ylaw.2.1 1340 = .ok (.ireturn, 1) := by decide +kernel
theorem dlaw_1341 : decode ylaw.2.1 1341 = .ok (.aload_n 1, 1) := by decide +kernel
theorem dlaw_1342 : decode ylaw.2.1 1342 = .ok (.aload_n 0, 1) := by decide +kernel
theorem dlaw_1343 : decode ylaw.2.1 1343 = .ok (.iload_n 3, 1) := by decide +kernel
theorem dlaw_1344 : decode ylaw.2.1 1344 = .ok (.iconst 1, 1) := by decide +kernel
theorem dlaw_1345 : decode ylaw.2.1 1345 = .ok (.iadd, 1) := by decide +kernel
theorem dlaw_1346 : decode ylaw.2.1 1346 = .ok (.iaload, 1) := by decide +kernel
theorem dlaw_1347 : decode ylaw.2.1 1347 = .ok (.aload_n 0, 1) := by decide +kernel
theorem dlaw_1348 : decode ylaw.2.1 1348 = .ok (.iload_n 3, 1) := by decide +kernel
theorem dlaw_1349 : decode ylaw.2.1 1349 = .ok (.iconst 2, 1) := by decide +kernel
theorem dlaw_1350 : decode ylaw.2.1 1350 = .ok (.iadd, 1) := by decide +kernel
theorem dlaw_1351 : decode ylaw.2.1 1351 = .ok (.iaload, 1) := by decide +kernel
theorem dlaw_1352 : decode ylaw.2.1 1352 = .ok (.invokevirtual 159, 3) := by decide +kernel
theorem dlaw_1355 : decode ylaw.2.1 1355 = .ok (.aload_n 2, 1) := by decide +kernel
theorem dlaw_1356 : decode ylaw.2.1 1356 = .ok (.aload_n 0, 1) := by decide +kernel
theorem dlaw_1357 : decode ylaw.2.1 1357 = .ok (.iload_n 3, 1) := by decide +kernel
theorem dlaw_1358 : decode ylaw.2.1 1358 = .ok (.iconst 1, 1) := by decide +kernel
theorem dlaw_1359 : decode ylaw.2.1 1359 = .ok (.iadd, 1) := by decide +kernel
theorem dlaw_1360 : decode ylaw.2.1 1360 = .ok (.iaload, 1) := by decide +kernel
theorem dlaw_1361 : decode ylaw.2.1 1361 = .ok (.aload_n 0, 1) := by decide +kernel
theorem dlaw_1362 : decode ylaw.2.1 1362 = .ok (.iload_n 3, 1) := by decide +kernel
theorem dlaw_1363 : decode ylaw.2.1 1363 = .ok (.iconst 2, 1) := by decide +kernel
theorem dlaw_1364 : decode ylaw.2.1 1364 = .ok (.iadd, 1) := by decide +kernel
theorem dlaw_1365 : decode ylaw.2.1 1365 = .ok (.iaload, 1) := by decide +kernel
theorem dlaw_1366 : decode ylaw.2.1 1366 = .ok (.invokevirtual 162, 3) := by decide +kernel
theorem dlaw_1369 : decode ylaw.2.1 1369 = .ok (.if_icmp .eq 133, 3) := by decide +kernel
theorem dlaw_1372 : decode ylaw.2.1 1372 = .ok (.iconst 0, 1) := by decide +kernel
theorem dlaw_1373 : decode ylaw.2.1 1373 = .ok (.ireturn, 1) := by decide +kernel
theorem dlaw_1374 : decode ylaw.2.1 1374 = .ok (.aload_n 1, 1) := by decide +kernel
theorem dlaw_1375 : decode ylaw.2.1 1375 = .ok (.aload_n 0, 1) := by decide +kernel
theorem dlaw_1376 : decode ylaw.2.1 1376 = .ok (.iload_n 3, 1) := by decide +kernel
theorem dlaw_1377 : decode ylaw.2.1 1377 = .ok (.iconst 1, 1) := by decide +kernel
theorem dlaw_1378 : decode ylaw.2.1 1378 = .ok (.iadd, 1) := by decide +kernel
theorem dlaw_1379 : decode ylaw.2.1 1379 = .ok (.iaload, 1) := by decide +kernel
theorem dlaw_1380 : decode ylaw.2.1 1380 = .ok (.aload_n 0, 1) := by decide +kernel
theorem dlaw_1381 : decode ylaw.2.1 1381 = .ok (.iload_n 3, 1) := by decide +kernel
theorem dlaw_1382 : decode ylaw.2.1 1382 = .ok (.iconst 2, 1) := by decide +kernel
theorem dlaw_1383 : decode ylaw.2.1 1383 = .ok (.iadd, 1) := by decide +kernel
theorem dlaw_1384 : decode ylaw.2.1 1384 = .ok (.iaload, 1) := by decide +kernel
theorem dlaw_1385 : decode ylaw.2.1 1385 = .ok (.invokevirtual 163, 3) := by decide +kernel
theorem dlaw_1388 : decode ylaw.2.1 1388 = .ok (.aload_n 2, 1) := by decide +kernel
theorem dlaw_1389 : decode ylaw.2.1 1389 = .ok (.aload_n 0, 1) := by decide +kernel
theorem dlaw_1390 : decode ylaw.2.1 1390 = .ok (.iload_n 3, 1) := by decide +kernel
theorem dlaw_1391 : decode ylaw.2.1 1391 = .ok (.iconst 1, 1) := by decide +kernel
theorem dlaw_1392 : decode ylaw.2.1 1392 = .ok (.iadd, 1) := by decide +kernel
theorem dlaw_1393 : decode ylaw.2.1 1393 = .ok (.iaload, 1) := by decide +kernel
theorem dlaw_1394 : decode ylaw.2.1 1394 = .ok (.aload_n 0, 1) := by decide +kernel
theorem dlaw_1395 : decode ylaw.2.1 1395 = .ok (.iload_n 3, 1) := by decide +kernel
theorem dlaw_1396 : decode ylaw.2.1 1396 = .ok (.iconst 2, 1) := by decide +kernel
theorem dlaw_1397 : decode ylaw.2.1 1397 = .ok (.iadd, 1) := by decide +kernel
theorem dlaw_1398 : decode ylaw.2.1 1398 = .ok (.iaload, 1) := by decide +kernel
theorem dlaw_1399 : decode ylaw.2.1 1399 = .ok (.invokevirtual 166, 3) := by decide +kernel
theorem dlaw_1402 : decode ylaw.2.1 1402 = .ok (.if_icmp .eq 100, 3) := by decide +kernel
theorem dlaw_1405 : decode ylaw.2.1 1405 = .ok (.iconst 0, 1) := by decide +kernel
theorem dlaw_1406 : decode ylaw.2.1 1406 = .ok (.ireturn, 1) := by decide +kernel
theorem dlaw_1407 : decode ylaw.2.1 1407 = .ok (.aload_n 1, 1) := by decide +kernel
theorem dlaw_1408 : decode ylaw.2.1 1408 = .ok (.aload_n 0, 1) := by decide +kernel
theorem dlaw_1409 : decode ylaw.2.1 1409 = .ok (.iload_n 3, 1) := by decide +kernel
theorem dlaw_1410 : decode ylaw.2.1 1410 = .ok (.iconst 1, 1) := by decide +kernel
theorem dlaw_1411 : decode ylaw.2.1 1411 = .ok (.iadd, 1) := by decide +kernel
theorem dlaw_1412 : decode ylaw.2.1 1412 = .ok (.iaload, 1) := by decide +kernel
theorem dlaw_1413 : decode ylaw.2.1 1413 = .ok (.invokevirtual 167, 3) := by decide +kernel
theorem dlaw_1416 : decode ylaw.2.1 1416 = .ok (.aload_n 2, 1) := by decide +kernel
theorem dlaw_1417 : decode ylaw.2.1 1417 = .ok (.aload_n 0, 1) := by decide +kernel
theorem dlaw_1418 : decode ylaw.2.1 1418 = .ok (.iload_n 3, 1) := by decide +kernel
theorem dlaw_1419 : decode ylaw.2.1 1419 = .ok (.iconst 1, 1) := by decide +kernel
theorem dlaw_1420 : decode ylaw.2.1 1420 = .ok (.iadd, 1) := by decide +kernel
theorem dlaw_1421 : decode ylaw.2.1 1421 = .ok (.iaload, 1) := by decide +kernel
theorem dlaw_1422 : decode ylaw.2.1 1422 = .ok (.invokevirtual 170, 3) := by decide +kernel
theorem dlaw_1425 : decode ylaw.2.1 1425 = .ok (.if_icmp .eq 77, 3) := by decide +kernel
theorem dlaw_1428 : decode ylaw.2.1 1428 = .ok (.iconst 0, 1) := by decide +kernel
theorem dlaw_1429 : decode ylaw.2.1 1429 = .ok (.ireturn, 1) := by decide +kernel
theorem dlaw_1430 : decode ylaw.2.1 1430 = .ok (.aload_n 1, 1) := by decide +kernel
theorem dlaw_1431 : decode ylaw.2.1 1431 = .ok (.aload_n 0, 1) := by decide +kernel
theorem dlaw_1432 : decode ylaw.2.1 1432 = .ok (.iload_n 3, 1) := by decide +kernel
theorem dlaw_1433 : decode ylaw.2.1 1433 = .ok (.iconst 1, 1) := by decide +kernel
theorem dlaw_1434 : decode ylaw.2.1 1434 = .ok (.iadd, 1) := by decide +kernel
theorem dlaw_1435 : decode ylaw.2.1 1435 = .ok (.iaload, 1) := by decide +kernel
theorem dlaw_1436 : decode ylaw.2.1 1436 = .ok (.invokevirtual 171, 3) := by decide +kernel
theorem dlaw_1439 : decode ylaw.2.1 1439 = .ok (.aload_n 2, 1) := by decide +kernel
theorem dlaw_1440 : decode ylaw.2.1 1440 = .ok (.aload_n 0, 1) := by decide +kernel
theorem dlaw_1441 : decode ylaw.2.1 1441 = .ok (.iload_n 3, 1) := by decide +kernel
theorem dlaw_1442 : decode ylaw.2.1 1442 = .ok (.iconst 1, 1) := by decide +kernel
theorem dlaw_1443 : decode ylaw.2.1 1443 = .ok (.iadd, 1) := by decide +kernel
theorem dlaw_1444 : decode ylaw.2.1 1444 = .ok (.iaload, 1) := by decide +kernel
theorem dlaw_1445 : decode ylaw.2.1 1445 = .ok (.invokevirtual 174, 3) := by decide +kernel
theorem dlaw_1448 : decode ylaw.2.1 1448 = .ok (.if_icmp .eq 54, 3) := by decide +kernel
theorem dlaw_1451 : decode ylaw.2.1 1451 = .ok (.iconst 0, 1) := by decide +kernel
theorem dlaw_1452 : decode ylaw.2.1 1452 = .ok (.ireturn, 1) := by decide +kernel
theorem dlaw_1453 : decode ylaw.2.1 1453 = .ok (.aload_n 1, 1) := by decide +kernel
theorem dlaw_1454 : decode ylaw.2.1 1454 = .ok (.invokevirtual 175, 3) := by decide +kernel
theorem dlaw_1457 : decode ylaw.2.1 1457 = .ok (.aload_n 2, 1) := by decide +kernel
theorem dlaw_1458 : decode ylaw.2.1 1458 = .ok (.invokevirtual 178, 3) := by decide +kernel
theorem dlaw_1461 : decode ylaw.2.1 1461 = .ok (.if_icmp .eq 41, 3) := by decide +kernel
theorem dlaw_1464 : decode ylaw.2.1 1464 = .ok (.iconst 0, 1) := by decide +kernel
theorem dlaw_1465 : decode ylaw.2.1 1465 = .ok (.ireturn, 1) := by decide +kernel
theorem dlaw_1466 : decode ylaw.2.1 1466 = .ok (.aload_n 1, 1) := by decide +kernel
theorem dlaw_1467 : decode ylaw.2.1 1467 = .ok (.invokevirtual 179, 3) := by decide +kernel
theorem dlaw_1470 : decode ylaw.2.1 1470 = .ok (.aload_n 2, 1) := by decide +kernel
theorem dlaw_1471 : decode ylaw.2.1 1471 = .ok (.invokevirtual 182, 3) := by decide +kernel
theorem dlaw_1474 : decode ylaw.2.1 1474 = .ok (.if_icmp .eq 28, 3) := by decide +kernel
theorem dlaw_1477 : decode ylaw.2.1 1477 = .ok (.iconst 0, 1) := by decide +kernel
theorem dlaw_1478 : decode ylaw.2.1 1478 = .ok (.ireturn, 1) := by decide +kernel
theorem dlaw_1479 : decode ylaw.2.1 1479 = .ok (.aload_n 1, 1) := by decide +kernel
theorem dlaw_1480 : decode ylaw.2.1 1480 = .ok (.aload_n 0, 1) := by decide +kernel
theorem dlaw_1481 : decode ylaw.2.1 1481 = .ok (.iload_n 3, 1) := by decide +kernel
theorem dlaw_1482 : decode ylaw.2.1 1482 = .ok (.iconst 1, 1) := by decide +kernel
theorem dlaw_1483 : decode ylaw.2.1 1483 = .ok (.iadd, 1) := by decide +kernel
theorem dlaw_1484 : decode ylaw.2.1 1484 = .ok (.iaload, 1) := by decide +kernel
theorem dlaw_1485 : decode ylaw.2.1 1485 = .ok (.invokevirtual 183, 3) := by decide +kernel
theorem dlaw_1488 : decode ylaw.2.1 1488 = .ok (.aload_n 2, 1) := by decide +kernel
theorem dlaw_1489 : decode ylaw.2.1 1489 = .ok (.aload_n 0, 1) := by decide +kernel
theorem dlaw_1490 : decode ylaw.2.1 1490 = .ok (.iload_n 3, 1) := by decide +kernel
theorem dlaw_1491 : decode ylaw.2.1 1491 = .ok (.iconst 1, 1) := by decide +kernel
theorem dlaw_1492 : decode ylaw.2.1 1492 = .ok (.iadd, 1) := by decide +kernel
theorem dlaw_1493 : decode ylaw.2.1 1493 = .ok (.iaload, 1) := by decide +kernel
theorem dlaw_1494 : decode ylaw.2.1 1494 = .ok (.invokevirtual 186, 3) := by decide +kernel
theorem dlaw_1497 : decode ylaw.2.1 1497 = .ok (.if_icmp .eq 5, 3) := by decide +kernel
theorem dlaw_1500 : decode ylaw.2.1 1500 = .ok (.iconst 0, 1) := by decide +kernel
theorem dlaw_1501 : decode ylaw.2.1 1501 = .ok (.ireturn, 1) := by decide +kernel
theorem dlaw_1502 : decode ylaw.2.1 1502 = .ok (.iinc 3 6, 3) := by decide +kernel
theorem dlaw_1505 : decode ylaw.2.1 1505 = .ok (.goto (-1487), 3) := by decide +kernel
theorem dlaw_1508 : decode ylaw.2.1 1508 = .ok (.iconst 1, 1) := by decide +kernel
theorem dlaw_1509 : decode ylaw.2.1 1509 = .ok (.ireturn, 1) := by decide +kernel
