section Law2
theorem dL_law_0 : decode cL_law 0 = .ok (.new 7, 3) := by decide +kernel
theorem dL_law_3 : decode cL_law 3 = .ok (.dup, 1) := by decide +kernel
theorem dL_law_4 : decode cL_law 4 = .ok (.invokespecial 9, 3) := by decide +kernel
theorem dL_law_7 : decode cL_law 7 = .ok (.astore_n 1, 1) := by decide +kernel
theorem dL_law_8 : decode cL_law 8 = .ok (.new 10, 3) := by decide +kernel
theorem dL_law_11 : decode cL_law 11 = .ok (.dup, 1) := by decide +kernel
theorem dL_law_12 : decode cL_law 12 = .ok (.invokespecial 12, 3) := by decide +kernel
theorem dL_law_15 : decode cL_law 15 = .ok (.astore_n 2, 1) := by decide +kernel
theorem dL_law_16 : decode cL_law 16 = .ok (.iconst 0, 1) := by decide +kernel
theorem dL_law_17 : decode cL_law 17 = .ok (.istore_n 3, 1) := by decide +kernel
theorem dL_law_18 : decode cL_law 18 = .ok (.iload_n 3, 1) := by decide +kernel
theorem dL_law_19 : decode cL_law 19 = .ok (.aload_n 0, 1) := by decide +kernel
theorem dL_law_20 : decode cL_law 20 = .ok (.arraylength, 1) := by decide +kernel
theorem dL_law_21 : decode cL_law 21 = .ok (.iconst 4, 1) := by decide +kernel
theorem dL_law_22 : decode cL_law 22 = .ok (.isub, 1) := by decide +kernel
theorem dL_law_23 : decode cL_law 23 = .ok (.if_icmp .gt 1034, 3) := by decide +kernel
theorem dL_law_26 : decode cL_law 26 = .ok (.aload_n 0, 1) := by decide +kernel
theorem dL_law_27 : decode cL_law 27 = .ok (.iload_n 3, 1) := by decide +kernel
theorem dL_law_28 : decode cL_law 28 = .ok (.iaload, 1) := by decide +kernel
theorem dL_law_29 : decode cL_law 29 = .ok (.bipush 63, 2) := by decide +kernel
theorem dL_law_31 : decode cL_law 31 = .ok (.iand, 1) := by decide +kernel
theorem dL_law_32 : decode cL_law 32 = .ok (.tableswitch 1019 0 32 #[148, 171, 184, 197, 220, 253, 276, 299, 322, 355, 388, 421, 444, 457, 480, 493, 526, 559, 582, 595, 628, 661, 684, 717, 750, 783, 806, 865, 924, 937, 950, 973, 996], 148) := by decide +kernel
theorem dL_law_180 : decode cL_law 180 = .ok (.aload_n 1, 1) := by decide +kernel
theorem dL_law_181 : decode cL_law 181 = .ok (.aload_n 0, 1) := by decide +kernel
theorem dL_law_182 : decode cL_law 182 = .ok (.iload_n 3, 1) := by decide +kernel
theorem dL_law_183 : decode cL_law 183 = .ok (.iconst 1, 1) := by decide +kernel
theorem dL_law_184 : decode cL_law 184 = .ok (.iadd, 1) := by decide +kernel
theorem dL_law_185 : decode cL_law 185 = .ok (.iaload, 1) := by decide +kernel
theorem dL_law_186 : decode cL_law 186 = .ok (.invokevirtual 13, 3) := by decide +kernel
theorem dL_law_189 : decode cL_law 189 = .ok (.aload_n 2, 1) := by decide +kernel
theorem dL_law_190 : decode cL_law 190 = .ok (.aload_n 0, 1) := by decide +kernel
theorem dL_law_191 : decode cL_law 191 = .ok (.iload_n 3, 1) := by decide +kernel
theorem dL_law_192 : decode cL_law 192 = .ok (.iconst 1, 1) := by decide +kernel
theorem dL_law_193 : decode cL_law 193 = .ok (.iadd, 1) := by decide +kernel
theorem dL_law_194 : decode cL_law 194 = .ok (.iaload, 1) := by decide +kernel
theorem dL_law_195 : decode cL_law 195 = .ok (.invokevirtual 17, 3) := by decide +kernel
theorem dL_law_198 : decode cL_law 198 = .ok (.if_icmp .eq 853, 3) := by decide +kernel
theorem dL_law_201 : decode cL_law 201 = .ok (.iconst 0, 1) := by decide +kernel
theorem dL_law_202 : decode cL_law 202 = .ok (.ireturn, 1) := by decide +kernel
theorem dL_law_203 : decode cL_law 203 = .ok (.aload_n 1, 1) := by decide +kernel
theorem dL_law_204 : decode cL_law 204 = .ok (.invokevirtual 18, 3) := by decide +kernel
theorem dL_law_207 : decode cL_law 207 = .ok (.aload_n 2, 1) := by decide +kernel
theorem dL_law_208 : decode cL_law 208 = .ok (.invokevirtual 22, 3) := by decide +kernel
theorem dL_law_211 : decode cL_law 211 = .ok (.if_icmp .eq 840, 3) := by decide +kernel
theorem dL_law_214 : decode cL_law 214 = .ok (.iconst 0, 1) := by decide +kernel
theorem dL_law_215 : decode cL_law 215 = .ok (.ireturn, 1) := by decide +kernel
theorem dL_law_216 : decode cL_law 216 = .ok (.aload_n 1, 1) := by decide +kernel
theorem dL_law_217 : decode cL_law 217 = .ok (.invokevirtual 23, 3) := by decide +kernel
theorem dL_law_220 : decode cL_law 220 = .ok (.aload_n 2, 1) := by decide +kernel
theorem dL_law_221 : decode cL_law 221 = .ok (.invokevirtual 26, 3) := by decide +kernel
theorem dL_law_224 : decode cL_law 224 = .ok (.if_icmp .eq 827, 3) := by decide +kernel
theorem dL_law_227 : decode cL_law 227 = .ok (.iconst 0, 1) := by decide +kernel
theorem dL_law_228 : decode cL_law 228 = .ok (.ireturn, 1) := by decide +kernel
theorem dL_law_229 : decode cL_law 229 = .ok (.aload_n 1, 1) := by decide +kernel
theorem dL_law_230 : decode cL_law 230 = .ok (.aload_n 0, 1) := by decide +kernel
theorem dL_law_231 : decode cL_law 231 = .ok (.iload_n 3, 1) := by decide +kernel
theorem dL_law_232 : decode cL_law 232 = .ok (.iconst 1, 1) := by decide +kernel
theorem dL_law_233 : decode cL_law 233 = .ok (.iadd, 1) := by decide +kernel
theorem dL_law_234 : decode cL_law 234 = .ok (.iaload, 1) := by decide +kernel
theorem dL_law_235 : decode cL_law 235 = .ok (.invokevirtual 27, 3) := by decide +kernel
theorem dL_law_238 : decode cL_law 238 = .ok (.aload_n 2, 1) := by decide +kernel
theorem dL_law_239 : decode cL_law 239 = .ok (.aload_n 0, 1) := by decide +kernel
theorem dL_law_240 : decode cL_law 240 = .ok (.iload_n 3, 1) := by decide +kernel
theorem dL_law_241 : decode cL_law 241 = .ok (.iconst 1, 1) := by decide +kernel
theorem dL_law_242 : decode cL_law 242 = .ok (.iadd, 1) := by decide +kernel
theorem dL_law_243 : decode cL_law 243 = .ok (.iaload, 1) := by decide +kernel
theorem dL_law_244 : decode cL_law 244 = .ok (.invokevirtual 30, 3) := by decide +kernel
theorem dL_law_247 : decode cL_law 247 = .ok (.if_icmp .eq 804, 3) := by decide +kernel
theorem dL_law_250 : decode cL_law 250 = .ok (.iconst 0, 1) := by decide +kernel
theorem dL_law_251 : decode cL_law 251 = .ok (.ireturn, 1) := by decide +kernel
theorem dL_law_252 : decode cL_law 252 = .ok (.aload_n 1, 1) := by decide +kernel
theorem dL_law_253 : decode cL_law 253 = .ok (.aload_n 0, 1) := by decide +kernel
theorem dL_law_254 : decode cL_law 254 = .ok (.iload_n 3, 1) := by decide +kernel
theorem dL_law_255 : decode cL_law 255 = .ok (.iconst 1, 1) := by decide +kernel
theorem dL_law_256 : decode cL_law 256 = .ok (.iadd, 1) := by decide +kernel
theorem dL_law_257 : decode cL_law 257 = .ok (.iaload, 1) := by decide +kernel
theorem dL_law_258 : decode cL_law 258 = .ok (.aload_n 0, 1) := by decide +kernel
theorem dL_law_259 : decode cL_law 259 = .ok (.iload_n 3, 1) := by decide +kernel
theorem dL_law_260 : decode cL_law 260 = .ok (.iconst 2, 1) := by decide +kernel
theorem dL_law_261 : decode cL_law 261 = .ok (.iadd, 1) := by decide +kernel
theorem dL_law_262 : decode cL_law 262 = .ok (.iaload, 1) := by decide +kernel
theorem dL_law_263 : decode cL_law 263 = .ok (.invokevirtual 31, 3) := by decide +kernel
theorem dL_law_266 : decode cL_law 266 = .ok (.aload_n 2, 1) := by decide +kernel
theorem dL_law_267 : decode cL_law 267 = .ok (.aload_n 0, 1) := by decide +kernel
theorem dL_law_268 : decode cL_law 268 = .ok (.iload_n 3, 1) := by decide +kernel
theorem dL_law_269 : decode cL_law 269 = .ok (.iconst 1, 1) := by decide +kernel
theorem dL_law_270 : decode cL_law 270 = .ok (.iadd, 1) := by decide +kernel
theorem dL_law_271 : decode cL_law 271 = .ok (.iaload, 1) := by decide +kernel
theorem dL_law_272 : decode cL_law 272 = .ok (.aload_n 0, 1) := by decide +kernel
theorem dL_law_273 : decode cL_law 273 = .ok (.iload_n 3, 1) := by decide +kernel
theorem dL_law_274 : decode cL_law 274 = .ok (.iconst 2, 1) := by decide +kernel
theorem dL_law_275 : decode cL_law 275 = .ok (.iadd, 1) := by decide +kernel
theorem dL_law_276 : decode cL_law 276 = .ok (.iaload, 1) := by decide +kernel
theorem dL_law_277 : decode cL_law 277 = .ok (.invokevirtual 35, 3) := by decide +kernel
theorem dL_law_280 : decode cL_law 280 = .ok (.if_icmp .eq 771, 3) := by decide +kernel
theorem dL_law_283 : decode cL_law 283 = .ok (.iconst 0, 1) := by decide +kernel
theorem dL_law_284 : decode cL_law 284 = .ok (.ireturn, 1) := by decide +kernel
theorem dL_law_285 : decode cL_law 285 = .ok (.aload_n 1, 1) := by decide +kernel
theorem dL_law_286 : decode cL_law 286 = .ok (.aload_n 0, 1) := by decide +kernel
theorem dL_law_287 : decode cL_law 287 = .ok (.iload_n 3, 1) := by decide +kernel
theorem dL_law_288 : decode cL_law 288 = .ok (.iconst 1, 1) := by decide +kernel
theorem dL_law_289 : decode cL_law 289 = .ok (.iadd, 1) := by decide +kernel
theorem dL_law_290 : decode cL_law 290 = .ok (.iaload, 1) := by decide +kernel
theorem dL_law_291 : decode cL_law 291 = .ok (.invokevirtual 36, 3) := by decide +kernel
theorem dL_law_294 : decode cL_law 294 = .ok (.aload_n 2, 1) := by decide +kernel
theorem dL_law_295 : decode cL_law 295 = .ok (.aload_n 0, 1) := by decide +kernel
theorem dL_law_296 : decode cL_law 296 = .ok (.iload_n 3, 1) := by decide +kernel
theorem dL_law_297 : decode cL_law 297 = .ok (.iconst 1, 1) := by decide +kernel
theorem dL_law_298 : decode cL_law 298 = .ok (.iadd, 1) := by decide +kernel
theorem dL_law_299 : decode cL_law 299 = .ok (.iaload, 1) := by decide +kernel
theorem dL_law_300 : decode cL_law 300 = .ok (.invokevirtual 39, 3) := by decide +kernel
theorem dL_law_303 : decode cL_law 303 = .ok (.if_icmp .eq 748, 3) := by decide +kernel
theorem dL_law_306 : decode cL_law 306 = .ok (.iconst 0, 1) := by decide +kernel
theorem dL_law_307 : decode cL_law 307 = .ok (.ireturn, 1) := by decide +kernel
theorem dL_law_308 : decode cL_law 308 = .ok (.aload_n 1, 1) := by decide +kernel
theorem dL_law_309 : decode cL_law 309 = .ok (.aload_n 0, 1) := by decide +kernel
theorem dL_law_310 : decode cL_law 310 = .ok (.iload_n 3, 1) := by decide +kernel
theorem dL_law_311 : decode cL_law 311 = .ok (.iconst 1, 1) := by decide +kernel
theorem dL_law_312 : decode cL_law 312 = .ok (.iadd, 1) := by decide +kernel
theorem dL_law_313 : decode cL_law 313 = .ok (.iaload, 1) := by decide +kernel
theorem dL_law_314 : decode cL_law 314 = .ok (.invokevirtual 40, 3) := by decide +kernel
theorem dL_law_317 : decode cL_law 317 = .ok (.aload_n 2, 1) := by decide +kernel
theorem dL_law_318 : decode cL_law 318 = .ok (.aload_n 0, 1) := by decide +kernel
theorem dL_law_319 : decode cL_law 319 = .ok (.iload_n 3, 1) := by decide +kernel
theorem dL_law_320 : decode cL_law 320 = .ok (.iconst 1, 1) := by decide +kernel
theorem dL_law_321 : decode cL_law 321 = .ok (.iadd, 1) := by decide +kernel
theorem dL_law_322 : decode cL_law 322 = .ok (.iaload, 1) := by decide +kernel
theorem dL_law_323 : decode cL_law 323 = .ok (.invokevirtual 43, 3) := by decide +kernel
theorem dL_law_326 : decode cL_law 326 = .ok (.if_icmp .eq 725, 3) := by decide +kernel
theorem dL_law_329 : decode cL_law 329 = .ok (.iconst 0, 1) := by decide +kernel
theorem dL_law_330 : decode cL_law 330 = .ok (.ireturn, 1) := by decide +kernel
theorem dL_law_331 : decode cL_law 331 = .ok (.aload_n 1, 1) := by decide +kernel
theorem dL_law_332 : decode cL_law 332 = .ok (.aload_n 0, 1) := by decide +kernel
theorem dL_law_333 : decode cL_law 333 = .ok (.iload_n 3, 1) := by decide +kernel
theorem dL_law_334 : decode cL_law 334 = .ok (.iconst 1, 1) := by decide +kernel
theorem dL_law_335 : decode cL_law 335 = .ok (.iadd, 1) := by decide +kernel
theorem dL_law_336 : decode cL_law 336 = .ok (.iaload, 1) := by decide +kernel
theorem dL_law_337 : decode cL_law 337 = .ok (.invokevirtual 44, 3) := by decide +kernel
theorem dL_law_340 : decode cL_law 340 = .ok (.aload_n 2, 1) := by decide +kernel
theorem dL_law_341 : decode cL_law 341 = .ok (.aload_n 0, 1) := by decide +kernel
theorem dL_law_342 : decode cL_law 342 = .ok (.iload_n 3, 1) := by decide +kernel
theorem dL_law_343 : decode cL_law 343 = .ok (.iconst 1, 1) := by decide +kernel
theorem dL_law_344 : decode cL_law 344 = .ok (.iadd, 1) := by decide +kernel
theorem dL_law_345 : decode cL_law 345 = .ok (.iaload, 1) := by decide +kernel
theorem dL_law_346 : decode cL_law 346 = .ok (.invokevirtual 47, 3) := by decide +kernel
theorem dL_law_349 : decode cL_law 349 = .ok (.if_icmp .eq 702, 3) := by decide +kernel
theorem dL_law_352 : decode cL_law 352 = .ok (.iconst 0, 1) := by decide +kernel
theorem dL_law_353 : decode cL_law 353 = .ok (.ireturn, 1) := by decide +kernel
theorem dL_law_354 : decode cL_law 354 = .ok (.aload_n 1, 1) := by decide +kernel
theorem dL_law_355 : decode cL_law 355 = .ok (.aload_n 0, 1) := by decide +kernel
theorem dL_law_356 : decode cL_law 356 = .ok (.iload_n 3, 1) := by decide +kernel
theorem dL_law_357 : decode cL_law 357 = .ok (.iconst 1, 1) := by decide +kernel
theorem dL_law_358 : decode cL_law 358 = .ok (.iadd, 1) := by decide +kernel
theorem dL_law_359 : decode cL_law 359 = .ok (.iaload, 1) := by decide +kernel
theorem dL_law_360 : decode cL_law 360 = .ok (.aload_n 0, 1) := by decide +kernel
theorem dL_law_361 : decode cL_law 361 = .ok (.iload_n 3, 1) := by decide +kernel
theorem dL_law_362 : decode cL_law 362 = .ok (.iconst 2, 1) := by decide +kernel
theorem dL_law_363 : decode cL_law 363 = .ok (.iadd, 1) := by decide +kernel
theorem dL_law_364 : decode cL_law 364 = .ok (.iaload, 1) := by decide +kernel
theorem dL_law_365 : decode cL_law 365 = .ok (.invokevirtual 48, 3) := by decide +kernel
theorem dL_law_368 : decode cL_law 368 = .ok (.aload_n 2, 1) := by decide +kernel
theorem dL_law_369 : decode cL_law 369 = .ok (.aload_n 0, 1) := by decide +kernel
theorem dL_law_370 : decode cL_law 370 = .ok (.iload_n 3, 1) := by decide +kernel
theorem dL_law_371 : decode cL_law 371 = .ok (.iconst 1, 1) := by decide +kernel
theorem dL_law_372 : decode cL_law 372 = .ok (.iadd, 1) := by decide +kernel
theorem dL_law_373 : decode cL_law 373 = .ok (.iaload, 1) := by decide +kernel
theorem dL_law_374 : decode cL_law 374 = .ok (.aload_n 0, 1) := by decide +kernel
theorem dL_law_375 : decode cL_law 375 = .ok (.iload_n 3, 1) := by decide +kernel
theorem dL_law_376 : decode cL_law 376 = .ok (.iconst 2, 1) := by decide +kernel
theorem dL_law_377 : decode cL_law 377 = .ok (.iadd, 1) := by decide +kernel
theorem dL_law_378 : decode cL_law 378 = .ok (.iaload, 1) := by decide +kernel
theorem dL_law_379 : decode cL_law 379 = .ok (.invokevirtual 51, 3) := by decide +kernel
theorem dL_law_382 : decode cL_law 382 = .ok (.if_icmp .eq 669, 3) := by decide +kernel
theorem dL_law_385 : decode cL_law 385 = .ok (.iconst 0, 1) := by decide +kernel
theorem dL_law_386 : decode cL_law 386 = .ok (.ireturn, 1) := by decide +kernel
theorem dL_law_387 : decode cL_law 387 = .ok (.aload_n 1, 1) := by decide +kernel
theorem dL_law_388 : decode cL_law 388 = .ok (.aload_n 0, 1) := by decide +kernel
theorem dL_law_389 : decode cL_law 389 = .ok (.iload_n 3, 1) := by decide +kernel
theorem dL_law_390 : decode cL_law 390 = .ok (.iconst 1, 1) := by decide +kernel
theorem dL_law_391 : decode cL_law 391 = .ok (.iadd, 1) := by decide +kernel
theorem dL_law_392 : decode cL_law 392 = .ok (.iaload, 1) := by decide +kernel
theorem dL_law_393 : decode cL_law 393 = .ok (.aload_n 0, 1) := by decide +kernel
theorem dL_law_394 : decode cL_law 394 = .ok (.iload_n 3, 1) := by decide +kernel
theorem dL_law_395 : decode cL_law 395 = .ok (.iconst 2, 1) := by decide +kernel
theorem dL_law_396 : decode cL_law 396 = .ok (.iadd, 1) := by decide +kernel
theorem dL_law_397 : decode cL_law 397 = .ok (.iaload, 1) := by decide +kernel
theorem dL_law_398 : decode cL_law 398 = .ok (.invokevirtual 52, 3) := by decide +kernel
theorem dL_law_401 : decode cL_law 401 = .ok (.aload_n 2, 1) := by decide +kernel
theorem dL_law_402 : decode cL_law 402 = .ok (.aload_n 0, 1) := by decide +kernel
theorem dL_law_403 : decode cL_law 403 = .ok (.iload_n 3, 1) := by decide +kernel
theorem dL_law_404 : decode cL_law 404 = .ok (.iconst 1, 1) := by decide +kernel
theorem dL_law_405 : decode cL_law 405 = .ok (.iadd, 1) := by decide +kernel
theorem dL_law_406 : decode cL_law 406 = .ok (.iaload, 1) := by decide +kernel
theorem dL_law_407 : decode cL_law 407 = .ok (.aload_n 0, 1) := by decide +kernel
theorem dL_law_408 : decode cL_law 408 = .ok (.iload_n 3, 1) := by decide +kernel
theorem dL_law_409 : decode cL_law 409 = .ok (.iconst 2, 1) := by decide +kernel
theorem dL_law_410 : decode cL_law 410 = .ok (.iadd, 1) := by decide +kernel
theorem dL_law_411 : decode cL_law 411 = .ok (.iaload, 1) := by decide +kernel
theorem dL_law_412 : decode cL_law 412 = .ok (.invokevirtual 55, 3) := by decide +kernel
theorem dL_law_415 : decode cL_law 415 = .ok (.if_icmp .eq 636, 3) := by decide +kernel
theorem dL_law_418 : decode cL_law 418 = .ok (.iconst 0, 1) := by decide +kernel
theorem dL_law_419 : decode cL_law 419 = .ok (.ireturn, 1) := by decide +kernel
theorem dL_law_420 : decode cL_law 420 = .ok (.aload_n 1, 1) := by decide +kernel
theorem dL_law_421 : decode cL_law 421 = .ok (.aload_n 0, 1) := by decide +kernel
theorem dL_law_422 : decode cL_law 422 = .ok (.iload_n 3, 1) := by decide +kernel
theorem dL_law_423 : decode cL_law 423 = .ok (.iconst 1, 1) := by decide +kernel
theorem dL_law_424 : decode cL_law 424 = .ok (.iadd, 1) := by decide +kernel
theorem dL_law_425 : decode cL_law 425 = .ok (.iaload, 1) := by decide +kernel
theorem dL_law_426 : decode cL_law 426 = .ok (.aload_n 0, 1) := by decide +kernel
theorem dL_law_427 : decode cL_law 427 = .ok (.iload_n 3, 1) := by decide +kernel
theorem dL_law_428 : decode cL_law 428 = .ok (.iconst 2, 1) := by decide +kernel
theorem dL_law_429 : decode cL_law 429 = .ok (.iadd, 1) := by decide +kernel
theorem dL_law_430 : decode cL_law 430 = .ok (.iaload, 1) := by decide +kernel
theorem dL_law_431 : decode cL_law 431 = .ok (.invokevirtual 56, 3) := by decide +kernel
theorem dL_law_434 : decode cL_law 434 = .ok (.aload_n 2, 1) := by decide +kernel
theorem dL_law_435 : decode cL_law 435 = .ok (.aload_n 0, 1) := by decide +kernel
theorem dL_law_436 : decode cL_law 436 = .ok (.iload_n 3, 1) := by decide +kernel
theorem dL_law_437 : decode cL_law 437 = .ok (.iconst 1, 1) := by decide +kernel
theorem dL_law_438 : decode cL_law 438 = .ok (.iadd, 1) := by decide +kernel
theorem dL_law_439 : decode cL_law 439 = .ok (.iaload, 1) := by decide +kernel
theorem dL_law_440 : decode cL_law 440 = .ok (.aload_n 0, 1) := by decide +kernel
theorem dL_law_441 : decode cL_law 441 = .ok (.iload_n 3, 1) := by decide +kernel
theorem dL_law_442 : decode cL_law 442 = .ok (.iconst 2, 1) := by decide +kernel
theorem dL_law_443 : decode cL_law 443 = .ok (.iadd, 1) := by decide +kernel
theorem dL_law_444 : decode cL_law 444 = .ok (.iaload, 1) := by decide +kernel
theorem dL_law_445 : decode cL_law 445 = .ok (.invokevirtual 59, 3) := by decide +kernel
theorem dL_law_448 : decode cL_law 448 = .ok (.if_icmp .eq 603, 3) := by decide +kernel
theorem dL_law_451 : decode cL_law 451 = .ok (.iconst 0, 1) := by decide +kernel
theorem dL_law_452 : decode cL_law 452 = .ok (.ireturn, 1) := by decide +kernel
theorem dL_law_453 : decode cL_law 453 = .ok (.aload_n 1, 1) := by decide +kernel
theorem dL_law_454 : decode cL_law 454 = .ok (.aload_n 0, 1) := by decide +kernel
theorem dL_law_455 : decode cL_law 455 = .ok (.iload_n 3, 1) := by decide +kernel
theorem dL_law_456 : decode cL_law 456 = .ok (.iconst 1, 1) := by decide +kernel
theorem dL_law_457 : decode cL_law 457 = .ok (.iadd, 1) := by decide +kernel
theorem dL_law_458 : decode cL_law 458 = .ok (.iaload, 1) := by decide +kernel
theorem dL_law_459 : decode cL_law 459 = .ok (.invokevirtual 60, 3) := by decide +kernel
theorem dL_law_462 : decode cL_law 462 = .ok (.aload_n 2, 1) := by decide +kernel
theorem dL_law_463 : decode cL_law 463 = .ok (.aload_n 0, 1) := by decide +kernel
theorem dL_law_464 : decode cL_law 464 = .ok (.iload_n 3, 1) := by decide +kernel
theorem dL_law_465 : decode cL_law 465 = .ok (.iconst 1, 1) := by decide +kernel
theorem dL_law_466 : decode cL_law 466 = .ok (.iadd, 1) := by decide +kernel
theorem dL_law_467 : decode cL_law 467 = .ok (.iaload, 1) := by decide +kernel
theorem dL_law_468 : decode cL_law 468 = .ok (.invokevirtual 63, 3) := by decide +kernel
theorem dL_law_471 : decode cL_law 471 = .ok (.if_icmp .eq 580, 3) := by decide +kernel
theorem dL_law_474 : decode cL_law 474 = .ok (.iconst 0, 1) := by decide +kernel
theorem dL_law_475 : decode cL_law 475 = .ok (.ireturn, 1) := by decide +kernel
theorem dL_law_476 : decode cL_law 476 = .ok (.aload_n 1, 1) := by decide +kernel
theorem dL_law_477 : decode cL_law 477 = .ok (.invokevirtual 64, 3) := by decide +kernel
theorem dL_law_480 : decode cL_law 480 = .ok (.aload_n 2, 1) := by decide +kernel
theorem dL_law_481 : decode cL_law 481 = .ok (.invokevirtual 67, 3) := by decide +kernel
theorem dL_law_484 : decode cL_law 484 = .ok (.if_icmp .eq 567, 3) := by decide +kernel
theorem dL_law_487 : decode cL_law 487 = .ok (.iconst 0, 1) := by decide +kernel
theorem dL_law_488 : decode cL_law 488 = .ok (.ireturn, 1) := by decide +kernel
theorem dL_law_489 : decode cL_law 489 = .ok (.aload_n 1, 1) := by decide +kernel
theorem dL_law_490 : decode cL_law 490 = .ok (.aload_n 0, 1) := by decide +kernel
theorem dL_law_491 : decode cL_law 491 = .ok (.iload_n 3, 1) := by decide +kernel
theorem dL_law_492 : decode cL_law 492 = .ok (.iconst 1, 1) := by decide +kernel
theorem dL_law_493 : decode cL_law 493 = .ok (.iadd, 1) := by decide +kernel
theorem dL_law_494 : decode cL_law 494 = .ok (.iaload, 1) := by decide +kernel
theorem dL_law_495 : decode cL_law 495 = .ok (.invokevirtual 68, 3) := by decide +kernel
theorem dL_law_498 : decode cL_law 498 = .ok (.aload_n 2, 1) := by decide +kernel
theorem dL_law_499 : decode cL_law 499 = .ok (.aload_n 0, 1) := by decide +kernel
theorem dL_law_500 : decode cL_law 500 = .ok (.iload_n 3, 1) := by decide +kernel
theorem dL_law_501 : decode cL_law 501 = .ok (.iconst 1, 1) := by decide +kernel
theorem dL_law_502 : decode cL_law 502 = .ok (.iadd, 1) := by decide +kernel
theorem dL_law_503 : decode cL_law 503 = .ok (.iaload, 1) := by decide +kernel
theorem dL_law_504 : decode cL_law 504 = .ok (.invokevirtual 71, 3) := by decide +kernel
theorem dL_law_507 : decode cL_law 507 = .ok (.if_icmp .eq 544, 3) := by decide +kernel
theorem dL_law_510 : decode cL_law 510 = .ok (.iconst 0, 1) := by decide +kernel
theorem dL_law_511 : decode cL_law 511 = .ok (.ireturn, 1) := by decide +kernel
theorem dL_law_512 : decode cL_law 512 = .ok (.aload_n 1, 1) := by decide +kernel
theorem dL_law_513 : decode cL_law 513 = .ok (.invokevirtual 72, 3) := by decide +kernel
theorem dL_law_516 : decode cL_law 516 = .ok (.aload_n 2, 1) := by decide +kernel
theorem dL_law_517 : decode cL_law 517 = .ok (.invokevirtual 75, 3) := by decide +kernel
theorem dL_law_520 : decode cL_law 520 = .ok (.if_icmp .eq 531, 3) := by decide +kernel
theorem dL_law_523 : decode cL_law 523 = .ok (.iconst 0, 1) := by decide +kernel
theorem dL_law_524 : decode cL_law 524 = .ok (.ireturn, 1) := by decide +kernel
theorem dL_law_525 : decode cL_law 525 = .ok (.aload_n 1, 1) := by decide +kernel
theorem dL_law_526 : decode cL_law 526 = .ok (.aload_n 0, 1) := by decide +kernel
theorem dL_law_527 : decode cL_law 527 = .ok (.iload_n 3, 1) := by decide +kernel
theorem dL_law_528 : decode cL_law 528 = .ok (.iconst 1, 1) := by decide +kernel
theorem dL_law_529 : decode cL_law 529 = .ok (.iadd, 1) := by decide +kernel
theorem dL_law_530 : decode cL_law 530 = .ok (.iaload, 1) := by decide +kernel
theorem dL_law_531 : decode cL_law 531 = .ok (.aload_n 0, 1) := by decide +kernel
theorem dL_law_532 : decode cL_law 532 = .ok (.iload_n 3, 1) := by decide +kernel
theorem dL_law_533 : decode cL_law 533 = .ok (.iconst 2, 1) := by decide +kernel
theorem dL_law_534 : decode cL_law 534 = .ok (.iadd, 1) := by decide +kernel
theorem dL_law_535 : decode cL_law 535 = .ok (.iaload, 1) := by decide +kernel
theorem dL_law_536 : decode cL_law 536 = .ok (.invokevirtual 76, 3) := by decide +kernel
theorem dL_law_539 : decode cL_law 539 = .ok (.aload_n 2, 1) := by decide +kernel
theorem dL_law_540 : decode cL_law 540 = .ok (.aload_n 0, 1) := by decide +kernel
theorem dL_law_541 : decode cL_law 541 = .ok (.iload_n 3, 1) := by decide +kernel
theorem dL_law_542 : decode cL_law 542 = .ok (.iconst 1, 1) := by decide +kernel
theorem dL_law_543 : decode cL_law 543 = .ok (.iadd, 1) := by decide +kernel
theorem dL_law_544 : decode cL_law 544 = .ok (.iaload, 1) := by decide +kernel
theorem dL_law_545 : decode cL_law 545 = .ok (.aload_n 0, 1) := by decide +kernel
theorem dL_law_546 : decode cL_law 546 = .ok (.iload_n 3, 1) := by decide +kernel
theorem dL_law_547 : decode cL_law 547 = .ok (.iconst 2, 1) := by decide +kernel
theorem dL_law_548 : decode cL_law 548 = .ok (.iadd, 1) := by decide +kernel
theorem dL_law_549 : decode cL_law 549 = .ok (.iaload, 1) := by decide +kernel
theorem dL_law_550 : decode cL_law 550 = .ok (.invokevirtual 79, 3) := by decide +kernel
theorem dL_law_553 : decode cL_law 553 = .ok (.if_icmp .eq 498, 3) := by decide +kernel
theorem dL_law_556 : decode cL_law 556 = .ok (.iconst 0, 1) := by decide +kernel
theorem dL_law_557 : decode cL_law 557 = .ok (.ireturn, 1) := by decide +kernel
theorem dL_law_558 : decode cL_law 558 = .ok (.aload_n 1, 1) := by decide +kernel
theorem dL_law_559 : decode cL_law 559 = .ok (.aload_n 0, 1) := by decide +kernel
theorem dL_law_560 : decode cL_law 560 = .ok (.iload_n 3, 1) := by decide +kernel
theorem dL_law_561 : decode cL_law 561 = .ok (.iconst 1, 1) := by decide +kernel
theorem dL_law_562 : decode cL_law 562 = .ok (.iadd, 1) := by decide +kernel
theorem dL_law_563 : decode cL_law 563 = .ok (.iaload, 1) := by decide +kernel
theorem dL_law_564 : decode cL_law 564 = .ok (.aload_n 0, 1) := by decide +kernel
theorem dL_law_565 : decode cL_law 565 = .ok (.iload_n 3, 1) := by decide +kernel
theorem dL_law_566 : decode cL_law 566 = .ok (.iconst 2, 1) := by decide +kernel
theorem dL_law_567 : decode cL_law 567 = .ok (.iadd, 1) := by decide +kernel
theorem dL_law_568 : decode cL_law 568 = .ok (.iaload, 1) := by decide +kernel
theorem dL_law_569 : decode cL_law 569 = .ok (.invokevirtual 80, 3) := by decide +kernel
theorem dL_law_572 : decode cL_law 572 = .ok (.aload_n 2, 1) := by decide +kernel
theorem dL_law_573 : decode cL_law 573 = .ok (.aload_n 0, 1) := by decide +kernel
theorem dL_law_574 : decode cL_law 574 = .ok (.iload_n 3, 1) := by decide +kernel
theorem dL_law_575 : decode cL_law 575 = .ok (.iconst 1, 1) := by decide +kernel
theorem dL_law_576 : decode cL_law 576 = .ok (.iadd, 1) := by decide +kernel
theorem dL_law_577 : decode cL_law 577 = .ok (.iaload, 1) := by decide +kernel
theorem dL_law_578 : decode cL_law 578 = .ok (.aload_n 0, 1) := by decide +kernel
theorem dL_law_579 : decode cL_law 579 = .ok (.iload_n 3, 1) := by decide +kernel
theorem dL_law_580 : decode cL_law 580 = .ok (.iconst 2, 1) := by decide +kernel
theorem dL_law_581 : decode cL_law 581 = .ok (.iadd, 1) := by decide +kernel
theorem dL_law_582 : decode cL_law 582 = .ok (.iaload, 1) := by decide +kernel
theorem dL_law_583 : decode cL_law 583 = .ok (.invokevirtual 83, 3) := by decide +kernel
theorem dL_law_586 : decode cL_law 586 = .ok (.if_icmp .eq 465, 3) := by decide +kernel
theorem dL_law_589 : decode cL_law 589 = .ok (.iconst 0, 1) := by decide +kernel
theorem dL_law_590 : decode cL_law 590 = .ok (.ireturn, 1) := by decide +kernel
theorem dL_law_591 : decode cL_law 591 = .ok (.aload_n 1, 1) := by decide +kernel
theorem dL_law_592 : decode cL_law 592 = .ok (.aload_n 0, 1) := by decide +kernel
theorem dL_law_593 : decode cL_law 593 = .ok (.iload_n 3, 1) := by decide +kernel
theorem dL_law_594 : decode cL_law 594 = .ok (.iconst 1, 1) := by decide +kernel
theorem dL_law_595 : decode cL_law 595 = .ok (.iadd, 1) := by decide +kernel
theorem dL_law_596 : decode cL_law 596 = .ok (.iaload, 1) := by decide +kernel
theorem dL_law_597 : decode cL_law 597 = .ok (.invokevirtual 84, 3) := by decide +kernel
theorem dL_law_600 : decode cL_law 600 = .ok (.aload_n 2, 1) := by decide +kernel
theorem dL_law_601 : decode cL_law 601 = .ok (.aload_n 0, 1) := by decide +kernel
theorem dL_law_602 : decode cL_law 602 = .ok (.iload_n 3, 1) := by decide +kernel
theorem dL_law_603 : decode cL_law 603 = .ok (.iconst 1, 1) := by decide +kernel
theorem dL_law_604 : decode cL_law 604 = .ok (.iadd, 1) := by decide +kernel
theorem dL_law_605 : decode cL_law 605 = .ok (.iaload, 1) := by decide +kernel
theorem dL_law_606 : decode cL_law 606 = .ok (.invokevirtual 87, 3) := by decide +kernel
theorem dL_law_609 : decode cL_law 609 = .ok (.if_icmp .eq 442, 3) := by decide +kernel
theorem dL_law_612 : decode cL_law 612 = .ok (.iconst 0, 1) := by decide +kernel
theorem dL_law_613 : decode cL_law 613 = .ok (.ireturn, 1) := by decide +kernel
theorem dL_law_614 : decode cL_law 614 = .ok (.aload_n 1, 1) := by decide +kernel
theorem dL_law_615 : decode cL_law 615 = .ok (.invokevirtual 88, 3) := by decide +kernel
theorem dL_law_618 : decode cL_law 618 = .ok (.aload_n 2, 1) := by decide +kernel
theorem dL_law_619 : decode cL_law 619 = .ok (.invokevirtual 91, 3) := by decide +kernel
theorem dL_law_622 : decode cL_law 622 = .ok (.if_icmp .eq 429, 3) := by decide +kernel
theorem dL_law_625 : decode cL_law 625 = .ok (.iconst 0, 1) := by decide +kernel
theorem dL_law_626 : decode cL_law 626 = .ok (.ireturn, 1) := by decide +kernel
theorem dL_law_627 : decode cL_law 627 = .ok (.aload_n 1, 1) := by decide +kernel
theorem dL_law_628 : decode cL_law 628 = .ok (.aload_n 0, 1) := by decide +kernel
theorem dL_law_629 : decode cL_law 629 = .ok (.iload_n 3, 1) := by decide +kernel
theorem dL_law_630 : decode cL_law 630 = .ok (.iconst 1, 1) := by decide +kernel
theorem dL_law_631 : decode cL_law 631 = .ok (.iadd, 1) := by decide +kernel
theorem dL_law_632 : decode cL_law 632 = .ok (.iaload, 1) := by decide +kernel
theorem dL_law_633 : decode cL_law 633 = .ok (.aload_n 0, 1) := by decide +kernel
theorem dL_law_634 : decode cL_law 634 = .ok (.iload_n 3, 1) := by decide +kernel
theorem dL_law_635 : decode cL_law 635 = .ok (.iconst 2, 1) := by decide +kernel
theorem dL_law_636 : decode cL_law 636 = .ok (.iadd, 1) := by decide +kernel
theorem dL_law_637 : decode cL_law 637 = .ok (.iaload, 1) := by decide +kernel
theorem dL_law_638 : decode cL_law 638 = .ok (.invokevirtual 92, 3) := by decide +kernel
theorem dL_law_641 : decode cL_law 641 = .ok (.aload_n 2, 1) := by decide +kernel
theorem dL_law_642 : decode cL_law 642 = .ok (.aload_n 0, 1) := by decide +kernel
theorem dL_law_643 : decode cL_law 643 = .ok (.iload_n 3, 1) := by decide +kernel
theorem dL_law_644 : decode cL_law 644 = .ok (.iconst 1, 1) := by decide +kernel
theorem dL_law_645 : decode cL_law 645 = .ok (.iadd, 1) := by decide +kernel
theorem dL_law_646 : decode cL_law 646 = .ok (.iaload, 1) := by decide +kernel
theorem dL_law_647 : decode cL_law 647 = .ok (.aload_n 0, 1) := by decide +kernel
theorem dL_law_648 : decode cL_law 648 = .ok (.iload_n 3, 1) := by decide +kernel
theorem dL_law_649 : decode cL_law 649 = .ok (.iconst 2, 1) := by decide +kernel
theorem dL_law_650 : decode cL_law 650 = .ok (.iadd, 1) := by decide +kernel
theorem dL_law_651 : decode cL_law 651 = .ok (.iaload, 1) := by decide +kernel
theorem dL_law_652 : decode cL_law 652 = .ok (.invokevirtual 95, 3) := by decide +kernel
theorem dL_law_655 : decode cL_law 655 = .ok (.if_icmp .eq 396, 3) := by decide +kernel
theorem dL_law_658 : decode cL_law 658 = .ok (.iconst 0, 1) := by decide +kernel
theorem dL_law_659 : decode cL_law 659 = .ok (.ireturn, 1) := by decide +kernel
theorem dL_law_660 : decode cL_law 660 = .ok (.aload_n 1, 1) := by decide +kernel
theorem dL_law_661 : decode cL_law 661 = .ok (.aload_n 0, 1) := by decide +kernel
theorem dL_law_662 : decode cL_law 662 = .ok (.iload_n 3, 1) := by decide +kernel
theorem dL_law_663 : decode cL_law 663 = .ok (.iconst 1, 1) := by decide +kernel
theorem dL_law_664 : decode cL_law 664 = .ok (.iadd, 1) := by decide +kernel
theorem dL_law_665 : decode cL_law 665 = .ok (.iaload, 1) := by decide +kernel
theorem dL_law_666 : decode cL_law 666 = .ok (.aload_n 0, 1) := by decide +kernel
theorem dL_law_667 : decode cL_law 667 = .ok (.iload_n 3, 1) := by decide +kernel
theorem dL_law_668 : decode cL_law 668 = .ok (.iconst 2, 1) := by decide +kernel
theorem dL_law_669 : decode cL_law 669 = .ok (.iadd, 1) := by decide +kernel
theorem dL_law_670 : decode cL_law 670 = .ok (.iaload, 1) := by decide +kernel
theorem dL_law_671 : decode cL_law 671 = .ok (.invokevirtual 96, 3) := by decide +kernel
theorem dL_law_674 : decode cL_law 674 = .ok (.aload_n 2, 1) := by decide +kernel
theorem dL_law_675 : decode cL_law 675 = .ok (.aload_n 0, 1) := by decide +kernel
theorem dL_law_676 : decode cL_law 676 = .ok (.iload_n 3, 1) := by decide +kernel
theorem dL_law_677 : decode cL_law 677 = .ok (.iconst 1, 1) := by decide +kernel
theorem dL_law_678 : decode cL_law 678 = .ok (.iadd, 1) := by decide +kernel
theorem dL_law_679 : decode cL_law 679 = .ok (.iaload, 1) := by decide +kernel
theorem dL_law_680 : decode cL_law 680 = .ok (.aload_n 0, 1) := by decide +kernel
theorem dL_law_681 : decode cL_law 681 = .ok (.iload_n 3, 1) := by decide +kernel
theorem dL_law_682 : decode cL_law 682 = .ok (.iconst 2, 1) := by decide +kernel
theorem dL_law_683 : decode cL_law 683 = .ok (.iadd, 1) := by decide +kernel
theorem dL_law_684 : decode cL_law 684 = .ok (.iaload, 1) := by decide +kernel
theorem dL_law_685 : decode cL_law 685 = .ok (.invokevirtual 99, 3) := by decide +kernel
theorem dL_law_688 : decode cL_law 688 = .ok (.if_icmp .eq 363, 3) := by decide +kernel
theorem dL_law_691 : decode cL_law 691 = .ok (.iconst 0, 1) := by decide +kernel
theorem dL_law_692 : decode cL_law 692 = .ok (.ireturn, 1) := by decide +kernel
theorem dL_law_693 : decode cL_law 693 = .ok (.aload_n 1, 1) := by decide +kernel
theorem dL_law_694 : decode cL_law 694 = .ok (.aload_n 0, 1) := by decide +kernel
theorem dL_law_695 : decode cL_law 695 = .ok (.iload_n 3, 1) := by decide +kernel
theorem dL_law_696 : decode cL_law 696 = .ok (.iconst 1, 1) := by decide +kernel
theorem dL_law_697 : decode cL_law 697 = .ok (.iadd, 1) := by decide +kernel
theorem dL_law_698 : decode cL_law 698 = .ok (.iaload, 1) := by decide +kernel
theorem dL_law_699 : decode cL_law 699 = .ok (.invokevirtual 100, 3) := by decide +kernel
theorem dL_law_702 : decode cL_law 702 = .ok (.aload_n 2, 1) := by decide +kernel
theorem dL_law_703 : decode cL_law 703 = .ok (.aload_n 0, 1) := by decide +kernel
theorem dL_law_704 : decode cL_law 704 = .ok (.iload_n 3, 1) := by decide +kernel
theorem dL_law_705 : decode cL_law 705 = .ok (.iconst 1, 1) := by decide +kernel
theorem dL_law_706 : decode cL_law 706 = .ok (.iadd, 1) := by decide +kernel
theorem dL_law_707 : decode cL_law 707 = .ok (.iaload, 1) := by decide +kernel
theorem dL_law_708 : decode cL_law 708 = .ok (.invokevirtual 103, 3) := by decide +kernel
theorem dL_law_711 : decode cL_law 711 = .ok (.if_icmp .eq 340, 3) := by decide +kernel
theorem dL_law_714 : decode cL_law 714 = .ok (.iconst 0, 1) := by decide +kernel
theorem dL_law_715 : decode cL_law 715 = .ok (.ireturn, 1) := by decide +kernel
theorem dL_law_716 : decode cL_law 716 = .ok (.aload_n 1, 1) := by decide +kernel
theorem dL_law_717 : decode cL_law 717 = .ok (.aload_n 0, 1) := by decide +kernel
theorem dL_law_718 : decode cL_law 718 = .ok (.iload_n 3, 1) := by decide +kernel
theorem dL_law_719 : decode cL_law 719 = .ok (.iconst 1, 1) := by decide +kernel
theorem dL_law_720 : decode cL_law 720 = .ok (.iadd, 1) := by decide +kernel
theorem dL_law_721 : decode cL_law 721 = .ok (.iaload, 1) := by decide +kernel
theorem dL_law_722 : decode cL_law 722 = .ok (.aload_n 0, 1) := by decide +kernel
theorem dL_law_723 : decode cL_law 723 = .ok (.iload_n 3, 1) := by decide +kernel
theorem dL_law_724 : decode cL_law 724 = .ok (.iconst 2, 1) := by decide +kernel
theorem dL_law_725 : decode cL_law 725 = .ok (.iadd, 1) := by decide +kernel
theorem dL_law_726 : decode cL_law 726 = .ok (.iaload, 1) := by decide +kernel
theorem dL_law_727 : decode cL_law 727 = .ok (.invokevirtual 104, 3) := by decide +kernel
theorem dL_law_730 : decode cL_law 730 = .ok (.aload_n 2, 1) := by decide +kernel
theorem dL_law_731 : decode cL_law 731 = .ok (.aload_n 0, 1) := by decide +kernel
theorem dL_law_732 : decode cL_law 732 = .ok (.iload_n 3, 1) := by decide +kernel
theorem dL_law_733 : decode cL_law 733 = .ok (.iconst 1, 1) := by decide +kernel
theorem dL_law_734 : decode cL_law 734 = .ok (.iadd, 1) := by decide +kernel
theorem dL_law_735 : decode cL_law 735 = .ok (.iaload, 1) := by decide +kernel
theorem dL_law_736 : decode cL_law 736 = .ok (.aload_n 0, 1) := by decide +kernel
theorem dL_law_737 : decode cL_law 737 = .ok (.iload_n 3, 1) := by decide +kernel
theorem dL_law_738 : decode cL_law 738 = .ok (.iconst 2, 1) := by decide +kernel
theorem dL_law_739 : decode cL_law 739 = .ok (.iadd, 1) := by decide +kernel
theorem dL_law_740 : decode cL_law 740 = .ok (.iaload, 1) := by decide +kernel
theorem dL_law_741 : decode cL_law 741 = .ok (.invokevirtual 107, 3) := by decide +kernel
theorem dL_law_744 : decode cL_law 744 = .ok (.if_icmp .eq 307, 3) := by decide +kernel
theorem dL_law_747 : decode cL_law 747 = .ok (.iconst 0, 1) := by decide +kernel
theorem dL_law_748 : decode cL_law 748 = .ok (.ireturn, 1) := by decide +kernel
theorem dL_law_749 : decode cL_law 749 = .ok (.aload_n 1, 1) := by decide +kernel
theorem dL_law_750 : decode cL_law 750 = .ok (.aload_n 0, 1) := by decide +kernel
theorem dL_law_751 : decode cL_law 751 = .ok (.iload_n 3, 1) := by decide +kernel
theorem dL_law_752 : decode cL_law 752 = .ok (.iconst 1, 1) := by decide +kernel
theorem dL_law_753 : decode cL_law 753 = .ok (.iadd, 1) := by decide +kernel
theorem dL_law_754 : decode cL_law 754 = .ok (.iaload, 1) := by decide +kernel
theorem dL_law_755 : decode cL_law 755 = .ok (.aload_n 0, 1) := by decide +kernel
theorem dL_law_756 : decode cL_law 756 = .ok (.iload_n 3, 1) := by decide +kernel
theorem dL_law_757 : decode cL_law 757 = .ok (.iconst 2, 1) := by decide +kernel
theorem dL_law_758 : decode cL_law 758 = .ok (.iadd, 1) := by decide +kernel
theorem dL_law_759 : decode cL_law 759 = .ok (.iaload, 1) := by decide +kernel
theorem dL_law_760 : decode cL_law 760 = .ok (.invokevirtual 108, 3) := by decide +kernel
theorem dL_law_763 : decode cL_law 763 = .ok (.aload_n 2, 1) := by decide +kernel
theorem dL_law_764 : decode cL_law 764 = .ok (.aload_n 0, 1) := by decide +kernel
theorem dL_law_765 : decode cL_law 765 = .ok (.iload_n 3, 1) := by decide +kernel
theorem dL_law_766 : decode cL_law 766 = .ok (.iconst 1, 1) := by decide +kernel
theorem dL_law_767 : decode cL_law 767 = .ok (.iadd, 1) := by decide +kernel
theorem dL_law_768 : decode cL_law 768 = .ok (.iaload, 1) := by decide +kernel
theorem dL_law_769 : decode cL_law 769 = .ok (.aload_n 0, 1) := by decide +kernel
theorem dL_law_770 : decode cL_law 770 = .ok (.iload_n 3, 1) := by decide +kernel
theorem dL_law_771 : decode cL_law 771 = .ok (.iconst 2, 1) := by decide +kernel
theorem dL_law_772 : decode cL_law 772 = .ok (.iadd, 1) := by decide +kernel
theorem dL_law_773 : decode cL_law 773 = .ok (.iaload, 1) := by decide +kernel
theorem dL_law_774 : decode cL_law 774 = .ok (.invokevirtual 111, 3) := by decide +kernel
theorem dL_law_777 : decode cL_law 777 = .ok (.if_icmp .eq 274, 3) := by decide +kernel
theorem dL_law_780 : decode cL_law 780 = .ok (.iconst 0, 1) := by decide +kernel
theorem dL_law_781 : decode cL_law 781 = .ok (.ireturn, 1) := by decide +kernel
theorem dL_law_782 : decode cL_law 782 = .ok (.aload_n 1, 1) := by decide +kernel
theorem dL_law_783 : decode cL_law 783 = .ok (.aload_n 0, 1) := by decide +kernel
theorem dL_law_784 : decode cL_law 784 = .ok (.iload_n 3, 1) := by decide +kernel
theorem dL_law_785 : decode cL_law 785 = .ok (.iconst 1, 1) := by decide +kernel
theorem dL_law_786 : decode cL_law 786 = .ok (.iadd, 1) := by decide +kernel
theorem dL_law_787 : decode cL_law 787 = .ok (.iaload, 1) := by decide +kernel
theorem dL_law_788 : decode cL_law 788 = .ok (.aload_n 0, 1) := by decide +kernel
theorem dL_law_789 : decode cL_law 789 = .ok (.iload_n 3, 1) := by decide +kernel
theorem dL_law_790 : decode cL_law 790 = .ok (.iconst 2, 1) := by decide +kernel
theorem dL_law_791 : decode cL_law 791 = .ok (.iadd, 1) := by decide +kernel
theorem dL_law_792 : decode cL_law 792 = .ok (.iaload, 1) := by decide +kernel
theorem dL_law_793 : decode cL_law 793 = .ok (.invokevirtual 112, 3) := by decide +kernel
theorem dL_law_796 : decode cL_law 796 = .ok (.aload_n 2, 1) := by decide +kernel
theorem dL_law_797 : decode cL_law 797 = .ok (.aload_n 0, 1) := by decide +kernel
theorem dL_law_798 : decode cL_law 798 = .ok (.iload_n 3, 1) := by decide +kernel
theorem dL_law_799 : decode cL_law 799 = .ok (.iconst 1, 1) := by decide +kernel
theorem dL_law_800 : decode cL_law 800 = .ok (.iadd, 1) := by decide +kernel
theorem dL_law_801 : decode cL_law 801 = .ok (.iaload, 1) := by decide +kernel
theorem dL_law_802 : decode cL_law 802 = .ok (.aload_n 0, 1) := by decide +kernel
theorem dL_law_803 : decode cL_law 803 = .ok (.iload_n 3, 1) := by decide +kernel
theorem dL_law_804 : decode cL_law 804 = .ok (.iconst 2, 1) := by decide +kernel
theorem dL_law_805 : decode cL_law 805 = .ok (.iadd, 1) := by decide +kernel
theorem dL_law_806 : decode cL_law 806 = .ok (.iaload, 1) := by decide +kernel
theorem dL_law_807 : decode cL_law 807 = .ok (.invokevirtual 115, 3) := by decide +kernel
theorem dL_law_810 : decode cL_law 810 = .ok (.if_icmp .eq 241, 3) := by decide +kernel
theorem dL_law_813 : decode cL_law 813 = .ok (.iconst 0, 1) := by decide +kernel
theorem dL_law_814 : decode cL_law 814 = .ok (.ireturn, 1) := by decide +kernel
theorem dL_law_815 : decode cL_law 815 = .ok (.aload_n 1, 1) := by decide +kernel
theorem dL_law_816 : decode cL_law 816 = .ok (.aload_n 0, 1) := by decide +kernel
theorem dL_law_817 : decode cL_law 817 = .ok (.iload_n 3, 1) := by decide +kernel
theorem dL_law_818 : decode cL_law 818 = .ok (.iconst 1, 1) := by decide +kernel
theorem dL_law_819 : decode cL_law 819 = .ok (.iadd, 1) := by decide +kernel
theorem dL_law_820 : decode cL_law 820 = .ok (.iaload, 1) := by decide +kernel
theorem dL_law_821 : decode cL_law 821 = .ok (.invokevirtual 116, 3) := by decide +kernel
theorem dL_law_824 : decode cL_law 824 = .ok (.aload_n 2, 1) := by decide +kernel
theorem dL_law_825 : decode cL_law 825 = .ok (.aload_n 0, 1) := by decide +kernel
theorem dL_law_826 : decode cL_law 826 = .ok (.iload_n 3, 1) := by decide +kernel
theorem dL_law_827 : decode cL_law 827 = .ok (.iconst 1, 1) := by decide +kernel
theorem dL_law_828 : decode cL_law 828 = .ok (.iadd, 1) := by decide +kernel
theorem dL_law_829 : decode cL_law 829 = .ok (.iaload, 1) := by decide +kernel
theorem dL_law_830 : decode cL_law 830 = .ok (.invokevirtual 119, 3) := by decide +kernel
theorem dL_law_833 : decode cL_law 833 = .ok (.if_icmp .eq 218, 3) := by decide +kernel
theorem dL_law_836 : decode cL_law 836 = .ok (.iconst 0, 1) := by decide +kernel
theorem dL_law_837 : decode cL_law 837 = .ok (.ireturn, 1) := by decide +kernel
theorem dL_law_838 : decode cL_law 838 = .ok (.aload_n 1, 1) := by decide +kernel
theorem dL_law_839 : decode cL_law 839 = .ok (.aload_n 0, 1) := by decide +kernel
theorem dL_law_840 : decode cL_law 840 = .ok (.iload_n 3, 1) := by decide +kernel
theorem dL_law_841 : decode cL_law 841 = .ok (.iconst 1, 1) := by decide +kernel
theorem dL_law_842 : decode cL_law 842 = .ok (.iadd, 1) := by decide +kernel
theorem dL_law_843 : decode cL_law 843 = .ok (.iaload, 1) := by decide +kernel
theorem dL_law_844 : decode cL_law 844 = .ok (.aload_n 0, 1) := by decide +kernel
theorem dL_law_845 : decode cL_law 845 = .ok (.iload_n 3, 1) := by decide +kernel
theorem dL_law_846 : decode cL_law 846 = .ok (.iconst 2, 1) := by decide +kernel
theorem dL_law_847 : decode cL_law 847 = .ok (.iadd, 1) := by decide +kernel
theorem dL_law_848 : decode cL_law 848 = .ok (.iaload, 1) := by decide +kernel
theorem dL_law_849 : decode cL_law 849 = .ok (.aload_n 0, 1) := by decide +kernel
theorem dL_law_850 : decode cL_law 850 = .ok (.iload_n 3, 1) := by decide +kernel
theorem dL_law_851 : decode cL_law 851 = .ok (.iconst 3, 1) := by decide +kernel
theorem dL_law_852 : decode cL_law 852 = .ok (.iadd, 1) := by decide +kernel
theorem dL_law_853 : decode cL_law 853 = .ok (.iaload, 1) := by decide +kernel
theorem dL_law_854 : decode cL_law 854 = .ok (.ifCond .eq 7, 3) := by decide +kernel
theorem dL_law_857 : decode cL_law 857 = .ok (.iconst 1, 1) := by decide +kernel
theorem dL_law_858 : decode cL_law 858 = .ok (.goto 4, 3) := by decide +kernel
theorem dL_law_861 : decode cL_law 861 = .ok (.iconst 0, 1) := by decide +kernel
theorem dL_law_862 : decode cL_law 862 = .ok (.invokevirtual 120, 3) := by decide +kernel
theorem dL_law_865 : decode cL_law 865 = .ok (.aload_n 2, 1) := by decide +kernel
theorem dL_law_866 : decode cL_law 866 = .ok (.aload_n 0, 1) := by decide +kernel
theorem dL_law_867 : decode cL_law 867 = .ok (.iload_n 3, 1) := by decide +kernel
theorem dL_law_868 : decode cL_law 868 = .ok (.iconst 1, 1) := by decide +kernel
theorem dL_law_869 : decode cL_law 869 = .ok (.iadd, 1) := by decide +kernel
theorem dL_law_870 : decode cL_law 870 = .ok (.iaload, 1) := by decide +kernel
theorem dL_law_871 : decode cL_law 871 = .ok (.aload_n 0, 1) := by decide +kernel
theorem dL_law_872 : decode cL_law 872 = .ok (.iload_n 3, 1) := by decide +kernel
theorem dL_law_873 : decode cL_law 873 = .ok (.iconst 2, 1) := by decide +kernel
theorem dL_law_874 : decode cL_law 874 = .ok (.iadd, 1) := by decide +kernel
theorem dL_law_875 : decode cL_law 875 = .ok (.iaload, 1) := by decide +kernel
theorem dL_law_876 : decode cL_law 876 = .ok (.aload_n 0, 1) := by decide +kernel
theorem dL_law_877 : decode cL_law 877 = .ok (.iload_n 3, 1) := by decide +kernel
theorem dL_law_878 : decode cL_law 878 = .ok (.iconst 3, 1) := by decide +kernel
theorem dL_law_879 : decode cL_law 879 = .ok (.iadd, 1) := by decide +kernel
theorem dL_law_880 : decode cL_law 880 = .ok (.iaload, 1) := by decide +kernel
theorem dL_law_881 : decode cL_law 881 = .ok (.ifCond .eq 7, 3) := by decide +kernel
theorem dL_law_884 : decode cL_law 884 = .ok (.iconst 1, 1) := by decide +kernel
theorem dL_law_885 : decode cL_law 885 = .ok (.goto 4, 3) := by decide +kernel
theorem dL_law_888 : decode cL_law 888 = .ok (.iconst 0, 1) := by decide +kernel
theorem dL_law_889 : decode cL_law 889 = .ok (.invokevirtual 124, 3) := by decide +kernel
theorem dL_law_892 : decode cL_law 892 = .ok (.if_icmp .eq 159, 3) := by decide +kernel
theorem dL_law_895 : decode cL_law 895 = .ok (.iconst 0, 1) := by decide +kernel
theorem dL_law_896 : decode cL_law 896 = .ok (.ireturn, 1) := by decide +kernel
theorem dL_law_897 : decode cL_law 897 = .ok (.aload_n 1, 1) := by decide +kernel
theorem dL_law_898 : decode cL_law 898 = .ok (.aload_n 0, 1) := by decide +kernel
theorem dL_law_899 : decode cL_law 899 = .ok (.iload_n 3, 1) := by decide +kernel
theorem dL_law_900 : decode cL_law 900 = .ok (.iconst 1, 1) := by decide +kernel
theorem dL_law_901 : decode cL_law 901 = .ok (.iadd, 1) := by decide +kernel
theorem dL_law_902 : decode cL_law 902 = .ok (.iaload, 1) := by decide +kernel
theorem dL_law_903 : decode cL_law 903 = .ok (.aload_n 0, 1) := by decide +kernel
theorem dL_law_904 : decode cL_law 904 = .ok (.iload_n 3, 1) := by decide +kernel
theorem dL_law_905 : decode cL_law 905 = .ok (.iconst 2, 1) := by decide +kernel
theorem dL_law_906 : decode cL_law 906 = .ok (.iadd, 1) := by decide +kernel
theorem dL_law_907 : decode cL_law 907 = .ok (.iaload, 1) := by decide +kernel
theorem dL_law_908 : decode cL_law 908 = .ok (.aload_n 0, 1) := by decide +kernel
theorem dL_law_909 : decode cL_law 909 = .ok (.iload_n 3, 1) := by decide +kernel
theorem dL_law_910 : decode cL_law 910 = .ok (.iconst 3, 1) := by decide +kernel
theorem dL_law_911 : decode cL_law 911 = .ok (.iadd, 1) := by decide +kernel
theorem dL_law_912 : decode cL_law 912 = .ok (.iaload, 1) := by decide +kernel
theorem dL_law_913 : decode cL_law 913 = .ok (.ifCond .eq 7, 3) := by decide +kernel
theorem dL_law_916 : decode cL_law 916 = .ok (.iconst 1, 1) := by decide +kernel
theorem dL_law_917 : decode cL_law 917 = .ok (.goto 4, 3) := by decide +kernel
theorem dL_law_920 : decode cL_law 920 = .ok (.iconst 0, 1) := by decide +kernel
theorem dL_law_921 : decode cL_law 921 = .ok (.invokevirtual 125, 3) := by decide +kernel
theorem dL_law_924 : decode cL_law 924 = .ok (.aload_n 2, 1) := by decide +kernel
theorem dL_law_925 : decode cL_law 925 = .ok (.aload_n 0, 1) := by decide +kernel
theorem dL_law_926 : decode cL_law 926 = .ok (.iload_n 3, 1) := by decide +kernel
theorem dL_law_927 : decode cL_law 927 = .ok (.iconst 1, 1) := by decide +kernel
theorem dL_law_928 : decode cL_law 928 = .ok (.iadd, 1) := by decide +kernel
theorem dL_law_929 : decode cL_law 929 = .ok (.iaload, 1) := by decide +kernel
theorem dL_law_930 : decode cL_law 930 = .ok (.aload_n 0, 1) := by decide +kernel
theorem dL_law_931 : decode cL_law 931 = .ok (.iload_n 3, 1) := by decide +kernel
theorem dL_law_932 : decode cL_law 932 = .ok (.iconst 2, 1) := by decide +kernel
theorem dL_law_933 : decode cL_law 933 = .ok (.iadd, 1) := by decide +kernel
theorem dL_law_934 : decode cL_law 934 = .ok (.iaload, 1) := by decide +kernel
theorem dL_law_935 : decode cL_law 935 = .ok (.aload_n 0, 1) := by decide +kernel
theorem dL_law_936 : decode cL_law 936 = .ok (.iload_n 3, 1) := by decide +kernel
theorem dL_law_937 : decode cL_law 937 = .ok (.iconst 3, 1) := by decide +kernel
theorem dL_law_938 : decode cL_law 938 = .ok (.iadd, 1) := by decide +kernel
theorem dL_law_939 : decode cL_law 939 = .ok (.iaload, 1) := by decide +kernel
theorem dL_law_940 : decode cL_law 940 = .ok (.ifCond .eq 7, 3) := by decide +kernel
theorem dL_law_943 : decode cL_law 943 = .ok (.iconst 1, 1) := by decide +kernel
theorem dL_law_944 : decode cL_law 944 = .ok (.goto 4, 3) := by decide +kernel
theorem dL_law_947 : decode cL_law 947 = .ok (.iconst 0, 1) := by decide +kernel
theorem dL_law_948 : decode cL_law 948 = .ok (.invokevirtual 128, 3) := by decide +kernel
theorem dL_law_951 : decode cL_law 951 = .ok (.if_icmp .eq 100, 3) := by decide +kernel
theorem dL_law_954 : decode cL_law 954 = .ok (.iconst 0, 1) := by decide +kernel
theorem dL_law_955 : decode cL_law 955 = .ok (.ireturn, 1) := by decide +kernel
theorem dL_law_956 : decode cL_law 956 = .ok (.aload_n 1, 1) := by decide +kernel
theorem dL_law_957 : decode cL_law 957 = .ok (.invokevirtual 129, 3) := by decide +kernel
theorem dL_law_960 : decode cL_law 960 = .ok (.aload_n 2, 1) := by decide +kernel
theorem dL_law_961 : decode cL_law 961 = .ok (.invokevirtual 132, 3) := by decide +kernel
theorem dL_law_964 : decode cL_law 964 = .ok (.if_icmp .eq 87, 3) := by decide +kernel
theorem dL_law_967 : decode cL_law 967 = .ok (.iconst 0, 1) := by decide +kernel
theorem dL_law_968 : decode cL_law 968 = .ok (.ireturn, 1) := by decide +kernel
theorem dL_law_969 : decode cL_law 969 = .ok (.aload_n 1, 1) := by decide +kernel
theorem dL_law_970 : decode cL_law 970 = .ok (.invokevirtual 133, 3) := by decide +kernel
theorem dL_law_973 : decode cL_law 973 = .ok (.aload_n 2, 1) := by decide +kernel
theorem dL_law_974 : decode cL_law 974 = .ok (.invokevirtual 136, 3) := by decide +kernel
theorem dL_law_977 : decode cL_law 977 = .ok (.if_icmp .eq 74, 3) := by decide +kernel
theorem dL_law_980 : decode cL_law 980 = .ok (.iconst 0, 1) := by decide +kernel
theorem dL_law_981 : decode cL_law 981 = .ok (.ireturn, 1) := by decide +kernel
theorem dL_law_982 : decode cL_law 982 = .ok (.aload_n 1, 1) := by decide +kernel
theorem dL_law_983 : decode cL_law 983 = .ok (.aload_n 0, 1) := by decide +kernel
theorem dL_law_984 : decode cL_law 984 = .ok (.iload_n 3, 1) := by decide +kernel
theorem dL_law_985 : decode cL_law 985 = .ok (.iconst 1, 1) := by decide +kernel
theorem dL_law_986 : decode cL_law 986 = .ok (.iadd, 1) := by decide +kernel
theorem dL_law_987 : decode cL_law 987 = .ok (.iaload, 1) := by decide +kernel
theorem dL_law_988 : decode cL_law 988 = .ok (.invokevirtual 137, 3) := by decide +kernel
theorem dL_law_991 : decode cL_law 991 = .ok (.aload_n 2, 1) := by decide +kernel
theorem dL_law_992 : decode cL_law 992 = .ok (.aload_n 0, 1) := by decide +kernel
theorem dL_law_993 : decode cL_law 993 = .ok (.iload_n 3, 1) := by decide +kernel
theorem dL_law_994 : decode cL_law 994 = .ok (.iconst 1, 1) := by decide +kernel
theorem dL_law_995 : decode cL_law 995 = .ok (.iadd, 1) := by decide +kernel
theorem dL_law_996 : decode cL_law 996 = .ok (.iaload, 1) := by decide +kernel
theorem dL_law_997 : decode cL_law 997 = .ok (.invokevirtual 140, 3) := by decide +kernel
theorem dL_law_1000 : decode cL_law 1000 = .ok (.if_icmp .eq 51, 3) := by decide +kernel
theorem dL_law_1003 : decode cL_law 1003 = .ok (.iconst 0, 1) := by decide +kernel
theorem dL_law_1004 : decode cL_law 1004 = .ok (.ireturn, 1) := by decide +kernel
theorem dL_law_1005 : decode cL_law 1005 = .ok (.aload_n 1, 1) := by decide +kernel
theorem dL_law_1006 : decode cL_law 1006 = .ok (.aload_n 0, 1) := by decide +kernel
theorem dL_law_1007 : decode cL_law 1007 = .ok (.iload_n 3, 1) := by decide +kernel
theorem dL_law_1008 : decode cL_law 1008 = .ok (.iconst 1, 1) := by decide +kernel
theorem dL_law_1009 : decode cL_law 1009 = .ok (.iadd, 1) := by decide +kernel
theorem dL_law_1010 : decode cL_law 1010 = .ok (.iaload, 1) := by decide +kernel
theorem dL_law_1011 : decode cL_law 1011 = .ok (.invokevirtual 141, 3) := by decide +kernel
theorem dL_law_1014 : decode cL_law 1014 = .ok (.aload_n 2, 1) := by decide +kernel
theorem dL_law_1015 : decode cL_law 1015 = .ok (.aload_n 0, 1) := by decide +kernel
theorem dL_law_1016 : decode cL_law 1016 = .ok (.iload_n 3, 1) := by decide +kernel
theorem dL_law_1017 : decode cL_law 1017 = .ok (.iconst 1, 1) := by decide +kernel
theorem dL_law_1018 : decode cL_law 1018 = .ok (.iadd, 1) := by decide +kernel
theorem dL_law_1019 : decode cL_law 1019 = .ok (.iaload, 1) := by decide +kernel
theorem dL_law_1020 : decode cL_law 1020 = .ok (.invokevirtual 144, 3) := by decide +kernel
theorem dL_law_1023 : decode cL_law 1023 = .ok (.if_icmp .eq 28, 3) := by decide +kernel
theorem dL_law_1026 : decode cL_law 1026 = .ok (.iconst 0, 1) := by decide +kernel
theorem dL_law_1027 : decode cL_law 1027 = .ok (.ireturn, 1) := by decide +kernel
theorem dL_law_1028 : decode cL_law 1028 = .ok (.aload_n 1, 1) := by decide +kernel
theorem dL_law_1029 : decode cL_law 1029 = .ok (.aload_n 0, 1) := by decide +kernel
theorem dL_law_1030 : decode cL_law 1030 = .ok (.iload_n 3, 1) := by decide +kernel
theorem dL_law_1031 : decode cL_law 1031 = .ok (.iconst 1, 1) := by decide +kernel
theorem dL_law_1032 : decode cL_law 1032 = .ok (.iadd, 1) := by decide +kernel
theorem dL_law_1033 : decode cL_law 1033 = .ok (.iaload, 1) := by decide +kernel
theorem dL_law_1034 : decode cL_law 1034 = .ok (.invokevirtual 145, 3) := by decide +kernel
theorem dL_law_1037 : decode cL_law 1037 = .ok (.aload_n 2, 1) := by decide +kernel
theorem dL_law_1038 : decode cL_law 1038 = .ok (.aload_n 0, 1) := by decide +kernel
theorem dL_law_1039 : decode cL_law 1039 = .ok (.iload_n 3, 1) := by decide +kernel
theorem dL_law_1040 : decode cL_law 1040 = .ok (.iconst 1, 1) := by decide +kernel
theorem dL_law_1041 : decode cL_law 1041 = .ok (.iadd, 1) := by decide +kernel
theorem dL_law_1042 : decode cL_law 1042 = .ok (.iaload, 1) := by decide +kernel
theorem dL_law_1043 : decode cL_law 1043 = .ok (.invokevirtual 148, 3) := by decide +kernel
theorem dL_law_1046 : decode cL_law 1046 = .ok (.if_icmp .eq 5, 3) := by decide +kernel
theorem dL_law_1049 : decode cL_law 1049 = .ok (.iconst 0, 1) := by decide +kernel
theorem dL_law_1050 : decode cL_law 1050 = .ok (.ireturn, 1) := by decide +kernel
theorem dL_law_1051 : decode cL_law 1051 = .ok (.iinc 3 4, 3) := by decide +kernel
theorem dL_law_1054 : decode cL_law 1054 = .ok (.goto (-1036), 3) := by decide +kernel
theorem dL_law_1057 : decode cL_law 1057 = .ok (.iconst 1, 1) := by decide +kernel
theorem dL_law_1058 : decode cL_law 1058 = .ok (.ireturn, 1) := by decide +kernel
def bz (v : Int32) : Int32 := if v = 0 then 0 else 1
theorem bz_isB (v : Int32) : isB (bz v) := by
  unfold bz
  split
  · exact Or.inl rfl
  · exact Or.inr rfl
variable {κ : gK} {N : Nat} {xs : Nat → Int32}
theorem l_bool {pc : Nat} {L S : List Value} {M : MM} {v : Int32} (d0 : decode code pc = .ok (.ifCond .eq 7, 3)) (d1 : decode code (pc + 3) = .ok (.iconst 1, 1)) (d2 : decode code (pc + 4) = .ok (.goto 4, 3)) (d3 : decode code (pc + 7) = .ok (.iconst 0, 1)) (kk : GL κ N xs (pc + 8) L (.int (bz v) :: S) M) : GL κ N xs pc L (.int v :: S) M := by
  refine l_if_eq (tgt := pc + 7) d0 (by omega) (fun h => ?_) (fun h => ?_)
  · refine l_iconst (v := 0) d3 rfl ?_
    rw [show bz v = 0 from if_pos h] at kk
    exact kk
  · refine l_iconst (v := 1) d1 rfl ?_
    refine l_goto (tgt := pc + 8) d2 (by omega) ?_
    rw [show bz v = 1 from if_neg h] at kk
    exact kk
theorem arm_0 {i : Nat} {M : MM} (hI : IV M) (hN : N ≤ 256) (hi : i + 4 ≤ N) (hk : ∀ M, IV M → GL κ N xs 1051 (Lw i) [] M) : GL κ N xs 180 (Lw i) [] M := by
  refine l_aload_n dL_law_180 rfl rfl ?_
  refine l_arg (k := 1) (by omega) hN dL_law_181 dL_law_182 dL_law_183 dL_law_184 dL_law_185 rfl ?_
  refine l_call (μ' := mX10_feed) (c := 0) (ci := 10) (as := [.int (xs (i + 1))]) (S := []) dL_law_186 rfl rfl rfl ⟨⟨wt_305, wt_308, wt_1⟩, wt_306, wt_307⟩ okp_X10_feed rfl (Nat.le_of_ble_eq_true rfl) (Nat.le_of_ble_eq_true rfl) (Nat.le_of_ble_eq_true rfl) rfl rfl (Cl.mono (op_feed hI (xs (i + 1))) (fun r M1 h => ?_))
  refine l_aload_n dL_law_189 rfl rfl ?_
  refine l_arg (k := 1) (by omega) hN dL_law_190 dL_law_191 dL_law_192 dL_law_193 dL_law_194 rfl ?_
  refine l_call (μ' := mX11_feed) (c := 119) (ci := 11) (as := [.int (xs (i + 1))]) (S := [.int r]) dL_law_195 rfl rfl rfl ⟨⟨wt_865, wt_868, wt_12⟩, wt_866, wt_867⟩ okp_X11_feed rfl (Nat.le_of_ble_eq_true rfl) (Nat.le_of_ble_eq_true rfl) (Nat.le_of_ble_eq_true rfl) rfl rfl (Cl.mono h (fun r2 M2 h2 => ?_))
  exact l_icmp_eq (tgt := 1051) dL_law_198 (by decide) (fun _ => hk M2 h2.2) (fun hne => absurd h2.1 hne)
theorem arm_1 {i : Nat} {M : MM} (hI : IV M) (hN : N ≤ 256) (hi : i + 4 ≤ N) (hk : ∀ M, IV M → GL κ N xs 1051 (Lw i) [] M) : GL κ N xs 203 (Lw i) [] M := by
  refine l_aload_n dL_law_203 rfl rfl ?_
  refine l_call (μ' := mX10_town) (c := 0) (ci := 10) (as := []) (S := []) dL_law_204 rfl rfl rfl ⟨⟨wt_315, wt_318, wt_1⟩, wt_316, wt_317⟩ okp_X10_town rfl (Nat.le_of_ble_eq_true rfl) (Nat.le_of_ble_eq_true rfl) (Nat.le_of_ble_eq_true rfl) rfl rfl (Cl.mono (op_town hI) (fun r M1 h => ?_))
  refine l_aload_n dL_law_207 rfl rfl ?_
  refine l_call (μ' := mX11_town) (c := 119) (ci := 11) (as := []) (S := [.int r]) dL_law_208 rfl rfl rfl ⟨⟨wt_875, wt_878, wt_12⟩, wt_876, wt_877⟩ okp_X11_town rfl (Nat.le_of_ble_eq_true rfl) (Nat.le_of_ble_eq_true rfl) (Nat.le_of_ble_eq_true rfl) rfl rfl (Cl.mono h (fun r2 M2 h2 => ?_))
  exact l_icmp_eq (tgt := 1051) dL_law_211 (by decide) (fun _ => hk M2 h2.2) (fun hne => absurd h2.1 hne)
theorem arm_2 {i : Nat} {M : MM} (hI : IV M) (hN : N ≤ 256) (hi : i + 4 ≤ N) (hk : ∀ M, IV M → GL κ N xs 1051 (Lw i) [] M) : GL κ N xs 216 (Lw i) [] M := by
  refine l_aload_n dL_law_216 rfl rfl ?_
  refine l_call (μ' := mX10_fault) (c := 0) (ci := 10) (as := []) (S := []) dL_law_217 rfl rfl rfl ⟨⟨wt_397, wt_400, wt_1⟩, wt_398, wt_399⟩ okp_X10_fault rfl (Nat.le_of_ble_eq_true rfl) (Nat.le_of_ble_eq_true rfl) (Nat.le_of_ble_eq_true rfl) rfl rfl (Cl.mono (op_fault hI) (fun r M1 h => ?_))
  refine l_aload_n dL_law_220 rfl rfl ?_
  refine l_call (μ' := mX11_fault) (c := 119) (ci := 11) (as := []) (S := [.int r]) dL_law_221 rfl rfl rfl ⟨⟨wt_913, wt_916, wt_12⟩, wt_914, wt_915⟩ okp_X11_fault rfl (Nat.le_of_ble_eq_true rfl) (Nat.le_of_ble_eq_true rfl) (Nat.le_of_ble_eq_true rfl) rfl rfl (Cl.mono h (fun r2 M2 h2 => ?_))
  exact l_icmp_eq (tgt := 1051) dL_law_224 (by decide) (fun _ => hk M2 h2.2) (fun hne => absurd h2.1 hne)
theorem arm_3 {i : Nat} {M : MM} (hI : IV M) (hN : N ≤ 256) (hi : i + 4 ≤ N) (hk : ∀ M, IV M → GL κ N xs 1051 (Lw i) [] M) : GL κ N xs 229 (Lw i) [] M := by
  refine l_aload_n dL_law_229 rfl rfl ?_
  refine l_arg (k := 1) (by omega) hN dL_law_230 dL_law_231 dL_law_232 dL_law_233 dL_law_234 rfl ?_
  refine l_call (μ' := mX10_told) (c := 0) (ci := 10) (as := [.int (xs (i + 1))]) (S := []) dL_law_235 rfl rfl rfl ⟨⟨wt_401, wt_404, wt_1⟩, wt_402, wt_403⟩ okp_X10_told rfl (Nat.le_of_ble_eq_true rfl) (Nat.le_of_ble_eq_true rfl) (Nat.le_of_ble_eq_true rfl) rfl rfl (Cl.mono (op_told hI (xs (i + 1))) (fun r M1 h => ?_))
  refine l_aload_n dL_law_238 rfl rfl ?_
  refine l_arg (k := 1) (by omega) hN dL_law_239 dL_law_240 dL_law_241 dL_law_242 dL_law_243 rfl ?_
  refine l_call (μ' := mX11_told) (c := 119) (ci := 11) (as := [.int (xs (i + 1))]) (S := [.int r]) dL_law_244 rfl rfl rfl ⟨⟨wt_917, wt_920, wt_12⟩, wt_918, wt_919⟩ okp_X11_told rfl (Nat.le_of_ble_eq_true rfl) (Nat.le_of_ble_eq_true rfl) (Nat.le_of_ble_eq_true rfl) rfl rfl (Cl.mono h (fun r2 M2 h2 => ?_))
  exact l_icmp_eq (tgt := 1051) dL_law_247 (by decide) (fun _ => hk M2 h2.2) (fun hne => absurd h2.1 hne)
theorem arm_4 {i : Nat} {M : MM} (hI : IV M) (hN : N ≤ 256) (hi : i + 4 ≤ N) (hk : ∀ M, IV M → GL κ N xs 1051 (Lw i) [] M) : GL κ N xs 252 (Lw i) [] M := by
  refine l_aload_n dL_law_252 rfl rfl ?_
  refine l_arg (k := 1) (by omega) hN dL_law_253 dL_law_254 dL_law_255 dL_law_256 dL_law_257 rfl ?_
  refine l_arg (k := 2) (by omega) hN dL_law_258 dL_law_259 dL_law_260 dL_law_261 dL_law_262 rfl ?_
  refine l_call (μ' := mX10_person) (c := 0) (ci := 10) (as := [.int (xs (i + 1)), .int (xs (i + 2))]) (S := []) dL_law_263 rfl rfl rfl ⟨⟨wt_463, wt_466, wt_1⟩, wt_464, wt_465⟩ okp_X10_person rfl (Nat.le_of_ble_eq_true rfl) (Nat.le_of_ble_eq_true rfl) (Nat.le_of_ble_eq_true rfl) rfl rfl (Cl.mono (op_person hI (xs (i + 1)) (xs (i + 2))) (fun r M1 h => ?_))
  refine l_aload_n dL_law_266 rfl rfl ?_
  refine l_arg (k := 1) (by omega) hN dL_law_267 dL_law_268 dL_law_269 dL_law_270 dL_law_271 rfl ?_
  refine l_arg (k := 2) (by omega) hN dL_law_272 dL_law_273 dL_law_274 dL_law_275 dL_law_276 rfl ?_
  refine l_call (μ' := mX11_person) (c := 119) (ci := 11) (as := [.int (xs (i + 1)), .int (xs (i + 2))]) (S := [.int r]) dL_law_277 rfl rfl rfl ⟨⟨wt_976, wt_979, wt_12⟩, wt_977, wt_978⟩ okp_X11_person rfl (Nat.le_of_ble_eq_true rfl) (Nat.le_of_ble_eq_true rfl) (Nat.le_of_ble_eq_true rfl) rfl rfl (Cl.mono h (fun r2 M2 h2 => ?_))
  exact l_icmp_eq (tgt := 1051) dL_law_280 (by decide) (fun _ => hk M2 h2.2) (fun hne => absurd h2.1 hne)
theorem arm_5 {i : Nat} {M : MM} (hI : IV M) (hN : N ≤ 256) (hi : i + 4 ≤ N) (hk : ∀ M, IV M → GL κ N xs 1051 (Lw i) [] M) : GL κ N xs 285 (Lw i) [] M := by
  refine l_aload_n dL_law_285 rfl rfl ?_
  refine l_arg (k := 1) (by omega) hN dL_law_286 dL_law_287 dL_law_288 dL_law_289 dL_law_290 rfl ?_
  refine l_call (μ' := mX10_onLayer) (c := 0) (ci := 10) (as := [.int (xs (i + 1))]) (S := []) dL_law_291 rfl rfl rfl ⟨⟨wt_470, wt_473, wt_1⟩, wt_471, wt_472⟩ okp_X10_onLayer rfl (Nat.le_of_ble_eq_true rfl) (Nat.le_of_ble_eq_true rfl) (Nat.le_of_ble_eq_true rfl) rfl rfl (Cl.mono (op_onLayer hI (xs (i + 1))) (fun r M1 h => ?_))
  refine l_aload_n dL_law_294 rfl rfl ?_
  refine l_arg (k := 1) (by omega) hN dL_law_295 dL_law_296 dL_law_297 dL_law_298 dL_law_299 rfl ?_
  refine l_call (μ' := mX11_onLayer) (c := 119) (ci := 11) (as := [.int (xs (i + 1))]) (S := [.int r]) dL_law_300 rfl rfl rfl ⟨⟨wt_989, wt_992, wt_12⟩, wt_990, wt_991⟩ okp_X11_onLayer rfl (Nat.le_of_ble_eq_true rfl) (Nat.le_of_ble_eq_true rfl) (Nat.le_of_ble_eq_true rfl) rfl rfl (Cl.mono h (fun r2 M2 h2 => ?_))
  exact l_icmp_eq (tgt := 1051) dL_law_303 (by decide) (fun _ => hk M2 h2.2) (fun hne => absurd h2.1 hne)
theorem arm_6 {i : Nat} {M : MM} (hI : IV M) (hN : N ≤ 256) (hi : i + 4 ≤ N) (hk : ∀ M, IV M → GL κ N xs 1051 (Lw i) [] M) : GL κ N xs 308 (Lw i) [] M := by
  refine l_aload_n dL_law_308 rfl rfl ?_
  refine l_arg (k := 1) (by omega) hN dL_law_309 dL_law_310 dL_law_311 dL_law_312 dL_law_313 rfl ?_
  refine l_call (μ' := mX10_dawn) (c := 0) (ci := 10) (as := [.int (xs (i + 1))]) (S := []) dL_law_314 rfl rfl rfl ⟨⟨wt_478, wt_481, wt_1⟩, wt_479, wt_480⟩ okp_X10_dawn rfl (Nat.le_of_ble_eq_true rfl) (Nat.le_of_ble_eq_true rfl) (Nat.le_of_ble_eq_true rfl) rfl rfl (Cl.mono (op_dawn hI (xs (i + 1))) (fun r M1 h => ?_))
  refine l_aload_n dL_law_317 rfl rfl ?_
  refine l_arg (k := 1) (by omega) hN dL_law_318 dL_law_319 dL_law_320 dL_law_321 dL_law_322 rfl ?_
  refine l_call (μ' := mX11_dawn) (c := 119) (ci := 11) (as := [.int (xs (i + 1))]) (S := [.int r]) dL_law_323 rfl rfl rfl ⟨⟨wt_997, wt_1000, wt_12⟩, wt_998, wt_999⟩ okp_X11_dawn rfl (Nat.le_of_ble_eq_true rfl) (Nat.le_of_ble_eq_true rfl) (Nat.le_of_ble_eq_true rfl) rfl rfl (Cl.mono h (fun r2 M2 h2 => ?_))
  exact l_icmp_eq (tgt := 1051) dL_law_326 (by decide) (fun _ => hk M2 h2.2) (fun hne => absurd h2.1 hne)
theorem arm_7 {i : Nat} {M : MM} (hI : IV M) (hN : N ≤ 256) (hi : i + 4 ≤ N) (hk : ∀ M, IV M → GL κ N xs 1051 (Lw i) [] M) : GL κ N xs 331 (Lw i) [] M := by
  refine l_aload_n dL_law_331 rfl rfl ?_
  refine l_arg (k := 1) (by omega) hN dL_law_332 dL_law_333 dL_law_334 dL_law_335 dL_law_336 rfl ?_
  refine l_call (μ' := mX10_crow) (c := 0) (ci := 10) (as := [.int (xs (i + 1))]) (S := []) dL_law_337 rfl rfl rfl ⟨⟨wt_518, wt_521, wt_1⟩, wt_519, wt_520⟩ okp_X10_crow rfl (Nat.le_of_ble_eq_true rfl) (Nat.le_of_ble_eq_true rfl) (Nat.le_of_ble_eq_true rfl) rfl rfl (Cl.mono (op_crow hI (xs (i + 1))) (fun r M1 h => ?_))
  refine l_aload_n dL_law_340 rfl rfl ?_
  refine l_arg (k := 1) (by omega) hN dL_law_341 dL_law_342 dL_law_343 dL_law_344 dL_law_345 rfl ?_
  refine l_call (μ' := mX11_crow) (c := 119) (ci := 11) (as := [.int (xs (i + 1))]) (S := [.int r]) dL_law_346 rfl rfl rfl ⟨⟨wt_1024, wt_1027, wt_12⟩, wt_1025, wt_1026⟩ okp_X11_crow rfl (Nat.le_of_ble_eq_true rfl) (Nat.le_of_ble_eq_true rfl) (Nat.le_of_ble_eq_true rfl) rfl rfl (Cl.mono h (fun r2 M2 h2 => ?_))
  exact l_icmp_eq (tgt := 1051) dL_law_349 (by decide) (fun _ => hk M2 h2.2) (fun hne => absurd h2.1 hne)
theorem arm_8 {i : Nat} {M : MM} (hI : IV M) (hN : N ≤ 256) (hi : i + 4 ≤ N) (hk : ∀ M, IV M → GL κ N xs 1051 (Lw i) [] M) : GL κ N xs 354 (Lw i) [] M := by
  refine l_aload_n dL_law_354 rfl rfl ?_
  refine l_arg (k := 1) (by omega) hN dL_law_355 dL_law_356 dL_law_357 dL_law_358 dL_law_359 rfl ?_
  refine l_arg (k := 2) (by omega) hN dL_law_360 dL_law_361 dL_law_362 dL_law_363 dL_law_364 rfl ?_
  refine l_call (μ' := mX10_step) (c := 0) (ci := 10) (as := [.int (xs (i + 1)), .int (xs (i + 2))]) (S := []) dL_law_365 rfl rfl rfl ⟨⟨wt_523, wt_526, wt_1⟩, wt_524, wt_525⟩ okp_X10_step rfl (Nat.le_of_ble_eq_true rfl) (Nat.le_of_ble_eq_true rfl) (Nat.le_of_ble_eq_true rfl) rfl rfl (Cl.mono (op_step hI (xs (i + 1)) (xs (i + 2))) (fun r M1 h => ?_))
  refine l_aload_n dL_law_368 rfl rfl ?_
  refine l_arg (k := 1) (by omega) hN dL_law_369 dL_law_370 dL_law_371 dL_law_372 dL_law_373 rfl ?_
  refine l_arg (k := 2) (by omega) hN dL_law_374 dL_law_375 dL_law_376 dL_law_377 dL_law_378 rfl ?_
  refine l_call (μ' := mX11_step) (c := 119) (ci := 11) (as := [.int (xs (i + 1)), .int (xs (i + 2))]) (S := [.int r]) dL_law_379 rfl rfl rfl ⟨⟨wt_1029, wt_1032, wt_12⟩, wt_1030, wt_1031⟩ okp_X11_step rfl (Nat.le_of_ble_eq_true rfl) (Nat.le_of_ble_eq_true rfl) (Nat.le_of_ble_eq_true rfl) rfl rfl (Cl.mono h (fun r2 M2 h2 => ?_))
  exact l_icmp_eq (tgt := 1051) dL_law_382 (by decide) (fun _ => hk M2 h2.2) (fun hne => absurd h2.1 hne)
theorem arm_9 {i : Nat} {M : MM} (hI : IV M) (hN : N ≤ 256) (hi : i + 4 ≤ N) (hk : ∀ M, IV M → GL κ N xs 1051 (Lw i) [] M) : GL κ N xs 387 (Lw i) [] M := by
  refine l_aload_n dL_law_387 rfl rfl ?_
  refine l_arg (k := 1) (by omega) hN dL_law_388 dL_law_389 dL_law_390 dL_law_391 dL_law_392 rfl ?_
  refine l_arg (k := 2) (by omega) hN dL_law_393 dL_law_394 dL_law_395 dL_law_396 dL_law_397 rfl ?_
  refine l_call (μ' := mX10_leave) (c := 0) (ci := 10) (as := [.int (xs (i + 1)), .int (xs (i + 2))]) (S := []) dL_law_398 rfl rfl rfl ⟨⟨wt_527, wt_530, wt_1⟩, wt_528, wt_529⟩ okp_X10_leave rfl (Nat.le_of_ble_eq_true rfl) (Nat.le_of_ble_eq_true rfl) (Nat.le_of_ble_eq_true rfl) rfl rfl (Cl.mono (op_leave hI (xs (i + 1)) (xs (i + 2))) (fun r M1 h => ?_))
  refine l_aload_n dL_law_401 rfl rfl ?_
  refine l_arg (k := 1) (by omega) hN dL_law_402 dL_law_403 dL_law_404 dL_law_405 dL_law_406 rfl ?_
  refine l_arg (k := 2) (by omega) hN dL_law_407 dL_law_408 dL_law_409 dL_law_410 dL_law_411 rfl ?_
  refine l_call (μ' := mX11_leave) (c := 119) (ci := 11) (as := [.int (xs (i + 1)), .int (xs (i + 2))]) (S := [.int r]) dL_law_412 rfl rfl rfl ⟨⟨wt_1033, wt_1036, wt_12⟩, wt_1034, wt_1035⟩ okp_X11_leave rfl (Nat.le_of_ble_eq_true rfl) (Nat.le_of_ble_eq_true rfl) (Nat.le_of_ble_eq_true rfl) rfl rfl (Cl.mono h (fun r2 M2 h2 => ?_))
  exact l_icmp_eq (tgt := 1051) dL_law_415 (by decide) (fun _ => hk M2 h2.2) (fun hne => absurd h2.1 hne)
theorem arm_10 {i : Nat} {M : MM} (hI : IV M) (hN : N ≤ 256) (hi : i + 4 ≤ N) (hk : ∀ M, IV M → GL κ N xs 1051 (Lw i) [] M) : GL κ N xs 420 (Lw i) [] M := by
  refine l_aload_n dL_law_420 rfl rfl ?_
  refine l_arg (k := 1) (by omega) hN dL_law_421 dL_law_422 dL_law_423 dL_law_424 dL_law_425 rfl ?_
  refine l_arg (k := 2) (by omega) hN dL_law_426 dL_law_427 dL_law_428 dL_law_429 dL_law_430 rfl ?_
  refine l_call (μ' := mX10_ear) (c := 0) (ci := 10) (as := [.int (xs (i + 1)), .int (xs (i + 2))]) (S := []) dL_law_431 rfl rfl rfl ⟨⟨wt_531, wt_534, wt_1⟩, wt_532, wt_533⟩ okp_X10_ear rfl (Nat.le_of_ble_eq_true rfl) (Nat.le_of_ble_eq_true rfl) (Nat.le_of_ble_eq_true rfl) rfl rfl (Cl.mono (op_ear hI (xs (i + 1)) (xs (i + 2))) (fun r M1 h => ?_))
  refine l_aload_n dL_law_434 rfl rfl ?_
  refine l_arg (k := 1) (by omega) hN dL_law_435 dL_law_436 dL_law_437 dL_law_438 dL_law_439 rfl ?_
  refine l_arg (k := 2) (by omega) hN dL_law_440 dL_law_441 dL_law_442 dL_law_443 dL_law_444 rfl ?_
  refine l_call (μ' := mX11_ear) (c := 119) (ci := 11) (as := [.int (xs (i + 1)), .int (xs (i + 2))]) (S := [.int r]) dL_law_445 rfl rfl rfl ⟨⟨wt_1037, wt_1040, wt_12⟩, wt_1038, wt_1039⟩ okp_X11_ear rfl (Nat.le_of_ble_eq_true rfl) (Nat.le_of_ble_eq_true rfl) (Nat.le_of_ble_eq_true rfl) rfl rfl (Cl.mono h (fun r2 M2 h2 => ?_))
  exact l_icmp_eq (tgt := 1051) dL_law_448 (by decide) (fun _ => hk M2 h2.2) (fun hne => absurd h2.1 hne)
theorem arm_11 {i : Nat} {M : MM} (hI : IV M) (hN : N ≤ 256) (hi : i + 4 ≤ N) (hk : ∀ M, IV M → GL κ N xs 1051 (Lw i) [] M) : GL κ N xs 453 (Lw i) [] M := by
  refine l_aload_n dL_law_453 rfl rfl ?_
  refine l_arg (k := 1) (by omega) hN dL_law_454 dL_law_455 dL_law_456 dL_law_457 dL_law_458 rfl ?_
  refine l_call (μ' := mX10_deed) (c := 0) (ci := 10) (as := [.int (xs (i + 1))]) (S := []) dL_law_459 rfl rfl rfl ⟨⟨wt_535, wt_538, wt_1⟩, wt_536, wt_537⟩ okp_X10_deed rfl (Nat.le_of_ble_eq_true rfl) (Nat.le_of_ble_eq_true rfl) (Nat.le_of_ble_eq_true rfl) rfl rfl (Cl.mono (op_deed hI (xs (i + 1))) (fun r M1 h => ?_))
  refine l_aload_n dL_law_462 rfl rfl ?_
  refine l_arg (k := 1) (by omega) hN dL_law_463 dL_law_464 dL_law_465 dL_law_466 dL_law_467 rfl ?_
  refine l_call (μ' := mX11_deed) (c := 119) (ci := 11) (as := [.int (xs (i + 1))]) (S := [.int r]) dL_law_468 rfl rfl rfl ⟨⟨wt_1041, wt_1044, wt_12⟩, wt_1042, wt_1043⟩ okp_X11_deed rfl (Nat.le_of_ble_eq_true rfl) (Nat.le_of_ble_eq_true rfl) (Nat.le_of_ble_eq_true rfl) rfl rfl (Cl.mono h (fun r2 M2 h2 => ?_))
  exact l_icmp_eq (tgt := 1051) dL_law_471 (by decide) (fun _ => hk M2 h2.2) (fun hne => absurd h2.1 hne)
theorem arm_12 {i : Nat} {M : MM} (hI : IV M) (hN : N ≤ 256) (hi : i + 4 ≤ N) (hk : ∀ M, IV M → GL κ N xs 1051 (Lw i) [] M) : GL κ N xs 476 (Lw i) [] M := by
  refine l_aload_n dL_law_476 rfl rfl ?_
  refine l_call (μ' := mX10_wipe) (c := 0) (ci := 10) (as := []) (S := []) dL_law_477 rfl rfl rfl ⟨⟨wt_539, wt_542, wt_1⟩, wt_540, wt_541⟩ okp_X10_wipe rfl (Nat.le_of_ble_eq_true rfl) (Nat.le_of_ble_eq_true rfl) (Nat.le_of_ble_eq_true rfl) rfl rfl (Cl.mono (op_wipe hI) (fun r M1 h => ?_))
  refine l_aload_n dL_law_480 rfl rfl ?_
  refine l_call (μ' := mX11_wipe) (c := 119) (ci := 11) (as := []) (S := [.int r]) dL_law_481 rfl rfl rfl ⟨⟨wt_1045, wt_1048, wt_12⟩, wt_1046, wt_1047⟩ okp_X11_wipe rfl (Nat.le_of_ble_eq_true rfl) (Nat.le_of_ble_eq_true rfl) (Nat.le_of_ble_eq_true rfl) rfl rfl (Cl.mono h (fun r2 M2 h2 => ?_))
  exact l_icmp_eq (tgt := 1051) dL_law_484 (by decide) (fun _ => hk M2 h2.2) (fun hne => absurd h2.1 hne)
theorem arm_13 {i : Nat} {M : MM} (hI : IV M) (hN : N ≤ 256) (hi : i + 4 ≤ N) (hk : ∀ M, IV M → GL κ N xs 1051 (Lw i) [] M) : GL κ N xs 489 (Lw i) [] M := by
  refine l_aload_n dL_law_489 rfl rfl ?_
  refine l_arg (k := 1) (by omega) hN dL_law_490 dL_law_491 dL_law_492 dL_law_493 dL_law_494 rfl ?_
  refine l_call (μ' := mX10_drift) (c := 0) (ci := 10) (as := [.int (xs (i + 1))]) (S := []) dL_law_495 rfl rfl rfl ⟨⟨wt_543, wt_546, wt_1⟩, wt_544, wt_545⟩ okp_X10_drift rfl (Nat.le_of_ble_eq_true rfl) (Nat.le_of_ble_eq_true rfl) (Nat.le_of_ble_eq_true rfl) rfl rfl (Cl.mono (op_drift hI (xs (i + 1))) (fun r M1 h => ?_))
  refine l_aload_n dL_law_498 rfl rfl ?_
  refine l_arg (k := 1) (by omega) hN dL_law_499 dL_law_500 dL_law_501 dL_law_502 dL_law_503 rfl ?_
  refine l_call (μ' := mX11_drift) (c := 119) (ci := 11) (as := [.int (xs (i + 1))]) (S := [.int r]) dL_law_504 rfl rfl rfl ⟨⟨wt_1049, wt_1052, wt_12⟩, wt_1050, wt_1051⟩ okp_X11_drift rfl (Nat.le_of_ble_eq_true rfl) (Nat.le_of_ble_eq_true rfl) (Nat.le_of_ble_eq_true rfl) rfl rfl (Cl.mono h (fun r2 M2 h2 => ?_))
  exact l_icmp_eq (tgt := 1051) dL_law_507 (by decide) (fun _ => hk M2 h2.2) (fun hne => absurd h2.1 hne)
theorem arm_14 {i : Nat} {M : MM} (hI : IV M) (hN : N ≤ 256) (hi : i + 4 ≤ N) (hk : ∀ M, IV M → GL κ N xs 1051 (Lw i) [] M) : GL κ N xs 512 (Lw i) [] M := by
  refine l_aload_n dL_law_512 rfl rfl ?_
  refine l_call (μ' := mX10_undo) (c := 0) (ci := 10) (as := []) (S := []) dL_law_513 rfl rfl rfl ⟨⟨wt_558, wt_561, wt_1⟩, wt_559, wt_560⟩ okp_X10_undo rfl (Nat.le_of_ble_eq_true rfl) (Nat.le_of_ble_eq_true rfl) (Nat.le_of_ble_eq_true rfl) rfl rfl (Cl.mono (op_undo hI) (fun r M1 h => ?_))
  refine l_aload_n dL_law_516 rfl rfl ?_
  refine l_call (μ' := mX11_undo) (c := 119) (ci := 11) (as := []) (S := [.int r]) dL_law_517 rfl rfl rfl ⟨⟨wt_1065, wt_1068, wt_12⟩, wt_1066, wt_1067⟩ okp_X11_undo rfl (Nat.le_of_ble_eq_true rfl) (Nat.le_of_ble_eq_true rfl) (Nat.le_of_ble_eq_true rfl) rfl rfl (Cl.mono h (fun r2 M2 h2 => ?_))
  exact l_icmp_eq (tgt := 1051) dL_law_520 (by decide) (fun _ => hk M2 h2.2) (fun hne => absurd h2.1 hne)
theorem arm_15 {i : Nat} {M : MM} (hI : IV M) (hN : N ≤ 256) (hi : i + 4 ≤ N) (hk : ∀ M, IV M → GL κ N xs 1051 (Lw i) [] M) : GL κ N xs 525 (Lw i) [] M := by
  refine l_aload_n dL_law_525 rfl rfl ?_
  refine l_arg (k := 1) (by omega) hN dL_law_526 dL_law_527 dL_law_528 dL_law_529 dL_law_530 rfl ?_
  refine l_arg (k := 2) (by omega) hN dL_law_531 dL_law_532 dL_law_533 dL_law_534 dL_law_535 rfl ?_
  refine l_call (μ' := mX10_layers) (c := 0) (ci := 10) (as := [.int (xs (i + 1)), .int (xs (i + 2))]) (S := []) dL_law_536 rfl rfl rfl ⟨⟨wt_566, wt_569, wt_1⟩, wt_567, wt_568⟩ okp_X10_layers rfl (Nat.le_of_ble_eq_true rfl) (Nat.le_of_ble_eq_true rfl) (Nat.le_of_ble_eq_true rfl) rfl rfl (Cl.mono (op_layers hI (xs (i + 1)) (xs (i + 2))) (fun r M1 h => ?_))
  refine l_aload_n dL_law_539 rfl rfl ?_
  refine l_arg (k := 1) (by omega) hN dL_law_540 dL_law_541 dL_law_542 dL_law_543 dL_law_544 rfl ?_
  refine l_arg (k := 2) (by omega) hN dL_law_545 dL_law_546 dL_law_547 dL_law_548 dL_law_549 rfl ?_
  refine l_call (μ' := mX11_layers) (c := 119) (ci := 11) (as := [.int (xs (i + 1)), .int (xs (i + 2))]) (S := [.int r]) dL_law_550 rfl rfl rfl ⟨⟨wt_1069, wt_1072, wt_12⟩, wt_1070, wt_1071⟩ okp_X11_layers rfl (Nat.le_of_ble_eq_true rfl) (Nat.le_of_ble_eq_true rfl) (Nat.le_of_ble_eq_true rfl) rfl rfl (Cl.mono h (fun r2 M2 h2 => ?_))
  exact l_icmp_eq (tgt := 1051) dL_law_553 (by decide) (fun _ => hk M2 h2.2) (fun hne => absurd h2.1 hne)
theorem arm_16 {i : Nat} {M : MM} (hI : IV M) (hN : N ≤ 256) (hi : i + 4 ≤ N) (hk : ∀ M, IV M → GL κ N xs 1051 (Lw i) [] M) : GL κ N xs 558 (Lw i) [] M := by
  refine l_aload_n dL_law_558 rfl rfl ?_
  refine l_arg (k := 1) (by omega) hN dL_law_559 dL_law_560 dL_law_561 dL_law_562 dL_law_563 rfl ?_
  refine l_arg (k := 2) (by omega) hN dL_law_564 dL_law_565 dL_law_566 dL_law_567 dL_law_568 rfl ?_
  refine l_call (μ' := mX10_first) (c := 0) (ci := 10) (as := [.int (xs (i + 1)), .int (xs (i + 2))]) (S := []) dL_law_569 rfl rfl rfl ⟨⟨wt_571, wt_574, wt_1⟩, wt_572, wt_573⟩ okp_X10_first rfl (Nat.le_of_ble_eq_true rfl) (Nat.le_of_ble_eq_true rfl) (Nat.le_of_ble_eq_true rfl) rfl rfl (Cl.mono (op_first hI (xs (i + 1)) (xs (i + 2))) (fun r M1 h => ?_))
  refine l_aload_n dL_law_572 rfl rfl ?_
  refine l_arg (k := 1) (by omega) hN dL_law_573 dL_law_574 dL_law_575 dL_law_576 dL_law_577 rfl ?_
  refine l_arg (k := 2) (by omega) hN dL_law_578 dL_law_579 dL_law_580 dL_law_581 dL_law_582 rfl ?_
  refine l_call (μ' := mX11_first) (c := 119) (ci := 11) (as := [.int (xs (i + 1)), .int (xs (i + 2))]) (S := [.int r]) dL_law_583 rfl rfl rfl ⟨⟨wt_1082, wt_1085, wt_12⟩, wt_1083, wt_1084⟩ okp_X11_first rfl (Nat.le_of_ble_eq_true rfl) (Nat.le_of_ble_eq_true rfl) (Nat.le_of_ble_eq_true rfl) rfl rfl (Cl.mono h (fun r2 M2 h2 => ?_))
  exact l_icmp_eq (tgt := 1051) dL_law_586 (by decide) (fun _ => hk M2 h2.2) (fun hne => absurd h2.1 hne)
theorem arm_17 {i : Nat} {M : MM} (hI : IV M) (hN : N ≤ 256) (hi : i + 4 ≤ N) (hk : ∀ M, IV M → GL κ N xs 1051 (Lw i) [] M) : GL κ N xs 591 (Lw i) [] M := by
  refine l_aload_n dL_law_591 rfl rfl ?_
  refine l_arg (k := 1) (by omega) hN dL_law_592 dL_law_593 dL_law_594 dL_law_595 dL_law_596 rfl ?_
  refine l_call (μ' := mX10_together) (c := 0) (ci := 10) (as := [.int (xs (i + 1))]) (S := []) dL_law_597 rfl rfl rfl ⟨⟨wt_575, wt_578, wt_1⟩, wt_576, wt_577⟩ okp_X10_together rfl (Nat.le_of_ble_eq_true rfl) (Nat.le_of_ble_eq_true rfl) (Nat.le_of_ble_eq_true rfl) rfl rfl (Cl.mono (op_together hI (xs (i + 1))) (fun r M1 h => ?_))
  refine l_aload_n dL_law_600 rfl rfl ?_
  refine l_arg (k := 1) (by omega) hN dL_law_601 dL_law_602 dL_law_603 dL_law_604 dL_law_605 rfl ?_
  refine l_call (μ' := mX11_together) (c := 119) (ci := 11) (as := [.int (xs (i + 1))]) (S := [.int r]) dL_law_606 rfl rfl rfl ⟨⟨wt_1086, wt_1089, wt_12⟩, wt_1087, wt_1088⟩ okp_X11_together rfl (Nat.le_of_ble_eq_true rfl) (Nat.le_of_ble_eq_true rfl) (Nat.le_of_ble_eq_true rfl) rfl rfl (Cl.mono h (fun r2 M2 h2 => ?_))
  exact l_icmp_eq (tgt := 1051) dL_law_609 (by decide) (fun _ => hk M2 h2.2) (fun hne => absurd h2.1 hne)
theorem arm_18 {i : Nat} {M : MM} (hI : IV M) (hN : N ≤ 256) (hi : i + 4 ≤ N) (hk : ∀ M, IV M → GL κ N xs 1051 (Lw i) [] M) : GL κ N xs 614 (Lw i) [] M := by
  refine l_aload_n dL_law_614 rfl rfl ?_
  refine l_call (μ' := mX10_asNow) (c := 0) (ci := 10) (as := []) (S := []) dL_law_615 rfl rfl rfl ⟨⟨wt_591, wt_594, wt_1⟩, wt_592, wt_593⟩ okp_X10_asNow rfl (Nat.le_of_ble_eq_true rfl) (Nat.le_of_ble_eq_true rfl) (Nat.le_of_ble_eq_true rfl) rfl rfl (Cl.mono (op_asNow hI) (fun r M1 h => ?_))
  refine l_aload_n dL_law_618 rfl rfl ?_
  refine l_call (μ' := mX11_asNow) (c := 119) (ci := 11) (as := []) (S := [.int r]) dL_law_619 rfl rfl rfl ⟨⟨wt_1098, wt_1101, wt_12⟩, wt_1099, wt_1100⟩ okp_X11_asNow rfl (Nat.le_of_ble_eq_true rfl) (Nat.le_of_ble_eq_true rfl) (Nat.le_of_ble_eq_true rfl) rfl rfl (Cl.mono h (fun r2 M2 h2 => ?_))
  exact l_icmp_eq (tgt := 1051) dL_law_622 (by decide) (fun _ => hk M2 h2.2) (fun hne => absurd h2.1 hne)
theorem arm_19 {i : Nat} {M : MM} (hI : IV M) (hN : N ≤ 256) (hi : i + 4 ≤ N) (hk : ∀ M, IV M → GL κ N xs 1051 (Lw i) [] M) : GL κ N xs 627 (Lw i) [] M := by
  refine l_aload_n dL_law_627 rfl rfl ?_
  refine l_arg (k := 1) (by omega) hN dL_law_628 dL_law_629 dL_law_630 dL_law_631 dL_law_632 rfl ?_
  refine l_arg (k := 2) (by omega) hN dL_law_633 dL_law_634 dL_law_635 dL_law_636 dL_law_637 rfl ?_
  refine l_call (μ' := mX10_crows) (c := 0) (ci := 10) (as := [.int (xs (i + 1)), .int (xs (i + 2))]) (S := []) dL_law_638 rfl rfl rfl ⟨⟨wt_599, wt_602, wt_1⟩, wt_600, wt_601⟩ okp_X10_crows rfl (Nat.le_of_ble_eq_true rfl) (Nat.le_of_ble_eq_true rfl) (Nat.le_of_ble_eq_true rfl) rfl rfl (Cl.mono (op_crows hI (xs (i + 1)) (xs (i + 2))) (fun r M1 h => ?_))
  refine l_aload_n dL_law_641 rfl rfl ?_
  refine l_arg (k := 1) (by omega) hN dL_law_642 dL_law_643 dL_law_644 dL_law_645 dL_law_646 rfl ?_
  refine l_arg (k := 2) (by omega) hN dL_law_647 dL_law_648 dL_law_649 dL_law_650 dL_law_651 rfl ?_
  refine l_call (μ' := mX11_crows) (c := 119) (ci := 11) (as := [.int (xs (i + 1)), .int (xs (i + 2))]) (S := [.int r]) dL_law_652 rfl rfl rfl ⟨⟨wt_1106, wt_1109, wt_12⟩, wt_1107, wt_1108⟩ okp_X11_crows rfl (Nat.le_of_ble_eq_true rfl) (Nat.le_of_ble_eq_true rfl) (Nat.le_of_ble_eq_true rfl) rfl rfl (Cl.mono h (fun r2 M2 h2 => ?_))
  exact l_icmp_eq (tgt := 1051) dL_law_655 (by decide) (fun _ => hk M2 h2.2) (fun hne => absurd h2.1 hne)
theorem arm_20 {i : Nat} {M : MM} (hI : IV M) (hN : N ≤ 256) (hi : i + 4 ≤ N) (hk : ∀ M, IV M → GL κ N xs 1051 (Lw i) [] M) : GL κ N xs 660 (Lw i) [] M := by
  refine l_aload_n dL_law_660 rfl rfl ?_
  refine l_arg (k := 1) (by omega) hN dL_law_661 dL_law_662 dL_law_663 dL_law_664 dL_law_665 rfl ?_
  refine l_arg (k := 2) (by omega) hN dL_law_666 dL_law_667 dL_law_668 dL_law_669 dL_law_670 rfl ?_
  refine l_call (μ' := mX10_know) (c := 0) (ci := 10) (as := [.int (xs (i + 1)), .int (xs (i + 2))]) (S := []) dL_law_671 rfl rfl rfl ⟨⟨wt_632, wt_635, wt_1⟩, wt_633, wt_634⟩ okp_X10_know rfl (Nat.le_of_ble_eq_true rfl) (Nat.le_of_ble_eq_true rfl) (Nat.le_of_ble_eq_true rfl) rfl rfl (Cl.mono (op_know hI (xs (i + 1)) (xs (i + 2))) (fun r M1 h => ?_))
  refine l_aload_n dL_law_674 rfl rfl ?_
  refine l_arg (k := 1) (by omega) hN dL_law_675 dL_law_676 dL_law_677 dL_law_678 dL_law_679 rfl ?_
  refine l_arg (k := 2) (by omega) hN dL_law_680 dL_law_681 dL_law_682 dL_law_683 dL_law_684 rfl ?_
  refine l_call (μ' := mX11_know) (c := 119) (ci := 11) (as := [.int (xs (i + 1)), .int (xs (i + 2))]) (S := [.int r]) dL_law_685 rfl rfl rfl ⟨⟨wt_1117, wt_1120, wt_12⟩, wt_1118, wt_1119⟩ okp_X11_know rfl (Nat.le_of_ble_eq_true rfl) (Nat.le_of_ble_eq_true rfl) (Nat.le_of_ble_eq_true rfl) rfl rfl (Cl.mono h (fun r2 M2 h2 => ?_))
  exact l_icmp_eq (tgt := 1051) dL_law_688 (by decide) (fun _ => hk M2 h2.2) (fun hne => absurd h2.1 hne)
theorem arm_21 {i : Nat} {M : MM} (hI : IV M) (hN : N ≤ 256) (hi : i + 4 ≤ N) (hk : ∀ M, IV M → GL κ N xs 1051 (Lw i) [] M) : GL κ N xs 693 (Lw i) [] M := by
  refine l_aload_n dL_law_693 rfl rfl ?_
  refine l_arg (k := 1) (by omega) hN dL_law_694 dL_law_695 dL_law_696 dL_law_697 dL_law_698 rfl ?_
  refine l_call (μ' := mX10_market) (c := 0) (ci := 10) (as := [.int (xs (i + 1))]) (S := []) dL_law_699 rfl rfl rfl ⟨⟨wt_637, wt_640, wt_1⟩, wt_638, wt_639⟩ okp_X10_market rfl (Nat.le_of_ble_eq_true rfl) (Nat.le_of_ble_eq_true rfl) (Nat.le_of_ble_eq_true rfl) rfl rfl (Cl.mono (op_market hI (xs (i + 1))) (fun r M1 h => ?_))
  refine l_aload_n dL_law_702 rfl rfl ?_
  refine l_arg (k := 1) (by omega) hN dL_law_703 dL_law_704 dL_law_705 dL_law_706 dL_law_707 rfl ?_
  refine l_call (μ' := mX11_market) (c := 119) (ci := 11) (as := [.int (xs (i + 1))]) (S := [.int r]) dL_law_708 rfl rfl rfl ⟨⟨wt_1121, wt_1124, wt_12⟩, wt_1122, wt_1123⟩ okp_X11_market rfl (Nat.le_of_ble_eq_true rfl) (Nat.le_of_ble_eq_true rfl) (Nat.le_of_ble_eq_true rfl) rfl rfl (Cl.mono h (fun r2 M2 h2 => ?_))
  exact l_icmp_eq (tgt := 1051) dL_law_711 (by decide) (fun _ => hk M2 h2.2) (fun hne => absurd h2.1 hne)
theorem arm_22 {i : Nat} {M : MM} (hI : IV M) (hN : N ≤ 256) (hi : i + 4 ≤ N) (hk : ∀ M, IV M → GL κ N xs 1051 (Lw i) [] M) : GL κ N xs 716 (Lw i) [] M := by
  refine l_aload_n dL_law_716 rfl rfl ?_
  refine l_arg (k := 1) (by omega) hN dL_law_717 dL_law_718 dL_law_719 dL_law_720 dL_law_721 rfl ?_
  refine l_arg (k := 2) (by omega) hN dL_law_722 dL_law_723 dL_law_724 dL_law_725 dL_law_726 rfl ?_
  refine l_call (μ' := mX10_torn) (c := 0) (ci := 10) (as := [.int (xs (i + 1)), .int (xs (i + 2))]) (S := []) dL_law_727 rfl rfl rfl ⟨⟨wt_666, wt_669, wt_1⟩, wt_667, wt_668⟩ okp_X10_torn rfl (Nat.le_of_ble_eq_true rfl) (Nat.le_of_ble_eq_true rfl) (Nat.le_of_ble_eq_true rfl) rfl rfl (Cl.mono (op_torn hI (xs (i + 1)) (xs (i + 2))) (fun r M1 h => ?_))
  refine l_aload_n dL_law_730 rfl rfl ?_
  refine l_arg (k := 1) (by omega) hN dL_law_731 dL_law_732 dL_law_733 dL_law_734 dL_law_735 rfl ?_
  refine l_arg (k := 2) (by omega) hN dL_law_736 dL_law_737 dL_law_738 dL_law_739 dL_law_740 rfl ?_
  refine l_call (μ' := mX11_torn) (c := 119) (ci := 11) (as := [.int (xs (i + 1)), .int (xs (i + 2))]) (S := [.int r]) dL_law_741 rfl rfl rfl ⟨⟨wt_1129, wt_1132, wt_12⟩, wt_1130, wt_1131⟩ okp_X11_torn rfl (Nat.le_of_ble_eq_true rfl) (Nat.le_of_ble_eq_true rfl) (Nat.le_of_ble_eq_true rfl) rfl rfl (Cl.mono h (fun r2 M2 h2 => ?_))
  exact l_icmp_eq (tgt := 1051) dL_law_744 (by decide) (fun _ => hk M2 h2.2) (fun hne => absurd h2.1 hne)
theorem arm_23 {i : Nat} {M : MM} (hI : IV M) (hN : N ≤ 256) (hi : i + 4 ≤ N) (hk : ∀ M, IV M → GL κ N xs 1051 (Lw i) [] M) : GL κ N xs 749 (Lw i) [] M := by
  refine l_aload_n dL_law_749 rfl rfl ?_
  refine l_arg (k := 1) (by omega) hN dL_law_750 dL_law_751 dL_law_752 dL_law_753 dL_law_754 rfl ?_
  refine l_arg (k := 2) (by omega) hN dL_law_755 dL_law_756 dL_law_757 dL_law_758 dL_law_759 rfl ?_
  refine l_call (μ' := mX10_dark) (c := 0) (ci := 10) (as := [.int (xs (i + 1)), .int (xs (i + 2))]) (S := []) dL_law_760 rfl rfl rfl ⟨⟨wt_670, wt_673, wt_1⟩, wt_671, wt_672⟩ okp_X10_dark rfl (Nat.le_of_ble_eq_true rfl) (Nat.le_of_ble_eq_true rfl) (Nat.le_of_ble_eq_true rfl) rfl rfl (Cl.mono (op_dark hI (xs (i + 1)) (xs (i + 2))) (fun r M1 h => ?_))
  refine l_aload_n dL_law_763 rfl rfl ?_
  refine l_arg (k := 1) (by omega) hN dL_law_764 dL_law_765 dL_law_766 dL_law_767 dL_law_768 rfl ?_
  refine l_arg (k := 2) (by omega) hN dL_law_769 dL_law_770 dL_law_771 dL_law_772 dL_law_773 rfl ?_
  refine l_call (μ' := mX11_dark) (c := 119) (ci := 11) (as := [.int (xs (i + 1)), .int (xs (i + 2))]) (S := [.int r]) dL_law_774 rfl rfl rfl ⟨⟨wt_1133, wt_1136, wt_12⟩, wt_1134, wt_1135⟩ okp_X11_dark rfl (Nat.le_of_ble_eq_true rfl) (Nat.le_of_ble_eq_true rfl) (Nat.le_of_ble_eq_true rfl) rfl rfl (Cl.mono h (fun r2 M2 h2 => ?_))
  exact l_icmp_eq (tgt := 1051) dL_law_777 (by decide) (fun _ => hk M2 h2.2) (fun hne => absurd h2.1 hne)
theorem arm_24 {i : Nat} {M : MM} (hI : IV M) (hN : N ≤ 256) (hi : i + 4 ≤ N) (hk : ∀ M, IV M → GL κ N xs 1051 (Lw i) [] M) : GL κ N xs 782 (Lw i) [] M := by
  refine l_aload_n dL_law_782 rfl rfl ?_
  refine l_arg (k := 1) (by omega) hN dL_law_783 dL_law_784 dL_law_785 dL_law_786 dL_law_787 rfl ?_
  refine l_arg (k := 2) (by omega) hN dL_law_788 dL_law_789 dL_law_790 dL_law_791 dL_law_792 rfl ?_
  refine l_call (μ' := mX10_shadow) (c := 0) (ci := 10) (as := [.int (xs (i + 1)), .int (xs (i + 2))]) (S := []) dL_law_793 rfl rfl rfl ⟨⟨wt_676, wt_679, wt_1⟩, wt_677, wt_678⟩ okp_X10_shadow rfl (Nat.le_of_ble_eq_true rfl) (Nat.le_of_ble_eq_true rfl) (Nat.le_of_ble_eq_true rfl) rfl rfl (Cl.mono (op_shadow hI (xs (i + 1)) (xs (i + 2))) (fun r M1 h => ?_))
  refine l_aload_n dL_law_796 rfl rfl ?_
  refine l_arg (k := 1) (by omega) hN dL_law_797 dL_law_798 dL_law_799 dL_law_800 dL_law_801 rfl ?_
  refine l_arg (k := 2) (by omega) hN dL_law_802 dL_law_803 dL_law_804 dL_law_805 dL_law_806 rfl ?_
  refine l_call (μ' := mX11_shadow) (c := 119) (ci := 11) (as := [.int (xs (i + 1)), .int (xs (i + 2))]) (S := [.int r]) dL_law_807 rfl rfl rfl ⟨⟨wt_1139, wt_1142, wt_12⟩, wt_1140, wt_1141⟩ okp_X11_shadow rfl (Nat.le_of_ble_eq_true rfl) (Nat.le_of_ble_eq_true rfl) (Nat.le_of_ble_eq_true rfl) rfl rfl (Cl.mono h (fun r2 M2 h2 => ?_))
  exact l_icmp_eq (tgt := 1051) dL_law_810 (by decide) (fun _ => hk M2 h2.2) (fun hne => absurd h2.1 hne)
theorem arm_25 {i : Nat} {M : MM} (hI : IV M) (hN : N ≤ 256) (hi : i + 4 ≤ N) (hk : ∀ M, IV M → GL κ N xs 1051 (Lw i) [] M) : GL κ N xs 815 (Lw i) [] M := by
  refine l_aload_n dL_law_815 rfl rfl ?_
  refine l_arg (k := 1) (by omega) hN dL_law_816 dL_law_817 dL_law_818 dL_law_819 dL_law_820 rfl ?_
  refine l_call (μ' := mX10_is) (c := 0) (ci := 10) (as := [.int (xs (i + 1))]) (S := []) dL_law_821 rfl rfl rfl ⟨⟨wt_684, wt_687, wt_1⟩, wt_685, wt_686⟩ okp_X10_is rfl (Nat.le_of_ble_eq_true rfl) (Nat.le_of_ble_eq_true rfl) (Nat.le_of_ble_eq_true rfl) rfl rfl (Cl.mono (op_is hI (xs (i + 1))) (fun r M1 h => ?_))
  refine l_aload_n dL_law_824 rfl rfl ?_
  refine l_arg (k := 1) (by omega) hN dL_law_825 dL_law_826 dL_law_827 dL_law_828 dL_law_829 rfl ?_
  refine l_call (μ' := mX11_is) (c := 119) (ci := 11) (as := [.int (xs (i + 1))]) (S := [.int r]) dL_law_830 rfl rfl rfl ⟨⟨wt_1143, wt_1146, wt_12⟩, wt_1144, wt_1145⟩ okp_X11_is rfl (Nat.le_of_ble_eq_true rfl) (Nat.le_of_ble_eq_true rfl) (Nat.le_of_ble_eq_true rfl) rfl rfl (Cl.mono h (fun r2 M2 h2 => ?_))
  exact l_icmp_eq (tgt := 1051) dL_law_833 (by decide) (fun _ => hk M2 h2.2) (fun hne => absurd h2.1 hne)
theorem arm_26 {i : Nat} {M : MM} (hI : IV M) (hN : N ≤ 256) (hi : i + 4 ≤ N) (hk : ∀ M, IV M → GL κ N xs 1051 (Lw i) [] M) : GL κ N xs 838 (Lw i) [] M := by
  refine l_aload_n dL_law_838 rfl rfl ?_
  refine l_arg (k := 1) (by omega) hN dL_law_839 dL_law_840 dL_law_841 dL_law_842 dL_law_843 rfl ?_
  refine l_arg (k := 2) (by omega) hN dL_law_844 dL_law_845 dL_law_846 dL_law_847 dL_law_848 rfl ?_
  refine l_arg (k := 3) (by omega) hN dL_law_849 dL_law_850 dL_law_851 dL_law_852 dL_law_853 rfl ?_
  refine l_bool dL_law_854 dL_law_857 dL_law_858 dL_law_861 ?_
  refine l_call (μ' := mX10_met) (c := 0) (ci := 10) (as := [.int (xs (i + 1)), .int (xs (i + 2)), .int (bz (xs (i + 3)))]) (S := []) dL_law_862 rfl rfl rfl ⟨⟨wt_717, wt_720, wt_1⟩, wt_718, wt_719⟩ okp_X10_met rfl (Nat.le_of_ble_eq_true rfl) (Nat.le_of_ble_eq_true rfl) (Nat.le_of_ble_eq_true rfl) rfl rfl (Cl.mono (op_met hI (xs (i + 1)) (xs (i + 2)) (bz (xs (i + 3))) (bz_isB _)) (fun r M1 h => ?_))
  refine l_aload_n dL_law_865 rfl rfl ?_
  refine l_arg (k := 1) (by omega) hN dL_law_866 dL_law_867 dL_law_868 dL_law_869 dL_law_870 rfl ?_
  refine l_arg (k := 2) (by omega) hN dL_law_871 dL_law_872 dL_law_873 dL_law_874 dL_law_875 rfl ?_
  refine l_arg (k := 3) (by omega) hN dL_law_876 dL_law_877 dL_law_878 dL_law_879 dL_law_880 rfl ?_
  refine l_bool dL_law_881 dL_law_884 dL_law_885 dL_law_888 ?_
  refine l_call (μ' := mX11_met) (c := 119) (ci := 11) (as := [.int (xs (i + 1)), .int (xs (i + 2)), .int (bz (xs (i + 3)))]) (S := [.int r]) dL_law_889 rfl rfl rfl ⟨⟨wt_1160, wt_1163, wt_12⟩, wt_1161, wt_1162⟩ okp_X11_met rfl (Nat.le_of_ble_eq_true rfl) (Nat.le_of_ble_eq_true rfl) (Nat.le_of_ble_eq_true rfl) rfl rfl (Cl.mono h (fun r2 M2 h2 => ?_))
  exact l_icmp_eq (tgt := 1051) dL_law_892 (by decide) (fun _ => hk M2 h2.2) (fun hne => absurd h2.1 hne)
theorem arm_27 {i : Nat} {M : MM} (hI : IV M) (hN : N ≤ 256) (hi : i + 4 ≤ N) (hk : ∀ M, IV M → GL κ N xs 1051 (Lw i) [] M) : GL κ N xs 897 (Lw i) [] M := by
  refine l_aload_n dL_law_897 rfl rfl ?_
  refine l_arg (k := 1) (by omega) hN dL_law_898 dL_law_899 dL_law_900 dL_law_901 dL_law_902 rfl ?_
  refine l_arg (k := 2) (by omega) hN dL_law_903 dL_law_904 dL_law_905 dL_law_906 dL_law_907 rfl ?_
  refine l_arg (k := 3) (by omega) hN dL_law_908 dL_law_909 dL_law_910 dL_law_911 dL_law_912 rfl ?_
  refine l_bool dL_law_913 dL_law_916 dL_law_917 dL_law_920 ?_
  refine l_call (μ' := mX10_write) (c := 0) (ci := 10) (as := [.int (xs (i + 1)), .int (xs (i + 2)), .int (bz (xs (i + 3)))]) (S := []) dL_law_921 rfl rfl rfl ⟨⟨wt_725, wt_728, wt_1⟩, wt_726, wt_727⟩ okp_X10_write rfl (Nat.le_of_ble_eq_true rfl) (Nat.le_of_ble_eq_true rfl) (Nat.le_of_ble_eq_true rfl) rfl rfl (Cl.mono (op_write hI (xs (i + 1)) (xs (i + 2)) (bz (xs (i + 3))) (bz_isB _)) (fun r M1 h => ?_))
  refine l_aload_n dL_law_924 rfl rfl ?_
  refine l_arg (k := 1) (by omega) hN dL_law_925 dL_law_926 dL_law_927 dL_law_928 dL_law_929 rfl ?_
  refine l_arg (k := 2) (by omega) hN dL_law_930 dL_law_931 dL_law_932 dL_law_933 dL_law_934 rfl ?_
  refine l_arg (k := 3) (by omega) hN dL_law_935 dL_law_936 dL_law_937 dL_law_938 dL_law_939 rfl ?_
  refine l_bool dL_law_940 dL_law_943 dL_law_944 dL_law_947 ?_
  refine l_call (μ' := mX11_write) (c := 119) (ci := 11) (as := [.int (xs (i + 1)), .int (xs (i + 2)), .int (bz (xs (i + 3)))]) (S := [.int r]) dL_law_948 rfl rfl rfl ⟨⟨wt_1164, wt_1167, wt_12⟩, wt_1165, wt_1166⟩ okp_X11_write rfl (Nat.le_of_ble_eq_true rfl) (Nat.le_of_ble_eq_true rfl) (Nat.le_of_ble_eq_true rfl) rfl rfl (Cl.mono h (fun r2 M2 h2 => ?_))
  exact l_icmp_eq (tgt := 1051) dL_law_951 (by decide) (fun _ => hk M2 h2.2) (fun hne => absurd h2.1 hne)
theorem arm_28 {i : Nat} {M : MM} (hI : IV M) (hN : N ≤ 256) (hi : i + 4 ≤ N) (hk : ∀ M, IV M → GL κ N xs 1051 (Lw i) [] M) : GL κ N xs 956 (Lw i) [] M := by
  refine l_aload_n dL_law_956 rfl rfl ?_
  refine l_call (μ' := mX10_tear) (c := 0) (ci := 10) (as := []) (S := []) dL_law_957 rfl rfl rfl ⟨⟨wt_733, wt_736, wt_1⟩, wt_734, wt_735⟩ okp_X10_tear rfl (Nat.le_of_ble_eq_true rfl) (Nat.le_of_ble_eq_true rfl) (Nat.le_of_ble_eq_true rfl) rfl rfl (Cl.mono (op_tear hI) (fun r M1 h => ?_))
  refine l_aload_n dL_law_960 rfl rfl ?_
  refine l_call (μ' := mX11_tear) (c := 119) (ci := 11) (as := []) (S := [.int r]) dL_law_961 rfl rfl rfl ⟨⟨wt_1168, wt_1171, wt_12⟩, wt_1169, wt_1170⟩ okp_X11_tear rfl (Nat.le_of_ble_eq_true rfl) (Nat.le_of_ble_eq_true rfl) (Nat.le_of_ble_eq_true rfl) rfl rfl (Cl.mono h (fun r2 M2 h2 => ?_))
  exact l_icmp_eq (tgt := 1051) dL_law_964 (by decide) (fun _ => hk M2 h2.2) (fun hne => absurd h2.1 hne)
theorem arm_29 {i : Nat} {M : MM} (hI : IV M) (hN : N ≤ 256) (hi : i + 4 ≤ N) (hk : ∀ M, IV M → GL κ N xs 1051 (Lw i) [] M) : GL κ N xs 969 (Lw i) [] M := by
  refine l_aload_n dL_law_969 rfl rfl ?_
  refine l_call (μ' := mX10_judge) (c := 0) (ci := 10) (as := []) (S := []) dL_law_970 rfl rfl rfl ⟨⟨wt_737, wt_740, wt_1⟩, wt_738, wt_739⟩ okp_X10_judge rfl (Nat.le_of_ble_eq_true rfl) (Nat.le_of_ble_eq_true rfl) (Nat.le_of_ble_eq_true rfl) rfl rfl (Cl.mono (op_judge hI) (fun r M1 h => ?_))
  refine l_aload_n dL_law_973 rfl rfl ?_
  refine l_call (μ' := mX11_judge) (c := 119) (ci := 11) (as := []) (S := [.int r]) dL_law_974 rfl rfl rfl ⟨⟨wt_1172, wt_1175, wt_12⟩, wt_1173, wt_1174⟩ okp_X11_judge rfl (Nat.le_of_ble_eq_true rfl) (Nat.le_of_ble_eq_true rfl) (Nat.le_of_ble_eq_true rfl) rfl rfl (Cl.mono h (fun r2 M2 h2 => ?_))
  exact l_icmp_eq (tgt := 1051) dL_law_977 (by decide) (fun _ => hk M2 h2.2) (fun hne => absurd h2.1 hne)
theorem arm_30 {i : Nat} {M : MM} (hI : IV M) (hN : N ≤ 256) (hi : i + 4 ≤ N) (hk : ∀ M, IV M → GL κ N xs 1051 (Lw i) [] M) : GL κ N xs 982 (Lw i) [] M := by
  refine l_aload_n dL_law_982 rfl rfl ?_
  refine l_arg (k := 1) (by omega) hN dL_law_983 dL_law_984 dL_law_985 dL_law_986 dL_law_987 rfl ?_
  refine l_call (μ' := mX10_seed) (c := 0) (ci := 10) (as := [.int (xs (i + 1))]) (S := []) dL_law_988 rfl rfl rfl ⟨⟨wt_745, wt_748, wt_1⟩, wt_746, wt_747⟩ okp_X10_seed rfl (Nat.le_of_ble_eq_true rfl) (Nat.le_of_ble_eq_true rfl) (Nat.le_of_ble_eq_true rfl) rfl rfl (Cl.mono (op_seed hI (xs (i + 1))) (fun r M1 h => ?_))
  refine l_aload_n dL_law_991 rfl rfl ?_
  refine l_arg (k := 1) (by omega) hN dL_law_992 dL_law_993 dL_law_994 dL_law_995 dL_law_996 rfl ?_
  refine l_call (μ' := mX11_seed) (c := 119) (ci := 11) (as := [.int (xs (i + 1))]) (S := [.int r]) dL_law_997 rfl rfl rfl ⟨⟨wt_1176, wt_1179, wt_12⟩, wt_1177, wt_1178⟩ okp_X11_seed rfl (Nat.le_of_ble_eq_true rfl) (Nat.le_of_ble_eq_true rfl) (Nat.le_of_ble_eq_true rfl) rfl rfl (Cl.mono h (fun r2 M2 h2 => ?_))
  exact l_icmp_eq (tgt := 1051) dL_law_1000 (by decide) (fun _ => hk M2 h2.2) (fun hne => absurd h2.1 hne)
theorem arm_31 {i : Nat} {M : MM} (hI : IV M) (hN : N ≤ 256) (hi : i + 4 ≤ N) (hk : ∀ M, IV M → GL κ N xs 1051 (Lw i) [] M) : GL κ N xs 1005 (Lw i) [] M := by
  refine l_aload_n dL_law_1005 rfl rfl ?_
  refine l_arg (k := 1) (by omega) hN dL_law_1006 dL_law_1007 dL_law_1008 dL_law_1009 dL_law_1010 rfl ?_
  refine l_call (μ' := mX10_keep) (c := 0) (ci := 10) (as := [.int (xs (i + 1))]) (S := []) dL_law_1011 rfl rfl rfl ⟨⟨wt_749, wt_752, wt_1⟩, wt_750, wt_751⟩ okp_X10_keep rfl (Nat.le_of_ble_eq_true rfl) (Nat.le_of_ble_eq_true rfl) (Nat.le_of_ble_eq_true rfl) rfl rfl (Cl.mono (op_keep hI (xs (i + 1))) (fun r M1 h => ?_))
  refine l_aload_n dL_law_1014 rfl rfl ?_
  refine l_arg (k := 1) (by omega) hN dL_law_1015 dL_law_1016 dL_law_1017 dL_law_1018 dL_law_1019 rfl ?_
  refine l_call (μ' := mX11_keep) (c := 119) (ci := 11) (as := [.int (xs (i + 1))]) (S := [.int r]) dL_law_1020 rfl rfl rfl ⟨⟨wt_1180, wt_1183, wt_12⟩, wt_1181, wt_1182⟩ okp_X11_keep rfl (Nat.le_of_ble_eq_true rfl) (Nat.le_of_ble_eq_true rfl) (Nat.le_of_ble_eq_true rfl) rfl rfl (Cl.mono h (fun r2 M2 h2 => ?_))
  exact l_icmp_eq (tgt := 1051) dL_law_1023 (by decide) (fun _ => hk M2 h2.2) (fun hne => absurd h2.1 hne)
theorem arm_32 {i : Nat} {M : MM} (hI : IV M) (hN : N ≤ 256) (hi : i + 4 ≤ N) (hk : ∀ M, IV M → GL κ N xs 1051 (Lw i) [] M) : GL κ N xs 1028 (Lw i) [] M := by
  refine l_aload_n dL_law_1028 rfl rfl ?_
  refine l_arg (k := 1) (by omega) hN dL_law_1029 dL_law_1030 dL_law_1031 dL_law_1032 dL_law_1033 rfl ?_
  refine l_call (μ' := mX10_goBack) (c := 0) (ci := 10) (as := [.int (xs (i + 1))]) (S := []) dL_law_1034 rfl rfl rfl ⟨⟨wt_758, wt_761, wt_1⟩, wt_759, wt_760⟩ okp_X10_goBack rfl (Nat.le_of_ble_eq_true rfl) (Nat.le_of_ble_eq_true rfl) (Nat.le_of_ble_eq_true rfl) rfl rfl (Cl.mono (op_goBack hI (xs (i + 1))) (fun r M1 h => ?_))
  refine l_aload_n dL_law_1037 rfl rfl ?_
  refine l_arg (k := 1) (by omega) hN dL_law_1038 dL_law_1039 dL_law_1040 dL_law_1041 dL_law_1042 rfl ?_
  refine l_call (μ' := mX11_goBack) (c := 119) (ci := 11) (as := [.int (xs (i + 1))]) (S := [.int r]) dL_law_1043 rfl rfl rfl ⟨⟨wt_1184, wt_1187, wt_12⟩, wt_1185, wt_1186⟩ okp_X11_goBack rfl (Nat.le_of_ble_eq_true rfl) (Nat.le_of_ble_eq_true rfl) (Nat.le_of_ble_eq_true rfl) rfl rfl (Cl.mono h (fun r2 M2 h2 => ?_))
  exact l_icmp_eq (tgt := 1051) dL_law_1046 (by decide) (fun _ => hk M2 h2.2) (fun hne => absurd h2.1 hne)
theorem law_le {i : Nat} (hN : N ≤ 256) (hi : i ≤ 260) (h : ¬ nI N - 4 < nI i) : i + 4 ≤ N := by
  have e : (nI N - 4).toInt = (N : Int) - 4 := by
    rw [Int32.toInt_sub, nI_toInt (by omega), show (4 : Int32).toInt = 4 from rfl]
    exact Int.bmod_eq_of_le (by omega) (by omega)
  have h2 := Int32.le_iff_toInt_le.mp (Int32.not_lt.mp h)
  rw [e, nI_toInt (by omega)] at h2
  omega
theorem law_loop (hN : N ≤ 256) : ∀ (n i : Nat) (M : MM), IV M → i ≤ 260 → N < i + n → GL κ N xs 18 (Lw i) [] M := by
  intro n
  induction n with
  | zero =>
    intro i M hI hi hn
    refine l_iload_n dL_law_18 rfl rfl ?_
    refine l_aload_n dL_law_19 rfl rfl ?_
    refine l_slen dL_law_20 ?_
    refine l_iconst (v := 4) dL_law_21 rfl ?_
    refine l_isub dL_law_22 ?_
    refine l_icmp_gt (tgt := 1057) dL_law_23 (by decide) (fun _ => ?_) (fun hle => ?_)
    · refine l_iconst (v := 1) dL_law_1057 rfl ?_
      exact l_end dL_law_1058
    · have h4 := law_le hN hi hle
      exact absurd hn (by omega)
  | succ n ih =>
    intro i M hI hi hn
    refine l_iload_n dL_law_18 rfl rfl ?_
    refine l_aload_n dL_law_19 rfl rfl ?_
    refine l_slen dL_law_20 ?_
    refine l_iconst (v := 4) dL_law_21 rfl ?_
    refine l_isub dL_law_22 ?_
    refine l_icmp_gt (tgt := 1057) dL_law_23 (by decide) (fun _ => ?_) (fun hle => ?_)
    · refine l_iconst (v := 1) dL_law_1057 rfl ?_
      exact l_end dL_law_1058
    · have h4 := law_le hN hi hle
      have hk : ∀ M, IV M → GL κ N xs 1051 (Lw i) [] M := fun M hI => by
        refine l_iinc (w := nI (i + 4)) (L' := Lw (i + 4)) dL_law_1051 rfl (nI_add i 4) (by decide) rfl rfl ?_
        refine l_goto (tgt := 18) dL_law_1054 (by decide) ?_
        exact ih (i + 4) M hI (by omega) (by omega)
      refine l_aload_n dL_law_26 rfl rfl ?_
      refine l_iload_n dL_law_27 rfl rfl ?_
      refine l_sld (vp_in_nI (by omega) (by omega)) dL_law_28 ?_
      refine l_bipush (v := 63) dL_law_29 rfl ?_
      refine l_iand dL_law_31 ?_
      refine l_tab (hi := 32) (dt := 1051) (fun k => ([180, 203, 216, 229, 252, 285, 308, 331, 354, 387, 420, 453, 476, 489, 512, 525, 558, 591, 614, 627, 660, 693, 716, 749, 782, 815, 838, 897, 956, 969, 982, 1005, 1028] : List Nat).getD k 0) dL_law_32 (by decide) (by decide) (by decide) (fun k hk2 => ?_) (hk M hI)
      match k, hk2 with
      | 0, _ => exact arm_0 hI hN h4 hk
      | 1, _ => exact arm_1 hI hN h4 hk
      | 2, _ => exact arm_2 hI hN h4 hk
      | 3, _ => exact arm_3 hI hN h4 hk
      | 4, _ => exact arm_4 hI hN h4 hk
      | 5, _ => exact arm_5 hI hN h4 hk
      | 6, _ => exact arm_6 hI hN h4 hk
      | 7, _ => exact arm_7 hI hN h4 hk
      | 8, _ => exact arm_8 hI hN h4 hk
      | 9, _ => exact arm_9 hI hN h4 hk
      | 10, _ => exact arm_10 hI hN h4 hk
      | 11, _ => exact arm_11 hI hN h4 hk
      | 12, _ => exact arm_12 hI hN h4 hk
      | 13, _ => exact arm_13 hI hN h4 hk
      | 14, _ => exact arm_14 hI hN h4 hk
      | 15, _ => exact arm_15 hI hN h4 hk
      | 16, _ => exact arm_16 hI hN h4 hk
      | 17, _ => exact arm_17 hI hN h4 hk
      | 18, _ => exact arm_18 hI hN h4 hk
      | 19, _ => exact arm_19 hI hN h4 hk
      | 20, _ => exact arm_20 hI hN h4 hk
      | 21, _ => exact arm_21 hI hN h4 hk
      | 22, _ => exact arm_22 hI hN h4 hk
      | 23, _ => exact arm_23 hI hN h4 hk
      | 24, _ => exact arm_24 hI hN h4 hk
      | 25, _ => exact arm_25 hI hN h4 hk
      | 26, _ => exact arm_26 hI hN h4 hk
      | 27, _ => exact arm_27 hI hN h4 hk
      | 28, _ => exact arm_28 hI hN h4 hk
      | 29, _ => exact arm_29 hI hN h4 hk
      | 30, _ => exact arm_30 hI hN h4 hk
      | 31, _ => exact arm_31 hI hN h4 hk
      | 32, _ => exact arm_32 hI hN h4 hk
      | k + 33, h => exact absurd h (by omega)
end Law2
