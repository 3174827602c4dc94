-- the law: its instructions
theorem dL_0 : decode code 0 = .ok (.new 7, 3) := by decide +kernel
theorem dL_3 : decode code 3 = .ok (.dup, 1) := by decide +kernel
theorem dL_4 : decode code 4 = .ok (.invokespecial 9, 3) := by decide +kernel
theorem dL_7 : decode code 7 = .ok (.astore_n 1, 1) := by decide +kernel
theorem dL_8 : decode code 8 = .ok (.new 10, 3) := by decide +kernel
theorem dL_11 : decode code 11 = .ok (.dup, 1) := by decide +kernel
theorem dL_12 : decode code 12 = .ok (.invokespecial 12, 3) := by decide +kernel
theorem dL_15 : decode code 15 = .ok (.astore_n 2, 1) := by decide +kernel
theorem dL_16 : decode code 16 = .ok (.iconst 0, 1) := by decide +kernel
theorem dL_17 : decode code 17 = .ok (.istore_n 3, 1) := by decide +kernel
theorem dL_18 : decode code 18 = .ok (.iload_n 3, 1) := by decide +kernel
theorem dL_19 : decode code 19 = .ok (.aload_n 0, 1) := by decide +kernel
theorem dL_20 : decode code 20 = .ok (.arraylength, 1) := by decide +kernel
theorem dL_21 : decode code 21 = .ok (.iconst 4, 1) := by decide +kernel
theorem dL_22 : decode code 22 = .ok (.isub, 1) := by decide +kernel
theorem dL_23 : decode code 23 = .ok (.if_icmp .gt (549), 3) := by decide +kernel
theorem dL_26 : decode code 26 = .ok (.aload_n 0, 1) := by decide +kernel
theorem dL_27 : decode code 27 = .ok (.iload_n 3, 1) := by decide +kernel
theorem dL_28 : decode code 28 = .ok (.iaload, 1) := by decide +kernel
theorem dL_29 : decode code 29 = .ok (.bipush 31, 2) := by decide +kernel
theorem dL_31 : decode code 31 = .ok (.iand, 1) := by decide +kernel
theorem dL_32 : decode code 32 = .ok (.tableswitch 534 0 19 #[96, 119, 130, 143, 156, 179, 202, 215, 238, 261, 294, 337, 350, 363, 376, 399, 432, 475, 498, 521], 96) := by decide +kernel
theorem dL_128 : decode code 128 = .ok (.aload_n 1, 1) := by decide +kernel
theorem dL_129 : decode code 129 = .ok (.aload_n 0, 1) := by decide +kernel
theorem dL_130 : decode code 130 = .ok (.iload_n 3, 1) := by decide +kernel
theorem dL_131 : decode code 131 = .ok (.iconst 1, 1) := by decide +kernel
theorem dL_132 : decode code 132 = .ok (.iadd, 1) := by decide +kernel
theorem dL_133 : decode code 133 = .ok (.iaload, 1) := by decide +kernel
theorem dL_134 : decode code 134 = .ok (.invokevirtual 13, 3) := by decide +kernel
theorem dL_137 : decode code 137 = .ok (.pop, 1) := by decide +kernel
theorem dL_138 : decode code 138 = .ok (.aload_n 2, 1) := by decide +kernel
theorem dL_139 : decode code 139 = .ok (.aload_n 0, 1) := by decide +kernel
theorem dL_140 : decode code 140 = .ok (.iload_n 3, 1) := by decide +kernel
theorem dL_141 : decode code 141 = .ok (.iconst 1, 1) := by decide +kernel
theorem dL_142 : decode code 142 = .ok (.iadd, 1) := by decide +kernel
theorem dL_143 : decode code 143 = .ok (.iaload, 1) := by decide +kernel
theorem dL_144 : decode code 144 = .ok (.invokevirtual 17, 3) := by decide +kernel
theorem dL_147 : decode code 147 = .ok (.pop, 1) := by decide +kernel
theorem dL_148 : decode code 148 = .ok (.goto (418), 3) := by decide +kernel
theorem dL_151 : decode code 151 = .ok (.aload_n 1, 1) := by decide +kernel
theorem dL_152 : decode code 152 = .ok (.invokevirtual 18, 3) := by decide +kernel
theorem dL_155 : decode code 155 = .ok (.aload_n 2, 1) := by decide +kernel
theorem dL_156 : decode code 156 = .ok (.invokevirtual 21, 3) := by decide +kernel
theorem dL_159 : decode code 159 = .ok (.goto (407), 3) := by decide +kernel
theorem dL_162 : decode code 162 = .ok (.aload_n 1, 1) := by decide +kernel
theorem dL_163 : decode code 163 = .ok (.invokevirtual 22, 3) := by decide +kernel
theorem dL_166 : decode code 166 = .ok (.pop, 1) := by decide +kernel
theorem dL_167 : decode code 167 = .ok (.aload_n 2, 1) := by decide +kernel
theorem dL_168 : decode code 168 = .ok (.invokevirtual 26, 3) := by decide +kernel
theorem dL_171 : decode code 171 = .ok (.pop, 1) := by decide +kernel
theorem dL_172 : decode code 172 = .ok (.goto (394), 3) := by decide +kernel
theorem dL_175 : decode code 175 = .ok (.aload_n 1, 1) := by decide +kernel
theorem dL_176 : decode code 176 = .ok (.invokevirtual 27, 3) := by decide +kernel
theorem dL_179 : decode code 179 = .ok (.pop, 1) := by decide +kernel
theorem dL_180 : decode code 180 = .ok (.aload_n 2, 1) := by decide +kernel
theorem dL_181 : decode code 181 = .ok (.invokevirtual 30, 3) := by decide +kernel
theorem dL_184 : decode code 184 = .ok (.pop, 1) := by decide +kernel
theorem dL_185 : decode code 185 = .ok (.goto (381), 3) := by decide +kernel
theorem dL_188 : decode code 188 = .ok (.aload_n 1, 1) := by decide +kernel
theorem dL_189 : decode code 189 = .ok (.aload_n 0, 1) := by decide +kernel
theorem dL_190 : decode code 190 = .ok (.iload_n 3, 1) := by decide +kernel
theorem dL_191 : decode code 191 = .ok (.iconst 1, 1) := by decide +kernel
theorem dL_192 : decode code 192 = .ok (.iadd, 1) := by decide +kernel
theorem dL_193 : decode code 193 = .ok (.iaload, 1) := by decide +kernel
theorem dL_194 : decode code 194 = .ok (.invokevirtual 31, 3) := by decide +kernel
theorem dL_197 : decode code 197 = .ok (.pop, 1) := by decide +kernel
theorem dL_198 : decode code 198 = .ok (.aload_n 2, 1) := by decide +kernel
theorem dL_199 : decode code 199 = .ok (.aload_n 0, 1) := by decide +kernel
theorem dL_200 : decode code 200 = .ok (.iload_n 3, 1) := by decide +kernel
theorem dL_201 : decode code 201 = .ok (.iconst 1, 1) := by decide +kernel
theorem dL_202 : decode code 202 = .ok (.iadd, 1) := by decide +kernel
theorem dL_203 : decode code 203 = .ok (.iaload, 1) := by decide +kernel
theorem dL_204 : decode code 204 = .ok (.invokevirtual 35, 3) := by decide +kernel
theorem dL_207 : decode code 207 = .ok (.pop, 1) := by decide +kernel
theorem dL_208 : decode code 208 = .ok (.goto (358), 3) := by decide +kernel
theorem dL_211 : decode code 211 = .ok (.aload_n 1, 1) := by decide +kernel
theorem dL_212 : decode code 212 = .ok (.aload_n 0, 1) := by decide +kernel
theorem dL_213 : decode code 213 = .ok (.iload_n 3, 1) := by decide +kernel
theorem dL_214 : decode code 214 = .ok (.iconst 1, 1) := by decide +kernel
theorem dL_215 : decode code 215 = .ok (.iadd, 1) := by decide +kernel
theorem dL_216 : decode code 216 = .ok (.iaload, 1) := by decide +kernel
theorem dL_217 : decode code 217 = .ok (.invokevirtual 36, 3) := by decide +kernel
theorem dL_220 : decode code 220 = .ok (.pop, 1) := by decide +kernel
theorem dL_221 : decode code 221 = .ok (.aload_n 2, 1) := by decide +kernel
theorem dL_222 : decode code 222 = .ok (.aload_n 0, 1) := by decide +kernel
theorem dL_223 : decode code 223 = .ok (.iload_n 3, 1) := by decide +kernel
theorem dL_224 : decode code 224 = .ok (.iconst 1, 1) := by decide +kernel
theorem dL_225 : decode code 225 = .ok (.iadd, 1) := by decide +kernel
theorem dL_226 : decode code 226 = .ok (.iaload, 1) := by decide +kernel
theorem dL_227 : decode code 227 = .ok (.invokevirtual 39, 3) := by decide +kernel
theorem dL_230 : decode code 230 = .ok (.pop, 1) := by decide +kernel
theorem dL_231 : decode code 231 = .ok (.goto (335), 3) := by decide +kernel
theorem dL_234 : decode code 234 = .ok (.aload_n 1, 1) := by decide +kernel
theorem dL_235 : decode code 235 = .ok (.invokevirtual 40, 3) := by decide +kernel
theorem dL_238 : decode code 238 = .ok (.pop, 1) := by decide +kernel
theorem dL_239 : decode code 239 = .ok (.aload_n 2, 1) := by decide +kernel
theorem dL_240 : decode code 240 = .ok (.invokevirtual 43, 3) := by decide +kernel
theorem dL_243 : decode code 243 = .ok (.pop, 1) := by decide +kernel
theorem dL_244 : decode code 244 = .ok (.goto (322), 3) := by decide +kernel
theorem dL_247 : decode code 247 = .ok (.aload_n 1, 1) := by decide +kernel
theorem dL_248 : decode code 248 = .ok (.aload_n 0, 1) := by decide +kernel
theorem dL_249 : decode code 249 = .ok (.iload_n 3, 1) := by decide +kernel
theorem dL_250 : decode code 250 = .ok (.iconst 1, 1) := by decide +kernel
theorem dL_251 : decode code 251 = .ok (.iadd, 1) := by decide +kernel
theorem dL_252 : decode code 252 = .ok (.iaload, 1) := by decide +kernel
theorem dL_253 : decode code 253 = .ok (.invokevirtual 44, 3) := by decide +kernel
theorem dL_256 : decode code 256 = .ok (.pop, 1) := by decide +kernel
theorem dL_257 : decode code 257 = .ok (.aload_n 2, 1) := by decide +kernel
theorem dL_258 : decode code 258 = .ok (.aload_n 0, 1) := by decide +kernel
theorem dL_259 : decode code 259 = .ok (.iload_n 3, 1) := by decide +kernel
theorem dL_260 : decode code 260 = .ok (.iconst 1, 1) := by decide +kernel
theorem dL_261 : decode code 261 = .ok (.iadd, 1) := by decide +kernel
theorem dL_262 : decode code 262 = .ok (.iaload, 1) := by decide +kernel
theorem dL_263 : decode code 263 = .ok (.invokevirtual 47, 3) := by decide +kernel
theorem dL_266 : decode code 266 = .ok (.pop, 1) := by decide +kernel
theorem dL_267 : decode code 267 = .ok (.goto (299), 3) := by decide +kernel
theorem dL_270 : decode code 270 = .ok (.aload_n 1, 1) := by decide +kernel
theorem dL_271 : decode code 271 = .ok (.aload_n 0, 1) := by decide +kernel
theorem dL_272 : decode code 272 = .ok (.iload_n 3, 1) := by decide +kernel
theorem dL_273 : decode code 273 = .ok (.iconst 1, 1) := by decide +kernel
theorem dL_274 : decode code 274 = .ok (.iadd, 1) := by decide +kernel
theorem dL_275 : decode code 275 = .ok (.iaload, 1) := by decide +kernel
theorem dL_276 : decode code 276 = .ok (.invokevirtual 48, 3) := by decide +kernel
theorem dL_279 : decode code 279 = .ok (.pop, 1) := by decide +kernel
theorem dL_280 : decode code 280 = .ok (.aload_n 2, 1) := by decide +kernel
theorem dL_281 : decode code 281 = .ok (.aload_n 0, 1) := by decide +kernel
theorem dL_282 : decode code 282 = .ok (.iload_n 3, 1) := by decide +kernel
theorem dL_283 : decode code 283 = .ok (.iconst 1, 1) := by decide +kernel
theorem dL_284 : decode code 284 = .ok (.iadd, 1) := by decide +kernel
theorem dL_285 : decode code 285 = .ok (.iaload, 1) := by decide +kernel
theorem dL_286 : decode code 286 = .ok (.invokevirtual 51, 3) := by decide +kernel
theorem dL_289 : decode code 289 = .ok (.pop, 1) := by decide +kernel
theorem dL_290 : decode code 290 = .ok (.goto (276), 3) := by decide +kernel
theorem dL_293 : decode code 293 = .ok (.aload_n 1, 1) := by decide +kernel
theorem dL_294 : decode code 294 = .ok (.aload_n 0, 1) := by decide +kernel
theorem dL_295 : decode code 295 = .ok (.iload_n 3, 1) := by decide +kernel
theorem dL_296 : decode code 296 = .ok (.iconst 1, 1) := by decide +kernel
theorem dL_297 : decode code 297 = .ok (.iadd, 1) := by decide +kernel
theorem dL_298 : decode code 298 = .ok (.iaload, 1) := by decide +kernel
theorem dL_299 : decode code 299 = .ok (.aload_n 0, 1) := by decide +kernel
theorem dL_300 : decode code 300 = .ok (.iload_n 3, 1) := by decide +kernel
theorem dL_301 : decode code 301 = .ok (.iconst 2, 1) := by decide +kernel
theorem dL_302 : decode code 302 = .ok (.iadd, 1) := by decide +kernel
theorem dL_303 : decode code 303 = .ok (.iaload, 1) := by decide +kernel
theorem dL_304 : decode code 304 = .ok (.invokevirtual 52, 3) := by decide +kernel
theorem dL_307 : decode code 307 = .ok (.pop, 1) := by decide +kernel
theorem dL_308 : decode code 308 = .ok (.aload_n 2, 1) := by decide +kernel
theorem dL_309 : decode code 309 = .ok (.aload_n 0, 1) := by decide +kernel
theorem dL_310 : decode code 310 = .ok (.iload_n 3, 1) := by decide +kernel
theorem dL_311 : decode code 311 = .ok (.iconst 1, 1) := by decide +kernel
theorem dL_312 : decode code 312 = .ok (.iadd, 1) := by decide +kernel
theorem dL_313 : decode code 313 = .ok (.iaload, 1) := by decide +kernel
theorem dL_314 : decode code 314 = .ok (.aload_n 0, 1) := by decide +kernel
theorem dL_315 : decode code 315 = .ok (.iload_n 3, 1) := by decide +kernel
theorem dL_316 : decode code 316 = .ok (.iconst 2, 1) := by decide +kernel
theorem dL_317 : decode code 317 = .ok (.iadd, 1) := by decide +kernel
theorem dL_318 : decode code 318 = .ok (.iaload, 1) := by decide +kernel
theorem dL_319 : decode code 319 = .ok (.invokevirtual 56, 3) := by decide +kernel
theorem dL_322 : decode code 322 = .ok (.pop, 1) := by decide +kernel
theorem dL_323 : decode code 323 = .ok (.goto (243), 3) := by decide +kernel
theorem dL_326 : decode code 326 = .ok (.aload_n 1, 1) := by decide +kernel
theorem dL_327 : decode code 327 = .ok (.aload_n 0, 1) := by decide +kernel
theorem dL_328 : decode code 328 = .ok (.iload_n 3, 1) := by decide +kernel
theorem dL_329 : decode code 329 = .ok (.iconst 1, 1) := by decide +kernel
theorem dL_330 : decode code 330 = .ok (.iadd, 1) := by decide +kernel
theorem dL_331 : decode code 331 = .ok (.iaload, 1) := by decide +kernel
theorem dL_332 : decode code 332 = .ok (.aload_n 0, 1) := by decide +kernel
theorem dL_333 : decode code 333 = .ok (.iload_n 3, 1) := by decide +kernel
theorem dL_334 : decode code 334 = .ok (.iconst 2, 1) := by decide +kernel
theorem dL_335 : decode code 335 = .ok (.iadd, 1) := by decide +kernel
theorem dL_336 : decode code 336 = .ok (.iaload, 1) := by decide +kernel
theorem dL_337 : decode code 337 = .ok (.aload_n 0, 1) := by decide +kernel
theorem dL_338 : decode code 338 = .ok (.iload_n 3, 1) := by decide +kernel
theorem dL_339 : decode code 339 = .ok (.iconst 3, 1) := by decide +kernel
theorem dL_340 : decode code 340 = .ok (.iadd, 1) := by decide +kernel
theorem dL_341 : decode code 341 = .ok (.iaload, 1) := by decide +kernel
theorem dL_342 : decode code 342 = .ok (.invokevirtual 57, 3) := by decide +kernel
theorem dL_345 : decode code 345 = .ok (.pop, 1) := by decide +kernel
theorem dL_346 : decode code 346 = .ok (.aload_n 2, 1) := by decide +kernel
theorem dL_347 : decode code 347 = .ok (.aload_n 0, 1) := by decide +kernel
theorem dL_348 : decode code 348 = .ok (.iload_n 3, 1) := by decide +kernel
theorem dL_349 : decode code 349 = .ok (.iconst 1, 1) := by decide +kernel
theorem dL_350 : decode code 350 = .ok (.iadd, 1) := by decide +kernel
theorem dL_351 : decode code 351 = .ok (.iaload, 1) := by decide +kernel
theorem dL_352 : decode code 352 = .ok (.aload_n 0, 1) := by decide +kernel
theorem dL_353 : decode code 353 = .ok (.iload_n 3, 1) := by decide +kernel
theorem dL_354 : decode code 354 = .ok (.iconst 2, 1) := by decide +kernel
theorem dL_355 : decode code 355 = .ok (.iadd, 1) := by decide +kernel
theorem dL_356 : decode code 356 = .ok (.iaload, 1) := by decide +kernel
theorem dL_357 : decode code 357 = .ok (.aload_n 0, 1) := by decide +kernel
theorem dL_358 : decode code 358 = .ok (.iload_n 3, 1) := by decide +kernel
theorem dL_359 : decode code 359 = .ok (.iconst 3, 1) := by decide +kernel
theorem dL_360 : decode code 360 = .ok (.iadd, 1) := by decide +kernel
theorem dL_361 : decode code 361 = .ok (.iaload, 1) := by decide +kernel
theorem dL_362 : decode code 362 = .ok (.invokevirtual 61, 3) := by decide +kernel
theorem dL_365 : decode code 365 = .ok (.pop, 1) := by decide +kernel
theorem dL_366 : decode code 366 = .ok (.goto (200), 3) := by decide +kernel
theorem dL_369 : decode code 369 = .ok (.aload_n 1, 1) := by decide +kernel
theorem dL_370 : decode code 370 = .ok (.invokevirtual 62, 3) := by decide +kernel
theorem dL_373 : decode code 373 = .ok (.pop, 1) := by decide +kernel
theorem dL_374 : decode code 374 = .ok (.aload_n 2, 1) := by decide +kernel
theorem dL_375 : decode code 375 = .ok (.invokevirtual 65, 3) := by decide +kernel
theorem dL_378 : decode code 378 = .ok (.pop, 1) := by decide +kernel
theorem dL_379 : decode code 379 = .ok (.goto (187), 3) := by decide +kernel
theorem dL_382 : decode code 382 = .ok (.aload_n 1, 1) := by decide +kernel
theorem dL_383 : decode code 383 = .ok (.invokevirtual 66, 3) := by decide +kernel
theorem dL_386 : decode code 386 = .ok (.pop, 1) := by decide +kernel
theorem dL_387 : decode code 387 = .ok (.aload_n 2, 1) := by decide +kernel
theorem dL_388 : decode code 388 = .ok (.invokevirtual 69, 3) := by decide +kernel
theorem dL_391 : decode code 391 = .ok (.pop, 1) := by decide +kernel
theorem dL_392 : decode code 392 = .ok (.goto (174), 3) := by decide +kernel
theorem dL_395 : decode code 395 = .ok (.aload_n 1, 1) := by decide +kernel
theorem dL_396 : decode code 396 = .ok (.invokevirtual 70, 3) := by decide +kernel
theorem dL_399 : decode code 399 = .ok (.pop, 1) := by decide +kernel
theorem dL_400 : decode code 400 = .ok (.aload_n 2, 1) := by decide +kernel
theorem dL_401 : decode code 401 = .ok (.invokevirtual 73, 3) := by decide +kernel
theorem dL_404 : decode code 404 = .ok (.pop, 1) := by decide +kernel
theorem dL_405 : decode code 405 = .ok (.goto (161), 3) := by decide +kernel
theorem dL_408 : decode code 408 = .ok (.aload_n 1, 1) := by decide +kernel
theorem dL_409 : decode code 409 = .ok (.aload_n 0, 1) := by decide +kernel
theorem dL_410 : decode code 410 = .ok (.iload_n 3, 1) := by decide +kernel
theorem dL_411 : decode code 411 = .ok (.iconst 1, 1) := by decide +kernel
theorem dL_412 : decode code 412 = .ok (.iadd, 1) := by decide +kernel
theorem dL_413 : decode code 413 = .ok (.iaload, 1) := by decide +kernel
theorem dL_414 : decode code 414 = .ok (.invokevirtual 74, 3) := by decide +kernel
theorem dL_417 : decode code 417 = .ok (.pop, 1) := by decide +kernel
theorem dL_418 : decode code 418 = .ok (.aload_n 2, 1) := by decide +kernel
theorem dL_419 : decode code 419 = .ok (.aload_n 0, 1) := by decide +kernel
theorem dL_420 : decode code 420 = .ok (.iload_n 3, 1) := by decide +kernel
theorem dL_421 : decode code 421 = .ok (.iconst 1, 1) := by decide +kernel
theorem dL_422 : decode code 422 = .ok (.iadd, 1) := by decide +kernel
theorem dL_423 : decode code 423 = .ok (.iaload, 1) := by decide +kernel
theorem dL_424 : decode code 424 = .ok (.invokevirtual 77, 3) := by decide +kernel
theorem dL_427 : decode code 427 = .ok (.pop, 1) := by decide +kernel
theorem dL_428 : decode code 428 = .ok (.goto (138), 3) := by decide +kernel
theorem dL_431 : decode code 431 = .ok (.aload_n 1, 1) := by decide +kernel
theorem dL_432 : decode code 432 = .ok (.aload_n 0, 1) := by decide +kernel
theorem dL_433 : decode code 433 = .ok (.iload_n 3, 1) := by decide +kernel
theorem dL_434 : decode code 434 = .ok (.iconst 1, 1) := by decide +kernel
theorem dL_435 : decode code 435 = .ok (.iadd, 1) := by decide +kernel
theorem dL_436 : decode code 436 = .ok (.iaload, 1) := by decide +kernel
theorem dL_437 : decode code 437 = .ok (.aload_n 0, 1) := by decide +kernel
theorem dL_438 : decode code 438 = .ok (.iload_n 3, 1) := by decide +kernel
theorem dL_439 : decode code 439 = .ok (.iconst 2, 1) := by decide +kernel
theorem dL_440 : decode code 440 = .ok (.iadd, 1) := by decide +kernel
theorem dL_441 : decode code 441 = .ok (.iaload, 1) := by decide +kernel
theorem dL_442 : decode code 442 = .ok (.invokevirtual 78, 3) := by decide +kernel
theorem dL_445 : decode code 445 = .ok (.pop, 1) := by decide +kernel
theorem dL_446 : decode code 446 = .ok (.aload_n 2, 1) := by decide +kernel
theorem dL_447 : decode code 447 = .ok (.aload_n 0, 1) := by decide +kernel
theorem dL_448 : decode code 448 = .ok (.iload_n 3, 1) := by decide +kernel
theorem dL_449 : decode code 449 = .ok (.iconst 1, 1) := by decide +kernel
theorem dL_450 : decode code 450 = .ok (.iadd, 1) := by decide +kernel
theorem dL_451 : decode code 451 = .ok (.iaload, 1) := by decide +kernel
theorem dL_452 : decode code 452 = .ok (.aload_n 0, 1) := by decide +kernel
theorem dL_453 : decode code 453 = .ok (.iload_n 3, 1) := by decide +kernel
theorem dL_454 : decode code 454 = .ok (.iconst 2, 1) := by decide +kernel
theorem dL_455 : decode code 455 = .ok (.iadd, 1) := by decide +kernel
theorem dL_456 : decode code 456 = .ok (.iaload, 1) := by decide +kernel
theorem dL_457 : decode code 457 = .ok (.invokevirtual 81, 3) := by decide +kernel
theorem dL_460 : decode code 460 = .ok (.pop, 1) := by decide +kernel
theorem dL_461 : decode code 461 = .ok (.goto (105), 3) := by decide +kernel
theorem dL_464 : decode code 464 = .ok (.aload_n 1, 1) := by decide +kernel
theorem dL_465 : decode code 465 = .ok (.aload_n 0, 1) := by decide +kernel
theorem dL_466 : decode code 466 = .ok (.iload_n 3, 1) := by decide +kernel
theorem dL_467 : decode code 467 = .ok (.iconst 1, 1) := by decide +kernel
theorem dL_468 : decode code 468 = .ok (.iadd, 1) := by decide +kernel
theorem dL_469 : decode code 469 = .ok (.iaload, 1) := by decide +kernel
theorem dL_470 : decode code 470 = .ok (.aload_n 0, 1) := by decide +kernel
theorem dL_471 : decode code 471 = .ok (.iload_n 3, 1) := by decide +kernel
theorem dL_472 : decode code 472 = .ok (.iconst 2, 1) := by decide +kernel
theorem dL_473 : decode code 473 = .ok (.iadd, 1) := by decide +kernel
theorem dL_474 : decode code 474 = .ok (.iaload, 1) := by decide +kernel
theorem dL_475 : decode code 475 = .ok (.aload_n 0, 1) := by decide +kernel
theorem dL_476 : decode code 476 = .ok (.iload_n 3, 1) := by decide +kernel
theorem dL_477 : decode code 477 = .ok (.iconst 3, 1) := by decide +kernel
theorem dL_478 : decode code 478 = .ok (.iadd, 1) := by decide +kernel
theorem dL_479 : decode code 479 = .ok (.iaload, 1) := by decide +kernel
theorem dL_480 : decode code 480 = .ok (.invokevirtual 82, 3) := by decide +kernel
theorem dL_483 : decode code 483 = .ok (.aload_n 2, 1) := by decide +kernel
theorem dL_484 : decode code 484 = .ok (.aload_n 0, 1) := by decide +kernel
theorem dL_485 : decode code 485 = .ok (.iload_n 3, 1) := by decide +kernel
theorem dL_486 : decode code 486 = .ok (.iconst 1, 1) := by decide +kernel
theorem dL_487 : decode code 487 = .ok (.iadd, 1) := by decide +kernel
theorem dL_488 : decode code 488 = .ok (.iaload, 1) := by decide +kernel
theorem dL_489 : decode code 489 = .ok (.aload_n 0, 1) := by decide +kernel
theorem dL_490 : decode code 490 = .ok (.iload_n 3, 1) := by decide +kernel
theorem dL_491 : decode code 491 = .ok (.iconst 2, 1) := by decide +kernel
theorem dL_492 : decode code 492 = .ok (.iadd, 1) := by decide +kernel
theorem dL_493 : decode code 493 = .ok (.iaload, 1) := by decide +kernel
theorem dL_494 : decode code 494 = .ok (.aload_n 0, 1) := by decide +kernel
theorem dL_495 : decode code 495 = .ok (.iload_n 3, 1) := by decide +kernel
theorem dL_496 : decode code 496 = .ok (.iconst 3, 1) := by decide +kernel
theorem dL_497 : decode code 497 = .ok (.iadd, 1) := by decide +kernel
theorem dL_498 : decode code 498 = .ok (.iaload, 1) := by decide +kernel
theorem dL_499 : decode code 499 = .ok (.invokevirtual 85, 3) := by decide +kernel
theorem dL_502 : decode code 502 = .ok (.if_icmp .eq (64), 3) := by decide +kernel
theorem dL_505 : decode code 505 = .ok (.iconst 0, 1) := by decide +kernel
theorem dL_506 : decode code 506 = .ok (.ireturn, 1) := by decide +kernel
theorem dL_507 : decode code 507 = .ok (.aload_n 1, 1) := by decide +kernel
theorem dL_508 : decode code 508 = .ok (.aload_n 0, 1) := by decide +kernel
theorem dL_509 : decode code 509 = .ok (.iload_n 3, 1) := by decide +kernel
theorem dL_510 : decode code 510 = .ok (.iconst 1, 1) := by decide +kernel
theorem dL_511 : decode code 511 = .ok (.iadd, 1) := by decide +kernel
theorem dL_512 : decode code 512 = .ok (.iaload, 1) := by decide +kernel
theorem dL_513 : decode code 513 = .ok (.invokevirtual 86, 3) := by decide +kernel
theorem dL_516 : decode code 516 = .ok (.pop, 1) := by decide +kernel
theorem dL_517 : decode code 517 = .ok (.aload_n 2, 1) := by decide +kernel
theorem dL_518 : decode code 518 = .ok (.aload_n 0, 1) := by decide +kernel
theorem dL_519 : decode code 519 = .ok (.iload_n 3, 1) := by decide +kernel
theorem dL_520 : decode code 520 = .ok (.iconst 1, 1) := by decide +kernel
theorem dL_521 : decode code 521 = .ok (.iadd, 1) := by decide +kernel
theorem dL_522 : decode code 522 = .ok (.iaload, 1) := by decide +kernel
theorem dL_523 : decode code 523 = .ok (.invokevirtual 89, 3) := by decide +kernel
theorem dL_526 : decode code 526 = .ok (.pop, 1) := by decide +kernel
theorem dL_527 : decode code 527 = .ok (.goto (39), 3) := by decide +kernel
theorem dL_530 : decode code 530 = .ok (.aload_n 1, 1) := by decide +kernel
theorem dL_531 : decode code 531 = .ok (.aload_n 0, 1) := by decide +kernel
theorem dL_532 : decode code 532 = .ok (.iload_n 3, 1) := by decide +kernel
theorem dL_533 : decode code 533 = .ok (.iconst 1, 1) := by decide +kernel
theorem dL_534 : decode code 534 = .ok (.iadd, 1) := by decide +kernel
theorem dL_535 : decode code 535 = .ok (.iaload, 1) := by decide +kernel
theorem dL_536 : decode code 536 = .ok (.invokevirtual 90, 3) := by decide +kernel
theorem dL_539 : decode code 539 = .ok (.pop, 1) := by decide +kernel
theorem dL_540 : decode code 540 = .ok (.aload_n 2, 1) := by decide +kernel
theorem dL_541 : decode code 541 = .ok (.aload_n 0, 1) := by decide +kernel
theorem dL_542 : decode code 542 = .ok (.iload_n 3, 1) := by decide +kernel
theorem dL_543 : decode code 543 = .ok (.iconst 1, 1) := by decide +kernel
theorem dL_544 : decode code 544 = .ok (.iadd, 1) := by decide +kernel
theorem dL_545 : decode code 545 = .ok (.iaload, 1) := by decide +kernel
theorem dL_546 : decode code 546 = .ok (.invokevirtual 93, 3) := by decide +kernel
theorem dL_549 : decode code 549 = .ok (.pop, 1) := by decide +kernel
theorem dL_550 : decode code 550 = .ok (.goto (16), 3) := by decide +kernel
theorem dL_553 : decode code 553 = .ok (.aload_n 1, 1) := by decide +kernel
theorem dL_554 : decode code 554 = .ok (.invokevirtual 94, 3) := by decide +kernel
theorem dL_557 : decode code 557 = .ok (.pop, 1) := by decide +kernel
theorem dL_558 : decode code 558 = .ok (.aload_n 2, 1) := by decide +kernel
theorem dL_559 : decode code 559 = .ok (.invokevirtual 97, 3) := by decide +kernel
theorem dL_562 : decode code 562 = .ok (.pop, 1) := by decide +kernel
theorem dL_563 : decode code 563 = .ok (.goto (3), 3) := by decide +kernel
theorem dL_566 : decode code 566 = .ok (.iinc 3 4, 3) := by decide +kernel
theorem dL_569 : decode code 569 = .ok (.goto (-551), 3) := by decide +kernel
theorem dL_572 : decode code 572 = .ok (.iconst 1, 1) := by decide +kernel
theorem dL_573 : decode code 573 = .ok (.ireturn, 1) := by decide +kernel
