/-! THE LAW: instructions -/
theorem eL_0 : decode ML.2.1 0 = .ok (.new 7, 3) := by decide +kernel
theorem eL_3 : decode ML.2.1 3 = .ok (.dup, 1) := by decide +kernel
theorem eL_4 : decode ML.2.1 4 = .ok (.invokespecial 9, 3) := by decide +kernel
theorem eL_7 : decode ML.2.1 7 = .ok (.astore_n 1, 1) := by decide +kernel
theorem eL_8 : decode ML.2.1 8 = .ok (.new 10, 3) := by decide +kernel
theorem eL_11 : decode ML.2.1 11 = .ok (.dup, 1) := by decide +kernel
theorem eL_12 : decode ML.2.1 12 = .ok (.invokespecial 12, 3) := by decide +kernel
theorem eL_15 : decode ML.2.1 15 = .ok (.astore_n 2, 1) := by decide +kernel
theorem eL_16 : decode ML.2.1 16 = .ok (.iconst 0, 1) := by decide +kernel
theorem eL_17 : decode ML.2.1 17 = .ok (.istore_n 3, 1) := by decide +kernel
theorem eL_18 : decode ML.2.1 18 = .ok (.iload_n 3, 1) := by decide +kernel
theorem eL_19 : decode ML.2.1 19 = .ok (.aload_n 0, 1) := by decide +kernel
theorem eL_20 : decode ML.2.1 20 = .ok (.arraylength, 1) := by decide +kernel
theorem eL_21 : decode ML.2.1 21 = .ok (.bipush 6, 2) := by decide +kernel
theorem eL_23 : decode ML.2.1 23 = .ok (.isub, 1) := by decide +kernel
theorem eL_24 : decode ML.2.1 24 = .ok (.if_icmp .gt 1291, 3) := by decide +kernel
theorem eL_27 : decode ML.2.1 27 = .ok (.aload_n 0, 1) := by decide +kernel
theorem eL_28 : decode ML.2.1 28 = .ok (.iload_n 3, 1) := by decide +kernel
theorem eL_29 : decode ML.2.1 29 = .ok (.iaload, 1) := by decide +kernel
theorem eL_30 : decode ML.2.1 30 = .ok (.bipush 31, 2) := by decide +kernel
theorem eL_32 : decode ML.2.1 32 = .ok (.iand, 1) := by decide +kernel
theorem eL_33 : decode ML.2.1 33 = .ok (.tableswitch 1276 0 29 #[135, 188, 211, 224, 237, 270, 283, 316, 369, 402, 435, 468, 548, 601, 644, 717, 771, 814, 848, 882, 915, 948, 971, 1004, 1027, 1060, 1114, 1157, 1200, 1253], 135) := by decide +kernel
theorem eL_168 : decode ML.2.1 168 = .ok (.aload_n 1, 1) := by decide +kernel
theorem eL_169 : decode ML.2.1 169 = .ok (.aload_n 0, 1) := by decide +kernel
theorem eL_170 : decode ML.2.1 170 = .ok (.iload_n 3, 1) := by decide +kernel
theorem eL_171 : decode ML.2.1 171 = .ok (.iconst 1, 1) := by decide +kernel
theorem eL_172 : decode ML.2.1 172 = .ok (.iadd, 1) := by decide +kernel
theorem eL_173 : decode ML.2.1 173 = .ok (.iaload, 1) := by decide +kernel
theorem eL_174 : decode ML.2.1 174 = .ok (.i2l, 1) := by decide +kernel
theorem eL_175 : decode ML.2.1 175 = .ok (.bipush 32, 2) := by decide +kernel
theorem eL_177 : decode ML.2.1 177 = .ok (.lshl, 1) := by decide +kernel
theorem eL_178 : decode ML.2.1 178 = .ok (.aload_n 0, 1) := by decide +kernel
theorem eL_179 : decode ML.2.1 179 = .ok (.iload_n 3, 1) := by decide +kernel
theorem eL_180 : decode ML.2.1 180 = .ok (.iconst 2, 1) := by decide +kernel
theorem eL_181 : decode ML.2.1 181 = .ok (.iadd, 1) := by decide +kernel
theorem eL_182 : decode ML.2.1 182 = .ok (.iaload, 1) := by decide +kernel
theorem eL_183 : decode ML.2.1 183 = .ok (.i2l, 1) := by decide +kernel
theorem eL_184 : decode ML.2.1 184 = .ok (.ldc2_w 13, 3) := by decide +kernel
theorem eL_187 : decode ML.2.1 187 = .ok (.land, 1) := by decide +kernel
theorem eL_188 : decode ML.2.1 188 = .ok (.lor, 1) := by decide +kernel
theorem eL_189 : decode ML.2.1 189 = .ok (.invokevirtual 15, 3) := by decide +kernel
theorem eL_192 : decode ML.2.1 192 = .ok (.aload_n 2, 1) := by decide +kernel
theorem eL_193 : decode ML.2.1 193 = .ok (.aload_n 0, 1) := by decide +kernel
theorem eL_194 : decode ML.2.1 194 = .ok (.iload_n 3, 1) := by decide +kernel
theorem eL_195 : decode ML.2.1 195 = .ok (.iconst 1, 1) := by decide +kernel
theorem eL_196 : decode ML.2.1 196 = .ok (.iadd, 1) := by decide +kernel
theorem eL_197 : decode ML.2.1 197 = .ok (.iaload, 1) := by decide +kernel
theorem eL_198 : decode ML.2.1 198 = .ok (.i2l, 1) := by decide +kernel
theorem eL_199 : decode ML.2.1 199 = .ok (.bipush 32, 2) := by decide +kernel
theorem eL_201 : decode ML.2.1 201 = .ok (.lshl, 1) := by decide +kernel
theorem eL_202 : decode ML.2.1 202 = .ok (.aload_n 0, 1) := by decide +kernel
theorem eL_203 : decode ML.2.1 203 = .ok (.iload_n 3, 1) := by decide +kernel
theorem eL_204 : decode ML.2.1 204 = .ok (.iconst 2, 1) := by decide +kernel
theorem eL_205 : decode ML.2.1 205 = .ok (.iadd, 1) := by decide +kernel
theorem eL_206 : decode ML.2.1 206 = .ok (.iaload, 1) := by decide +kernel
theorem eL_207 : decode ML.2.1 207 = .ok (.i2l, 1) := by decide +kernel
theorem eL_208 : decode ML.2.1 208 = .ok (.ldc2_w 13, 3) := by decide +kernel
theorem eL_211 : decode ML.2.1 211 = .ok (.land, 1) := by decide +kernel
theorem eL_212 : decode ML.2.1 212 = .ok (.lor, 1) := by decide +kernel
theorem eL_213 : decode ML.2.1 213 = .ok (.invokevirtual 19, 3) := by decide +kernel
theorem eL_216 : decode ML.2.1 216 = .ok (.if_icmp .eq 1093, 3) := by decide +kernel
theorem eL_221 : decode ML.2.1 221 = .ok (.aload_n 1, 1) := by decide +kernel
theorem eL_222 : decode ML.2.1 222 = .ok (.aload_n 0, 1) := by decide +kernel
theorem eL_223 : decode ML.2.1 223 = .ok (.iload_n 3, 1) := by decide +kernel
theorem eL_224 : decode ML.2.1 224 = .ok (.iconst 1, 1) := by decide +kernel
theorem eL_225 : decode ML.2.1 225 = .ok (.iadd, 1) := by decide +kernel
theorem eL_226 : decode ML.2.1 226 = .ok (.iaload, 1) := by decide +kernel
theorem eL_227 : decode ML.2.1 227 = .ok (.invokevirtual 20, 3) := by decide +kernel
theorem eL_230 : decode ML.2.1 230 = .ok (.aload_n 2, 1) := by decide +kernel
theorem eL_231 : decode ML.2.1 231 = .ok (.aload_n 0, 1) := by decide +kernel
theorem eL_232 : decode ML.2.1 232 = .ok (.iload_n 3, 1) := by decide +kernel
theorem eL_233 : decode ML.2.1 233 = .ok (.iconst 1, 1) := by decide +kernel
theorem eL_234 : decode ML.2.1 234 = .ok (.iadd, 1) := by decide +kernel
theorem eL_235 : decode ML.2.1 235 = .ok (.iaload, 1) := by decide +kernel
theorem eL_236 : decode ML.2.1 236 = .ok (.invokevirtual 24, 3) := by decide +kernel
theorem eL_239 : decode ML.2.1 239 = .ok (.if_icmp .eq 1070, 3) := by decide +kernel
theorem eL_244 : decode ML.2.1 244 = .ok (.aload_n 1, 1) := by decide +kernel
theorem eL_245 : decode ML.2.1 245 = .ok (.invokevirtual 25, 3) := by decide +kernel
theorem eL_248 : decode ML.2.1 248 = .ok (.aload_n 2, 1) := by decide +kernel
theorem eL_249 : decode ML.2.1 249 = .ok (.invokevirtual 29, 3) := by decide +kernel
theorem eL_252 : decode ML.2.1 252 = .ok (.if_icmp .eq 1057, 3) := by decide +kernel
theorem eL_257 : decode ML.2.1 257 = .ok (.aload_n 1, 1) := by decide +kernel
theorem eL_258 : decode ML.2.1 258 = .ok (.invokevirtual 30, 3) := by decide +kernel
theorem eL_261 : decode ML.2.1 261 = .ok (.aload_n 2, 1) := by decide +kernel
theorem eL_262 : decode ML.2.1 262 = .ok (.invokevirtual 33, 3) := by decide +kernel
theorem eL_265 : decode ML.2.1 265 = .ok (.if_icmp .eq 1044, 3) := by decide +kernel
theorem eL_270 : decode ML.2.1 270 = .ok (.aload_n 1, 1) := by decide +kernel
theorem eL_271 : decode ML.2.1 271 = .ok (.aload_n 0, 1) := by decide +kernel
theorem eL_272 : decode ML.2.1 272 = .ok (.iload_n 3, 1) := by decide +kernel
theorem eL_273 : decode ML.2.1 273 = .ok (.iconst 1, 1) := by decide +kernel
theorem eL_274 : decode ML.2.1 274 = .ok (.iadd, 1) := by decide +kernel
theorem eL_275 : decode ML.2.1 275 = .ok (.iaload, 1) := by decide +kernel
theorem eL_276 : decode ML.2.1 276 = .ok (.aload_n 0, 1) := by decide +kernel
theorem eL_277 : decode ML.2.1 277 = .ok (.iload_n 3, 1) := by decide +kernel
theorem eL_278 : decode ML.2.1 278 = .ok (.iconst 2, 1) := by decide +kernel
theorem eL_279 : decode ML.2.1 279 = .ok (.iadd, 1) := by decide +kernel
theorem eL_280 : decode ML.2.1 280 = .ok (.iaload, 1) := by decide +kernel
theorem eL_281 : decode ML.2.1 281 = .ok (.invokevirtual 34, 3) := by decide +kernel
theorem eL_284 : decode ML.2.1 284 = .ok (.aload_n 2, 1) := by decide +kernel
theorem eL_285 : decode ML.2.1 285 = .ok (.aload_n 0, 1) := by decide +kernel
theorem eL_286 : decode ML.2.1 286 = .ok (.iload_n 3, 1) := by decide +kernel
theorem eL_287 : decode ML.2.1 287 = .ok (.iconst 1, 1) := by decide +kernel
theorem eL_288 : decode ML.2.1 288 = .ok (.iadd, 1) := by decide +kernel
theorem eL_289 : decode ML.2.1 289 = .ok (.iaload, 1) := by decide +kernel
theorem eL_290 : decode ML.2.1 290 = .ok (.aload_n 0, 1) := by decide +kernel
theorem eL_291 : decode ML.2.1 291 = .ok (.iload_n 3, 1) := by decide +kernel
theorem eL_292 : decode ML.2.1 292 = .ok (.iconst 2, 1) := by decide +kernel
theorem eL_293 : decode ML.2.1 293 = .ok (.iadd, 1) := by decide +kernel
theorem eL_294 : decode ML.2.1 294 = .ok (.iaload, 1) := by decide +kernel
theorem eL_295 : decode ML.2.1 295 = .ok (.invokevirtual 38, 3) := by decide +kernel
theorem eL_298 : decode ML.2.1 298 = .ok (.if_icmp .eq 1011, 3) := by decide +kernel
theorem eL_303 : decode ML.2.1 303 = .ok (.aload_n 1, 1) := by decide +kernel
theorem eL_304 : decode ML.2.1 304 = .ok (.invokevirtual 39, 3) := by decide +kernel
theorem eL_307 : decode ML.2.1 307 = .ok (.aload_n 2, 1) := by decide +kernel
theorem eL_308 : decode ML.2.1 308 = .ok (.invokevirtual 42, 3) := by decide +kernel
theorem eL_311 : decode ML.2.1 311 = .ok (.if_icmp .eq 998, 3) := by decide +kernel
theorem eL_316 : decode ML.2.1 316 = .ok (.aload_n 1, 1) := by decide +kernel
theorem eL_317 : decode ML.2.1 317 = .ok (.aload_n 0, 1) := by decide +kernel
theorem eL_318 : decode ML.2.1 318 = .ok (.iload_n 3, 1) := by decide +kernel
theorem eL_319 : decode ML.2.1 319 = .ok (.iconst 1, 1) := by decide +kernel
theorem eL_320 : decode ML.2.1 320 = .ok (.iadd, 1) := by decide +kernel
theorem eL_321 : decode ML.2.1 321 = .ok (.iaload, 1) := by decide +kernel
theorem eL_322 : decode ML.2.1 322 = .ok (.aload_n 0, 1) := by decide +kernel
theorem eL_323 : decode ML.2.1 323 = .ok (.iload_n 3, 1) := by decide +kernel
theorem eL_324 : decode ML.2.1 324 = .ok (.iconst 2, 1) := by decide +kernel
theorem eL_325 : decode ML.2.1 325 = .ok (.iadd, 1) := by decide +kernel
theorem eL_326 : decode ML.2.1 326 = .ok (.iaload, 1) := by decide +kernel
theorem eL_327 : decode ML.2.1 327 = .ok (.invokevirtual 43, 3) := by decide +kernel
theorem eL_330 : decode ML.2.1 330 = .ok (.aload_n 2, 1) := by decide +kernel
theorem eL_331 : decode ML.2.1 331 = .ok (.aload_n 0, 1) := by decide +kernel
theorem eL_332 : decode ML.2.1 332 = .ok (.iload_n 3, 1) := by decide +kernel
theorem eL_333 : decode ML.2.1 333 = .ok (.iconst 1, 1) := by decide +kernel
theorem eL_334 : decode ML.2.1 334 = .ok (.iadd, 1) := by decide +kernel
theorem eL_335 : decode ML.2.1 335 = .ok (.iaload, 1) := by decide +kernel
theorem eL_336 : decode ML.2.1 336 = .ok (.aload_n 0, 1) := by decide +kernel
theorem eL_337 : decode ML.2.1 337 = .ok (.iload_n 3, 1) := by decide +kernel
theorem eL_338 : decode ML.2.1 338 = .ok (.iconst 2, 1) := by decide +kernel
theorem eL_339 : decode ML.2.1 339 = .ok (.iadd, 1) := by decide +kernel
theorem eL_340 : decode ML.2.1 340 = .ok (.iaload, 1) := by decide +kernel
theorem eL_341 : decode ML.2.1 341 = .ok (.invokevirtual 46, 3) := by decide +kernel
theorem eL_344 : decode ML.2.1 344 = .ok (.if_icmp .eq 965, 3) := by decide +kernel
theorem eL_349 : decode ML.2.1 349 = .ok (.aload_n 1, 1) := by decide +kernel
theorem eL_350 : decode ML.2.1 350 = .ok (.aload_n 0, 1) := by decide +kernel
theorem eL_351 : decode ML.2.1 351 = .ok (.iload_n 3, 1) := by decide +kernel
theorem eL_352 : decode ML.2.1 352 = .ok (.iconst 1, 1) := by decide +kernel
theorem eL_353 : decode ML.2.1 353 = .ok (.iadd, 1) := by decide +kernel
theorem eL_354 : decode ML.2.1 354 = .ok (.iaload, 1) := by decide +kernel
theorem eL_355 : decode ML.2.1 355 = .ok (.aload_n 0, 1) := by decide +kernel
theorem eL_356 : decode ML.2.1 356 = .ok (.iload_n 3, 1) := by decide +kernel
theorem eL_357 : decode ML.2.1 357 = .ok (.iconst 2, 1) := by decide +kernel
theorem eL_358 : decode ML.2.1 358 = .ok (.iadd, 1) := by decide +kernel
theorem eL_359 : decode ML.2.1 359 = .ok (.iaload, 1) := by decide +kernel
theorem eL_360 : decode ML.2.1 360 = .ok (.aload_n 0, 1) := by decide +kernel
theorem eL_361 : decode ML.2.1 361 = .ok (.iload_n 3, 1) := by decide +kernel
theorem eL_362 : decode ML.2.1 362 = .ok (.iconst 3, 1) := by decide +kernel
theorem eL_363 : decode ML.2.1 363 = .ok (.iadd, 1) := by decide +kernel
theorem eL_364 : decode ML.2.1 364 = .ok (.iaload, 1) := by decide +kernel
theorem eL_365 : decode ML.2.1 365 = .ok (.aload_n 0, 1) := by decide +kernel
theorem eL_366 : decode ML.2.1 366 = .ok (.iload_n 3, 1) := by decide +kernel
theorem eL_367 : decode ML.2.1 367 = .ok (.iconst 4, 1) := by decide +kernel
theorem eL_368 : decode ML.2.1 368 = .ok (.iadd, 1) := by decide +kernel
theorem eL_369 : decode ML.2.1 369 = .ok (.iaload, 1) := by decide +kernel
theorem eL_370 : decode ML.2.1 370 = .ok (.invokevirtual 47, 3) := by decide +kernel
theorem eL_373 : decode ML.2.1 373 = .ok (.aload_n 2, 1) := by decide +kernel
theorem eL_374 : decode ML.2.1 374 = .ok (.aload_n 0, 1) := by decide +kernel
theorem eL_375 : decode ML.2.1 375 = .ok (.iload_n 3, 1) := by decide +kernel
theorem eL_376 : decode ML.2.1 376 = .ok (.iconst 1, 1) := by decide +kernel
theorem eL_377 : decode ML.2.1 377 = .ok (.iadd, 1) := by decide +kernel
theorem eL_378 : decode ML.2.1 378 = .ok (.iaload, 1) := by decide +kernel
theorem eL_379 : decode ML.2.1 379 = .ok (.aload_n 0, 1) := by decide +kernel
theorem eL_380 : decode ML.2.1 380 = .ok (.iload_n 3, 1) := by decide +kernel
theorem eL_381 : decode ML.2.1 381 = .ok (.iconst 2, 1) := by decide +kernel
theorem eL_382 : decode ML.2.1 382 = .ok (.iadd, 1) := by decide +kernel
theorem eL_383 : decode ML.2.1 383 = .ok (.iaload, 1) := by decide +kernel
theorem eL_384 : decode ML.2.1 384 = .ok (.aload_n 0, 1) := by decide +kernel
theorem eL_385 : decode ML.2.1 385 = .ok (.iload_n 3, 1) := by decide +kernel
theorem eL_386 : decode ML.2.1 386 = .ok (.iconst 3, 1) := by decide +kernel
theorem eL_387 : decode ML.2.1 387 = .ok (.iadd, 1) := by decide +kernel
theorem eL_388 : decode ML.2.1 388 = .ok (.iaload, 1) := by decide +kernel
theorem eL_389 : decode ML.2.1 389 = .ok (.aload_n 0, 1) := by decide +kernel
theorem eL_390 : decode ML.2.1 390 = .ok (.iload_n 3, 1) := by decide +kernel
theorem eL_391 : decode ML.2.1 391 = .ok (.iconst 4, 1) := by decide +kernel
theorem eL_392 : decode ML.2.1 392 = .ok (.iadd, 1) := by decide +kernel
theorem eL_393 : decode ML.2.1 393 = .ok (.iaload, 1) := by decide +kernel
theorem eL_394 : decode ML.2.1 394 = .ok (.invokevirtual 51, 3) := by decide +kernel
theorem eL_397 : decode ML.2.1 397 = .ok (.if_icmp .eq 912, 3) := by decide +kernel
theorem eL_402 : decode ML.2.1 402 = .ok (.aload_n 1, 1) := by decide +kernel
theorem eL_403 : decode ML.2.1 403 = .ok (.aload_n 0, 1) := by decide +kernel
theorem eL_404 : decode ML.2.1 404 = .ok (.iload_n 3, 1) := by decide +kernel
theorem eL_405 : decode ML.2.1 405 = .ok (.iconst 1, 1) := by decide +kernel
theorem eL_406 : decode ML.2.1 406 = .ok (.iadd, 1) := by decide +kernel
theorem eL_407 : decode ML.2.1 407 = .ok (.iaload, 1) := by decide +kernel
theorem eL_408 : decode ML.2.1 408 = .ok (.aload_n 0, 1) := by decide +kernel
theorem eL_409 : decode ML.2.1 409 = .ok (.iload_n 3, 1) := by decide +kernel
theorem eL_410 : decode ML.2.1 410 = .ok (.iconst 2, 1) := by decide +kernel
theorem eL_411 : decode ML.2.1 411 = .ok (.iadd, 1) := by decide +kernel
theorem eL_412 : decode ML.2.1 412 = .ok (.iaload, 1) := by decide +kernel
theorem eL_413 : decode ML.2.1 413 = .ok (.invokevirtual 52, 3) := by decide +kernel
theorem eL_416 : decode ML.2.1 416 = .ok (.aload_n 2, 1) := by decide +kernel
theorem eL_417 : decode ML.2.1 417 = .ok (.aload_n 0, 1) := by decide +kernel
theorem eL_418 : decode ML.2.1 418 = .ok (.iload_n 3, 1) := by decide +kernel
theorem eL_419 : decode ML.2.1 419 = .ok (.iconst 1, 1) := by decide +kernel
theorem eL_420 : decode ML.2.1 420 = .ok (.iadd, 1) := by decide +kernel
theorem eL_421 : decode ML.2.1 421 = .ok (.iaload, 1) := by decide +kernel
theorem eL_422 : decode ML.2.1 422 = .ok (.aload_n 0, 1) := by decide +kernel
theorem eL_423 : decode ML.2.1 423 = .ok (.iload_n 3, 1) := by decide +kernel
theorem eL_424 : decode ML.2.1 424 = .ok (.iconst 2, 1) := by decide +kernel
theorem eL_425 : decode ML.2.1 425 = .ok (.iadd, 1) := by decide +kernel
theorem eL_426 : decode ML.2.1 426 = .ok (.iaload, 1) := by decide +kernel
theorem eL_427 : decode ML.2.1 427 = .ok (.invokevirtual 55, 3) := by decide +kernel
theorem eL_430 : decode ML.2.1 430 = .ok (.if_icmp .eq 879, 3) := by decide +kernel
theorem eL_435 : decode ML.2.1 435 = .ok (.aload_n 1, 1) := by decide +kernel
theorem eL_436 : decode ML.2.1 436 = .ok (.aload_n 0, 1) := by decide +kernel
theorem eL_437 : decode ML.2.1 437 = .ok (.iload_n 3, 1) := by decide +kernel
theorem eL_438 : decode ML.2.1 438 = .ok (.iconst 1, 1) := by decide +kernel
theorem eL_439 : decode ML.2.1 439 = .ok (.iadd, 1) := by decide +kernel
theorem eL_440 : decode ML.2.1 440 = .ok (.iaload, 1) := by decide +kernel
theorem eL_441 : decode ML.2.1 441 = .ok (.aload_n 0, 1) := by decide +kernel
theorem eL_442 : decode ML.2.1 442 = .ok (.iload_n 3, 1) := by decide +kernel
theorem eL_443 : decode ML.2.1 443 = .ok (.iconst 2, 1) := by decide +kernel
theorem eL_444 : decode ML.2.1 444 = .ok (.iadd, 1) := by decide +kernel
theorem eL_445 : decode ML.2.1 445 = .ok (.iaload, 1) := by decide +kernel
theorem eL_446 : decode ML.2.1 446 = .ok (.invokevirtual 56, 3) := by decide +kernel
theorem eL_449 : decode ML.2.1 449 = .ok (.aload_n 2, 1) := by decide +kernel
theorem eL_450 : decode ML.2.1 450 = .ok (.aload_n 0, 1) := by decide +kernel
theorem eL_451 : decode ML.2.1 451 = .ok (.iload_n 3, 1) := by decide +kernel
theorem eL_452 : decode ML.2.1 452 = .ok (.iconst 1, 1) := by decide +kernel
