/-! THE LAW: cases -/
section LAWC
theorem lkL_15 : Lk R_law 15 yX10_feed := Or.inl (gw2 55 rfl rfl)
theorem lkL_20 : Lk R_law 20 yX10_end := Or.inl (gw2 63 rfl rfl)
theorem lkL_25 : Lk R_law 25 yX10_text := Or.inl (gw2 67 rfl rfl)
theorem lkL_30 : Lk R_law 30 yX10_fault := Or.inl (gw2 145 rfl rfl)
theorem lkL_34 : Lk R_law 34 yX10_net := Or.inl (gw2 149 rfl rfl)
theorem lkL_39 : Lk R_law 39 yX10_drop := Or.inl (gw2 173 rfl rfl)
theorem lkL_43 : Lk R_law 43 yX10_told := Or.inl (gw2 177 rfl rfl)
theorem lkL_47 : Lk R_law 47 yX10_cell := Or.inl (gw2 233 rfl rfl)
theorem lkL_52 : Lk R_law 52 yX10_pace := Or.inl (gw3 1 rfl rfl)
theorem lkL_56 : Lk R_law 56 yX10_start := Or.inl (gw3 5 rfl rfl)
theorem lkL_60 : Lk R_law 60 yX10_time := Or.inl (gw3 11 rfl rfl)
theorem lkL_64 : Lk R_law 64 yX10_sum := Or.inl (gw3 40 rfl rfl)
theorem lkL_69 : Lk R_law 69 yX10_best := Or.inl (gw3 58 rfl rfl)
theorem lkL_73 : Lk R_law 73 yX10_made := Or.inl (gw3 112 rfl rfl)
theorem lkL_78 : Lk R_law 78 yX10_blocks := Or.inl (gw3 122 rfl rfl)
theorem lkL_83 : Lk R_law 83 yX10_sizes := Or.inl (gw3 145 rfl rfl)
theorem lkL_88 : Lk R_law 88 yX10_run := Or.inl (gw3 194 rfl rfl)
theorem lkL_92 : Lk R_law 92 yX10_runs := Or.inl (gw3 202 rfl rfl)
theorem lkL_97 : Lk R_law 97 yX10_mean := Or.inl (gw3 216 rfl rfl)
theorem lkL_101 : Lk R_law 101 yX10_height := Or.inl (gw3 220 rfl rfl)
theorem lkL_105 : Lk R_law 105 yX10_product := Or.inl (gw3 234 rfl rfl)
theorem lkL_109 : Lk R_law 109 yX10_down := Or.inl (gw4 7 rfl rfl)
theorem lkL_113 : Lk R_law 113 yX10_downs := Or.inl (gw4 36 rfl rfl)
theorem lkL_117 : Lk R_law 117 yX10_heap := Or.inl (gw4 45 rfl rfl)
theorem lkL_121 : Lk R_law 121 yX10_digit := Or.inl (gw4 57 rfl rfl)
theorem lkL_125 : Lk R_law 125 yX10_times := Or.inl (gw4 65 rfl rfl)
theorem lkL_129 : Lk R_law 129 yX10_sheet := Or.inl (gw4 75 rfl rfl)
theorem lkL_133 : Lk R_law 133 yX10_lay := Or.inl (gw4 87 rfl rfl)
theorem lkL_137 : Lk R_law 137 yX10_heights := Or.inl (gw4 104 rfl rfl)
theorem lkL_141 : Lk R_law 141 yX10_count := Or.inl (gw4 120 rfl rfl)
theorem lkL_19 : Lk R_law 19 yX11_feed := Or.inl (gw5 10 rfl rfl)
theorem lkL_24 : Lk R_law 24 yX11_end := Or.inl (gw5 15 rfl rfl)
theorem lkL_29 : Lk R_law 29 yX11_text := Or.inl (gw5 22 rfl rfl)
theorem lkL_33 : Lk R_law 33 yX11_fault := Or.inl (gw5 58 rfl rfl)
theorem lkL_38 : Lk R_law 38 yX11_net := Or.inl (gw5 62 rfl rfl)
theorem lkL_42 : Lk R_law 42 yX11_drop := Or.inl (gw5 79 rfl rfl)
theorem lkL_46 : Lk R_law 46 yX11_told := Or.inl (gw5 83 rfl rfl)
theorem lkL_51 : Lk R_law 51 yX11_cell := Or.inl (gw5 120 rfl rfl)
theorem lkL_55 : Lk R_law 55 yX11_pace := Or.inl (gw5 124 rfl rfl)
theorem lkL_59 : Lk R_law 59 yX11_start := Or.inl (gw5 129 rfl rfl)
theorem lkL_63 : Lk R_law 63 yX11_time := Or.inl (gw5 135 rfl rfl)
theorem lkL_68 : Lk R_law 68 yX11_sum := Or.inl (gw5 139 rfl rfl)
theorem lkL_72 : Lk R_law 72 yX11_best := Or.inl (gw5 145 rfl rfl)
theorem lkL_77 : Lk R_law 77 yX11_made := Or.inl (gw5 177 rfl rfl)
theorem lkL_82 : Lk R_law 82 yX11_blocks := Or.inl (gw5 181 rfl rfl)
theorem lkL_87 : Lk R_law 87 yX11_sizes := Or.inl (gw5 187 rfl rfl)
theorem lkL_91 : Lk R_law 91 yX11_run := Or.inl (gw5 204 rfl rfl)
theorem lkL_96 : Lk R_law 96 yX11_runs := Or.inl (gw5 208 rfl rfl)
theorem lkL_100 : Lk R_law 100 yX11_mean := Or.inl (gw5 216 rfl rfl)
theorem lkL_104 : Lk R_law 104 yX11_height := Or.inl (gw5 220 rfl rfl)
theorem lkL_108 : Lk R_law 108 yX11_product := Or.inl (gw5 226 rfl rfl)
theorem lkL_112 : Lk R_law 112 yX11_down := Or.inl (gw5 230 rfl rfl)
theorem lkL_116 : Lk R_law 116 yX11_downs := Or.inl (gw6 5 rfl rfl)
theorem lkL_120 : Lk R_law 120 yX11_heap := Or.inl (gw6 10 rfl rfl)
theorem lkL_124 : Lk R_law 124 yX11_digit := Or.inl (gw6 18 rfl rfl)
theorem lkL_128 : Lk R_law 128 yX11_times := Or.inl (gw6 27 rfl rfl)
theorem lkL_132 : Lk R_law 132 yX11_sheet := Or.inl (gw6 33 rfl rfl)
theorem lkL_136 : Lk R_law 136 yX11_lay := Or.inl (gw6 40 rfl rfl)
theorem lkL_140 : Lk R_law 140 yX11_heights := Or.inl (gw6 44 rfl rfl)
theorem lkL_144 : Lk R_law 144 yX11_count := Or.inl (gw6 48 rfl rfl)
theorem csL_13 : Cond.constantLong R_law 13 (4294967295) ∈ GW := gw6 52 rfl rfl
variable {X : Cx} {p : Program} {l : Launch} {e : Env} {s : State} {m : MethodId} {below : List Frame} {meth : Method} {c : Code} {b L : Nat} {xs : Nat → Int32} {A0 : Nat → Prop} {cells slots : Nat} {Z : State → Prop} {σ : St}
theorem lc_0 (C : LC X p s m c b L xs A0 cells slots) {i : Nat} (hi : i + 6 ≤ L) (h : RA σ) (nx : ∀ σ', RA σ' → AL X p l e s m below meth c b A0 cells slots Z 1309 (LLoc i) [] σ') : AL X p l e s m below meth c b A0 cells slots Z 168 (LLoc i) [] σ := by
  refine (go_aload_n (x := 0) 1 eL_168 rfl rfl).al C ?_
  refine l_arg C 1 (by omega) rfl eL_169 eL_170 eL_171 eL_172 eL_173 ?_
  refine (go_i2l eL_174).al C ?_
  refine (go_bipush (v := 32) eL_175 rfl).al C ?_
  refine (go_lshl eL_177).al C ?_
  refine l_arg C 2 (by omega) rfl eL_178 eL_179 eL_180 eL_181 eL_182 ?_
  refine (go_i2l eL_183).al C ?_
  refine (go_ldc2 csL_13 eL_184).al C ?_
  refine (go_land eL_187).al C ?_
  refine (go_lor eL_188).al C ?_
  refine l_call C mX10_feed lkL_15 rfl (by decide) rfl rfl rfl rfl (by decide) (by decide) eL_189 (ca_feed _ h) (fun v σ1 hv tv => ?_)
  obtain ⟨r, rfl, hc⟩ := hv
  obtain ⟨x, rfl⟩ := ty_int rfl tv
  refine (go_aload_n (x := 88) 2 eL_192 rfl rfl).al C ?_
  refine l_arg C 1 (by omega) rfl eL_193 eL_194 eL_195 eL_196 eL_197 ?_
  refine (go_i2l eL_198).al C ?_
  refine (go_bipush (v := 32) eL_199 rfl).al C ?_
  refine (go_lshl eL_201).al C ?_
  refine l_arg C 2 (by omega) rfl eL_202 eL_203 eL_204 eL_205 eL_206 ?_
  refine (go_i2l eL_207).al C ?_
  refine (go_ldc2 csL_13 eL_208).al C ?_
  refine (go_land eL_211).al C ?_
  refine (go_lor eL_212).al C ?_
  refine l_call C mX11_feed lkL_19 rfl (by decide) rfl rfl rfl rfl (Nat.le_of_ble_eq_true rfl) (by decide) eL_213 hc (fun v2 σ2 hv2 _ => ?_)
  obtain ⟨rfl, h2⟩ := hv2
  exact (br_icmp_eq 1309 eL_216 rfl).al C (fun _ => nx σ2 h2) (fun q => absurd rfl q)
theorem lc_1 (C : LC X p s m c b L xs A0 cells slots) {i : Nat} (hi : i + 6 ≤ L) (h : RA σ) (nx : ∀ σ', RA σ' → AL X p l e s m below meth c b A0 cells slots Z 1309 (LLoc i) [] σ') : AL X p l e s m below meth c b A0 cells slots Z 221 (LLoc i) [] σ := by
  refine (go_aload_n (x := 0) 1 eL_221 rfl rfl).al C ?_
  refine l_arg C 1 (by omega) rfl eL_222 eL_223 eL_224 eL_225 eL_226 ?_
  refine l_call C mX10_end lkL_20 rfl (by decide) rfl rfl rfl rfl (by decide) (by decide) eL_227 (ca_end _ h) (fun v σ1 hv tv => ?_)
  obtain ⟨r, rfl, hc⟩ := hv
  obtain ⟨x, rfl⟩ := ty_int rfl tv
  refine (go_aload_n (x := 88) 2 eL_230 rfl rfl).al C ?_
  refine l_arg C 1 (by omega) rfl eL_231 eL_232 eL_233 eL_234 eL_235 ?_
  refine l_call C mX11_end lkL_24 rfl (by decide) rfl rfl rfl rfl (Nat.le_of_ble_eq_true rfl) (by decide) eL_236 hc (fun v2 σ2 hv2 _ => ?_)
  obtain ⟨rfl, h2⟩ := hv2
  exact (br_icmp_eq 1309 eL_239 rfl).al C (fun _ => nx σ2 h2) (fun q => absurd rfl q)
theorem lc_2 (C : LC X p s m c b L xs A0 cells slots) {i : Nat} (hi : i + 6 ≤ L) (h : RA σ) (nx : ∀ σ', RA σ' → AL X p l e s m below meth c b A0 cells slots Z 1309 (LLoc i) [] σ') : AL X p l e s m below meth c b A0 cells slots Z 244 (LLoc i) [] σ := by
  refine (go_aload_n (x := 0) 1 eL_244 rfl rfl).al C ?_
  refine l_call C mX10_text lkL_25 rfl (by decide) rfl rfl rfl rfl (by decide) (by decide) eL_245 (ca_text  h) (fun v σ1 hv tv => ?_)
  obtain ⟨r, rfl, hc⟩ := hv
  obtain ⟨x, rfl⟩ := ty_int rfl tv
  refine (go_aload_n (x := 88) 2 eL_248 rfl rfl).al C ?_
  refine l_call C mX11_text lkL_29 rfl (by decide) rfl rfl rfl rfl (Nat.le_of_ble_eq_true rfl) (by decide) eL_249 hc (fun v2 σ2 hv2 _ => ?_)
  obtain ⟨rfl, h2⟩ := hv2
  exact (br_icmp_eq 1309 eL_252 rfl).al C (fun _ => nx σ2 h2) (fun q => absurd rfl q)
theorem lc_3 (C : LC X p s m c b L xs A0 cells slots) {i : Nat} (hi : i + 6 ≤ L) (h : RA σ) (nx : ∀ σ', RA σ' → AL X p l e s m below meth c b A0 cells slots Z 1309 (LLoc i) [] σ') : AL X p l e s m below meth c b A0 cells slots Z 257 (LLoc i) [] σ := by
  refine (go_aload_n (x := 0) 1 eL_257 rfl rfl).al C ?_
  refine l_call C mX10_fault lkL_30 rfl (by decide) rfl rfl rfl rfl (by decide) (by decide) eL_258 (ca_fault  h) (fun v σ1 hv tv => ?_)
  obtain ⟨r, rfl, hc⟩ := hv
  obtain ⟨x, rfl⟩ := ty_int rfl tv
  refine (go_aload_n (x := 88) 2 eL_261 rfl rfl).al C ?_
  refine l_call C mX11_fault lkL_33 rfl (by decide) rfl rfl rfl rfl (Nat.le_of_ble_eq_true rfl) (by decide) eL_262 hc (fun v2 σ2 hv2 _ => ?_)
  obtain ⟨rfl, h2⟩ := hv2
  exact (br_icmp_eq 1309 eL_265 rfl).al C (fun _ => nx σ2 h2) (fun q => absurd rfl q)
theorem lc_4 (C : LC X p s m c b L xs A0 cells slots) {i : Nat} (hi : i + 6 ≤ L) (h : RA σ) (nx : ∀ σ', RA σ' → AL X p l e s m below meth c b A0 cells slots Z 1309 (LLoc i) [] σ') : AL X p l e s m below meth c b A0 cells slots Z 270 (LLoc i) [] σ := by
  refine (go_aload_n (x := 0) 1 eL_270 rfl rfl).al C ?_
  refine l_arg C 1 (by omega) rfl eL_271 eL_272 eL_273 eL_274 eL_275 ?_
  refine l_arg C 2 (by omega) rfl eL_276 eL_277 eL_278 eL_279 eL_280 ?_
  refine l_call C mX10_net lkL_34 rfl (by decide) rfl rfl rfl rfl (by decide) (by decide) eL_281 (ca_net _ _ h) (fun v σ1 hv tv => ?_)
  obtain ⟨r, rfl, hc⟩ := hv
  obtain ⟨x, rfl⟩ := ty_int rfl tv
  refine (go_aload_n (x := 88) 2 eL_284 rfl rfl).al C ?_
  refine l_arg C 1 (by omega) rfl eL_285 eL_286 eL_287 eL_288 eL_289 ?_
  refine l_arg C 2 (by omega) rfl eL_290 eL_291 eL_292 eL_293 eL_294 ?_
  refine l_call C mX11_net lkL_38 rfl (by decide) rfl rfl rfl rfl (Nat.le_of_ble_eq_true rfl) (by decide) eL_295 hc (fun v2 σ2 hv2 _ => ?_)
  obtain ⟨rfl, h2⟩ := hv2
  exact (br_icmp_eq 1309 eL_298 rfl).al C (fun _ => nx σ2 h2) (fun q => absurd rfl q)
theorem lc_5 (C : LC X p s m c b L xs A0 cells slots) {i : Nat} (hi : i + 6 ≤ L) (h : RA σ) (nx : ∀ σ', RA σ' → AL X p l e s m below meth c b A0 cells slots Z 1309 (LLoc i) [] σ') : AL X p l e s m below meth c b A0 cells slots Z 303 (LLoc i) [] σ := by
  refine (go_aload_n (x := 0) 1 eL_303 rfl rfl).al C ?_
  refine l_call C mX10_drop lkL_39 rfl (by decide) rfl rfl rfl rfl (by decide) (by decide) eL_304 (ca_drop  h) (fun v σ1 hv tv => ?_)
  obtain ⟨r, rfl, hc⟩ := hv
  obtain ⟨x, rfl⟩ := ty_int rfl tv
  refine (go_aload_n (x := 88) 2 eL_307 rfl rfl).al C ?_
  refine l_call C mX11_drop lkL_42 rfl (by decide) rfl rfl rfl rfl (Nat.le_of_ble_eq_true rfl) (by decide) eL_308 hc (fun v2 σ2 hv2 _ => ?_)
  obtain ⟨rfl, h2⟩ := hv2
  exact (br_icmp_eq 1309 eL_311 rfl).al C (fun _ => nx σ2 h2) (fun q => absurd rfl q)
theorem lc_6 (C : LC X p s m c b L xs A0 cells slots) {i : Nat} (hi : i + 6 ≤ L) (h : RA σ) (nx : ∀ σ', RA σ' → AL X p l e s m below meth c b A0 cells slots Z 1309 (LLoc i) [] σ') : AL X p l e s m below meth c b A0 cells slots Z 316 (LLoc i) [] σ := by
  refine (go_aload_n (x := 0) 1 eL_316 rfl rfl).al C ?_
  refine l_arg C 1 (by omega) rfl eL_317 eL_318 eL_319 eL_320 eL_321 ?_
  refine l_arg C 2 (by omega) rfl eL_322 eL_323 eL_324 eL_325 eL_326 ?_
  refine l_call C mX10_told lkL_43 rfl (by decide) rfl rfl rfl rfl (by decide) (by decide) eL_327 (ca_told _ _ h) (fun v σ1 hv tv => ?_)
  obtain ⟨r, rfl, hc⟩ := hv
  obtain ⟨x, rfl⟩ := ty_int rfl tv
  refine (go_aload_n (x := 88) 2 eL_330 rfl rfl).al C ?_
  refine l_arg C 1 (by omega) rfl eL_331 eL_332 eL_333 eL_334 eL_335 ?_
  refine l_arg C 2 (by omega) rfl eL_336 eL_337 eL_338 eL_339 eL_340 ?_
  refine l_call C mX11_told lkL_46 rfl (by decide) rfl rfl rfl rfl (Nat.le_of_ble_eq_true rfl) (by decide) eL_341 hc (fun v2 σ2 hv2 _ => ?_)
  obtain ⟨rfl, h2⟩ := hv2
  exact (br_icmp_eq 1309 eL_344 rfl).al C (fun _ => nx σ2 h2) (fun q => absurd rfl q)
theorem lc_7 (C : LC X p s m c b L xs A0 cells slots) {i : Nat} (hi : i + 6 ≤ L) (h : RA σ) (nx : ∀ σ', RA σ' → AL X p l e s m below meth c b A0 cells slots Z 1309 (LLoc i) [] σ') : AL X p l e s m below meth c b A0 cells slots Z 349 (LLoc i) [] σ := by
  refine (go_aload_n (x := 0) 1 eL_349 rfl rfl).al C ?_
  refine l_arg C 1 (by omega) rfl eL_350 eL_351 eL_352 eL_353 eL_354 ?_
  refine l_arg C 2 (by omega) rfl eL_355 eL_356 eL_357 eL_358 eL_359 ?_
  refine l_arg C 3 (by omega) rfl eL_360 eL_361 eL_362 eL_363 eL_364 ?_
  refine l_arg C 4 (by omega) rfl eL_365 eL_366 eL_367 eL_368 eL_369 ?_
  refine l_call C mX10_cell lkL_47 rfl (by decide) rfl rfl rfl rfl (by decide) (by decide) eL_370 (ca_cell _ _ _ _ h) (fun v σ1 hv tv => ?_)
  obtain ⟨r, rfl, hc⟩ := hv
  obtain ⟨x, rfl⟩ := ty_int rfl tv
  refine (go_aload_n (x := 88) 2 eL_373 rfl rfl).al C ?_
  refine l_arg C 1 (by omega) rfl eL_374 eL_375 eL_376 eL_377 eL_378 ?_
  refine l_arg C 2 (by omega) rfl eL_379 eL_380 eL_381 eL_382 eL_383 ?_
  refine l_arg C 3 (by omega) rfl eL_384 eL_385 eL_386 eL_387 eL_388 ?_
  refine l_arg C 4 (by omega) rfl eL_389 eL_390 eL_391 eL_392 eL_393 ?_
  refine l_call C mX11_cell lkL_51 rfl (by decide) rfl rfl rfl rfl (Nat.le_of_ble_eq_true rfl) (by decide) eL_394 hc (fun v2 σ2 hv2 _ => ?_)
  obtain ⟨rfl, h2⟩ := hv2
  exact (br_icmp_eq 1309 eL_397 rfl).al C (fun _ => nx σ2 h2) (fun q => absurd rfl q)
theorem lc_8 (C : LC X p s m c b L xs A0 cells slots) {i : Nat} (hi : i + 6 ≤ L) (h : RA σ) (nx : ∀ σ', RA σ' → AL X p l e s m below meth c b A0 cells slots Z 1309 (LLoc i) [] σ') : AL X p l e s m below meth c b A0 cells slots Z 402 (LLoc i) [] σ := by
  refine (go_aload_n (x := 0) 1 eL_402 rfl rfl).al C ?_
  refine l_arg C 1 (by omega) rfl eL_403 eL_404 eL_405 eL_406 eL_407 ?_
  refine l_arg C 2 (by omega) rfl eL_408 eL_409 eL_410 eL_411 eL_412 ?_
  refine l_call C mX10_pace lkL_52 rfl (by decide) rfl rfl rfl rfl (by decide) (by decide) eL_413 (ca_pace _ _ h) (fun v σ1 hv tv => ?_)
  obtain ⟨r, rfl, hc⟩ := hv
  obtain ⟨x, rfl⟩ := ty_int rfl tv
  refine (go_aload_n (x := 88) 2 eL_416 rfl rfl).al C ?_
  refine l_arg C 1 (by omega) rfl eL_417 eL_418 eL_419 eL_420 eL_421 ?_
  refine l_arg C 2 (by omega) rfl eL_422 eL_423 eL_424 eL_425 eL_426 ?_
  refine l_call C mX11_pace lkL_55 rfl (by decide) rfl rfl rfl rfl (Nat.le_of_ble_eq_true rfl) (by decide) eL_427 hc (fun v2 σ2 hv2 _ => ?_)
  obtain ⟨rfl, h2⟩ := hv2
  exact (br_icmp_eq 1309 eL_430 rfl).al C (fun _ => nx σ2 h2) (fun q => absurd rfl q)
theorem lc_9 (C : LC X p s m c b L xs A0 cells slots) {i : Nat} (hi : i + 6 ≤ L) (h : RA σ) (nx : ∀ σ', RA σ' → AL X p l e s m below meth c b A0 cells slots Z 1309 (LLoc i) [] σ') : AL X p l e s m below meth c b A0 cells slots Z 435 (LLoc i) [] σ := by
  refine (go_aload_n (x := 0) 1 eL_435 rfl rfl).al C ?_
  refine l_arg C 1 (by omega) rfl eL_436 eL_437 eL_438 eL_439 eL_440 ?_
  refine l_arg C 2 (by omega) rfl eL_441 eL_442 eL_443 eL_444 eL_445 ?_
  refine l_call C mX10_start lkL_56 rfl (by decide) rfl rfl rfl rfl (by decide) (by decide) eL_446 (ca_start _ _ h) (fun v σ1 hv tv => ?_)
  obtain ⟨r, rfl, hc⟩ := hv
  obtain ⟨x, rfl⟩ := ty_int rfl tv
  refine (go_aload_n (x := 88) 2 eL_449 rfl rfl).al C ?_
  refine l_arg C 1 (by omega) rfl eL_450 eL_451 eL_452 eL_453 eL_454 ?_
  refine l_arg C 2 (by omega) rfl eL_455 eL_456 eL_457 eL_458 eL_459 ?_
  refine l_call C mX11_start lkL_59 rfl (by decide) rfl rfl rfl rfl (Nat.le_of_ble_eq_true rfl) (by decide) eL_460 hc (fun v2 σ2 hv2 _ => ?_)
  obtain ⟨rfl, h2⟩ := hv2
  exact (br_icmp_eq 1309 eL_463 rfl).al C (fun _ => nx σ2 h2) (fun q => absurd rfl q)
theorem lc_10 (C : LC X p s m c b L xs A0 cells slots) {i : Nat} (hi : i + 6 ≤ L) (h : RA σ) (nx : ∀ σ', RA σ' → AL X p l e s m below meth c b A0 cells slots Z 1309 (LLoc i) [] σ') : AL X p l e s m below meth c b A0 cells slots Z 468 (LLoc i) [] σ := by
  refine (go_aload_n (x := 0) 1 eL_468 rfl rfl).al C ?_
  refine l_arg C 1 (by omega) rfl eL_469 eL_470 eL_471 eL_472 eL_473 ?_
  refine l_arg C 2 (by omega) rfl eL_474 eL_475 eL_476 eL_477 eL_478 ?_
  refine l_call C mX10_time lkL_60 rfl (by decide) rfl rfl rfl rfl (by decide) (by decide) eL_479 (ca_time _ _ h) (fun v σ1 hv tv => ?_)
  obtain ⟨r, rfl, hc⟩ := hv
  obtain ⟨x, rfl⟩ := ty_int rfl tv
  refine (go_aload_n (x := 88) 2 eL_482 rfl rfl).al C ?_
  refine l_arg C 1 (by omega) rfl eL_483 eL_484 eL_485 eL_486 eL_487 ?_
  refine l_arg C 2 (by omega) rfl eL_488 eL_489 eL_490 eL_491 eL_492 ?_
  refine l_call C mX11_time lkL_63 rfl (by decide) rfl rfl rfl rfl (Nat.le_of_ble_eq_true rfl) (by decide) eL_493 hc (fun v2 σ2 hv2 _ => ?_)
  obtain ⟨rfl, h2⟩ := hv2
  exact (br_icmp_eq 1309 eL_496 rfl).al C (fun _ => nx σ2 h2) (fun q => absurd rfl q)
theorem lc_11 (C : LC X p s m c b L xs A0 cells slots) {i : Nat} (hi : i + 6 ≤ L) (h : RA σ) (nx : ∀ σ', RA σ' → AL X p l e s m below meth c b A0 cells slots Z 1309 (LLoc i) [] σ') : AL X p l e s m below meth c b A0 cells slots Z 501 (LLoc i) [] σ := by
  refine (go_aload_n (x := 0) 1 eL_501 rfl rfl).al C ?_
  refine l_arg C 1 (by omega) rfl eL_502 eL_503 eL_504 eL_505 eL_506 ?_
  refine l_arg C 2 (by omega) rfl eL_507 eL_508 eL_509 eL_510 eL_511 ?_
  refine l_arg C 3 (by omega) rfl eL_512 eL_513 eL_514 eL_515 eL_516 ?_
  refine l_arg C 4 (by omega) rfl eL_517 eL_518 eL_519 eL_520 eL_521 ?_
  refine l_bool C eL_522 eL_525 eL_526 eL_529 ?_
  refine l_arg C 5 (by omega) rfl eL_530 eL_531 eL_532 eL_533 eL_534 ?_
  refine l_call C mX10_sum lkL_64 rfl (by decide) rfl rfl rfl rfl (by decide) (by decide) eL_535 (ca_sum _ _ _ _ _ h) (fun v σ1 hv tv => ?_)
  obtain ⟨r, rfl, hc⟩ := hv
  obtain ⟨x, rfl⟩ := ty_long rfl tv
  refine (go_aload_n (x := 88) 2 eL_538 rfl rfl).al C ?_
  refine l_arg C 1 (by omega) rfl eL_539 eL_540 eL_541 eL_542 eL_543 ?_
  refine l_arg C 2 (by omega) rfl eL_544 eL_545 eL_546 eL_547 eL_548 ?_
  refine l_arg C 3 (by omega) rfl eL_549 eL_550 eL_551 eL_552 eL_553 ?_
  refine l_arg C 4 (by omega) rfl eL_554 eL_555 eL_556 eL_557 eL_558 ?_
  refine l_bool C eL_559 eL_562 eL_563 eL_566 ?_
  refine l_arg C 5 (by omega) rfl eL_567 eL_568 eL_569 eL_570 eL_571 ?_
  refine l_call C mX11_sum lkL_68 rfl (by decide) rfl rfl rfl rfl (Nat.le_of_ble_eq_true rfl) (by decide) eL_572 hc (fun v2 σ2 hv2 _ => ?_)
  obtain ⟨rfl, h2⟩ := hv2
  refine (go_lcmp eL_575).al C ?_
  exact (brl_eq 1309 eL_576 rfl).al C (fun _ => nx σ2 h2) (fun q => absurd rfl q)
theorem lc_12 (C : LC X p s m c b L xs A0 cells slots) {i : Nat} (hi : i + 6 ≤ L) (h : RA σ) (nx : ∀ σ', RA σ' → AL X p l e s m below meth c b A0 cells slots Z 1309 (LLoc i) [] σ') : AL X p l e s m below meth c b A0 cells slots Z 581 (LLoc i) [] σ := by
  refine (go_aload_n (x := 0) 1 eL_581 rfl rfl).al C ?_
  refine l_arg C 1 (by omega) rfl eL_582 eL_583 eL_584 eL_585 eL_586 ?_
  refine l_arg C 2 (by omega) rfl eL_587 eL_588 eL_589 eL_590 eL_591 ?_
  refine l_arg C 3 (by omega) rfl eL_592 eL_593 eL_594 eL_595 eL_596 ?_
  refine l_arg C 4 (by omega) rfl eL_597 eL_598 eL_599 eL_600 eL_601 ?_
  refine l_call C mX10_best lkL_69 rfl (by decide) rfl rfl rfl rfl (by decide) (by decide) eL_602 (ca_best _ _ _ _ h) (fun v σ1 hv tv => ?_)
  obtain ⟨r, rfl, hc⟩ := hv
  obtain ⟨x, rfl⟩ := ty_int rfl tv
  refine (go_aload_n (x := 88) 2 eL_605 rfl rfl).al C ?_
  refine l_arg C 1 (by omega) rfl eL_606 eL_607 eL_608 eL_609 eL_610 ?_
  refine l_arg C 2 (by omega) rfl eL_611 eL_612 eL_613 eL_614 eL_615 ?_
  refine l_arg C 3 (by omega) rfl eL_616 eL_617 eL_618 eL_619 eL_620 ?_
  refine l_arg C 4 (by omega) rfl eL_621 eL_622 eL_623 eL_624 eL_625 ?_
  refine l_call C mX11_best lkL_72 rfl (by decide) rfl rfl rfl rfl (Nat.le_of_ble_eq_true rfl) (by decide) eL_626 hc (fun v2 σ2 hv2 _ => ?_)
  obtain ⟨rfl, h2⟩ := hv2
  exact (br_icmp_eq 1309 eL_629 rfl).al C (fun _ => nx σ2 h2) (fun q => absurd rfl q)
theorem lc_13 (C : LC X p s m c b L xs A0 cells slots) {i : Nat} (hi : i + 6 ≤ L) (h : RA σ) (nx : ∀ σ', RA σ' → AL X p l e s m below meth c b A0 cells slots Z 1309 (LLoc i) [] σ') : AL X p l e s m below meth c b A0 cells slots Z 634 (LLoc i) [] σ := by
  refine (go_aload_n (x := 0) 1 eL_634 rfl rfl).al C ?_
  refine l_arg C 1 (by omega) rfl eL_635 eL_636 eL_637 eL_638 eL_639 ?_
  refine l_arg C 2 (by omega) rfl eL_640 eL_641 eL_642 eL_643 eL_644 ?_
  refine l_arg C 3 (by omega) rfl eL_645 eL_646 eL_647 eL_648 eL_649 ?_
  refine l_call C mX10_made lkL_73 rfl (by decide) rfl rfl rfl rfl (by decide) (by decide) eL_650 (ca_made _ _ _ h) (fun v σ1 hv tv => ?_)
  obtain ⟨r, rfl, hc⟩ := hv
  obtain ⟨x, rfl⟩ := ty_int rfl tv
  refine (go_aload_n (x := 88) 2 eL_653 rfl rfl).al C ?_
  refine l_arg C 1 (by omega) rfl eL_654 eL_655 eL_656 eL_657 eL_658 ?_
  refine l_arg C 2 (by omega) rfl eL_659 eL_660 eL_661 eL_662 eL_663 ?_
  refine l_arg C 3 (by omega) rfl eL_664 eL_665 eL_666 eL_667 eL_668 ?_
  refine l_call C mX11_made lkL_77 rfl (by decide) rfl rfl rfl rfl (Nat.le_of_ble_eq_true rfl) (by decide) eL_669 hc (fun v2 σ2 hv2 _ => ?_)
  obtain ⟨rfl, h2⟩ := hv2
  exact (br_icmp_eq 1309 eL_672 rfl).al C (fun _ => nx σ2 h2) (fun q => absurd rfl q)
theorem lc_14 (C : LC X p s m c b L xs A0 cells slots) {i : Nat} (hi : i + 6 ≤ L) (h : RA σ) (nx : ∀ σ', RA σ' → AL X p l e s m below meth c b A0 cells slots Z 1309 (LLoc i) [] σ') : AL X p l e s m below meth c b A0 cells slots Z 677 (LLoc i) [] σ := by
  refine (go_aload_n (x := 0) 1 eL_677 rfl rfl).al C ?_
  refine l_arg C 1 (by omega) rfl eL_678 eL_679 eL_680 eL_681 eL_682 ?_
  refine (go_i2l eL_683).al C ?_
  refine (go_bipush (v := 32) eL_684 rfl).al C ?_
  refine (go_lshl eL_686).al C ?_
  refine l_arg C 2 (by omega) rfl eL_687 eL_688 eL_689 eL_690 eL_691 ?_
  refine (go_i2l eL_692).al C ?_
  refine (go_ldc2 csL_13 eL_693).al C ?_
  refine (go_land eL_696).al C ?_
  refine (go_lor eL_697).al C ?_
  refine l_arg C 3 (by omega) rfl eL_698 eL_699 eL_700 eL_701 eL_702 ?_
  refine l_arg C 4 (by omega) rfl eL_703 eL_704 eL_705 eL_706 eL_707 ?_
  refine l_call C mX10_blocks lkL_78 rfl (by decide) rfl rfl rfl rfl (by decide) (by decide) eL_708 (ca_blocks _ _ _ h) (fun v σ1 hv tv => ?_)
  obtain ⟨r, rfl, hc⟩ := hv
  obtain ⟨x, rfl⟩ := ty_int rfl tv
  refine (go_aload_n (x := 88) 2 eL_711 rfl rfl).al C ?_
  refine l_arg C 1 (by omega) rfl eL_712 eL_713 eL_714 eL_715 eL_716 ?_
  refine (go_i2l eL_717).al C ?_
  refine (go_bipush (v := 32) eL_718 rfl).al C ?_
  refine (go_lshl eL_720).al C ?_
  refine l_arg C 2 (by omega) rfl eL_721 eL_722 eL_723 eL_724 eL_725 ?_
  refine (go_i2l eL_726).al C ?_
  refine (go_ldc2 csL_13 eL_727).al C ?_
  refine (go_land eL_730).al C ?_
  refine (go_lor eL_731).al C ?_
  refine l_arg C 3 (by omega) rfl eL_732 eL_733 eL_734 eL_735 eL_736 ?_
  refine l_arg C 4 (by omega) rfl eL_737 eL_738 eL_739 eL_740 eL_741 ?_
  refine l_call C mX11_blocks lkL_82 rfl (by decide) rfl rfl rfl rfl (Nat.le_of_ble_eq_true rfl) (by decide) eL_742 hc (fun v2 σ2 hv2 _ => ?_)
  obtain ⟨rfl, h2⟩ := hv2
  exact (br_icmp_eq 1309 eL_745 rfl).al C (fun _ => nx σ2 h2) (fun q => absurd rfl q)
theorem lc_15 (C : LC X p s m c b L xs A0 cells slots) {i : Nat} (hi : i + 6 ≤ L) (h : RA σ) (nx : ∀ σ', RA σ' → AL X p l e s m below meth c b A0 cells slots Z 1309 (LLoc i) [] σ') : AL X p l e s m below meth c b A0 cells slots Z 750 (LLoc i) [] σ := by
  refine (go_aload_n (x := 0) 1 eL_750 rfl rfl).al C ?_
  refine l_arg C 1 (by omega) rfl eL_751 eL_752 eL_753 eL_754 eL_755 ?_
  refine l_arg C 2 (by omega) rfl eL_756 eL_757 eL_758 eL_759 eL_760 ?_
  refine l_arg C 3 (by omega) rfl eL_761 eL_762 eL_763 eL_764 eL_765 ?_
  refine l_arg C 4 (by omega) rfl eL_766 eL_767 eL_768 eL_769 eL_770 ?_
  refine l_call C mX10_sizes lkL_83 rfl (by decide) rfl rfl rfl rfl (by decide) (by decide) eL_771 (ca_sizes _ _ _ _ h) (fun v σ1 hv tv => ?_)
  obtain ⟨r, rfl, hc⟩ := hv
  obtain ⟨x, rfl⟩ := ty_long rfl tv
  refine (go_aload_n (x := 88) 2 eL_774 rfl rfl).al C ?_
  refine l_arg C 1 (by omega) rfl eL_775 eL_776 eL_777 eL_778 eL_779 ?_
  refine l_arg C 2 (by omega) rfl eL_780 eL_781 eL_782 eL_783 eL_784 ?_
  refine l_arg C 3 (by omega) rfl eL_785 eL_786 eL_787 eL_788 eL_789 ?_
  refine l_arg C 4 (by omega) rfl eL_790 eL_791 eL_792 eL_793 eL_794 ?_
  refine l_call C mX11_sizes lkL_87 rfl (by decide) rfl rfl rfl rfl (Nat.le_of_ble_eq_true rfl) (by decide) eL_795 hc (fun v2 σ2 hv2 _ => ?_)
  obtain ⟨rfl, h2⟩ := hv2
  refine (go_lcmp eL_798).al C ?_
  exact (brl_eq 1309 eL_799 rfl).al C (fun _ => nx σ2 h2) (fun q => absurd rfl q)
theorem lc_16 (C : LC X p s m c b L xs A0 cells slots) {i : Nat} (hi : i + 6 ≤ L) (h : RA σ) (nx : ∀ σ', RA σ' → AL X p l e s m below meth c b A0 cells slots Z 1309 (LLoc i) [] σ') : AL X p l e s m below meth c b A0 cells slots Z 804 (LLoc i) [] σ := by
  refine (go_aload_n (x := 0) 1 eL_804 rfl rfl).al C ?_
  refine l_arg C 1 (by omega) rfl eL_805 eL_806 eL_807 eL_808 eL_809 ?_
  refine l_arg C 2 (by omega) rfl eL_810 eL_811 eL_812 eL_813 eL_814 ?_
  refine l_arg C 3 (by omega) rfl eL_815 eL_816 eL_817 eL_818 eL_819 ?_
  refine l_call C mX10_run lkL_88 rfl (by decide) rfl rfl rfl rfl (by decide) (by decide) eL_820 (ca_run _ _ _ h) (fun v σ1 hv tv => ?_)
  obtain ⟨r, rfl, hc⟩ := hv
  obtain ⟨x, rfl⟩ := ty_int rfl tv
  refine (go_aload_n (x := 88) 2 eL_823 rfl rfl).al C ?_
  refine l_arg C 1 (by omega) rfl eL_824 eL_825 eL_826 eL_827 eL_828 ?_
  refine l_arg C 2 (by omega) rfl eL_829 eL_830 eL_831 eL_832 eL_833 ?_
  refine l_arg C 3 (by omega) rfl eL_834 eL_835 eL_836 eL_837 eL_838 ?_
  refine l_call C mX11_run lkL_91 rfl (by decide) rfl rfl rfl rfl (Nat.le_of_ble_eq_true rfl) (by decide) eL_839 hc (fun v2 σ2 hv2 _ => ?_)
  obtain ⟨rfl, h2⟩ := hv2
  exact (br_icmp_eq 1309 eL_842 rfl).al C (fun _ => nx σ2 h2) (fun q => absurd rfl q)
theorem lc_17 (C : LC X p s m c b L xs A0 cells slots) {i : Nat} (hi : i + 6 ≤ L) (h : RA σ) (nx : ∀ σ', RA σ' → AL X p l e s m below meth c b A0 cells slots Z 1309 (LLoc i) [] σ') : AL X p l e s m below meth c b A0 cells slots Z 847 (LLoc i) [] σ := by
  refine (go_aload_n (x := 0) 1 eL_847 rfl rfl).al C ?_
  refine l_arg C 1 (by omega) rfl eL_848 eL_849 eL_850 eL_851 eL_852 ?_
  refine l_arg C 2 (by omega) rfl eL_853 eL_854 eL_855 eL_856 eL_857 ?_
  refine l_call C mX10_runs lkL_92 rfl (by decide) rfl rfl rfl rfl (by decide) (by decide) eL_858 (ca_runs _ _ h) (fun v σ1 hv tv => ?_)
  obtain ⟨r, rfl, hc⟩ := hv
  obtain ⟨x, rfl⟩ := ty_long rfl tv
  refine (go_aload_n (x := 88) 2 eL_861 rfl rfl).al C ?_
  refine l_arg C 1 (by omega) rfl eL_862 eL_863 eL_864 eL_865 eL_866 ?_
  refine l_arg C 2 (by omega) rfl eL_867 eL_868 eL_869 eL_870 eL_871 ?_
  refine l_call C mX11_runs lkL_96 rfl (by decide) rfl rfl rfl rfl (Nat.le_of_ble_eq_true rfl) (by decide) eL_872 hc (fun v2 σ2 hv2 _ => ?_)
  obtain ⟨rfl, h2⟩ := hv2
  refine (go_lcmp eL_875).al C ?_
  exact (brl_eq 1309 eL_876 rfl).al C (fun _ => nx σ2 h2) (fun q => absurd rfl q)
theorem lc_18 (C : LC X p s m c b L xs A0 cells slots) {i : Nat} (hi : i + 6 ≤ L) (h : RA σ) (nx : ∀ σ', RA σ' → AL X p l e s m below meth c b A0 cells slots Z 1309 (LLoc i) [] σ') : AL X p l e s m below meth c b A0 cells slots Z 881 (LLoc i) [] σ := by
  refine (go_aload_n (x := 0) 1 eL_881 rfl rfl).al C ?_
  refine l_arg C 1 (by omega) rfl eL_882 eL_883 eL_884 eL_885 eL_886 ?_
  refine l_arg C 2 (by omega) rfl eL_887 eL_888 eL_889 eL_890 eL_891 ?_
  refine l_call C mX10_mean lkL_97 rfl (by decide) rfl rfl rfl rfl (by decide) (by decide) eL_892 (ca_mean _ _ h) (fun v σ1 hv tv => ?_)
  obtain ⟨r, rfl, hc⟩ := hv
  obtain ⟨x, rfl⟩ := ty_long rfl tv
  refine (go_aload_n (x := 88) 2 eL_895 rfl rfl).al C ?_
  refine l_arg C 1 (by omega) rfl eL_896 eL_897 eL_898 eL_899 eL_900 ?_
  refine l_arg C 2 (by omega) rfl eL_901 eL_902 eL_903 eL_904 eL_905 ?_
  refine l_call C mX11_mean lkL_100 rfl (by decide) rfl rfl rfl rfl (Nat.le_of_ble_eq_true rfl) (by decide) eL_906 hc (fun v2 σ2 hv2 _ => ?_)
  obtain ⟨rfl, h2⟩ := hv2
  refine (go_lcmp eL_909).al C ?_
  exact (brl_eq 1309 eL_910 rfl).al C (fun _ => nx σ2 h2) (fun q => absurd rfl q)
theorem lc_19 (C : LC X p s m c b L xs A0 cells slots) {i : Nat} (hi : i + 6 ≤ L) (h : RA σ) (nx : ∀ σ', RA σ' → AL X p l e s m below meth c b A0 cells slots Z 1309 (LLoc i) [] σ') : AL X p l e s m below meth c b A0 cells slots Z 915 (LLoc i) [] σ := by
  refine (go_aload_n (x := 0) 1 eL_915 rfl rfl).al C ?_
  refine l_arg C 1 (by omega) rfl eL_916 eL_917 eL_918 eL_919 eL_920 ?_
  refine l_arg C 2 (by omega) rfl eL_921 eL_922 eL_923 eL_924 eL_925 ?_
  refine l_call C mX10_height lkL_101 rfl (by decide) rfl rfl rfl rfl (by decide) (by decide) eL_926 (ca_height _ _ h) (fun v σ1 hv tv => ?_)
  obtain ⟨r, rfl, hc⟩ := hv
  obtain ⟨x, rfl⟩ := ty_int rfl tv
  refine (go_aload_n (x := 88) 2 eL_929 rfl rfl).al C ?_
  refine l_arg C 1 (by omega) rfl eL_930 eL_931 eL_932 eL_933 eL_934 ?_
  refine l_arg C 2 (by omega) rfl eL_935 eL_936 eL_937 eL_938 eL_939 ?_
  refine l_call C mX11_height lkL_104 rfl (by decide) rfl rfl rfl rfl (Nat.le_of_ble_eq_true rfl) (by decide) eL_940 hc (fun v2 σ2 hv2 _ => ?_)
  obtain ⟨rfl, h2⟩ := hv2
  exact (br_icmp_eq 1309 eL_943 rfl).al C (fun _ => nx σ2 h2) (fun q => absurd rfl q)
theorem lc_20 (C : LC X p s m c b L xs A0 cells slots) {i : Nat} (hi : i + 6 ≤ L) (h : RA σ) (nx : ∀ σ', RA σ' → AL X p l e s m below meth c b A0 cells slots Z 1309 (LLoc i) [] σ') : AL X p l e s m below meth c b A0 cells slots Z 948 (LLoc i) [] σ := by
  refine (go_aload_n (x := 0) 1 eL_948 rfl rfl).al C ?_
  refine l_arg C 1 (by omega) rfl eL_949 eL_950 eL_951 eL_952 eL_953 ?_
  refine l_arg C 2 (by omega) rfl eL_954 eL_955 eL_956 eL_957 eL_958 ?_
  refine l_call C mX10_product lkL_105 rfl (by decide) rfl rfl rfl rfl (by decide) (by decide) eL_959 (ca_product _ _ h) (fun v σ1 hv tv => ?_)
  obtain ⟨r, rfl, hc⟩ := hv
  obtain ⟨x, rfl⟩ := ty_int rfl tv
  refine (go_aload_n (x := 88) 2 eL_962 rfl rfl).al C ?_
  refine l_arg C 1 (by omega) rfl eL_963 eL_964 eL_965 eL_966 eL_967 ?_
  refine l_arg C 2 (by omega) rfl eL_968 eL_969 eL_970 eL_971 eL_972 ?_
  refine l_call C mX11_product lkL_108 rfl (by decide) rfl rfl rfl rfl (Nat.le_of_ble_eq_true rfl) (by decide) eL_973 hc (fun v2 σ2 hv2 _ => ?_)
  obtain ⟨rfl, h2⟩ := hv2
  exact (br_icmp_eq 1309 eL_976 rfl).al C (fun _ => nx σ2 h2) (fun q => absurd rfl q)
theorem lc_21 (C : LC X p s m c b L xs A0 cells slots) {i : Nat} (hi : i + 6 ≤ L) (h : RA σ) (nx : ∀ σ', RA σ' → AL X p l e s m below meth c b A0 cells slots Z 1309 (LLoc i) [] σ') : AL X p l e s m below meth c b A0 cells slots Z 981 (LLoc i) [] σ := by
  refine (go_aload_n (x := 0) 1 eL_981 rfl rfl).al C ?_
  refine l_arg C 1 (by omega) rfl eL_982 eL_983 eL_984 eL_985 eL_986 ?_
  refine l_call C mX10_down lkL_109 rfl (by decide) rfl rfl rfl rfl (by decide) (by decide) eL_987 (ca_down _ h) (fun v σ1 hv tv => ?_)
  obtain ⟨r, rfl, hc⟩ := hv
  obtain ⟨x, rfl⟩ := ty_int rfl tv
  refine (go_aload_n (x := 88) 2 eL_990 rfl rfl).al C ?_
  refine l_arg C 1 (by omega) rfl eL_991 eL_992 eL_993 eL_994 eL_995 ?_
  refine l_call C mX11_down lkL_112 rfl (by decide) rfl rfl rfl rfl (Nat.le_of_ble_eq_true rfl) (by decide) eL_996 hc (fun v2 σ2 hv2 _ => ?_)
  obtain ⟨rfl, h2⟩ := hv2
  exact (br_icmp_eq 1309 eL_999 rfl).al C (fun _ => nx σ2 h2) (fun q => absurd rfl q)
theorem lc_22 (C : LC X p s m c b L xs A0 cells slots) {i : Nat} (hi : i + 6 ≤ L) (h : RA σ) (nx : ∀ σ', RA σ' → AL X p l e s m below meth c b A0 cells slots Z 1309 (LLoc i) [] σ') : AL X p l e s m below meth c b A0 cells slots Z 1004 (LLoc i) [] σ := by
  refine (go_aload_n (x := 0) 1 eL_1004 rfl rfl).al C ?_
  refine l_arg C 1 (by omega) rfl eL_1005 eL_1006 eL_1007 eL_1008 eL_1009 ?_
  refine l_arg C 2 (by omega) rfl eL_1010 eL_1011 eL_1012 eL_1013 eL_1014 ?_
  refine l_call C mX10_downs lkL_113 rfl (by decide) rfl rfl rfl rfl (by decide) (by decide) eL_1015 (ca_downs _ _ h) (fun v σ1 hv tv => ?_)
  obtain ⟨r, rfl, hc⟩ := hv
  obtain ⟨x, rfl⟩ := ty_int rfl tv
  refine (go_aload_n (x := 88) 2 eL_1018 rfl rfl).al C ?_
  refine l_arg C 1 (by omega) rfl eL_1019 eL_1020 eL_1021 eL_1022 eL_1023 ?_
  refine l_arg C 2 (by omega) rfl eL_1024 eL_1025 eL_1026 eL_1027 eL_1028 ?_
  refine l_call C mX11_downs lkL_116 rfl (by decide) rfl rfl rfl rfl (Nat.le_of_ble_eq_true rfl) (by decide) eL_1029 hc (fun v2 σ2 hv2 _ => ?_)
  obtain ⟨rfl, h2⟩ := hv2
  exact (br_icmp_eq 1309 eL_1032 rfl).al C (fun _ => nx σ2 h2) (fun q => absurd rfl q)
theorem lc_23 (C : LC X p s m c b L xs A0 cells slots) {i : Nat} (hi : i + 6 ≤ L) (h : RA σ) (nx : ∀ σ', RA σ' → AL X p l e s m below meth c b A0 cells slots Z 1309 (LLoc i) [] σ') : AL X p l e s m below meth c b A0 cells slots Z 1037 (LLoc i) [] σ := by
  refine (go_aload_n (x := 0) 1 eL_1037 rfl rfl).al C ?_
  refine l_arg C 1 (by omega) rfl eL_1038 eL_1039 eL_1040 eL_1041 eL_1042 ?_
  refine l_call C mX10_heap lkL_117 rfl (by decide) rfl rfl rfl rfl (by decide) (by decide) eL_1043 (ca_heap _ h) (fun v σ1 hv tv => ?_)
  obtain ⟨r, rfl, hc⟩ := hv
  obtain ⟨x, rfl⟩ := ty_int rfl tv
  refine (go_aload_n (x := 88) 2 eL_1046 rfl rfl).al C ?_
  refine l_arg C 1 (by omega) rfl eL_1047 eL_1048 eL_1049 eL_1050 eL_1051 ?_
  refine l_call C mX11_heap lkL_120 rfl (by decide) rfl rfl rfl rfl (Nat.le_of_ble_eq_true rfl) (by decide) eL_1052 hc (fun v2 σ2 hv2 _ => ?_)
  obtain ⟨rfl, h2⟩ := hv2
  exact (br_icmp_eq 1309 eL_1055 rfl).al C (fun _ => nx σ2 h2) (fun q => absurd rfl q)
theorem lc_24 (C : LC X p s m c b L xs A0 cells slots) {i : Nat} (hi : i + 6 ≤ L) (h : RA σ) (nx : ∀ σ', RA σ' → AL X p l e s m below meth c b A0 cells slots Z 1309 (LLoc i) [] σ') : AL X p l e s m below meth c b A0 cells slots Z 1060 (LLoc i) [] σ := by
  refine (go_aload_n (x := 0) 1 eL_1060 rfl rfl).al C ?_
  refine l_arg C 1 (by omega) rfl eL_1061 eL_1062 eL_1063 eL_1064 eL_1065 ?_
  refine l_arg C 2 (by omega) rfl eL_1066 eL_1067 eL_1068 eL_1069 eL_1070 ?_
  refine l_call C mX10_digit lkL_121 rfl (by decide) rfl rfl rfl rfl (by decide) (by decide) eL_1071 (ca_digit _ _ h) (fun v σ1 hv tv => ?_)
  obtain ⟨r, rfl, hc⟩ := hv
  obtain ⟨x, rfl⟩ := ty_int rfl tv
  refine (go_aload_n (x := 88) 2 eL_1074 rfl rfl).al C ?_
  refine l_arg C 1 (by omega) rfl eL_1075 eL_1076 eL_1077 eL_1078 eL_1079 ?_
  refine l_arg C 2 (by omega) rfl eL_1080 eL_1081 eL_1082 eL_1083 eL_1084 ?_
  refine l_call C mX11_digit lkL_124 rfl (by decide) rfl rfl rfl rfl (Nat.le_of_ble_eq_true rfl) (by decide) eL_1085 hc (fun v2 σ2 hv2 _ => ?_)
  obtain ⟨rfl, h2⟩ := hv2
  exact (br_icmp_eq 1309 eL_1088 rfl).al C (fun _ => nx σ2 h2) (fun q => absurd rfl q)
theorem lc_25 (C : LC X p s m c b L xs A0 cells slots) {i : Nat} (hi : i + 6 ≤ L) (h : RA σ) (nx : ∀ σ', RA σ' → AL X p l e s m below meth c b A0 cells slots Z 1309 (LLoc i) [] σ') : AL X p l e s m below meth c b A0 cells slots Z 1093 (LLoc i) [] σ := by
  refine (go_aload_n (x := 0) 1 eL_1093 rfl rfl).al C ?_
  refine l_arg C 1 (by omega) rfl eL_1094 eL_1095 eL_1096 eL_1097 eL_1098 ?_
  refine l_arg C 2 (by omega) rfl eL_1099 eL_1100 eL_1101 eL_1102 eL_1103 ?_
  refine l_arg C 3 (by omega) rfl eL_1104 eL_1105 eL_1106 eL_1107 eL_1108 ?_
  refine l_arg C 4 (by omega) rfl eL_1109 eL_1110 eL_1111 eL_1112 eL_1113 ?_
  refine l_call C mX10_times lkL_125 rfl (by decide) rfl rfl rfl rfl (by decide) (by decide) eL_1114 (ca_times _ _ _ _ h) (fun v σ1 hv tv => ?_)
  obtain ⟨r, rfl, hc⟩ := hv
  obtain ⟨x, rfl⟩ := ty_long rfl tv
  refine (go_aload_n (x := 88) 2 eL_1117 rfl rfl).al C ?_
  refine l_arg C 1 (by omega) rfl eL_1118 eL_1119 eL_1120 eL_1121 eL_1122 ?_
  refine l_arg C 2 (by omega) rfl eL_1123 eL_1124 eL_1125 eL_1126 eL_1127 ?_
  refine l_arg C 3 (by omega) rfl eL_1128 eL_1129 eL_1130 eL_1131 eL_1132 ?_
  refine l_arg C 4 (by omega) rfl eL_1133 eL_1134 eL_1135 eL_1136 eL_1137 ?_
  refine l_call C mX11_times lkL_128 rfl (by decide) rfl rfl rfl rfl (Nat.le_of_ble_eq_true rfl) (by decide) eL_1138 hc (fun v2 σ2 hv2 _ => ?_)
  obtain ⟨rfl, h2⟩ := hv2
  refine (go_lcmp eL_1141).al C ?_
  exact (brl_eq 1309 eL_1142 rfl).al C (fun _ => nx σ2 h2) (fun q => absurd rfl q)
theorem lc_26 (C : LC X p s m c b L xs A0 cells slots) {i : Nat} (hi : i + 6 ≤ L) (h : RA σ) (nx : ∀ σ', RA σ' → AL X p l e s m below meth c b A0 cells slots Z 1309 (LLoc i) [] σ') : AL X p l e s m below meth c b A0 cells slots Z 1147 (LLoc i) [] σ := by
  refine (go_aload_n (x := 0) 1 eL_1147 rfl rfl).al C ?_
  refine l_arg C 1 (by omega) rfl eL_1148 eL_1149 eL_1150 eL_1151 eL_1152 ?_
  refine l_arg C 2 (by omega) rfl eL_1153 eL_1154 eL_1155 eL_1156 eL_1157 ?_
  refine l_arg C 3 (by omega) rfl eL_1158 eL_1159 eL_1160 eL_1161 eL_1162 ?_
  refine l_call C mX10_sheet lkL_129 rfl (by decide) rfl rfl rfl rfl (by decide) (by decide) eL_1163 (ca_sheet _ _ _ h) (fun v σ1 hv tv => ?_)
  obtain ⟨r, rfl, hc⟩ := hv
  obtain ⟨x, rfl⟩ := ty_int rfl tv
  refine (go_aload_n (x := 88) 2 eL_1166 rfl rfl).al C ?_
  refine l_arg C 1 (by omega) rfl eL_1167 eL_1168 eL_1169 eL_1170 eL_1171 ?_
  refine l_arg C 2 (by omega) rfl eL_1172 eL_1173 eL_1174 eL_1175 eL_1176 ?_
  refine l_arg C 3 (by omega) rfl eL_1177 eL_1178 eL_1179 eL_1180 eL_1181 ?_
  refine l_call C mX11_sheet lkL_132 rfl (by decide) rfl rfl rfl rfl (Nat.le_of_ble_eq_true rfl) (by decide) eL_1182 hc (fun v2 σ2 hv2 _ => ?_)
  obtain ⟨rfl, h2⟩ := hv2
  exact (br_icmp_eq 1309 eL_1185 rfl).al C (fun _ => nx σ2 h2) (fun q => absurd rfl q)
theorem lc_27 (C : LC X p s m c b L xs A0 cells slots) {i : Nat} (hi : i + 6 ≤ L) (h : RA σ) (nx : ∀ σ', RA σ' → AL X p l e s m below meth c b A0 cells slots Z 1309 (LLoc i) [] σ') : AL X p l e s m below meth c b A0 cells slots Z 1190 (LLoc i) [] σ := by
  refine (go_aload_n (x := 0) 1 eL_1190 rfl rfl).al C ?_
  refine l_arg C 1 (by omega) rfl eL_1191 eL_1192 eL_1193 eL_1194 eL_1195 ?_
  refine l_arg C 2 (by omega) rfl eL_1196 eL_1197 eL_1198 eL_1199 eL_1200 ?_
  refine l_arg C 3 (by omega) rfl eL_1201 eL_1202 eL_1203 eL_1204 eL_1205 ?_
  refine l_call C mX10_lay lkL_133 rfl (by decide) rfl rfl rfl rfl (by decide) (by decide) eL_1206 (ca_lay _ _ _ h) (fun v σ1 hv tv => ?_)
  obtain ⟨r, rfl, hc⟩ := hv
  obtain ⟨x, rfl⟩ := ty_int rfl tv
  refine (go_aload_n (x := 88) 2 eL_1209 rfl rfl).al C ?_
  refine l_arg C 1 (by omega) rfl eL_1210 eL_1211 eL_1212 eL_1213 eL_1214 ?_
  refine l_arg C 2 (by omega) rfl eL_1215 eL_1216 eL_1217 eL_1218 eL_1219 ?_
  refine l_arg C 3 (by omega) rfl eL_1220 eL_1221 eL_1222 eL_1223 eL_1224 ?_
  refine l_call C mX11_lay lkL_136 rfl (by decide) rfl rfl rfl rfl (Nat.le_of_ble_eq_true rfl) (by decide) eL_1225 hc (fun v2 σ2 hv2 _ => ?_)
  obtain ⟨rfl, h2⟩ := hv2
  exact (br_icmp_eq 1309 eL_1228 rfl).al C (fun _ => nx σ2 h2) (fun q => absurd rfl q)
theorem lc_28 (C : LC X p s m c b L xs A0 cells slots) {i : Nat} (hi : i + 6 ≤ L) (h : RA σ) (nx : ∀ σ', RA σ' → AL X p l e s m below meth c b A0 cells slots Z 1309 (LLoc i) [] σ') : AL X p l e s m below meth c b A0 cells slots Z 1233 (LLoc i) [] σ := by
  refine (go_aload_n (x := 0) 1 eL_1233 rfl rfl).al C ?_
  refine l_arg C 1 (by omega) rfl eL_1234 eL_1235 eL_1236 eL_1237 eL_1238 ?_
  refine l_arg C 2 (by omega) rfl eL_1239 eL_1240 eL_1241 eL_1242 eL_1243 ?_
  refine l_arg C 3 (by omega) rfl eL_1244 eL_1245 eL_1246 eL_1247 eL_1248 ?_
  refine l_arg C 4 (by omega) rfl eL_1249 eL_1250 eL_1251 eL_1252 eL_1253 ?_
  refine l_call C mX10_heights lkL_137 rfl (by decide) rfl rfl rfl rfl (by decide) (by decide) eL_1254 (ca_heights _ _ _ _ h) (fun v σ1 hv tv => ?_)
  obtain ⟨r, rfl, hc⟩ := hv
  obtain ⟨x, rfl⟩ := ty_int rfl tv
  refine (go_aload_n (x := 88) 2 eL_1257 rfl rfl).al C ?_
  refine l_arg C 1 (by omega) rfl eL_1258 eL_1259 eL_1260 eL_1261 eL_1262 ?_
  refine l_arg C 2 (by omega) rfl eL_1263 eL_1264 eL_1265 eL_1266 eL_1267 ?_
  refine l_arg C 3 (by omega) rfl eL_1268 eL_1269 eL_1270 eL_1271 eL_1272 ?_
  refine l_arg C 4 (by omega) rfl eL_1273 eL_1274 eL_1275 eL_1276 eL_1277 ?_
  refine l_call C mX11_heights lkL_140 rfl (by decide) rfl rfl rfl rfl (Nat.le_of_ble_eq_true rfl) (by decide) eL_1278 hc (fun v2 σ2 hv2 _ => ?_)
  obtain ⟨rfl, h2⟩ := hv2
  exact (br_icmp_eq 1309 eL_1281 rfl).al C (fun _ => nx σ2 h2) (fun q => absurd rfl q)
theorem lc_29 (C : LC X p s m c b L xs A0 cells slots) {i : Nat} (hi : i + 6 ≤ L) (h : RA σ) (nx : ∀ σ', RA σ' → AL X p l e s m below meth c b A0 cells slots Z 1309 (LLoc i) [] σ') : AL X p l e s m below meth c b A0 cells slots Z 1286 (LLoc i) [] σ := by
  refine (go_aload_n (x := 0) 1 eL_1286 rfl rfl).al C ?_
  refine l_arg C 1 (by omega) rfl eL_1287 eL_1288 eL_1289 eL_1290 eL_1291 ?_
  refine l_call C mX10_count lkL_141 rfl (by decide) rfl rfl rfl rfl (by decide) (by decide) eL_1292 (ca_count _ h) (fun v σ1 hv tv => ?_)
  obtain ⟨r, rfl, hc⟩ := hv
  obtain ⟨x, rfl⟩ := ty_int rfl tv
  refine (go_aload_n (x := 88) 2 eL_1295 rfl rfl).al C ?_
  refine l_arg C 1 (by omega) rfl eL_1296 eL_1297 eL_1298 eL_1299 eL_1300 ?_
  refine l_call C mX11_count lkL_144 rfl (by decide) rfl rfl rfl rfl (Nat.le_of_ble_eq_true rfl) (by decide) eL_1301 hc (fun v2 σ2 hv2 _ => ?_)
  obtain ⟨rfl, h2⟩ := hv2
  exact (br_icmp_eq 1309 eL_1304 rfl).al C (fun _ => nx σ2 h2) (fun q => absurd rfl q)
end LAWC
