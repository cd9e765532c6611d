section ZCS
variable {l : Launch} {E : ZE} {Γ : ZG} {mem : ZM} {b L i : Nat} {xs : Nat → Int32}
set_option maxHeartbeats 4000000 in
theorem law_c0 (C : zC E Γ RL cL_law 4 16) (S : zSc E Γ b L xs) (hi : i + 6 ≤ L) (R : Rel mem) (kk : ∀ m : ZM, Rel m → zG l E Γ 4 1226 (zLoc E b i) [] m) : zG l E Γ 4 184 (zLoc E b i) [] mem := by
  obtain ⟨r, m1, m2, e1, e2, R2⟩ := R_row R (xs (i + 1)) (xs (i + 2)) (xs (i + 3))
  refine z_aload_n C dL_law_184 rfl (j := 2) rfl ?_
  refine z_arg 1 C S hi (by decide) dL_law_185 dL_law_186 dL_law_187 (by decide +kernel) dL_law_188 dL_law_189 ?_
  refine z_arg 2 C S hi (by decide) dL_law_190 dL_law_191 dL_law_192 (by decide +kernel) dL_law_193 dL_law_194 ?_
  refine z_arg 3 C S hi (by decide) dL_law_195 dL_law_196 dL_law_197 (by decide +kernel) dL_law_198 dL_law_199 ?_
  refine z_callVi (n := 3) [.int (xs (i + 1)), .int (xs (i + 2)), .int (xs (i + 3))] [] C dL_law_200 (c := 0) (by decide) zen_0 rfl ⟨zw112, zw2, zw115, by decide +kernel⟩ zw113 zw114 ⟨⟨by decide, by decide⟩, rfl, Nat.le_of_ble_eq_true rfl⟩ rfl (sX6_row e1) ?_
  refine z_aload_n C dL_law_203 rfl (j := 1) rfl ?_
  refine z_arg 1 C S hi (by decide) dL_law_204 dL_law_205 dL_law_206 (by decide +kernel) dL_law_207 dL_law_208 ?_
  refine z_arg 2 C S hi (by decide) dL_law_209 dL_law_210 dL_law_211 (by decide +kernel) dL_law_212 dL_law_213 ?_
  refine z_arg 3 C S hi (by decide) dL_law_214 dL_law_215 dL_law_216 (by decide +kernel) dL_law_217 dL_law_218 ?_
  refine z_callVi (n := 3) [.int (xs (i + 1)), .int (xs (i + 2)), .int (xs (i + 3))] [.int r] C dL_law_219 (c := 58) (by decide) zen_58 rfl ⟨zw136, zw5, zw139, by decide +kernel⟩ zw137 zw138 ⟨⟨by decide, by decide⟩, rfl, Nat.le_of_ble_eq_true rfl⟩ rfl (sX7_row e2) ?_
  exact zb_eq 1226 C dL_law_222 (by decide) rfl (kk m2 R2)
set_option maxHeartbeats 4000000 in
theorem law_c1 (C : zC E Γ RL cL_law 4 16) (S : zSc E Γ b L xs) (hi : i + 6 ≤ L) (R : Rel mem) (kk : ∀ m : ZM, Rel m → zG l E Γ 4 1226 (zLoc E b i) [] m) : zG l E Γ 4 227 (zLoc E b i) [] mem := by
  obtain ⟨r, m1, m2, e1, e2, R2⟩ := R_set R (xs (i + 1)) (xs (i + 2)) (xs (i + 3))
  refine z_aload_n C dL_law_227 rfl (j := 2) rfl ?_
  refine z_arg 1 C S hi (by decide) dL_law_228 dL_law_229 dL_law_230 (by decide +kernel) dL_law_231 dL_law_232 ?_
  refine z_arg 2 C S hi (by decide) dL_law_233 dL_law_234 dL_law_235 (by decide +kernel) dL_law_236 dL_law_237 ?_
  refine z_arg 3 C S hi (by decide) dL_law_238 dL_law_239 dL_law_240 (by decide +kernel) dL_law_241 dL_law_242 ?_
  refine z_callVi (n := 3) [.int (xs (i + 1)), .int (xs (i + 2)), .int (xs (i + 3))] [] C dL_law_243 (c := 0) (by decide) zen_0 rfl ⟨zw159, zw2, zw162, by decide +kernel⟩ zw160 zw161 ⟨⟨by decide, by decide⟩, rfl, Nat.le_of_ble_eq_true rfl⟩ rfl (sX6_set e1) ?_
  refine z_aload_n C dL_law_246 rfl (j := 1) rfl ?_
  refine z_arg 1 C S hi (by decide) dL_law_247 dL_law_248 dL_law_249 (by decide +kernel) dL_law_250 dL_law_251 ?_
  refine z_arg 2 C S hi (by decide) dL_law_252 dL_law_253 dL_law_254 (by decide +kernel) dL_law_255 dL_law_256 ?_
  refine z_arg 3 C S hi (by decide) dL_law_257 dL_law_258 dL_law_259 (by decide +kernel) dL_law_260 dL_law_261 ?_
  refine z_callVi (n := 3) [.int (xs (i + 1)), .int (xs (i + 2)), .int (xs (i + 3))] [.int r] C dL_law_262 (c := 58) (by decide) zen_58 rfl ⟨zw175, zw5, zw178, by decide +kernel⟩ zw176 zw177 ⟨⟨by decide, by decide⟩, rfl, Nat.le_of_ble_eq_true rfl⟩ rfl (sX7_set e2) ?_
  exact zb_eq 1226 C dL_law_265 (by decide) rfl (kk m2 R2)
set_option maxHeartbeats 4000000 in
theorem law_c2 (C : zC E Γ RL cL_law 4 16) (S : zSc E Γ b L xs) (hi : i + 6 ≤ L) (R : Rel mem) (kk : ∀ m : ZM, Rel m → zG l E Γ 4 1226 (zLoc E b i) [] m) : zG l E Γ 4 270 (zLoc E b i) [] mem := by
  obtain ⟨r, m1, m2, e1, e2, R2⟩ := R_copy R (xs (i + 1)) (xs (i + 2)) (xs (i + 3)) (xs (i + 4)) (xs (i + 5))
  refine z_aload_n C dL_law_270 rfl (j := 2) rfl ?_
  refine z_arg 1 C S hi (by decide) dL_law_271 dL_law_272 dL_law_273 (by decide +kernel) dL_law_274 dL_law_275 ?_
  refine z_arg 2 C S hi (by decide) dL_law_276 dL_law_277 dL_law_278 (by decide +kernel) dL_law_279 dL_law_280 ?_
  refine z_arg 3 C S hi (by decide) dL_law_281 dL_law_282 dL_law_283 (by decide +kernel) dL_law_284 dL_law_285 ?_
  refine z_arg 4 C S hi (by decide) dL_law_286 dL_law_287 dL_law_288 (by decide +kernel) dL_law_289 dL_law_290 ?_
  refine z_arg 5 C S hi (by decide) dL_law_291 dL_law_292 dL_law_293 (by decide +kernel) dL_law_294 dL_law_295 ?_
  refine z_callVi (n := 5) [.int (xs (i + 1)), .int (xs (i + 2)), .int (xs (i + 3)), .int (xs (i + 4)), .int (xs (i + 5))] [] C dL_law_296 (c := 0) (by decide) zen_0 rfl ⟨zw182, zw2, zw185, by decide +kernel⟩ zw183 zw184 ⟨⟨by decide, by decide⟩, rfl, Nat.le_of_ble_eq_true rfl⟩ rfl (sX6_copy e1) ?_
  refine z_aload_n C dL_law_299 rfl (j := 1) rfl ?_
  refine z_arg 1 C S hi (by decide) dL_law_300 dL_law_301 dL_law_302 (by decide +kernel) dL_law_303 dL_law_304 ?_
  refine z_arg 2 C S hi (by decide) dL_law_305 dL_law_306 dL_law_307 (by decide +kernel) dL_law_308 dL_law_309 ?_
  refine z_arg 3 C S hi (by decide) dL_law_310 dL_law_311 dL_law_312 (by decide +kernel) dL_law_313 dL_law_314 ?_
  refine z_arg 4 C S hi (by decide) dL_law_315 dL_law_316 dL_law_317 (by decide +kernel) dL_law_318 dL_law_319 ?_
  refine z_arg 5 C S hi (by decide) dL_law_320 dL_law_321 dL_law_322 (by decide +kernel) dL_law_323 dL_law_324 ?_
  refine z_callVi (n := 5) [.int (xs (i + 1)), .int (xs (i + 2)), .int (xs (i + 3)), .int (xs (i + 4)), .int (xs (i + 5))] [.int r] C dL_law_325 (c := 58) (by decide) zen_58 rfl ⟨zw192, zw5, zw195, by decide +kernel⟩ zw193 zw194 ⟨⟨by decide, by decide⟩, rfl, Nat.le_of_ble_eq_true rfl⟩ rfl (sX7_copy e2) ?_
  exact zb_eq 1226 C dL_law_328 (by decide) rfl (kk m2 R2)
set_option maxHeartbeats 4000000 in
theorem law_c3 (C : zC E Γ RL cL_law 4 16) (S : zSc E Γ b L xs) (hi : i + 6 ≤ L) (R : Rel mem) (kk : ∀ m : ZM, Rel m → zG l E Γ 4 1226 (zLoc E b i) [] m) : zG l E Γ 4 333 (zLoc E b i) [] mem := by
  obtain ⟨r, m1, m2, e1, e2, R2⟩ := R_drop R (xs (i + 1))
  refine z_aload_n C dL_law_333 rfl (j := 2) rfl ?_
  refine z_arg 1 C S hi (by decide) dL_law_334 dL_law_335 dL_law_336 (by decide +kernel) dL_law_337 dL_law_338 ?_
  refine z_callVi (n := 1) [.int (xs (i + 1))] [] C dL_law_339 (c := 0) (by decide) zen_0 rfl ⟨zw196, zw2, zw199, by decide +kernel⟩ zw197 zw198 ⟨⟨by decide, by decide⟩, rfl, Nat.le_of_ble_eq_true rfl⟩ rfl (sX6_drop e1) ?_
  refine z_aload_n C dL_law_342 rfl (j := 1) rfl ?_
  refine z_arg 1 C S hi (by decide) dL_law_343 dL_law_344 dL_law_345 (by decide +kernel) dL_law_346 dL_law_347 ?_
  refine z_callVi (n := 1) [.int (xs (i + 1))] [.int r] C dL_law_348 (c := 58) (by decide) zen_58 rfl ⟨zw205, zw5, zw208, by decide +kernel⟩ zw206 zw207 ⟨⟨by decide, by decide⟩, rfl, Nat.le_of_ble_eq_true rfl⟩ rfl (sX7_drop e2) ?_
  exact zb_eq 1226 C dL_law_351 (by decide) rfl (kk m2 R2)
set_option maxHeartbeats 4000000 in
theorem law_c4 (C : zC E Γ RL cL_law 4 16) (S : zSc E Γ b L xs) (hi : i + 6 ≤ L) (R : Rel mem) (kk : ∀ m : ZM, Rel m → zG l E Γ 4 1226 (zLoc E b i) [] m) : zG l E Γ 4 356 (zLoc E b i) [] mem := by
  obtain ⟨r, m1, m2, e1, e2, R2⟩ := o_feed R (xs (i + 1))
  refine z_aload_n C dL_law_356 rfl (j := 2) rfl ?_
  refine z_arg 1 C S hi (by decide) dL_law_357 dL_law_358 dL_law_359 (by decide +kernel) dL_law_360 dL_law_361 ?_
  refine z_callVi (n := 1) [.int (xs (i + 1))] [] C dL_law_362 (c := 0) (by decide) zen_0 rfl ⟨zw209, zw2, zw212, by decide +kernel⟩ zw210 zw211 ⟨⟨by decide, by decide⟩, rfl, Nat.le_of_ble_eq_true rfl⟩ rfl (sX6_feed e1) ?_
  refine z_aload_n C dL_law_365 rfl (j := 1) rfl ?_
  refine z_arg 1 C S hi (by decide) dL_law_366 dL_law_367 dL_law_368 (by decide +kernel) dL_law_369 dL_law_370 ?_
  refine z_callVi (n := 1) [.int (xs (i + 1))] [.int r] C dL_law_371 (c := 58) (by decide) zen_58 rfl ⟨zw219, zw5, zw222, by decide +kernel⟩ zw220 zw221 ⟨⟨by decide, by decide⟩, rfl, Nat.le_of_ble_eq_true rfl⟩ rfl (sX7_feed e2) ?_
  exact zb_eq 1226 C dL_law_374 (by decide) rfl (kk m2 R2)
set_option maxHeartbeats 4000000 in
theorem law_c5 (C : zC E Γ RL cL_law 4 16) (S : zSc E Γ b L xs) (hi : i + 6 ≤ L) (R : Rel mem) (kk : ∀ m : ZM, Rel m → zG l E Γ 4 1226 (zLoc E b i) [] m) : zG l E Γ 4 379 (zLoc E b i) [] mem := by
  obtain ⟨r, m1, m2, e1, e2, R2⟩ := o_heap R 
  refine z_aload_n C dL_law_379 rfl (j := 2) rfl ?_
  refine z_callVi (n := 0) [] [] C dL_law_380 (c := 0) (by decide) zen_0 rfl ⟨zw226, zw2, zw229, by decide +kernel⟩ zw227 zw228 ⟨⟨by decide, by decide⟩, rfl, Nat.le_of_ble_eq_true rfl⟩ rfl (sX6_heap e1) ?_
  refine z_aload_n C dL_law_383 rfl (j := 1) rfl ?_
  refine z_callVi (n := 0) [] [.int r] C dL_law_384 (c := 58) (by decide) zen_58 rfl ⟨zw360, zw5, zw363, by decide +kernel⟩ zw361 zw362 ⟨⟨by decide, by decide⟩, rfl, Nat.le_of_ble_eq_true rfl⟩ rfl (sX7_heap e2) ?_
  exact zb_eq 1226 C dL_law_387 (by decide) rfl (kk m2 R2)
set_option maxHeartbeats 4000000 in
theorem law_c6 (C : zC E Γ RL cL_law 4 16) (S : zSc E Γ b L xs) (hi : i + 6 ≤ L) (R : Rel mem) (kk : ∀ m : ZM, Rel m → zG l E Γ 4 1226 (zLoc E b i) [] m) : zG l E Γ 4 392 (zLoc E b i) [] mem := by
  obtain ⟨r, e1, e2⟩ := R_fault R 
  refine z_aload_n C dL_law_392 rfl (j := 2) rfl ?_
  refine z_callVi (n := 0) [] [] C dL_law_393 (c := 0) (by decide) zen_0 rfl ⟨zw404, zw2, zw407, by decide +kernel⟩ zw405 zw406 ⟨⟨by decide, by decide⟩, rfl, Nat.le_of_ble_eq_true rfl⟩ rfl (sX6_fault e1) ?_
  refine z_aload_n C dL_law_396 rfl (j := 1) rfl ?_
  refine z_callVi (n := 0) [] [.int r] C dL_law_397 (c := 58) (by decide) zen_58 rfl ⟨zw409, zw5, zw412, by decide +kernel⟩ zw410 zw411 ⟨⟨by decide, by decide⟩, rfl, Nat.le_of_ble_eq_true rfl⟩ rfl (sX7_fault e2) ?_
  exact zb_eq 1226 C dL_law_400 (by decide) rfl (kk mem R)
set_option maxHeartbeats 4000000 in
theorem law_c7 (C : zC E Γ RL cL_law 4 16) (S : zSc E Γ b L xs) (hi : i + 6 ≤ L) (R : Rel mem) (kk : ∀ m : ZM, Rel m → zG l E Γ 4 1226 (zLoc E b i) [] m) : zG l E Γ 4 405 (zLoc E b i) [] mem := by
  obtain ⟨r, m1, m2, e1, e2, R2⟩ := R_hours R (xs (i + 1))
  refine z_aload_n C dL_law_405 rfl (j := 2) rfl ?_
  refine z_arg 1 C S hi (by decide) dL_law_406 dL_law_407 dL_law_408 (by decide +kernel) dL_law_409 dL_law_410 ?_
  refine z_callVi (n := 1) [.int (xs (i + 1))] [] C dL_law_411 (c := 0) (by decide) zen_0 rfl ⟨zw413, zw2, zw416, by decide +kernel⟩ zw414 zw415 ⟨⟨by decide, by decide⟩, rfl, Nat.le_of_ble_eq_true rfl⟩ rfl (sX6_hours e1) ?_
  refine z_aload_n C dL_law_414 rfl (j := 1) rfl ?_
  refine z_arg 1 C S hi (by decide) dL_law_415 dL_law_416 dL_law_417 (by decide +kernel) dL_law_418 dL_law_419 ?_
  refine z_callVi (n := 1) [.int (xs (i + 1))] [.int r] C dL_law_420 (c := 58) (by decide) zen_58 rfl ⟨zw495, zw5, zw498, by decide +kernel⟩ zw496 zw497 ⟨⟨by decide, by decide⟩, rfl, Nat.le_of_ble_eq_true rfl⟩ rfl (sX7_hours e2) ?_
  exact zb_eq 1226 C dL_law_423 (by decide) rfl (kk m2 R2)
set_option maxHeartbeats 4000000 in
theorem law_c8 (C : zC E Γ RL cL_law 4 16) (S : zSc E Γ b L xs) (hi : i + 6 ≤ L) (R : Rel mem) (kk : ∀ m : ZM, Rel m → zG l E Γ 4 1226 (zLoc E b i) [] m) : zG l E Γ 4 428 (zLoc E b i) [] mem := by
  obtain ⟨r, m1, m2, e1, e2, R2⟩ := R_light R (xs (i + 1))
  refine z_aload_n C dL_law_428 rfl (j := 2) rfl ?_
  refine z_arg 1 C S hi (by decide) dL_law_429 dL_law_430 dL_law_431 (by decide +kernel) dL_law_432 dL_law_433 ?_
  refine z_callVi (n := 1) [.int (xs (i + 1))] [] C dL_law_434 (c := 0) (by decide) zen_0 rfl ⟨zw540, zw2, zw543, by decide +kernel⟩ zw541 zw542 ⟨⟨by decide, by decide⟩, rfl, Nat.le_of_ble_eq_true rfl⟩ rfl (sX6_light e1) ?_
  refine z_aload_n C dL_law_437 rfl (j := 1) rfl ?_
  refine z_arg 1 C S hi (by decide) dL_law_438 dL_law_439 dL_law_440 (by decide +kernel) dL_law_441 dL_law_442 ?_
  refine z_callVi (n := 1) [.int (xs (i + 1))] [.int r] C dL_law_443 (c := 58) (by decide) zen_58 rfl ⟨zw553, zw5, zw556, by decide +kernel⟩ zw554 zw555 ⟨⟨by decide, by decide⟩, rfl, Nat.le_of_ble_eq_true rfl⟩ rfl (sX7_light e2) ?_
  exact zb_eq 1226 C dL_law_446 (by decide) rfl (kk m2 R2)
set_option maxHeartbeats 4000000 in
theorem law_c9 (C : zC E Γ RL cL_law 4 16) (S : zSc E Γ b L xs) (hi : i + 6 ≤ L) (R : Rel mem) (kk : ∀ m : ZM, Rel m → zG l E Γ 4 1226 (zLoc E b i) [] m) : zG l E Γ 4 451 (zLoc E b i) [] mem := by
  obtain ⟨r, m1, m2, e1, e2, R2⟩ := R_water R (xs (i + 1)) (xs (i + 2))
  refine z_aload_n C dL_law_451 rfl (j := 2) rfl ?_
  refine z_arg 1 C S hi (by decide) dL_law_452 dL_law_453 dL_law_454 (by decide +kernel) dL_law_455 dL_law_456 ?_
  refine z_arg 2 C S hi (by decide) dL_law_457 dL_law_458 dL_law_459 (by decide +kernel) dL_law_460 dL_law_461 ?_
  refine z_callVi (n := 2) [.int (xs (i + 1)), .int (xs (i + 2))] [] C dL_law_462 (c := 0) (by decide) zen_0 rfl ⟨zw565, zw2, zw568, by decide +kernel⟩ zw566 zw567 ⟨⟨by decide, by decide⟩, rfl, Nat.le_of_ble_eq_true rfl⟩ rfl (sX6_water e1) ?_
  refine z_aload_n C dL_law_465 rfl (j := 1) rfl ?_
  refine z_arg 1 C S hi (by decide) dL_law_466 dL_law_467 dL_law_468 (by decide +kernel) dL_law_469 dL_law_470 ?_
  refine z_arg 2 C S hi (by decide) dL_law_471 dL_law_472 dL_law_473 (by decide +kernel) dL_law_474 dL_law_475 ?_
  refine z_callVi (n := 2) [.int (xs (i + 1)), .int (xs (i + 2))] [.int r] C dL_law_476 (c := 58) (by decide) zen_58 rfl ⟨zw575, zw5, zw578, by decide +kernel⟩ zw576 zw577 ⟨⟨by decide, by decide⟩, rfl, Nat.le_of_ble_eq_true rfl⟩ rfl (sX7_water e2) ?_
  exact zb_eq 1226 C dL_law_479 (by decide) rfl (kk m2 R2)
set_option maxHeartbeats 4000000 in
theorem law_c10 (C : zC E Γ RL cL_law 4 16) (S : zSc E Γ b L xs) (hi : i + 6 ≤ L) (R : Rel mem) (kk : ∀ m : ZM, Rel m → zG l E Γ 4 1226 (zLoc E b i) [] m) : zG l E Γ 4 484 (zLoc E b i) [] mem := by
  obtain ⟨r, m1, m2, e1, e2, R2⟩ := R_rake R (xs (i + 1)) (xs (i + 2))
  refine z_aload_n C dL_law_484 rfl (j := 2) rfl ?_
  refine z_arg 1 C S hi (by decide) dL_law_485 dL_law_486 dL_law_487 (by decide +kernel) dL_law_488 dL_law_489 ?_
  refine z_arg 2 C S hi (by decide) dL_law_490 dL_law_491 dL_law_492 (by decide +kernel) dL_law_493 dL_law_494 ?_
  refine z_callVi (n := 2) [.int (xs (i + 1)), .int (xs (i + 2))] [] C dL_law_495 (c := 0) (by decide) zen_0 rfl ⟨zw584, zw2, zw587, by decide +kernel⟩ zw585 zw586 ⟨⟨by decide, by decide⟩, rfl, Nat.le_of_ble_eq_true rfl⟩ rfl (sX6_rake e1) ?_
  refine z_aload_n C dL_law_498 rfl (j := 1) rfl ?_
  refine z_arg 1 C S hi (by decide) dL_law_499 dL_law_500 dL_law_501 (by decide +kernel) dL_law_502 dL_law_503 ?_
  refine z_arg 2 C S hi (by decide) dL_law_504 dL_law_505 dL_law_506 (by decide +kernel) dL_law_507 dL_law_508 ?_
  refine z_callVi (n := 2) [.int (xs (i + 1)), .int (xs (i + 2))] [.int r] C dL_law_509 (c := 58) (by decide) zen_58 rfl ⟨zw600, zw5, zw603, by decide +kernel⟩ zw601 zw602 ⟨⟨by decide, by decide⟩, rfl, Nat.le_of_ble_eq_true rfl⟩ rfl (sX7_rake e2) ?_
  exact zb_eq 1226 C dL_law_512 (by decide) rfl (kk m2 R2)
set_option maxHeartbeats 4000000 in
theorem law_c11 (C : zC E Γ RL cL_law 4 16) (S : zSc E Γ b L xs) (hi : i + 6 ≤ L) (R : Rel mem) (kk : ∀ m : ZM, Rel m → zG l E Γ 4 1226 (zLoc E b i) [] m) : zG l E Γ 4 517 (zLoc E b i) [] mem := by
  obtain ⟨r, m1, m2, e1, e2, R2⟩ := R_swap R (xs (i + 1)) (xs (i + 2))
  refine z_aload_n C dL_law_517 rfl (j := 2) rfl ?_
  refine z_arg 1 C S hi (by decide) dL_law_518 dL_law_519 dL_law_520 (by decide +kernel) dL_law_521 dL_law_522 ?_
  refine z_arg 2 C S hi (by decide) dL_law_523 dL_law_524 dL_law_525 (by decide +kernel) dL_law_526 dL_law_527 ?_
  refine z_callVi (n := 2) [.int (xs (i + 1)), .int (xs (i + 2))] [] C dL_law_528 (c := 0) (by decide) zen_0 rfl ⟨zw604, zw2, zw607, by decide +kernel⟩ zw605 zw606 ⟨⟨by decide, by decide⟩, rfl, Nat.le_of_ble_eq_true rfl⟩ rfl (sX6_swap e1) ?_
  refine z_aload_n C dL_law_531 rfl (j := 1) rfl ?_
  refine z_arg 1 C S hi (by decide) dL_law_532 dL_law_533 dL_law_534 (by decide +kernel) dL_law_535 dL_law_536 ?_
  refine z_arg 2 C S hi (by decide) dL_law_537 dL_law_538 dL_law_539 (by decide +kernel) dL_law_540 dL_law_541 ?_
  refine z_callVi (n := 2) [.int (xs (i + 1)), .int (xs (i + 2))] [.int r] C dL_law_542 (c := 58) (by decide) zen_58 rfl ⟨zw613, zw5, zw616, by decide +kernel⟩ zw614 zw615 ⟨⟨by decide, by decide⟩, rfl, Nat.le_of_ble_eq_true rfl⟩ rfl (sX7_swap e2) ?_
  exact zb_eq 1226 C dL_law_545 (by decide) rfl (kk m2 R2)
set_option maxHeartbeats 4000000 in
theorem law_c12 (C : zC E Γ RL cL_law 4 16) (S : zSc E Γ b L xs) (hi : i + 6 ≤ L) (R : Rel mem) (kk : ∀ m : ZM, Rel m → zG l E Γ 4 1226 (zLoc E b i) [] m) : zG l E Γ 4 550 (zLoc E b i) [] mem := by
  obtain ⟨r, m1, m2, e1, e2, R2⟩ := R_wind R 
  refine z_aload_n C dL_law_550 rfl (j := 2) rfl ?_
  refine z_callVi (n := 0) [] [] C dL_law_551 (c := 0) (by decide) zen_0 rfl ⟨zw621, zw2, zw624, by decide +kernel⟩ zw622 zw623 ⟨⟨by decide, by decide⟩, rfl, Nat.le_of_ble_eq_true rfl⟩ rfl (sX6_wind e1) ?_
  refine z_aload_n C dL_law_554 rfl (j := 1) rfl ?_
  refine z_callVi (n := 0) [] [.int r] C dL_law_555 (c := 58) (by decide) zen_58 rfl ⟨zw630, zw5, zw633, by decide +kernel⟩ zw631 zw632 ⟨⟨by decide, by decide⟩, rfl, Nat.le_of_ble_eq_true rfl⟩ rfl (sX7_wind e2) ?_
  exact zb_eq 1226 C dL_law_558 (by decide) rfl (kk m2 R2)
set_option maxHeartbeats 4000000 in
theorem law_c13 (C : zC E Γ RL cL_law 4 16) (S : zSc E Γ b L xs) (hi : i + 6 ≤ L) (R : Rel mem) (kk : ∀ m : ZM, Rel m → zG l E Γ 4 1226 (zLoc E b i) [] m) : zG l E Γ 4 563 (zLoc E b i) [] mem := by
  obtain ⟨r, m1, m2, e1, e2, R2⟩ := R_undo R 
  refine z_aload_n C dL_law_563 rfl (j := 2) rfl ?_
  refine z_callVi (n := 0) [] [] C dL_law_564 (c := 0) (by decide) zen_0 rfl ⟨zw634, zw2, zw637, by decide +kernel⟩ zw635 zw636 ⟨⟨by decide, by decide⟩, rfl, Nat.le_of_ble_eq_true rfl⟩ rfl (sX6_undo e1) ?_
  refine z_aload_n C dL_law_567 rfl (j := 1) rfl ?_
  refine z_callVi (n := 0) [] [.int r] C dL_law_568 (c := 58) (by decide) zen_58 rfl ⟨zw643, zw5, zw646, by decide +kernel⟩ zw644 zw645 ⟨⟨by decide, by decide⟩, rfl, Nat.le_of_ble_eq_true rfl⟩ rfl (sX7_undo e2) ?_
  exact zb_eq 1226 C dL_law_571 (by decide) rfl (kk m2 R2)
set_option maxHeartbeats 4000000 in
theorem law_c14 (C : zC E Γ RL cL_law 4 16) (S : zSc E Γ b L xs) (hi : i + 6 ≤ L) (R : Rel mem) (kk : ∀ m : ZM, Rel m → zG l E Γ 4 1226 (zLoc E b i) [] m) : zG l E Γ 4 576 (zLoc E b i) [] mem := by
  obtain ⟨r, e1, e2⟩ := R_thing R (xs (i + 1)) (xs (i + 2))
  refine z_aload_n C dL_law_576 rfl (j := 2) rfl ?_
  refine z_arg 1 C S hi (by decide) dL_law_577 dL_law_578 dL_law_579 (by decide +kernel) dL_law_580 dL_law_581 ?_
  refine z_arg 2 C S hi (by decide) dL_law_582 dL_law_583 dL_law_584 (by decide +kernel) dL_law_585 dL_law_586 ?_
  refine z_callVi (n := 2) [.int (xs (i + 1)), .int (xs (i + 2))] [] C dL_law_587 (c := 0) (by decide) zen_0 rfl ⟨zw647, zw2, zw650, by decide +kernel⟩ zw648 zw649 ⟨⟨by decide, by decide⟩, rfl, Nat.le_of_ble_eq_true rfl⟩ rfl (sX6_thing e1) ?_
  refine z_aload_n C dL_law_590 rfl (j := 1) rfl ?_
  refine z_arg 1 C S hi (by decide) dL_law_591 dL_law_592 dL_law_593 (by decide +kernel) dL_law_594 dL_law_595 ?_
  refine z_arg 2 C S hi (by decide) dL_law_596 dL_law_597 dL_law_598 (by decide +kernel) dL_law_599 dL_law_600 ?_
  refine z_callVi (n := 2) [.int (xs (i + 1)), .int (xs (i + 2))] [.int r] C dL_law_601 (c := 58) (by decide) zen_58 rfl ⟨zw658, zw5, zw661, by decide +kernel⟩ zw659 zw660 ⟨⟨by decide, by decide⟩, rfl, Nat.le_of_ble_eq_true rfl⟩ rfl (sX7_thing e2) ?_
  exact zb_eq 1226 C dL_law_604 (by decide) rfl (kk mem R)
set_option maxHeartbeats 4000000 in
theorem law_c15 (C : zC E Γ RL cL_law 4 16) (S : zSc E Γ b L xs) (hi : i + 6 ≤ L) (R : Rel mem) (kk : ∀ m : ZM, Rel m → zG l E Γ 4 1226 (zLoc E b i) [] m) : zG l E Γ 4 609 (zLoc E b i) [] mem := by
  obtain ⟨r, e1, e2⟩ := R_place R (xs (i + 1))
  refine z_aload_n C dL_law_609 rfl (j := 2) rfl ?_
  refine z_arg 1 C S hi (by decide) dL_law_610 dL_law_611 dL_law_612 (by decide +kernel) dL_law_613 dL_law_614 ?_
  refine z_callVi (n := 1) [.int (xs (i + 1))] [] C dL_law_615 (c := 0) (by decide) zen_0 rfl ⟨zw662, zw2, zw665, by decide +kernel⟩ zw663 zw664 ⟨⟨by decide, by decide⟩, rfl, Nat.le_of_ble_eq_true rfl⟩ rfl (sX6_place e1) ?_
  refine z_aload_n C dL_law_618 rfl (j := 1) rfl ?_
  refine z_arg 1 C S hi (by decide) dL_law_619 dL_law_620 dL_law_621 (by decide +kernel) dL_law_622 dL_law_623 ?_
  refine z_callVi (n := 1) [.int (xs (i + 1))] [.int r] C dL_law_624 (c := 58) (by decide) zen_58 rfl ⟨zw666, zw5, zw669, by decide +kernel⟩ zw667 zw668 ⟨⟨by decide, by decide⟩, rfl, Nat.le_of_ble_eq_true rfl⟩ rfl (sX7_place e2) ?_
  exact zb_eq 1226 C dL_law_627 (by decide) rfl (kk mem R)
set_option maxHeartbeats 4000000 in
theorem law_c16 (C : zC E Γ RL cL_law 4 16) (S : zSc E Γ b L xs) (hi : i + 6 ≤ L) (R : Rel mem) (kk : ∀ m : ZM, Rel m → zG l E Γ 4 1226 (zLoc E b i) [] m) : zG l E Γ 4 632 (zLoc E b i) [] mem := by
  obtain ⟨r, m1, m2, e1, e2, R2⟩ := R_ahead R (xs (i + 1)) (xs (i + 2)) (xs (i + 3))
  refine z_aload_n C dL_law_632 rfl (j := 2) rfl ?_
  refine z_arg 1 C S hi (by decide) dL_law_633 dL_law_634 dL_law_635 (by decide +kernel) dL_law_636 dL_law_637 ?_
  refine z_arg 2 C S hi (by decide) dL_law_638 dL_law_639 dL_law_640 (by decide +kernel) dL_law_641 dL_law_642 ?_
  refine z_arg 3 C S hi (by decide) dL_law_643 dL_law_644 dL_law_645 (by decide +kernel) dL_law_646 dL_law_647 ?_
  refine z_callVi (n := 3) [.int (xs (i + 1)), .int (xs (i + 2)), .int (xs (i + 3))] [] C dL_law_648 (c := 0) (by decide) zen_0 rfl ⟨zw670, zw2, zw673, by decide +kernel⟩ zw671 zw672 ⟨⟨by decide, by decide⟩, rfl, Nat.le_of_ble_eq_true rfl⟩ rfl (sX6_ahead e1) ?_
  refine z_aload_n C dL_law_651 rfl (j := 1) rfl ?_
  refine z_arg 1 C S hi (by decide) dL_law_652 dL_law_653 dL_law_654 (by decide +kernel) dL_law_655 dL_law_656 ?_
  refine z_arg 2 C S hi (by decide) dL_law_657 dL_law_658 dL_law_659 (by decide +kernel) dL_law_660 dL_law_661 ?_
  refine z_arg 3 C S hi (by decide) dL_law_662 dL_law_663 dL_law_664 (by decide +kernel) dL_law_665 dL_law_666 ?_
  refine z_callVi (n := 3) [.int (xs (i + 1)), .int (xs (i + 2)), .int (xs (i + 3))] [.int r] C dL_law_667 (c := 58) (by decide) zen_58 rfl ⟨zw685, zw5, zw688, by decide +kernel⟩ zw686 zw687 ⟨⟨by decide, by decide⟩, rfl, Nat.le_of_ble_eq_true rfl⟩ rfl (sX7_ahead e2) ?_
  exact zb_eq 1226 C dL_law_670 (by decide) rfl (kk m2 R2)
set_option maxHeartbeats 4000000 in
theorem law_c17 (C : zC E Γ RL cL_law 4 16) (S : zSc E Γ b L xs) (hi : i + 6 ≤ L) (R : Rel mem) (kk : ∀ m : ZM, Rel m → zG l E Γ 4 1226 (zLoc E b i) [] m) : zG l E Γ 4 675 (zLoc E b i) [] mem := by
  obtain ⟨r, m1, m2, e1, e2, R2⟩ := R_later R (xs (i + 1)) (xs (i + 2))
  refine z_aload_n C dL_law_675 rfl (j := 2) rfl ?_
  refine z_arg 1 C S hi (by decide) dL_law_676 dL_law_677 dL_law_678 (by decide +kernel) dL_law_679 dL_law_680 ?_
  refine z_arg 2 C S hi (by decide) dL_law_681 dL_law_682 dL_law_683 (by decide +kernel) dL_law_684 dL_law_685 ?_
  refine z_callVi (n := 2) [.int (xs (i + 1)), .int (xs (i + 2))] [] C dL_law_686 (c := 0) (by decide) zen_0 rfl ⟨zw705, zw2, zw708, by decide +kernel⟩ zw706 zw707 ⟨⟨by decide, by decide⟩, rfl, Nat.le_of_ble_eq_true rfl⟩ rfl (sX6_later e1) ?_
  refine z_aload_n C dL_law_689 rfl (j := 1) rfl ?_
  refine z_arg 1 C S hi (by decide) dL_law_690 dL_law_691 dL_law_692 (by decide +kernel) dL_law_693 dL_law_694 ?_
  refine z_arg 2 C S hi (by decide) dL_law_695 dL_law_696 dL_law_697 (by decide +kernel) dL_law_698 dL_law_699 ?_
  refine z_callVi (n := 2) [.int (xs (i + 1)), .int (xs (i + 2))] [.int r] C dL_law_700 (c := 58) (by decide) zen_58 rfl ⟨zw710, zw5, zw713, by decide +kernel⟩ zw711 zw712 ⟨⟨by decide, by decide⟩, rfl, Nat.le_of_ble_eq_true rfl⟩ rfl (sX7_later e2) ?_
  exact zb_eq 1226 C dL_law_703 (by decide) rfl (kk m2 R2)
set_option maxHeartbeats 4000000 in
theorem law_c18 (C : zC E Γ RL cL_law 4 16) (S : zSc E Γ b L xs) (hi : i + 6 ≤ L) (R : Rel mem) (kk : ∀ m : ZM, Rel m → zG l E Γ 4 1226 (zLoc E b i) [] m) : zG l E Γ 4 708 (zLoc E b i) [] mem := by
  obtain ⟨r, m1, m2, e1, e2, R2⟩ := R_when R (xs (i + 1)) (xs (i + 2))
  refine z_aload_n C dL_law_708 rfl (j := 2) rfl ?_
  refine z_arg 1 C S hi (by decide) dL_law_709 dL_law_710 dL_law_711 (by decide +kernel) dL_law_712 dL_law_713 ?_
  refine z_arg 2 C S hi (by decide) dL_law_714 dL_law_715 dL_law_716 (by decide +kernel) dL_law_717 dL_law_718 ?_
  refine z_callVi (n := 2) [.int (xs (i + 1)), .int (xs (i + 2))] [] C dL_law_719 (c := 0) (by decide) zen_0 rfl ⟨zw714, zw2, zw717, by decide +kernel⟩ zw715 zw716 ⟨⟨by decide, by decide⟩, rfl, Nat.le_of_ble_eq_true rfl⟩ rfl (sX6_when e1) ?_
  refine z_aload_n C dL_law_722 rfl (j := 1) rfl ?_
  refine z_arg 1 C S hi (by decide) dL_law_723 dL_law_724 dL_law_725 (by decide +kernel) dL_law_726 dL_law_727 ?_
  refine z_arg 2 C S hi (by decide) dL_law_728 dL_law_729 dL_law_730 (by decide +kernel) dL_law_731 dL_law_732 ?_
  refine z_callVi (n := 2) [.int (xs (i + 1)), .int (xs (i + 2))] [.int r] C dL_law_733 (c := 58) (by decide) zen_58 rfl ⟨zw733, zw5, zw736, by decide +kernel⟩ zw734 zw735 ⟨⟨by decide, by decide⟩, rfl, Nat.le_of_ble_eq_true rfl⟩ rfl (sX7_when e2) ?_
  exact zb_eq 1226 C dL_law_736 (by decide) rfl (kk m2 R2)
set_option maxHeartbeats 4000000 in
theorem law_c19 (C : zC E Γ RL cL_law 4 16) (S : zSc E Γ b L xs) (hi : i + 6 ≤ L) (R : Rel mem) (kk : ∀ m : ZM, Rel m → zG l E Γ 4 1226 (zLoc E b i) [] m) : zG l E Γ 4 741 (zLoc E b i) [] mem := by
  obtain ⟨r, m1, m2, e1, e2, R2⟩ := R_dead R (xs (i + 1))
  refine z_aload_n C dL_law_741 rfl (j := 2) rfl ?_
  refine z_arg 1 C S hi (by decide) dL_law_742 dL_law_743 dL_law_744 (by decide +kernel) dL_law_745 dL_law_746 ?_
  refine z_callVi (n := 1) [.int (xs (i + 1))] [] C dL_law_747 (c := 0) (by decide) zen_0 rfl ⟨zw742, zw2, zw745, by decide +kernel⟩ zw743 zw744 ⟨⟨by decide, by decide⟩, rfl, Nat.le_of_ble_eq_true rfl⟩ rfl (sX6_dead e1) ?_
  refine z_aload_n C dL_law_750 rfl (j := 1) rfl ?_
  refine z_arg 1 C S hi (by decide) dL_law_751 dL_law_752 dL_law_753 (by decide +kernel) dL_law_754 dL_law_755 ?_
  refine z_callVi (n := 1) [.int (xs (i + 1))] [.int r] C dL_law_756 (c := 58) (by decide) zen_58 rfl ⟨zw763, zw5, zw766, by decide +kernel⟩ zw764 zw765 ⟨⟨by decide, by decide⟩, rfl, Nat.le_of_ble_eq_true rfl⟩ rfl (sX7_dead e2) ?_
  exact zb_eq 1226 C dL_law_759 (by decide) rfl (kk m2 R2)
set_option maxHeartbeats 4000000 in
theorem law_c20 (C : zC E Γ RL cL_law 4 16) (S : zSc E Γ b L xs) (hi : i + 6 ≤ L) (R : Rel mem) (kk : ∀ m : ZM, Rel m → zG l E Γ 4 1226 (zLoc E b i) [] m) : zG l E Γ 4 764 (zLoc E b i) [] mem := by
  obtain ⟨r, m1, m2, e1, e2, R2⟩ := R_kindle R (xs (i + 1)) (xs (i + 2)) (xs (i + 3))
  refine z_aload_n C dL_law_764 rfl (j := 2) rfl ?_
  refine z_arg 1 C S hi (by decide) dL_law_765 dL_law_766 dL_law_767 (by decide +kernel) dL_law_768 dL_law_769 ?_
  refine z_arg 2 C S hi (by decide) dL_law_770 dL_law_771 dL_law_772 (by decide +kernel) dL_law_773 dL_law_774 ?_
  refine z_arg 3 C S hi (by decide) dL_law_775 dL_law_776 dL_law_777 (by decide +kernel) dL_law_778 dL_law_779 ?_
  refine z_callVi (n := 3) [.int (xs (i + 1)), .int (xs (i + 2)), .int (xs (i + 3))] [] C dL_law_780 (c := 0) (by decide) zen_0 rfl ⟨zw771, zw2, zw774, by decide +kernel⟩ zw772 zw773 ⟨⟨by decide, by decide⟩, rfl, Nat.le_of_ble_eq_true rfl⟩ rfl (sX6_kindle e1) ?_
  refine z_aload_n C dL_law_783 rfl (j := 1) rfl ?_
  refine z_arg 1 C S hi (by decide) dL_law_784 dL_law_785 dL_law_786 (by decide +kernel) dL_law_787 dL_law_788 ?_
  refine z_arg 2 C S hi (by decide) dL_law_789 dL_law_790 dL_law_791 (by decide +kernel) dL_law_792 dL_law_793 ?_
  refine z_arg 3 C S hi (by decide) dL_law_794 dL_law_795 dL_law_796 (by decide +kernel) dL_law_797 dL_law_798 ?_
  refine z_callVi (n := 3) [.int (xs (i + 1)), .int (xs (i + 2)), .int (xs (i + 3))] [.int r] C dL_law_799 (c := 58) (by decide) zen_58 rfl ⟨zw795, zw5, zw798, by decide +kernel⟩ zw796 zw797 ⟨⟨by decide, by decide⟩, rfl, Nat.le_of_ble_eq_true rfl⟩ rfl (sX7_kindle e2) ?_
  exact zb_eq 1226 C dL_law_802 (by decide) rfl (kk m2 R2)
set_option maxHeartbeats 4000000 in
theorem law_c21 (C : zC E Γ RL cL_law 4 16) (S : zSc E Γ b L xs) (hi : i + 6 ≤ L) (R : Rel mem) (kk : ∀ m : ZM, Rel m → zG l E Γ 4 1226 (zLoc E b i) [] m) : zG l E Γ 4 807 (zLoc E b i) [] mem := by
  obtain ⟨r, m1, m2, e1, e2, R2⟩ := R_spare R (xs (i + 1)) (xs (i + 2))
  refine z_aload_n C dL_law_807 rfl (j := 2) rfl ?_
  refine z_arg 1 C S hi (by decide) dL_law_808 dL_law_809 dL_law_810 (by decide +kernel) dL_law_811 dL_law_812 ?_
  refine z_arg 2 C S hi (by decide) dL_law_813 dL_law_814 dL_law_815 (by decide +kernel) dL_law_816 dL_law_817 ?_
  refine z_callVi (n := 2) [.int (xs (i + 1)), .int (xs (i + 2))] [] C dL_law_818 (c := 0) (by decide) zen_0 rfl ⟨zw806, zw2, zw809, by decide +kernel⟩ zw807 zw808 ⟨⟨by decide, by decide⟩, rfl, Nat.le_of_ble_eq_true rfl⟩ rfl (sX6_spare e1) ?_
  refine z_aload_n C dL_law_821 rfl (j := 1) rfl ?_
  refine z_arg 1 C S hi (by decide) dL_law_822 dL_law_823 dL_law_824 (by decide +kernel) dL_law_825 dL_law_826 ?_
  refine z_arg 2 C S hi (by decide) dL_law_827 dL_law_828 dL_law_829 (by decide +kernel) dL_law_830 dL_law_831 ?_
  refine z_callVi (n := 2) [.int (xs (i + 1)), .int (xs (i + 2))] [.int r] C dL_law_832 (c := 58) (by decide) zen_58 rfl ⟨zw815, zw5, zw818, by decide +kernel⟩ zw816 zw817 ⟨⟨by decide, by decide⟩, rfl, Nat.le_of_ble_eq_true rfl⟩ rfl (sX7_spare e2) ?_
  exact zb_eq 1226 C dL_law_835 (by decide) rfl (kk m2 R2)
set_option maxHeartbeats 4000000 in
theorem law_c22 (C : zC E Γ RL cL_law 4 16) (S : zSc E Γ b L xs) (hi : i + 6 ≤ L) (R : Rel mem) (kk : ∀ m : ZM, Rel m → zG l E Γ 4 1226 (zLoc E b i) [] m) : zG l E Γ 4 840 (zLoc E b i) [] mem := by
  obtain ⟨r, m1, m2, e1, e2, R2⟩ := R_laying R (xs (i + 1)) (xs (i + 2))
  refine z_aload_n C dL_law_840 rfl (j := 2) rfl ?_
  refine z_arg 1 C S hi (by decide) dL_law_841 dL_law_842 dL_law_843 (by decide +kernel) dL_law_844 dL_law_845 ?_
  refine z_arg 2 C S hi (by decide) dL_law_846 dL_law_847 dL_law_848 (by decide +kernel) dL_law_849 dL_law_850 ?_
  refine z_callVi (n := 2) [.int (xs (i + 1)), .int (xs (i + 2))] [] C dL_law_851 (c := 0) (by decide) zen_0 rfl ⟨zw824, zw2, zw827, by decide +kernel⟩ zw825 zw826 ⟨⟨by decide, by decide⟩, rfl, Nat.le_of_ble_eq_true rfl⟩ rfl (sX6_laying e1) ?_
  refine z_aload_n C dL_law_854 rfl (j := 1) rfl ?_
  refine z_arg 1 C S hi (by decide) dL_law_855 dL_law_856 dL_law_857 (by decide +kernel) dL_law_858 dL_law_859 ?_
  refine z_arg 2 C S hi (by decide) dL_law_860 dL_law_861 dL_law_862 (by decide +kernel) dL_law_863 dL_law_864 ?_
  refine z_callVi (n := 2) [.int (xs (i + 1)), .int (xs (i + 2))] [.int r] C dL_law_865 (c := 58) (by decide) zen_58 rfl ⟨zw834, zw5, zw837, by decide +kernel⟩ zw835 zw836 ⟨⟨by decide, by decide⟩, rfl, Nat.le_of_ble_eq_true rfl⟩ rfl (sX7_laying e2) ?_
  exact zb_eq 1226 C dL_law_868 (by decide) rfl (kk m2 R2)
set_option maxHeartbeats 4000000 in
theorem law_c23 (C : zC E Γ RL cL_law 4 16) (S : zSc E Γ b L xs) (hi : i + 6 ≤ L) (R : Rel mem) (kk : ∀ m : ZM, Rel m → zG l E Γ 4 1226 (zLoc E b i) [] m) : zG l E Γ 4 873 (zLoc E b i) [] mem := by
  obtain ⟨r, m1, m2, e1, e2, R2⟩ := R_fits R (xs (i + 1)) (xs (i + 2)) (xs (i + 3)) (xs (i + 4)) (xs (i + 5))
  refine z_aload_n C dL_law_873 rfl (j := 2) rfl ?_
  refine z_arg 1 C S hi (by decide) dL_law_874 dL_law_875 dL_law_876 (by decide +kernel) dL_law_877 dL_law_878 ?_
  refine z_arg 2 C S hi (by decide) dL_law_879 dL_law_880 dL_law_881 (by decide +kernel) dL_law_882 dL_law_883 ?_
  refine z_arg 3 C S hi (by decide) dL_law_884 dL_law_885 dL_law_886 (by decide +kernel) dL_law_887 dL_law_888 ?_
  refine z_arg 4 C S hi (by decide) dL_law_889 dL_law_890 dL_law_891 (by decide +kernel) dL_law_892 dL_law_893 ?_
  refine z_arg 5 C S hi (by decide) dL_law_894 dL_law_895 dL_law_896 (by decide +kernel) dL_law_897 dL_law_898 ?_
  refine z_callVi (n := 5) [.int (xs (i + 1)), .int (xs (i + 2)), .int (xs (i + 3)), .int (xs (i + 4)), .int (xs (i + 5))] [] C dL_law_899 (c := 0) (by decide) zen_0 rfl ⟨zw838, zw2, zw841, by decide +kernel⟩ zw839 zw840 ⟨⟨by decide, by decide⟩, rfl, Nat.le_of_ble_eq_true rfl⟩ rfl (sX6_fits e1) ?_
  refine z_aload_n C dL_law_902 rfl (j := 1) rfl ?_
  refine z_arg 1 C S hi (by decide) dL_law_903 dL_law_904 dL_law_905 (by decide +kernel) dL_law_906 dL_law_907 ?_
  refine z_arg 2 C S hi (by decide) dL_law_908 dL_law_909 dL_law_910 (by decide +kernel) dL_law_911 dL_law_912 ?_
  refine z_arg 3 C S hi (by decide) dL_law_913 dL_law_914 dL_law_915 (by decide +kernel) dL_law_916 dL_law_917 ?_
  refine z_arg 4 C S hi (by decide) dL_law_918 dL_law_919 dL_law_920 (by decide +kernel) dL_law_921 dL_law_922 ?_
  refine z_arg 5 C S hi (by decide) dL_law_923 dL_law_924 dL_law_925 (by decide +kernel) dL_law_926 dL_law_927 ?_
  refine z_callVi (n := 5) [.int (xs (i + 1)), .int (xs (i + 2)), .int (xs (i + 3)), .int (xs (i + 4)), .int (xs (i + 5))] [.int r] C dL_law_928 (c := 58) (by decide) zen_58 rfl ⟨zw865, zw5, zw868, by decide +kernel⟩ zw866 zw867 ⟨⟨by decide, by decide⟩, rfl, Nat.le_of_ble_eq_true rfl⟩ rfl (sX7_fits e2) ?_
  exact zb_eq 1226 C dL_law_931 (by decide) rfl (kk m2 R2)
set_option maxHeartbeats 4000000 in
theorem law_c24 (C : zC E Γ RL cL_law 4 16) (S : zSc E Γ b L xs) (hi : i + 6 ≤ L) (R : Rel mem) (kk : ∀ m : ZM, Rel m → zG l E Γ 4 1226 (zLoc E b i) [] m) : zG l E Γ 4 936 (zLoc E b i) [] mem := by
  obtain ⟨r, m1, m2, e1, e2, R2⟩ := R_rain R (xs (i + 1)) (xs (i + 2)) (xs (i + 3)) (xs (i + 4))
  refine z_aload_n C dL_law_936 rfl (j := 2) rfl ?_
  refine z_arg 1 C S hi (by decide) dL_law_937 dL_law_938 dL_law_939 (by decide +kernel) dL_law_940 dL_law_941 ?_
  refine z_arg 2 C S hi (by decide) dL_law_942 dL_law_943 dL_law_944 (by decide +kernel) dL_law_945 dL_law_946 ?_
  refine z_arg 3 C S hi (by decide) dL_law_947 dL_law_948 dL_law_949 (by decide +kernel) dL_law_950 dL_law_951 ?_
  refine z_arg 4 C S hi (by decide) dL_law_952 dL_law_953 dL_law_954 (by decide +kernel) dL_law_955 dL_law_956 ?_
  refine z_callVi (n := 4) [.int (xs (i + 1)), .int (xs (i + 2)), .int (xs (i + 3)), .int (xs (i + 4))] [] C dL_law_957 (c := 0) (by decide) zen_0 rfl ⟨zw879, zw2, zw882, by decide +kernel⟩ zw880 zw881 ⟨⟨by decide, by decide⟩, rfl, Nat.le_of_ble_eq_true rfl⟩ rfl (sX6_rain e1) ?_
  refine z_aload_n C dL_law_960 rfl (j := 1) rfl ?_
  refine z_arg 1 C S hi (by decide) dL_law_961 dL_law_962 dL_law_963 (by decide +kernel) dL_law_964 dL_law_965 ?_
  refine z_arg 2 C S hi (by decide) dL_law_966 dL_law_967 dL_law_968 (by decide +kernel) dL_law_969 dL_law_970 ?_
  refine z_arg 3 C S hi (by decide) dL_law_971 dL_law_972 dL_law_973 (by decide +kernel) dL_law_974 dL_law_975 ?_
  refine z_arg 4 C S hi (by decide) dL_law_976 dL_law_977 dL_law_978 (by decide +kernel) dL_law_979 dL_law_980 ?_
  refine z_callVi (n := 4) [.int (xs (i + 1)), .int (xs (i + 2)), .int (xs (i + 3)), .int (xs (i + 4))] [.int r] C dL_law_981 (c := 58) (by decide) zen_58 rfl ⟨zw897, zw5, zw900, by decide +kernel⟩ zw898 zw899 ⟨⟨by decide, by decide⟩, rfl, Nat.le_of_ble_eq_true rfl⟩ rfl (sX7_rain e2) ?_
  exact zb_eq 1226 C dL_law_984 (by decide) rfl (kk m2 R2)
set_option maxHeartbeats 4000000 in
theorem law_c25 (C : zC E Γ RL cL_law 4 16) (S : zSc E Γ b L xs) (hi : i + 6 ≤ L) (R : Rel mem) (kk : ∀ m : ZM, Rel m → zG l E Γ 4 1226 (zLoc E b i) [] m) : zG l E Γ 4 989 (zLoc E b i) [] mem := by
  obtain ⟨r, m1, m2, e1, e2, R2⟩ := R_drawn R (xs (i + 1)) (xs (i + 2)) (xs (i + 3))
  refine z_aload_n C dL_law_989 rfl (j := 2) rfl ?_
  refine z_arg 1 C S hi (by decide) dL_law_990 dL_law_991 dL_law_992 (by decide +kernel) dL_law_993 dL_law_994 ?_
  refine z_arg 2 C S hi (by decide) dL_law_995 dL_law_996 dL_law_997 (by decide +kernel) dL_law_998 dL_law_999 ?_
  refine z_arg 3 C S hi (by decide) dL_law_1000 dL_law_1001 dL_law_1002 (by decide +kernel) dL_law_1003 dL_law_1004 ?_
  refine z_callVi (n := 3) [.int (xs (i + 1)), .int (xs (i + 2)), .int (xs (i + 3))] [] C dL_law_1005 (c := 0) (by decide) zen_0 rfl ⟨zw902, zw2, zw905, by decide +kernel⟩ zw903 zw904 ⟨⟨by decide, by decide⟩, rfl, Nat.le_of_ble_eq_true rfl⟩ rfl (sX6_drawn e1) ?_
  refine z_aload_n C dL_law_1008 rfl (j := 1) rfl ?_
  refine z_arg 1 C S hi (by decide) dL_law_1009 dL_law_1010 dL_law_1011 (by decide +kernel) dL_law_1012 dL_law_1013 ?_
  refine z_arg 2 C S hi (by decide) dL_law_1014 dL_law_1015 dL_law_1016 (by decide +kernel) dL_law_1017 dL_law_1018 ?_
  refine z_arg 3 C S hi (by decide) dL_law_1019 dL_law_1020 dL_law_1021 (by decide +kernel) dL_law_1022 dL_law_1023 ?_
  refine z_callVi (n := 3) [.int (xs (i + 1)), .int (xs (i + 2)), .int (xs (i + 3))] [.int r] C dL_law_1024 (c := 58) (by decide) zen_58 rfl ⟨zw928, zw5, zw931, by decide +kernel⟩ zw929 zw930 ⟨⟨by decide, by decide⟩, rfl, Nat.le_of_ble_eq_true rfl⟩ rfl (sX7_drawn e2) ?_
  exact zb_eq 1226 C dL_law_1027 (by decide) rfl (kk m2 R2)
set_option maxHeartbeats 4000000 in
theorem law_c26 (C : zC E Γ RL cL_law 4 16) (S : zSc E Γ b L xs) (hi : i + 6 ≤ L) (R : Rel mem) (kk : ∀ m : ZM, Rel m → zG l E Γ 4 1226 (zLoc E b i) [] m) : zG l E Γ 4 1032 (zLoc E b i) [] mem := by
  obtain ⟨r, m1, m2, e1, e2, R2⟩ := o_image R (xs (i + 1))
  refine z_aload_n C dL_law_1032 rfl (j := 2) rfl ?_
  refine z_arg 1 C S hi (by decide) dL_law_1033 dL_law_1034 dL_law_1035 (by decide +kernel) dL_law_1036 dL_law_1037 ?_
  refine z_callVi (n := 1) [.int (xs (i + 1))] [] C dL_law_1038 (c := 0) (by decide) zen_0 rfl ⟨zw937, zw2, zw940, by decide +kernel⟩ zw938 zw939 ⟨⟨by decide, by decide⟩, rfl, Nat.le_of_ble_eq_true rfl⟩ rfl (sX6_image e1) ?_
  refine z_aload_n C dL_law_1041 rfl (j := 1) rfl ?_
  refine z_arg 1 C S hi (by decide) dL_law_1042 dL_law_1043 dL_law_1044 (by decide +kernel) dL_law_1045 dL_law_1046 ?_
  refine z_callVi (n := 1) [.int (xs (i + 1))] [.int r] C dL_law_1047 (c := 58) (by decide) zen_58 rfl ⟨zw941, zw5, zw944, by decide +kernel⟩ zw942 zw943 ⟨⟨by decide, by decide⟩, rfl, Nat.le_of_ble_eq_true rfl⟩ rfl (sX7_image e2) ?_
  exact zb_eq 1226 C dL_law_1050 (by decide) rfl (kk m2 R2)
set_option maxHeartbeats 4000000 in
theorem law_c27 (C : zC E Γ RL cL_law 4 16) (S : zSc E Γ b L xs) (hi : i + 6 ≤ L) (R : Rel mem) (kk : ∀ m : ZM, Rel m → zG l E Γ 4 1226 (zLoc E b i) [] m) : zG l E Γ 4 1055 (zLoc E b i) [] mem := by
  obtain ⟨r, m1, m2, e1, e2, R2⟩ := o_restore R (xs (i + 1))
  refine z_aload_n C dL_law_1055 rfl (j := 2) rfl ?_
  refine z_arg 1 C S hi (by decide) dL_law_1056 dL_law_1057 dL_law_1058 (by decide +kernel) dL_law_1059 dL_law_1060 ?_
  refine z_callVi (n := 1) [.int (xs (i + 1))] [] C dL_law_1061 (c := 0) (by decide) zen_0 rfl ⟨zw945, zw2, zw948, by decide +kernel⟩ zw946 zw947 ⟨⟨by decide, by decide⟩, rfl, Nat.le_of_ble_eq_true rfl⟩ rfl (sX6_restore e1) ?_
  refine z_aload_n C dL_law_1064 rfl (j := 1) rfl ?_
  refine z_arg 1 C S hi (by decide) dL_law_1065 dL_law_1066 dL_law_1067 (by decide +kernel) dL_law_1068 dL_law_1069 ?_
  refine z_callVi (n := 1) [.int (xs (i + 1))] [.int r] C dL_law_1070 (c := 58) (by decide) zen_58 rfl ⟨zw949, zw5, zw952, by decide +kernel⟩ zw950 zw951 ⟨⟨by decide, by decide⟩, rfl, Nat.le_of_ble_eq_true rfl⟩ rfl (sX7_restore e2) ?_
  exact zb_eq 1226 C dL_law_1073 (by decide) rfl (kk m2 R2)
set_option maxHeartbeats 4000000 in
theorem law_c28 (C : zC E Γ RL cL_law 4 16) (S : zSc E Γ b L xs) (hi : i + 6 ≤ L) (R : Rel mem) (kk : ∀ m : ZM, Rel m → zG l E Γ 4 1226 (zLoc E b i) [] m) : zG l E Γ 4 1078 (zLoc E b i) [] mem := by
  obtain ⟨r, e1, e2⟩ := R_kind R (xs (i + 1))
  refine z_aload_n C dL_law_1078 rfl (j := 2) rfl ?_
  refine z_arg 1 C S hi (by decide) dL_law_1079 dL_law_1080 dL_law_1081 (by decide +kernel) dL_law_1082 dL_law_1083 ?_
  refine z_callVi (n := 1) [.int (xs (i + 1))] [] C dL_law_1084 (c := 0) (by decide) zen_0 rfl ⟨zw953, zw2, zw956, by decide +kernel⟩ zw954 zw955 ⟨⟨by decide, by decide⟩, rfl, Nat.le_of_ble_eq_true rfl⟩ rfl (sX6_kind e1) ?_
  refine z_aload_n C dL_law_1087 rfl (j := 1) rfl ?_
  refine z_arg 1 C S hi (by decide) dL_law_1088 dL_law_1089 dL_law_1090 (by decide +kernel) dL_law_1091 dL_law_1092 ?_
  refine z_callVi (n := 1) [.int (xs (i + 1))] [.int r] C dL_law_1093 (c := 58) (by decide) zen_58 rfl ⟨zw958, zw5, zw961, by decide +kernel⟩ zw959 zw960 ⟨⟨by decide, by decide⟩, rfl, Nat.le_of_ble_eq_true rfl⟩ rfl (sX7_kind e2) ?_
  exact zb_eq 1226 C dL_law_1096 (by decide) rfl (kk mem R)
set_option maxHeartbeats 4000000 in
theorem law_c29 (C : zC E Γ RL cL_law 4 16) (S : zSc E Γ b L xs) (hi : i + 6 ≤ L) (R : Rel mem) (kk : ∀ m : ZM, Rel m → zG l E Γ 4 1226 (zLoc E b i) [] m) : zG l E Γ 4 1101 (zLoc E b i) [] mem := by
  obtain ⟨r, m1, m2, e1, e2, R2⟩ := o_as R (xs (i + 1)) (xs (i + 2))
  refine z_aload_n C dL_law_1101 rfl (j := 2) rfl ?_
  refine z_arg 1 C S hi (by decide) dL_law_1102 dL_law_1103 dL_law_1104 (by decide +kernel) dL_law_1105 dL_law_1106 ?_
  refine z_arg 2 C S hi (by decide) dL_law_1107 dL_law_1108 dL_law_1109 (by decide +kernel) dL_law_1110 dL_law_1111 ?_
  refine z_callVi (n := 2) [.int (xs (i + 1)), .int (xs (i + 2))] [] C dL_law_1112 (c := 0) (by decide) zen_0 rfl ⟨zw962, zw2, zw965, by decide +kernel⟩ zw963 zw964 ⟨⟨by decide, by decide⟩, rfl, Nat.le_of_ble_eq_true rfl⟩ rfl (sX6_as e1) ?_
  refine z_aload_n C dL_law_1115 rfl (j := 1) rfl ?_
  refine z_arg 1 C S hi (by decide) dL_law_1116 dL_law_1117 dL_law_1118 (by decide +kernel) dL_law_1119 dL_law_1120 ?_
  refine z_arg 2 C S hi (by decide) dL_law_1121 dL_law_1122 dL_law_1123 (by decide +kernel) dL_law_1124 dL_law_1125 ?_
  refine z_callVi (n := 2) [.int (xs (i + 1)), .int (xs (i + 2))] [.int r] C dL_law_1126 (c := 58) (by decide) zen_58 rfl ⟨zw967, zw5, zw970, by decide +kernel⟩ zw968 zw969 ⟨⟨by decide, by decide⟩, rfl, Nat.le_of_ble_eq_true rfl⟩ rfl (sX7_as e2) ?_
  exact zb_eq 1226 C dL_law_1129 (by decide) rfl (kk m2 R2)
set_option maxHeartbeats 4000000 in
theorem law_c30 (C : zC E Γ RL cL_law 4 16) (S : zSc E Γ b L xs) (hi : i + 6 ≤ L) (R : Rel mem) (kk : ∀ m : ZM, Rel m → zG l E Γ 4 1226 (zLoc E b i) [] m) : zG l E Γ 4 1134 (zLoc E b i) [] mem := by
  obtain ⟨r, m1, m2, e1, e2, R2⟩ := o_ask R (xs (i + 1)) (xs (i + 2))
  refine z_aload_n C dL_law_1134 rfl (j := 2) rfl ?_
  refine z_arg 1 C S hi (by decide) dL_law_1135 dL_law_1136 dL_law_1137 (by decide +kernel) dL_law_1138 dL_law_1139 ?_
  refine z_arg 2 C S hi (by decide) dL_law_1140 dL_law_1141 dL_law_1142 (by decide +kernel) dL_law_1143 dL_law_1144 ?_
  refine z_callVi (n := 2) [.int (xs (i + 1)), .int (xs (i + 2))] [] C dL_law_1145 (c := 0) (by decide) zen_0 rfl ⟨zw974, zw2, zw977, by decide +kernel⟩ zw975 zw976 ⟨⟨by decide, by decide⟩, rfl, Nat.le_of_ble_eq_true rfl⟩ rfl (sX6_ask e1) ?_
  refine z_aload_n C dL_law_1148 rfl (j := 1) rfl ?_
  refine z_arg 1 C S hi (by decide) dL_law_1149 dL_law_1150 dL_law_1151 (by decide +kernel) dL_law_1152 dL_law_1153 ?_
  refine z_arg 2 C S hi (by decide) dL_law_1154 dL_law_1155 dL_law_1156 (by decide +kernel) dL_law_1157 dL_law_1158 ?_
  refine z_callVi (n := 2) [.int (xs (i + 1)), .int (xs (i + 2))] [.int r] C dL_law_1159 (c := 58) (by decide) zen_58 rfl ⟨zw1037, zw5, zw1040, by decide +kernel⟩ zw1038 zw1039 ⟨⟨by decide, by decide⟩, rfl, Nat.le_of_ble_eq_true rfl⟩ rfl (sX7_ask e2) ?_
  exact zb_eq 1226 C dL_law_1162 (by decide) rfl (kk m2 R2)
set_option maxHeartbeats 4000000 in
theorem law_c31 (C : zC E Γ RL cL_law 4 16) (S : zSc E Γ b L xs) (hi : i + 6 ≤ L) (R : Rel mem) (kk : ∀ m : ZM, Rel m → zG l E Γ 4 1226 (zLoc E b i) [] m) : zG l E Γ 4 1167 (zLoc E b i) [] mem := by
  obtain ⟨r, e1, e2⟩ := R_trace R (xs (i + 1))
  refine z_aload_n C dL_law_1167 rfl (j := 2) rfl ?_
  refine z_arg 1 C S hi (by decide) dL_law_1168 dL_law_1169 dL_law_1170 (by decide +kernel) dL_law_1171 dL_law_1172 ?_
  refine z_callVi (n := 1) [.int (xs (i + 1))] [] C dL_law_1173 (c := 0) (by decide) zen_0 rfl ⟨zw1074, zw2, zw1077, by decide +kernel⟩ zw1075 zw1076 ⟨⟨by decide, by decide⟩, rfl, Nat.le_of_ble_eq_true rfl⟩ rfl (sX6_trace e1) ?_
  refine z_aload_n C dL_law_1176 rfl (j := 1) rfl ?_
  refine z_arg 1 C S hi (by decide) dL_law_1177 dL_law_1178 dL_law_1179 (by decide +kernel) dL_law_1180 dL_law_1181 ?_
  refine z_callVi (n := 1) [.int (xs (i + 1))] [.int r] C dL_law_1182 (c := 58) (by decide) zen_58 rfl ⟨zw1080, zw5, zw1083, by decide +kernel⟩ zw1081 zw1082 ⟨⟨by decide, by decide⟩, rfl, Nat.le_of_ble_eq_true rfl⟩ rfl (sX7_trace e2) ?_
  exact zb_eq 1226 C dL_law_1185 (by decide) rfl (kk mem R)
set_option maxHeartbeats 4000000 in
theorem law_c32 (C : zC E Γ RL cL_law 4 16) (S : zSc E Γ b L xs) (hi : i + 6 ≤ L) (R : Rel mem) (kk : ∀ m : ZM, Rel m → zG l E Γ 4 1226 (zLoc E b i) [] m) : zG l E Γ 4 1190 (zLoc E b i) [] mem := by
  obtain ⟨r, e1, e2⟩ := o_count R (xs (i + 1))
  refine z_aload_n C dL_law_1190 rfl (j := 2) rfl ?_
  refine z_arg 1 C S hi (by decide) dL_law_1191 dL_law_1192 dL_law_1193 (by decide +kernel) dL_law_1194 dL_law_1195 ?_
  refine z_callVi (n := 1) [.int (xs (i + 1))] [] C dL_law_1196 (c := 0) (by decide) zen_0 rfl ⟨zw1084, zw2, zw1087, by decide +kernel⟩ zw1085 zw1086 ⟨⟨by decide, by decide⟩, rfl, Nat.le_of_ble_eq_true rfl⟩ rfl (sX6_count e1) ?_
  refine z_aload_n C dL_law_1199 rfl (j := 1) rfl ?_
  refine z_arg 1 C S hi (by decide) dL_law_1200 dL_law_1201 dL_law_1202 (by decide +kernel) dL_law_1203 dL_law_1204 ?_
  refine z_callVi (n := 1) [.int (xs (i + 1))] [.int r] C dL_law_1205 (c := 58) (by decide) zen_58 rfl ⟨zw1092, zw5, zw1095, by decide +kernel⟩ zw1093 zw1094 ⟨⟨by decide, by decide⟩, rfl, Nat.le_of_ble_eq_true rfl⟩ rfl (sX7_count e2) ?_
  exact zb_eq 1226 C dL_law_1208 (by decide) rfl (kk mem R)
set_option maxHeartbeats 4000000 in
theorem law_c33 (C : zC E Γ RL cL_law 4 16) (S : zSc E Γ b L xs) (hi : i + 6 ≤ L) (R : Rel mem) (kk : ∀ m : ZM, Rel m → zG l E Γ 4 1226 (zLoc E b i) [] m) : zG l E Γ 4 1213 (zLoc E b i) [] mem := by
  obtain ⟨r, e1, e2⟩ := R_status R 
  refine z_aload_n C dL_law_1213 rfl (j := 2) rfl ?_
  refine z_callVi (n := 0) [] [] C dL_law_1214 (c := 0) (by decide) zen_0 rfl ⟨zw1096, zw2, zw1099, by decide +kernel⟩ zw1097 zw1098 ⟨⟨by decide, by decide⟩, rfl, Nat.le_of_ble_eq_true rfl⟩ rfl (sX6_status e1) ?_
  refine z_aload_n C dL_law_1217 rfl (j := 1) rfl ?_
  refine z_callVi (n := 0) [] [.int r] C dL_law_1218 (c := 58) (by decide) zen_58 rfl ⟨zw1100, zw5, zw1103, by decide +kernel⟩ zw1101 zw1102 ⟨⟨by decide, by decide⟩, rfl, Nat.le_of_ble_eq_true rfl⟩ rfl (sX7_status e2) ?_
  exact zb_eq 1226 C dL_law_1221 (by decide) rfl (kk mem R)
end ZCS
