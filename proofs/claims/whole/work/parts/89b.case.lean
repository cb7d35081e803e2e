section ZL
variable {p : Program} {l : Launch} {e : Env} {s : State} {m : MethodId} {below : List Frame} {meth : Method} {c : Code} {H : Heap} {locs : List Loc} {Q : State → Prop} {ls : Array Slot} {g0 g1 : xG} {C M : xM} {b L : Nat} {xs : Nat → Int32} {x3 : Int32}
set_option maxRecDepth 100000 in
set_option maxHeartbeats 4000000 in
theorem lw_c0 (Z : zz_Z p s m b L xs c g0 g1) (hw : zz_w g0 g1 s H locs C M) (hR : Rel C M) (hin : zz_in x3 L) (hl : lv_has ls 4 [(3, .int x3), (2, .ref (g1.2.2.1 0)), (1, .ref (g0.2.2.1 0)), (0, .ref b)]) (kk : ∀ (H1 : Heap) (locs1 : List Loc) (C1 M1 : xM), zz_w g0 g1 s H1 locs1 C1 M1 → Rel C1 M1 → W p l e room_1 s m #[Value.ref b] below meth c H1 locs1 600000 7302250 Q (F0 m 1485 ls [])) : W p l e room_1 s m #[Value.ref b] below meth c H locs 600000 7302250 Q (F0 m 212 ls []) := by
  obtain ⟨hx, hb, -⟩ := id Z.1
  obtain ⟨r, C1, M1, h0, h1, hR1⟩ := q_person hR (xs (x3 + 1).toNatClampNeg)
  refine lv_aload_n hx hb dL_law_212 rfl (lv_at hl 2 rfl) ?_
  refine zz_arg (j := 1) Z hw hl hin.1 dL_law_213 dL_law_214 dL_law_215 (by decide) dL_law_216 dL_law_217 ?_
  refine zz_c0 Z hw hl.1 [.int (xs (x3 + 1).toNatClampNeg)] [] (mX10_person l g0 h0) lk_L_13 ⟨Nat.le_of_ble_eq_true rfl, Nat.le_of_ble_eq_true rfl⟩ rfl (Nat.le_of_ble_eq_true rfl) dL_law_218 (fun H locs hw => ?_)
  refine lv_aload_n hx hb dL_law_221 rfl (lv_at hl 1 rfl) ?_
  refine zz_arg (j := 1) Z hw hl hin.1 dL_law_222 dL_law_223 dL_law_224 (by decide) dL_law_225 dL_law_226 ?_
  refine zz_c1 Z hw hl.1 [.int (xs (x3 + 1).toNatClampNeg)] [.int r] (mX11_person l g1 h1) lk_L_17 ⟨Nat.le_of_ble_eq_true rfl, Nat.le_of_ble_eq_true rfl⟩ rfl (Nat.le_of_ble_eq_true rfl) dL_law_227 (fun H locs hw => ?_)
  exact lv_icmp_eq (tgt := 1485) hx hb dL_law_230 (by decide) (fun _ => kk H locs C1 M1 hw hR1) (fun q => absurd rfl q)
set_option maxRecDepth 100000 in
set_option maxHeartbeats 4000000 in
theorem lw_c1 (Z : zz_Z p s m b L xs c g0 g1) (hw : zz_w g0 g1 s H locs C M) (hR : Rel C M) (hin : zz_in x3 L) (hl : lv_has ls 4 [(3, .int x3), (2, .ref (g1.2.2.1 0)), (1, .ref (g0.2.2.1 0)), (0, .ref b)]) (kk : ∀ (H1 : Heap) (locs1 : List Loc) (C1 M1 : xM), zz_w g0 g1 s H1 locs1 C1 M1 → Rel C1 M1 → W p l e room_1 s m #[Value.ref b] below meth c H1 locs1 600000 7302250 Q (F0 m 1485 ls [])) : W p l e room_1 s m #[Value.ref b] below meth c H locs 600000 7302250 Q (F0 m 235 ls []) := by
  obtain ⟨hx, hb, -⟩ := id Z.1
  obtain ⟨r, C1, M1, h0, h1, hR1⟩ := q_is hR (xs (x3 + 1).toNatClampNeg) (xs (x3 + 2).toNatClampNeg)
  refine lv_aload_n hx hb dL_law_235 rfl (lv_at hl 2 rfl) ?_
  refine zz_arg (j := 1) Z hw hl hin.1 dL_law_236 dL_law_237 dL_law_238 (by decide) dL_law_239 dL_law_240 ?_
  refine zz_arg (j := 2) Z hw hl hin.2.1 dL_law_241 dL_law_242 dL_law_243 (by decide) dL_law_244 dL_law_245 ?_
  refine zz_c0 Z hw hl.1 [.int (xs (x3 + 1).toNatClampNeg), .int (xs (x3 + 2).toNatClampNeg)] [] (mX10_is l g0 h0) lk_L_18 ⟨Nat.le_of_ble_eq_true rfl, Nat.le_of_ble_eq_true rfl⟩ rfl (Nat.le_of_ble_eq_true rfl) dL_law_246 (fun H locs hw => ?_)
  refine lv_aload_n hx hb dL_law_249 rfl (lv_at hl 1 rfl) ?_
  refine zz_arg (j := 1) Z hw hl hin.1 dL_law_250 dL_law_251 dL_law_252 (by decide) dL_law_253 dL_law_254 ?_
  refine zz_arg (j := 2) Z hw hl hin.2.1 dL_law_255 dL_law_256 dL_law_257 (by decide) dL_law_258 dL_law_259 ?_
  refine zz_c1 Z hw hl.1 [.int (xs (x3 + 1).toNatClampNeg), .int (xs (x3 + 2).toNatClampNeg)] [.int r] (mX11_is l g1 h1) lk_L_22 ⟨Nat.le_of_ble_eq_true rfl, Nat.le_of_ble_eq_true rfl⟩ rfl (Nat.le_of_ble_eq_true rfl) dL_law_260 (fun H locs hw => ?_)
  exact lv_icmp_eq (tgt := 1485) hx hb dL_law_263 (by decide) (fun _ => kk H locs C1 M1 hw hR1) (fun q => absurd rfl q)
set_option maxRecDepth 100000 in
set_option maxHeartbeats 4000000 in
theorem lw_c2 (Z : zz_Z p s m b L xs c g0 g1) (hw : zz_w g0 g1 s H locs C M) (hR : Rel C M) (hin : zz_in x3 L) (hl : lv_has ls 4 [(3, .int x3), (2, .ref (g1.2.2.1 0)), (1, .ref (g0.2.2.1 0)), (0, .ref b)]) (kk : ∀ (H1 : Heap) (locs1 : List Loc) (C1 M1 : xM), zz_w g0 g1 s H1 locs1 C1 M1 → Rel C1 M1 → W p l e room_1 s m #[Value.ref b] below meth c H1 locs1 600000 7302250 Q (F0 m 1485 ls [])) : W p l e room_1 s m #[Value.ref b] below meth c H locs 600000 7302250 Q (F0 m 268 ls []) := by
  obtain ⟨hx, hb, -⟩ := id Z.1
  obtain ⟨r, C1, M1, h0, h1, hR1⟩ := q_couple hR (xs (x3 + 1).toNatClampNeg) (xs (x3 + 2).toNatClampNeg)
  refine lv_aload_n hx hb dL_law_268 rfl (lv_at hl 2 rfl) ?_
  refine zz_arg (j := 1) Z hw hl hin.1 dL_law_269 dL_law_270 dL_law_271 (by decide) dL_law_272 dL_law_273 ?_
  refine zz_arg (j := 2) Z hw hl hin.2.1 dL_law_274 dL_law_275 dL_law_276 (by decide) dL_law_277 dL_law_278 ?_
  refine zz_c0 Z hw hl.1 [.int (xs (x3 + 1).toNatClampNeg), .int (xs (x3 + 2).toNatClampNeg)] [] (mX10_couple l g0 h0) lk_L_23 ⟨Nat.le_of_ble_eq_true rfl, Nat.le_of_ble_eq_true rfl⟩ rfl (Nat.le_of_ble_eq_true rfl) dL_law_279 (fun H locs hw => ?_)
  refine lv_aload_n hx hb dL_law_282 rfl (lv_at hl 1 rfl) ?_
  refine zz_arg (j := 1) Z hw hl hin.1 dL_law_283 dL_law_284 dL_law_285 (by decide) dL_law_286 dL_law_287 ?_
  refine zz_arg (j := 2) Z hw hl hin.2.1 dL_law_288 dL_law_289 dL_law_290 (by decide) dL_law_291 dL_law_292 ?_
  refine zz_c1 Z hw hl.1 [.int (xs (x3 + 1).toNatClampNeg), .int (xs (x3 + 2).toNatClampNeg)] [.int r] (mX11_couple l g1 h1) lk_L_26 ⟨Nat.le_of_ble_eq_true rfl, Nat.le_of_ble_eq_true rfl⟩ rfl (Nat.le_of_ble_eq_true rfl) dL_law_293 (fun H locs hw => ?_)
  exact lv_icmp_eq (tgt := 1485) hx hb dL_law_296 (by decide) (fun _ => kk H locs C1 M1 hw hR1) (fun q => absurd rfl q)
set_option maxRecDepth 100000 in
set_option maxHeartbeats 4000000 in
theorem lw_c3 (Z : zz_Z p s m b L xs c g0 g1) (hw : zz_w g0 g1 s H locs C M) (hR : Rel C M) (hin : zz_in x3 L) (hl : lv_has ls 4 [(3, .int x3), (2, .ref (g1.2.2.1 0)), (1, .ref (g0.2.2.1 0)), (0, .ref b)]) (kk : ∀ (H1 : Heap) (locs1 : List Loc) (C1 M1 : xM), zz_w g0 g1 s H1 locs1 C1 M1 → Rel C1 M1 → W p l e room_1 s m #[Value.ref b] below meth c H1 locs1 600000 7302250 Q (F0 m 1485 ls [])) : W p l e room_1 s m #[Value.ref b] below meth c H locs 600000 7302250 Q (F0 m 301 ls []) := by
  obtain ⟨hx, hb, -⟩ := id Z.1
  obtain ⟨r, C1, M1, h0, h1, hR1⟩ := q_part hR (xs (x3 + 1).toNatClampNeg)
  refine lv_aload_n hx hb dL_law_301 rfl (lv_at hl 2 rfl) ?_
  refine zz_arg (j := 1) Z hw hl hin.1 dL_law_302 dL_law_303 dL_law_304 (by decide) dL_law_305 dL_law_306 ?_
  refine zz_c0 Z hw hl.1 [.int (xs (x3 + 1).toNatClampNeg)] [] (mX10_part l g0 h0) lk_L_27 ⟨Nat.le_of_ble_eq_true rfl, Nat.le_of_ble_eq_true rfl⟩ rfl (Nat.le_of_ble_eq_true rfl) dL_law_307 (fun H locs hw => ?_)
  refine lv_aload_n hx hb dL_law_310 rfl (lv_at hl 1 rfl) ?_
  refine zz_arg (j := 1) Z hw hl hin.1 dL_law_311 dL_law_312 dL_law_313 (by decide) dL_law_314 dL_law_315 ?_
  refine zz_c1 Z hw hl.1 [.int (xs (x3 + 1).toNatClampNeg)] [.int r] (mX11_part l g1 h1) lk_L_30 ⟨Nat.le_of_ble_eq_true rfl, Nat.le_of_ble_eq_true rfl⟩ rfl (Nat.le_of_ble_eq_true rfl) dL_law_316 (fun H locs hw => ?_)
  exact lv_icmp_eq (tgt := 1485) hx hb dL_law_319 (by decide) (fun _ => kk H locs C1 M1 hw hR1) (fun q => absurd rfl q)
set_option maxRecDepth 100000 in
set_option maxHeartbeats 4000000 in
theorem lw_c4 (Z : zz_Z p s m b L xs c g0 g1) (hw : zz_w g0 g1 s H locs C M) (hR : Rel C M) (hin : zz_in x3 L) (hl : lv_has ls 4 [(3, .int x3), (2, .ref (g1.2.2.1 0)), (1, .ref (g0.2.2.1 0)), (0, .ref b)]) (kk : ∀ (H1 : Heap) (locs1 : List Loc) (C1 M1 : xM), zz_w g0 g1 s H1 locs1 C1 M1 → Rel C1 M1 → W p l e room_1 s m #[Value.ref b] below meth c H1 locs1 600000 7302250 Q (F0 m 1485 ls [])) : W p l e room_1 s m #[Value.ref b] below meth c H locs 600000 7302250 Q (F0 m 324 ls []) := by
  obtain ⟨hx, hb, -⟩ := id Z.1
  obtain ⟨r, C1, M1, h0, h1, hR1⟩ := q_fact hR (xs (x3 + 1).toNatClampNeg) (xs (x3 + 2).toNatClampNeg) (xs (x3 + 3).toNatClampNeg) (xs (x3 + 4).toNatClampNeg) (xs (x3 + 5).toNatClampNeg)
  refine lv_aload_n hx hb dL_law_324 rfl (lv_at hl 2 rfl) ?_
  refine zz_arg (j := 1) Z hw hl hin.1 dL_law_325 dL_law_326 dL_law_327 (by decide) dL_law_328 dL_law_329 ?_
  refine zz_arg (j := 2) Z hw hl hin.2.1 dL_law_330 dL_law_331 dL_law_332 (by decide) dL_law_333 dL_law_334 ?_
  refine zz_arg (j := 3) Z hw hl hin.2.2.1 dL_law_335 dL_law_336 dL_law_337 (by decide) dL_law_338 dL_law_339 ?_
  refine zz_arg (j := 4) Z hw hl hin.2.2.2.1 dL_law_340 dL_law_341 dL_law_342 (by decide) dL_law_343 dL_law_344 ?_
  refine zz_arg (j := 5) Z hw hl hin.2.2.2.2 dL_law_345 dL_law_346 dL_law_347 (by decide) dL_law_348 dL_law_349 ?_
  refine zz_c0 Z hw hl.1 [.int (xs (x3 + 1).toNatClampNeg), .int (xs (x3 + 2).toNatClampNeg), .int (xs (x3 + 3).toNatClampNeg), .int (xs (x3 + 4).toNatClampNeg), .int (xs (x3 + 5).toNatClampNeg)] [] (mX10_fact l g0 h0) lk_L_31 ⟨Nat.le_of_ble_eq_true rfl, Nat.le_of_ble_eq_true rfl⟩ rfl (Nat.le_of_ble_eq_true rfl) dL_law_350 (fun H locs hw => ?_)
  refine lv_aload_n hx hb dL_law_353 rfl (lv_at hl 1 rfl) ?_
  refine zz_arg (j := 1) Z hw hl hin.1 dL_law_354 dL_law_355 dL_law_356 (by decide) dL_law_357 dL_law_358 ?_
  refine zz_arg (j := 2) Z hw hl hin.2.1 dL_law_359 dL_law_360 dL_law_361 (by decide) dL_law_362 dL_law_363 ?_
  refine zz_arg (j := 3) Z hw hl hin.2.2.1 dL_law_364 dL_law_365 dL_law_366 (by decide) dL_law_367 dL_law_368 ?_
  refine zz_arg (j := 4) Z hw hl hin.2.2.2.1 dL_law_369 dL_law_370 dL_law_371 (by decide) dL_law_372 dL_law_373 ?_
  refine zz_arg (j := 5) Z hw hl hin.2.2.2.2 dL_law_374 dL_law_375 dL_law_376 (by decide) dL_law_377 dL_law_378 ?_
  refine zz_c1 Z hw hl.1 [.int (xs (x3 + 1).toNatClampNeg), .int (xs (x3 + 2).toNatClampNeg), .int (xs (x3 + 3).toNatClampNeg), .int (xs (x3 + 4).toNatClampNeg), .int (xs (x3 + 5).toNatClampNeg)] [.int r] (mX11_fact l g1 h1) lk_L_35 ⟨Nat.le_of_ble_eq_true rfl, Nat.le_of_ble_eq_true rfl⟩ rfl (Nat.le_of_ble_eq_true rfl) dL_law_379 (fun H locs hw => ?_)
  exact lv_icmp_eq (tgt := 1485) hx hb dL_law_382 (by decide) (fun _ => kk H locs C1 M1 hw hR1) (fun q => absurd rfl q)
set_option maxRecDepth 100000 in
set_option maxHeartbeats 4000000 in
theorem lw_c5 (Z : zz_Z p s m b L xs c g0 g1) (hw : zz_w g0 g1 s H locs C M) (hR : Rel C M) (hin : zz_in x3 L) (hl : lv_has ls 4 [(3, .int x3), (2, .ref (g1.2.2.1 0)), (1, .ref (g0.2.2.1 0)), (0, .ref b)]) (kk : ∀ (H1 : Heap) (locs1 : List Loc) (C1 M1 : xM), zz_w g0 g1 s H1 locs1 C1 M1 → Rel C1 M1 → W p l e room_1 s m #[Value.ref b] below meth c H1 locs1 600000 7302250 Q (F0 m 1485 ls [])) : W p l e room_1 s m #[Value.ref b] below meth c H locs 600000 7302250 Q (F0 m 387 ls []) := by
  obtain ⟨hx, hb, -⟩ := id Z.1
  obtain ⟨r, C1, M1, h0, h1, hR1⟩ := q_known hR (xs (x3 + 1).toNatClampNeg) (xs (x3 + 2).toNatClampNeg) (xs (x3 + 3).toNatClampNeg) (xs (x3 + 4).toNatClampNeg)
  refine lv_aload_n hx hb dL_law_387 rfl (lv_at hl 2 rfl) ?_
  refine zz_arg (j := 1) Z hw hl hin.1 dL_law_388 dL_law_389 dL_law_390 (by decide) dL_law_391 dL_law_392 ?_
  refine zz_arg (j := 2) Z hw hl hin.2.1 dL_law_393 dL_law_394 dL_law_395 (by decide) dL_law_396 dL_law_397 ?_
  refine zz_arg (j := 3) Z hw hl hin.2.2.1 dL_law_398 dL_law_399 dL_law_400 (by decide) dL_law_401 dL_law_402 ?_
  refine zz_arg (j := 4) Z hw hl hin.2.2.2.1 dL_law_403 dL_law_404 dL_law_405 (by decide) dL_law_406 dL_law_407 ?_
  refine zz_c0 Z hw hl.1 [.int (xs (x3 + 1).toNatClampNeg), .int (xs (x3 + 2).toNatClampNeg), .int (xs (x3 + 3).toNatClampNeg), .int (xs (x3 + 4).toNatClampNeg)] [] (mX10_known l g0 h0) lk_L_36 ⟨Nat.le_of_ble_eq_true rfl, Nat.le_of_ble_eq_true rfl⟩ rfl (Nat.le_of_ble_eq_true rfl) dL_law_408 (fun H locs hw => ?_)
  refine lv_aload_n hx hb dL_law_411 rfl (lv_at hl 1 rfl) ?_
  refine zz_arg (j := 1) Z hw hl hin.1 dL_law_412 dL_law_413 dL_law_414 (by decide) dL_law_415 dL_law_416 ?_
  refine zz_arg (j := 2) Z hw hl hin.2.1 dL_law_417 dL_law_418 dL_law_419 (by decide) dL_law_420 dL_law_421 ?_
  refine zz_arg (j := 3) Z hw hl hin.2.2.1 dL_law_422 dL_law_423 dL_law_424 (by decide) dL_law_425 dL_law_426 ?_
  refine zz_arg (j := 4) Z hw hl hin.2.2.2.1 dL_law_427 dL_law_428 dL_law_429 (by decide) dL_law_430 dL_law_431 ?_
  refine zz_c1 Z hw hl.1 [.int (xs (x3 + 1).toNatClampNeg), .int (xs (x3 + 2).toNatClampNeg), .int (xs (x3 + 3).toNatClampNeg), .int (xs (x3 + 4).toNatClampNeg)] [.int r] (mX11_known l g1 h1) lk_L_40 ⟨Nat.le_of_ble_eq_true rfl, Nat.le_of_ble_eq_true rfl⟩ rfl (Nat.le_of_ble_eq_true rfl) dL_law_432 (fun H locs hw => ?_)
  exact lv_icmp_eq (tgt := 1485) hx hb dL_law_435 (by decide) (fun _ => kk H locs C1 M1 hw hR1) (fun q => absurd rfl q)
set_option maxRecDepth 100000 in
set_option maxHeartbeats 4000000 in
theorem lw_c6 (Z : zz_Z p s m b L xs c g0 g1) (hw : zz_w g0 g1 s H locs C M) (hR : Rel C M) (hin : zz_in x3 L) (hl : lv_has ls 4 [(3, .int x3), (2, .ref (g1.2.2.1 0)), (1, .ref (g0.2.2.1 0)), (0, .ref b)]) (kk : ∀ (H1 : Heap) (locs1 : List Loc) (C1 M1 : xM), zz_w g0 g1 s H1 locs1 C1 M1 → Rel C1 M1 → W p l e room_1 s m #[Value.ref b] below meth c H1 locs1 600000 7302250 Q (F0 m 1485 ls [])) : W p l e room_1 s m #[Value.ref b] below meth c H locs 600000 7302250 Q (F0 m 440 ls []) := by
  obtain ⟨hx, hb, -⟩ := id Z.1
  obtain ⟨r, C1, M1, h0, h1, hR1⟩ := q_custody hR (xs (x3 + 1).toNatClampNeg) (xs (x3 + 2).toNatClampNeg)
  refine lv_aload_n hx hb dL_law_440 rfl (lv_at hl 2 rfl) ?_
  refine zz_arg (j := 1) Z hw hl hin.1 dL_law_441 dL_law_442 dL_law_443 (by decide) dL_law_444 dL_law_445 ?_
  refine zz_arg (j := 2) Z hw hl hin.2.1 dL_law_446 dL_law_447 dL_law_448 (by decide) dL_law_449 dL_law_450 ?_
  refine zz_c0 Z hw hl.1 [.int (xs (x3 + 1).toNatClampNeg), .int (xs (x3 + 2).toNatClampNeg)] [] (mX10_custody l g0 h0) lk_L_41 ⟨Nat.le_of_ble_eq_true rfl, Nat.le_of_ble_eq_true rfl⟩ rfl (Nat.le_of_ble_eq_true rfl) dL_law_451 (fun H locs hw => ?_)
  refine lv_aload_n hx hb dL_law_454 rfl (lv_at hl 1 rfl) ?_
  refine zz_arg (j := 1) Z hw hl hin.1 dL_law_455 dL_law_456 dL_law_457 (by decide) dL_law_458 dL_law_459 ?_
  refine zz_arg (j := 2) Z hw hl hin.2.1 dL_law_460 dL_law_461 dL_law_462 (by decide) dL_law_463 dL_law_464 ?_
  refine zz_c1 Z hw hl.1 [.int (xs (x3 + 1).toNatClampNeg), .int (xs (x3 + 2).toNatClampNeg)] [.int r] (mX11_custody l g1 h1) lk_L_44 ⟨Nat.le_of_ble_eq_true rfl, Nat.le_of_ble_eq_true rfl⟩ rfl (Nat.le_of_ble_eq_true rfl) dL_law_465 (fun H locs hw => ?_)
  exact lv_icmp_eq (tgt := 1485) hx hb dL_law_468 (by decide) (fun _ => kk H locs C1 M1 hw hR1) (fun q => absurd rfl q)
set_option maxRecDepth 100000 in
set_option maxHeartbeats 4000000 in
theorem lw_c7 (Z : zz_Z p s m b L xs c g0 g1) (hw : zz_w g0 g1 s H locs C M) (hR : Rel C M) (hin : zz_in x3 L) (hl : lv_has ls 4 [(3, .int x3), (2, .ref (g1.2.2.1 0)), (1, .ref (g0.2.2.1 0)), (0, .ref b)]) (kk : ∀ (H1 : Heap) (locs1 : List Loc) (C1 M1 : xM), zz_w g0 g1 s H1 locs1 C1 M1 → Rel C1 M1 → W p l e room_1 s m #[Value.ref b] below meth c H1 locs1 600000 7302250 Q (F0 m 1485 ls [])) : W p l e room_1 s m #[Value.ref b] below meth c H locs 600000 7302250 Q (F0 m 473 ls []) := by
  obtain ⟨hx, hb, -⟩ := id Z.1
  obtain ⟨r, C1, M1, h0, h1, hR1⟩ := q_days hR (xs (x3 + 1).toNatClampNeg)
  refine lv_aload_n hx hb dL_law_473 rfl (lv_at hl 2 rfl) ?_
  refine zz_arg (j := 1) Z hw hl hin.1 dL_law_474 dL_law_475 dL_law_476 (by decide) dL_law_477 dL_law_478 ?_
  refine zz_c0 Z hw hl.1 [.int (xs (x3 + 1).toNatClampNeg)] [] (mX10_days l g0 h0) lk_L_45 ⟨Nat.le_of_ble_eq_true rfl, Nat.le_of_ble_eq_true rfl⟩ rfl (Nat.le_of_ble_eq_true rfl) dL_law_479 (fun H locs hw => ?_)
  refine lv_aload_n hx hb dL_law_482 rfl (lv_at hl 1 rfl) ?_
  refine zz_arg (j := 1) Z hw hl hin.1 dL_law_483 dL_law_484 dL_law_485 (by decide) dL_law_486 dL_law_487 ?_
  refine zz_c1 Z hw hl.1 [.int (xs (x3 + 1).toNatClampNeg)] [.int r] (mX11_days l g1 h1) lk_L_48 ⟨Nat.le_of_ble_eq_true rfl, Nat.le_of_ble_eq_true rfl⟩ rfl (Nat.le_of_ble_eq_true rfl) dL_law_488 (fun H locs hw => ?_)
  exact lv_icmp_eq (tgt := 1485) hx hb dL_law_491 (by decide) (fun _ => kk H locs C1 M1 hw hR1) (fun q => absurd rfl q)
set_option maxRecDepth 100000 in
set_option maxHeartbeats 4000000 in
theorem lw_c8 (Z : zz_Z p s m b L xs c g0 g1) (hw : zz_w g0 g1 s H locs C M) (hR : Rel C M) (hin : zz_in x3 L) (hl : lv_has ls 4 [(3, .int x3), (2, .ref (g1.2.2.1 0)), (1, .ref (g0.2.2.1 0)), (0, .ref b)]) (kk : ∀ (H1 : Heap) (locs1 : List Loc) (C1 M1 : xM), zz_w g0 g1 s H1 locs1 C1 M1 → Rel C1 M1 → W p l e room_1 s m #[Value.ref b] below meth c H1 locs1 600000 7302250 Q (F0 m 1485 ls [])) : W p l e room_1 s m #[Value.ref b] below meth c H locs 600000 7302250 Q (F0 m 496 ls []) := by
  obtain ⟨hx, hb, -⟩ := id Z.1
  obtain ⟨r, C1, M1, h0, h1, hR1⟩ := q_rule hR (xs (x3 + 1).toNatClampNeg) (xs (x3 + 2).toNatClampNeg)
  refine lv_aload_n hx hb dL_law_496 rfl (lv_at hl 2 rfl) ?_
  refine zz_arg (j := 1) Z hw hl hin.1 dL_law_497 dL_law_498 dL_law_499 (by decide) dL_law_500 dL_law_501 ?_
  refine zz_arg (j := 2) Z hw hl hin.2.1 dL_law_502 dL_law_503 dL_law_504 (by decide) dL_law_505 dL_law_506 ?_
  refine zz_c0 Z hw hl.1 [.int (xs (x3 + 1).toNatClampNeg), .int (xs (x3 + 2).toNatClampNeg)] [] (mX10_rule l g0 h0) lk_L_49 ⟨Nat.le_of_ble_eq_true rfl, Nat.le_of_ble_eq_true rfl⟩ rfl (Nat.le_of_ble_eq_true rfl) dL_law_507 (fun H locs hw => ?_)
  refine lv_aload_n hx hb dL_law_510 rfl (lv_at hl 1 rfl) ?_
  refine zz_arg (j := 1) Z hw hl hin.1 dL_law_511 dL_law_512 dL_law_513 (by decide) dL_law_514 dL_law_515 ?_
  refine zz_arg (j := 2) Z hw hl hin.2.1 dL_law_516 dL_law_517 dL_law_518 (by decide) dL_law_519 dL_law_520 ?_
  refine zz_c1 Z hw hl.1 [.int (xs (x3 + 1).toNatClampNeg), .int (xs (x3 + 2).toNatClampNeg)] [.int r] (mX11_rule l g1 h1) lk_L_52 ⟨Nat.le_of_ble_eq_true rfl, Nat.le_of_ble_eq_true rfl⟩ rfl (Nat.le_of_ble_eq_true rfl) dL_law_521 (fun H locs hw => ?_)
  exact lv_icmp_eq (tgt := 1485) hx hb dL_law_524 (by decide) (fun _ => kk H locs C1 M1 hw hR1) (fun q => absurd rfl q)
set_option maxRecDepth 100000 in
set_option maxHeartbeats 4000000 in
theorem lw_c9 (Z : zz_Z p s m b L xs c g0 g1) (hw : zz_w g0 g1 s H locs C M) (hR : Rel C M) (hin : zz_in x3 L) (hl : lv_has ls 4 [(3, .int x3), (2, .ref (g1.2.2.1 0)), (1, .ref (g0.2.2.1 0)), (0, .ref b)]) (kk : ∀ (H1 : Heap) (locs1 : List Loc) (C1 M1 : xM), zz_w g0 g1 s H1 locs1 C1 M1 → Rel C1 M1 → W p l e room_1 s m #[Value.ref b] below meth c H1 locs1 600000 7302250 Q (F0 m 1485 ls [])) : W p l e room_1 s m #[Value.ref b] below meth c H locs 600000 7302250 Q (F0 m 529 ls []) := by
  obtain ⟨hx, hb, -⟩ := id Z.1
  obtain ⟨r, C1, M1, h0, h1, hR1⟩ := q_deed hR (xs (x3 + 1).toNatClampNeg) (xs (x3 + 2).toNatClampNeg) (xs (x3 + 3).toNatClampNeg) (xs (x3 + 4).toNatClampNeg)
  refine lv_aload_n hx hb dL_law_529 rfl (lv_at hl 2 rfl) ?_
  refine zz_arg (j := 1) Z hw hl hin.1 dL_law_530 dL_law_531 dL_law_532 (by decide) dL_law_533 dL_law_534 ?_
  refine zz_arg (j := 2) Z hw hl hin.2.1 dL_law_535 dL_law_536 dL_law_537 (by decide) dL_law_538 dL_law_539 ?_
  refine zz_arg (j := 3) Z hw hl hin.2.2.1 dL_law_540 dL_law_541 dL_law_542 (by decide) dL_law_543 dL_law_544 ?_
  refine zz_arg (j := 4) Z hw hl hin.2.2.2.1 dL_law_545 dL_law_546 dL_law_547 (by decide) dL_law_548 dL_law_549 ?_
  refine zz_c0 Z hw hl.1 [.int (xs (x3 + 1).toNatClampNeg), .int (xs (x3 + 2).toNatClampNeg), .int (xs (x3 + 3).toNatClampNeg), .int (xs (x3 + 4).toNatClampNeg)] [] (mX10_deed l g0 h0) lk_L_53 ⟨Nat.le_of_ble_eq_true rfl, Nat.le_of_ble_eq_true rfl⟩ rfl (Nat.le_of_ble_eq_true rfl) dL_law_550 (fun H locs hw => ?_)
  refine lv_aload_n hx hb dL_law_553 rfl (lv_at hl 1 rfl) ?_
  refine zz_arg (j := 1) Z hw hl hin.1 dL_law_554 dL_law_555 dL_law_556 (by decide) dL_law_557 dL_law_558 ?_
  refine zz_arg (j := 2) Z hw hl hin.2.1 dL_law_559 dL_law_560 dL_law_561 (by decide) dL_law_562 dL_law_563 ?_
  refine zz_arg (j := 3) Z hw hl hin.2.2.1 dL_law_564 dL_law_565 dL_law_566 (by decide) dL_law_567 dL_law_568 ?_
  refine zz_arg (j := 4) Z hw hl hin.2.2.2.1 dL_law_569 dL_law_570 dL_law_571 (by decide) dL_law_572 dL_law_573 ?_
  refine zz_c1 Z hw hl.1 [.int (xs (x3 + 1).toNatClampNeg), .int (xs (x3 + 2).toNatClampNeg), .int (xs (x3 + 3).toNatClampNeg), .int (xs (x3 + 4).toNatClampNeg)] [.int r] (mX11_deed l g1 h1) lk_L_56 ⟨Nat.le_of_ble_eq_true rfl, Nat.le_of_ble_eq_true rfl⟩ rfl (Nat.le_of_ble_eq_true rfl) dL_law_574 (fun H locs hw => ?_)
  exact lv_icmp_eq (tgt := 1485) hx hb dL_law_577 (by decide) (fun _ => kk H locs C1 M1 hw hR1) (fun q => absurd rfl q)
set_option maxRecDepth 100000 in
set_option maxHeartbeats 4000000 in
theorem lw_c10 (Z : zz_Z p s m b L xs c g0 g1) (hw : zz_w g0 g1 s H locs C M) (hR : Rel C M) (hin : zz_in x3 L) (hl : lv_has ls 4 [(3, .int x3), (2, .ref (g1.2.2.1 0)), (1, .ref (g0.2.2.1 0)), (0, .ref b)]) (kk : ∀ (H1 : Heap) (locs1 : List Loc) (C1 M1 : xM), zz_w g0 g1 s H1 locs1 C1 M1 → Rel C1 M1 → W p l e room_1 s m #[Value.ref b] below meth c H1 locs1 600000 7302250 Q (F0 m 1485 ls [])) : W p l e room_1 s m #[Value.ref b] below meth c H locs 600000 7302250 Q (F0 m 582 ls []) := by
  obtain ⟨hx, hb, -⟩ := id Z.1
  obtain ⟨r, C1, M1, h0, h1, hR1⟩ := q_isOf hR (xs (x3 + 1).toNatClampNeg) (xs (x3 + 2).toNatClampNeg)
  refine lv_aload_n hx hb dL_law_582 rfl (lv_at hl 2 rfl) ?_
  refine zz_arg (j := 1) Z hw hl hin.1 dL_law_583 dL_law_584 dL_law_585 (by decide) dL_law_586 dL_law_587 ?_
  refine zz_arg (j := 2) Z hw hl hin.2.1 dL_law_588 dL_law_589 dL_law_590 (by decide) dL_law_591 dL_law_592 ?_
  refine zz_c0 Z hw hl.1 [.int (xs (x3 + 1).toNatClampNeg), .int (xs (x3 + 2).toNatClampNeg)] [] (mX10_isOf l g0 h0) lk_L_57 ⟨Nat.le_of_ble_eq_true rfl, Nat.le_of_ble_eq_true rfl⟩ rfl (Nat.le_of_ble_eq_true rfl) dL_law_593 (fun H locs hw => ?_)
  refine lv_aload_n hx hb dL_law_596 rfl (lv_at hl 1 rfl) ?_
  refine zz_arg (j := 1) Z hw hl hin.1 dL_law_597 dL_law_598 dL_law_599 (by decide) dL_law_600 dL_law_601 ?_
  refine zz_arg (j := 2) Z hw hl hin.2.1 dL_law_602 dL_law_603 dL_law_604 (by decide) dL_law_605 dL_law_606 ?_
  refine zz_c1 Z hw hl.1 [.int (xs (x3 + 1).toNatClampNeg), .int (xs (x3 + 2).toNatClampNeg)] [.int r] (mX11_isOf l g1 h1) lk_L_60 ⟨Nat.le_of_ble_eq_true rfl, Nat.le_of_ble_eq_true rfl⟩ rfl (Nat.le_of_ble_eq_true rfl) dL_law_607 (fun H locs hw => ?_)
  exact lv_icmp_eq (tgt := 1485) hx hb dL_law_610 (by decide) (fun _ => kk H locs C1 M1 hw hR1) (fun q => absurd rfl q)
set_option maxRecDepth 100000 in
set_option maxHeartbeats 4000000 in
theorem lw_c11 (Z : zz_Z p s m b L xs c g0 g1) (hw : zz_w g0 g1 s H locs C M) (hR : Rel C M) (hin : zz_in x3 L) (hl : lv_has ls 4 [(3, .int x3), (2, .ref (g1.2.2.1 0)), (1, .ref (g0.2.2.1 0)), (0, .ref b)]) (kk : ∀ (H1 : Heap) (locs1 : List Loc) (C1 M1 : xM), zz_w g0 g1 s H1 locs1 C1 M1 → Rel C1 M1 → W p l e room_1 s m #[Value.ref b] below meth c H1 locs1 600000 7302250 Q (F0 m 1485 ls [])) : W p l e room_1 s m #[Value.ref b] below meth c H locs 600000 7302250 Q (F0 m 615 ls []) := by
  obtain ⟨hx, hb, -⟩ := id Z.1
  obtain ⟨r, C1, M1, h0, h1, hR1⟩ := q_told hR (xs (x3 + 1).toNatClampNeg) (xs (x3 + 2).toNatClampNeg)
  refine lv_aload_n hx hb dL_law_615 rfl (lv_at hl 2 rfl) ?_
  refine zz_arg (j := 1) Z hw hl hin.1 dL_law_616 dL_law_617 dL_law_618 (by decide) dL_law_619 dL_law_620 ?_
  refine zz_arg (j := 2) Z hw hl hin.2.1 dL_law_621 dL_law_622 dL_law_623 (by decide) dL_law_624 dL_law_625 ?_
  refine zz_c0 Z hw hl.1 [.int (xs (x3 + 1).toNatClampNeg), .int (xs (x3 + 2).toNatClampNeg)] [] (mX10_told l g0 h0) lk_L_61 ⟨Nat.le_of_ble_eq_true rfl, Nat.le_of_ble_eq_true rfl⟩ rfl (Nat.le_of_ble_eq_true rfl) dL_law_626 (fun H locs hw => ?_)
  refine lv_aload_n hx hb dL_law_629 rfl (lv_at hl 1 rfl) ?_
  refine zz_arg (j := 1) Z hw hl hin.1 dL_law_630 dL_law_631 dL_law_632 (by decide) dL_law_633 dL_law_634 ?_
  refine zz_arg (j := 2) Z hw hl hin.2.1 dL_law_635 dL_law_636 dL_law_637 (by decide) dL_law_638 dL_law_639 ?_
  refine zz_c1 Z hw hl.1 [.int (xs (x3 + 1).toNatClampNeg), .int (xs (x3 + 2).toNatClampNeg)] [.int r] (mX11_told l g1 h1) lk_L_64 ⟨Nat.le_of_ble_eq_true rfl, Nat.le_of_ble_eq_true rfl⟩ rfl (Nat.le_of_ble_eq_true rfl) dL_law_640 (fun H locs hw => ?_)
  exact lv_icmp_eq (tgt := 1485) hx hb dL_law_643 (by decide) (fun _ => kk H locs C1 M1 hw hR1) (fun q => absurd rfl q)
set_option maxRecDepth 100000 in
set_option maxHeartbeats 4000000 in
theorem lw_c12 (Z : zz_Z p s m b L xs c g0 g1) (hw : zz_w g0 g1 s H locs C M) (hR : Rel C M) (hin : zz_in x3 L) (hl : lv_has ls 4 [(3, .int x3), (2, .ref (g1.2.2.1 0)), (1, .ref (g0.2.2.1 0)), (0, .ref b)]) (kk : ∀ (H1 : Heap) (locs1 : List Loc) (C1 M1 : xM), zz_w g0 g1 s H1 locs1 C1 M1 → Rel C1 M1 → W p l e room_1 s m #[Value.ref b] below meth c H1 locs1 600000 7302250 Q (F0 m 1485 ls [])) : W p l e room_1 s m #[Value.ref b] below meth c H locs 600000 7302250 Q (F0 m 648 ls []) := by
  obtain ⟨hx, hb, -⟩ := id Z.1
  obtain ⟨r, C1, M1, h0, h1, hR1⟩ := q_flat hR (xs (x3 + 1).toNatClampNeg) (xs (x3 + 2).toNatClampNeg)
  refine lv_aload_n hx hb dL_law_648 rfl (lv_at hl 2 rfl) ?_
  refine zz_arg (j := 1) Z hw hl hin.1 dL_law_649 dL_law_650 dL_law_651 (by decide) dL_law_652 dL_law_653 ?_
  refine zz_arg (j := 2) Z hw hl hin.2.1 dL_law_654 dL_law_655 dL_law_656 (by decide) dL_law_657 dL_law_658 ?_
  refine zz_c0 Z hw hl.1 [.int (xs (x3 + 1).toNatClampNeg), .int (xs (x3 + 2).toNatClampNeg)] [] (mX10_flat l g0 h0) lk_L_65 ⟨Nat.le_of_ble_eq_true rfl, Nat.le_of_ble_eq_true rfl⟩ rfl (Nat.le_of_ble_eq_true rfl) dL_law_659 (fun H locs hw => ?_)
  refine lv_aload_n hx hb dL_law_662 rfl (lv_at hl 1 rfl) ?_
  refine zz_arg (j := 1) Z hw hl hin.1 dL_law_663 dL_law_664 dL_law_665 (by decide) dL_law_666 dL_law_667 ?_
  refine zz_arg (j := 2) Z hw hl hin.2.1 dL_law_668 dL_law_669 dL_law_670 (by decide) dL_law_671 dL_law_672 ?_
  refine zz_c1 Z hw hl.1 [.int (xs (x3 + 1).toNatClampNeg), .int (xs (x3 + 2).toNatClampNeg)] [.int r] (mX11_flat l g1 h1) lk_L_68 ⟨Nat.le_of_ble_eq_true rfl, Nat.le_of_ble_eq_true rfl⟩ rfl (Nat.le_of_ble_eq_true rfl) dL_law_673 (fun H locs hw => ?_)
  exact lv_icmp_eq (tgt := 1485) hx hb dL_law_676 (by decide) (fun _ => kk H locs C1 M1 hw hR1) (fun q => absurd rfl q)
set_option maxRecDepth 100000 in
set_option maxHeartbeats 4000000 in
theorem lw_c13 (Z : zz_Z p s m b L xs c g0 g1) (hw : zz_w g0 g1 s H locs C M) (hR : Rel C M) (hin : zz_in x3 L) (hl : lv_has ls 4 [(3, .int x3), (2, .ref (g1.2.2.1 0)), (1, .ref (g0.2.2.1 0)), (0, .ref b)]) (kk : ∀ (H1 : Heap) (locs1 : List Loc) (C1 M1 : xM), zz_w g0 g1 s H1 locs1 C1 M1 → Rel C1 M1 → W p l e room_1 s m #[Value.ref b] below meth c H1 locs1 600000 7302250 Q (F0 m 1485 ls [])) : W p l e room_1 s m #[Value.ref b] below meth c H locs 600000 7302250 Q (F0 m 681 ls []) := by
  obtain ⟨hx, hb, -⟩ := id Z.1
  obtain ⟨r, C1, M1, h0, h1, hR1⟩ := q_feed hR (xs (x3 + 1).toNatClampNeg) (xs (x3 + 2).toNatClampNeg) (xs (x3 + 3).toNatClampNeg)
  refine lv_aload_n hx hb dL_law_681 rfl (lv_at hl 2 rfl) ?_
  refine zz_arg (j := 1) Z hw hl hin.1 dL_law_682 dL_law_683 dL_law_684 (by decide) dL_law_685 dL_law_686 ?_
  refine zz_arg (j := 2) Z hw hl hin.2.1 dL_law_687 dL_law_688 dL_law_689 (by decide) dL_law_690 dL_law_691 ?_
  refine zz_arg (j := 3) Z hw hl hin.2.2.1 dL_law_692 dL_law_693 dL_law_694 (by decide) dL_law_695 dL_law_696 ?_
  refine zz_c0 Z hw hl.1 [.int (xs (x3 + 1).toNatClampNeg), .int (xs (x3 + 2).toNatClampNeg), .int (xs (x3 + 3).toNatClampNeg)] [] (mX10_feed l g0 h0) lk_L_69 ⟨Nat.le_of_ble_eq_true rfl, Nat.le_of_ble_eq_true rfl⟩ rfl (Nat.le_of_ble_eq_true rfl) dL_law_697 (fun H locs hw => ?_)
  refine lv_aload_n hx hb dL_law_700 rfl (lv_at hl 1 rfl) ?_
  refine zz_arg (j := 1) Z hw hl hin.1 dL_law_701 dL_law_702 dL_law_703 (by decide) dL_law_704 dL_law_705 ?_
  refine zz_arg (j := 2) Z hw hl hin.2.1 dL_law_706 dL_law_707 dL_law_708 (by decide) dL_law_709 dL_law_710 ?_
  refine zz_arg (j := 3) Z hw hl hin.2.2.1 dL_law_711 dL_law_712 dL_law_713 (by decide) dL_law_714 dL_law_715 ?_
  refine zz_c1 Z hw hl.1 [.int (xs (x3 + 1).toNatClampNeg), .int (xs (x3 + 2).toNatClampNeg), .int (xs (x3 + 3).toNatClampNeg)] [.int r] (mX11_feed l g1 h1) lk_L_73 ⟨Nat.le_of_ble_eq_true rfl, Nat.le_of_ble_eq_true rfl⟩ rfl (Nat.le_of_ble_eq_true rfl) dL_law_716 (fun H locs hw => ?_)
  exact lv_icmp_eq (tgt := 1485) hx hb dL_law_719 (by decide) (fun _ => kk H locs C1 M1 hw hR1) (fun q => absurd rfl q)
set_option maxRecDepth 100000 in
set_option maxHeartbeats 4000000 in
theorem lw_c14 (Z : zz_Z p s m b L xs c g0 g1) (hw : zz_w g0 g1 s H locs C M) (hR : Rel C M) (hin : zz_in x3 L) (hl : lv_has ls 4 [(3, .int x3), (2, .ref (g1.2.2.1 0)), (1, .ref (g0.2.2.1 0)), (0, .ref b)]) (kk : ∀ (H1 : Heap) (locs1 : List Loc) (C1 M1 : xM), zz_w g0 g1 s H1 locs1 C1 M1 → Rel C1 M1 → W p l e room_1 s m #[Value.ref b] below meth c H1 locs1 600000 7302250 Q (F0 m 1485 ls [])) : W p l e room_1 s m #[Value.ref b] below meth c H locs 600000 7302250 Q (F0 m 724 ls []) := by
  obtain ⟨hx, hb, -⟩ := id Z.1
  obtain ⟨r, C1, M1, h0, h1, hR1⟩ := q_trim hR (xs (x3 + 1).toNatClampNeg)
  refine lv_aload_n hx hb dL_law_724 rfl (lv_at hl 2 rfl) ?_
  refine zz_arg (j := 1) Z hw hl hin.1 dL_law_725 dL_law_726 dL_law_727 (by decide) dL_law_728 dL_law_729 ?_
  refine zz_c0 Z hw hl.1 [.int (xs (x3 + 1).toNatClampNeg)] [] (mX10_trim l g0 h0) lk_L_74 ⟨Nat.le_of_ble_eq_true rfl, Nat.le_of_ble_eq_true rfl⟩ rfl (Nat.le_of_ble_eq_true rfl) dL_law_730 (fun H locs hw => ?_)
  refine lv_aload_n hx hb dL_law_733 rfl (lv_at hl 1 rfl) ?_
  refine zz_arg (j := 1) Z hw hl hin.1 dL_law_734 dL_law_735 dL_law_736 (by decide) dL_law_737 dL_law_738 ?_
  refine zz_c1 Z hw hl.1 [.int (xs (x3 + 1).toNatClampNeg)] [.int r] (mX11_trim l g1 h1) lk_L_77 ⟨Nat.le_of_ble_eq_true rfl, Nat.le_of_ble_eq_true rfl⟩ rfl (Nat.le_of_ble_eq_true rfl) dL_law_739 (fun H locs hw => ?_)
  exact lv_icmp_eq (tgt := 1485) hx hb dL_law_742 (by decide) (fun _ => kk H locs C1 M1 hw hR1) (fun q => absurd rfl q)
set_option maxRecDepth 100000 in
set_option maxHeartbeats 4000000 in
theorem lw_c15 (Z : zz_Z p s m b L xs c g0 g1) (hw : zz_w g0 g1 s H locs C M) (hR : Rel C M) (hin : zz_in x3 L) (hl : lv_has ls 4 [(3, .int x3), (2, .ref (g1.2.2.1 0)), (1, .ref (g0.2.2.1 0)), (0, .ref b)]) (kk : ∀ (H1 : Heap) (locs1 : List Loc) (C1 M1 : xM), zz_w g0 g1 s H1 locs1 C1 M1 → Rel C1 M1 → W p l e room_1 s m #[Value.ref b] below meth c H1 locs1 600000 7302250 Q (F0 m 1485 ls [])) : W p l e room_1 s m #[Value.ref b] below meth c H locs 600000 7302250 Q (F0 m 747 ls []) := by
  obtain ⟨hx, hb, -⟩ := id Z.1
  obtain ⟨r, C1, M1, h0, h1, hR1⟩ := q_law hR 
  refine lv_aload_n hx hb dL_law_747 rfl (lv_at hl 2 rfl) ?_
  refine zz_c0 Z hw hl.1 [] [] (mX10_law l g0 h0) lk_L_78 ⟨Nat.le_of_ble_eq_true rfl, Nat.le_of_ble_eq_true rfl⟩ rfl (Nat.le_of_ble_eq_true rfl) dL_law_748 (fun H locs hw => ?_)
  refine lv_aload_n hx hb dL_law_751 rfl (lv_at hl 1 rfl) ?_
  refine zz_c1 Z hw hl.1 [] [.int r] (mX11_law l g1 h1) lk_L_82 ⟨Nat.le_of_ble_eq_true rfl, Nat.le_of_ble_eq_true rfl⟩ rfl (Nat.le_of_ble_eq_true rfl) dL_law_752 (fun H locs hw => ?_)
  exact lv_icmp_eq (tgt := 1485) hx hb dL_law_755 (by decide) (fun _ => kk H locs C1 M1 hw hR1) (fun q => absurd rfl q)
set_option maxRecDepth 100000 in
set_option maxHeartbeats 4000000 in
theorem lw_c16 (Z : zz_Z p s m b L xs c g0 g1) (hw : zz_w g0 g1 s H locs C M) (hR : Rel C M) (hin : zz_in x3 L) (hl : lv_has ls 4 [(3, .int x3), (2, .ref (g1.2.2.1 0)), (1, .ref (g0.2.2.1 0)), (0, .ref b)]) (kk : ∀ (H1 : Heap) (locs1 : List Loc) (C1 M1 : xM), zz_w g0 g1 s H1 locs1 C1 M1 → Rel C1 M1 → W p l e room_1 s m #[Value.ref b] below meth c H1 locs1 600000 7302250 Q (F0 m 1485 ls [])) : W p l e room_1 s m #[Value.ref b] below meth c H locs 600000 7302250 Q (F0 m 760 ls []) := by
  obtain ⟨hx, hb, -⟩ := id Z.1
  obtain ⟨r, C1, M1, h0, h1, hR1⟩ := q_worth hR (xs (x3 + 1).toNatClampNeg)
  refine lv_aload_n hx hb dL_law_760 rfl (lv_at hl 2 rfl) ?_
  refine zz_arg (j := 1) Z hw hl hin.1 dL_law_761 dL_law_762 dL_law_763 (by decide) dL_law_764 dL_law_765 ?_
  refine zz_c0 Z hw hl.1 [.int (xs (x3 + 1).toNatClampNeg)] [] (mX10_worth l g0 h0) lk_L_83 ⟨Nat.le_of_ble_eq_true rfl, Nat.le_of_ble_eq_true rfl⟩ rfl (Nat.le_of_ble_eq_true rfl) dL_law_766 (fun H locs hw => ?_)
  refine lv_aload_n hx hb dL_law_769 rfl (lv_at hl 1 rfl) ?_
  refine zz_arg (j := 1) Z hw hl hin.1 dL_law_770 dL_law_771 dL_law_772 (by decide) dL_law_773 dL_law_774 ?_
  refine zz_c1 Z hw hl.1 [.int (xs (x3 + 1).toNatClampNeg)] [.int r] (mX11_worth l g1 h1) lk_L_86 ⟨Nat.le_of_ble_eq_true rfl, Nat.le_of_ble_eq_true rfl⟩ rfl (Nat.le_of_ble_eq_true rfl) dL_law_775 (fun H locs hw => ?_)
  exact lv_icmp_eq (tgt := 1485) hx hb dL_law_778 (by decide) (fun _ => kk H locs C1 M1 hw hR1) (fun q => absurd rfl q)
set_option maxRecDepth 100000 in
set_option maxHeartbeats 4000000 in
theorem lw_c17 (Z : zz_Z p s m b L xs c g0 g1) (hw : zz_w g0 g1 s H locs C M) (hR : Rel C M) (hin : zz_in x3 L) (hl : lv_has ls 4 [(3, .int x3), (2, .ref (g1.2.2.1 0)), (1, .ref (g0.2.2.1 0)), (0, .ref b)]) (kk : ∀ (H1 : Heap) (locs1 : List Loc) (C1 M1 : xM), zz_w g0 g1 s H1 locs1 C1 M1 → Rel C1 M1 → W p l e room_1 s m #[Value.ref b] below meth c H1 locs1 600000 7302250 Q (F0 m 1485 ls [])) : W p l e room_1 s m #[Value.ref b] below meth c H locs 600000 7302250 Q (F0 m 783 ls []) := by
  obtain ⟨hx, hb, -⟩ := id Z.1
  obtain ⟨r, C1, M1, h0, h1, hR1⟩ := q_sum hR (xs (x3 + 1).toNatClampNeg) (xs (x3 + 2).toNatClampNeg) (xs (x3 + 3).toNatClampNeg)
  refine lv_aload_n hx hb dL_law_783 rfl (lv_at hl 2 rfl) ?_
  refine zz_arg (j := 1) Z hw hl hin.1 dL_law_784 dL_law_785 dL_law_786 (by decide) dL_law_787 dL_law_788 ?_
  refine zz_arg (j := 2) Z hw hl hin.2.1 dL_law_789 dL_law_790 dL_law_791 (by decide) dL_law_792 dL_law_793 ?_
  refine zz_arg (j := 3) Z hw hl hin.2.2.1 dL_law_794 dL_law_795 dL_law_796 (by decide) dL_law_797 dL_law_798 ?_
  refine zz_c0 Z hw hl.1 [.int (xs (x3 + 1).toNatClampNeg), .int (xs (x3 + 2).toNatClampNeg), .int (xs (x3 + 3).toNatClampNeg)] [] (mX10_sum l g0 h0) lk_L_87 ⟨Nat.le_of_ble_eq_true rfl, Nat.le_of_ble_eq_true rfl⟩ rfl (Nat.le_of_ble_eq_true rfl) dL_law_799 (fun H locs hw => ?_)
  refine lv_aload_n hx hb dL_law_802 rfl (lv_at hl 1 rfl) ?_
  refine zz_arg (j := 1) Z hw hl hin.1 dL_law_803 dL_law_804 dL_law_805 (by decide) dL_law_806 dL_law_807 ?_
  refine zz_arg (j := 2) Z hw hl hin.2.1 dL_law_808 dL_law_809 dL_law_810 (by decide) dL_law_811 dL_law_812 ?_
  refine zz_arg (j := 3) Z hw hl hin.2.2.1 dL_law_813 dL_law_814 dL_law_815 (by decide) dL_law_816 dL_law_817 ?_
  refine zz_c1 Z hw hl.1 [.int (xs (x3 + 1).toNatClampNeg), .int (xs (x3 + 2).toNatClampNeg), .int (xs (x3 + 3).toNatClampNeg)] [.int r] (mX11_sum l g1 h1) lk_L_90 ⟨Nat.le_of_ble_eq_true rfl, Nat.le_of_ble_eq_true rfl⟩ rfl (Nat.le_of_ble_eq_true rfl) dL_law_818 (fun H locs hw => ?_)
  exact lv_icmp_eq (tgt := 1485) hx hb dL_law_821 (by decide) (fun _ => kk H locs C1 M1 hw hR1) (fun q => absurd rfl q)
set_option maxRecDepth 100000 in
set_option maxHeartbeats 4000000 in
theorem lw_c18 (Z : zz_Z p s m b L xs c g0 g1) (hw : zz_w g0 g1 s H locs C M) (hR : Rel C M) (hin : zz_in x3 L) (hl : lv_has ls 4 [(3, .int x3), (2, .ref (g1.2.2.1 0)), (1, .ref (g0.2.2.1 0)), (0, .ref b)]) (kk : ∀ (H1 : Heap) (locs1 : List Loc) (C1 M1 : xM), zz_w g0 g1 s H1 locs1 C1 M1 → Rel C1 M1 → W p l e room_1 s m #[Value.ref b] below meth c H1 locs1 600000 7302250 Q (F0 m 1485 ls [])) : W p l e room_1 s m #[Value.ref b] below meth c H locs 600000 7302250 Q (F0 m 826 ls []) := by
  obtain ⟨hx, hb, -⟩ := id Z.1
  obtain ⟨r, C1, M1, h0, h1, hR1⟩ := q_judge hR (xs (x3 + 1).toNatClampNeg)
  refine lv_aload_n hx hb dL_law_826 rfl (lv_at hl 2 rfl) ?_
  refine zz_arg (j := 1) Z hw hl hin.1 dL_law_827 dL_law_828 dL_law_829 (by decide) dL_law_830 dL_law_831 ?_
  refine zz_c0 Z hw hl.1 [.int (xs (x3 + 1).toNatClampNeg)] [] (mX10_judge l g0 h0) lk_L_91 ⟨Nat.le_of_ble_eq_true rfl, Nat.le_of_ble_eq_true rfl⟩ rfl (Nat.le_of_ble_eq_true rfl) dL_law_832 (fun H locs hw => ?_)
  refine lv_aload_n hx hb dL_law_835 rfl (lv_at hl 1 rfl) ?_
  refine zz_arg (j := 1) Z hw hl hin.1 dL_law_836 dL_law_837 dL_law_838 (by decide) dL_law_839 dL_law_840 ?_
  refine zz_c1 Z hw hl.1 [.int (xs (x3 + 1).toNatClampNeg)] [.int r] (mX11_judge l g1 h1) lk_L_94 ⟨Nat.le_of_ble_eq_true rfl, Nat.le_of_ble_eq_true rfl⟩ rfl (Nat.le_of_ble_eq_true rfl) dL_law_841 (fun H locs hw => ?_)
  exact lv_icmp_eq (tgt := 1485) hx hb dL_law_844 (by decide) (fun _ => kk H locs C1 M1 hw hR1) (fun q => absurd rfl q)
set_option maxRecDepth 100000 in
set_option maxHeartbeats 4000000 in
theorem lw_c19 (Z : zz_Z p s m b L xs c g0 g1) (hw : zz_w g0 g1 s H locs C M) (hR : Rel C M) (hin : zz_in x3 L) (hl : lv_has ls 4 [(3, .int x3), (2, .ref (g1.2.2.1 0)), (1, .ref (g0.2.2.1 0)), (0, .ref b)]) (kk : ∀ (H1 : Heap) (locs1 : List Loc) (C1 M1 : xM), zz_w g0 g1 s H1 locs1 C1 M1 → Rel C1 M1 → W p l e room_1 s m #[Value.ref b] below meth c H1 locs1 600000 7302250 Q (F0 m 1485 ls [])) : W p l e room_1 s m #[Value.ref b] below meth c H locs 600000 7302250 Q (F0 m 849 ls []) := by
  obtain ⟨hx, hb, -⟩ := id Z.1
  obtain ⟨r, C1, M1, h0, h1, hR1⟩ := q_about hR (xs (x3 + 1).toNatClampNeg) (xs (x3 + 2).toNatClampNeg)
  refine lv_aload_n hx hb dL_law_849 rfl (lv_at hl 2 rfl) ?_
  refine zz_arg (j := 1) Z hw hl hin.1 dL_law_850 dL_law_851 dL_law_852 (by decide) dL_law_853 dL_law_854 ?_
  refine zz_arg (j := 2) Z hw hl hin.2.1 dL_law_855 dL_law_856 dL_law_857 (by decide) dL_law_858 dL_law_859 ?_
  refine zz_c0 Z hw hl.1 [.int (xs (x3 + 1).toNatClampNeg), .int (xs (x3 + 2).toNatClampNeg)] [] (mX10_about l g0 h0) lk_L_95 ⟨Nat.le_of_ble_eq_true rfl, Nat.le_of_ble_eq_true rfl⟩ rfl (Nat.le_of_ble_eq_true rfl) dL_law_860 (fun H locs hw => ?_)
  refine lv_aload_n hx hb dL_law_863 rfl (lv_at hl 1 rfl) ?_
  refine zz_arg (j := 1) Z hw hl hin.1 dL_law_864 dL_law_865 dL_law_866 (by decide) dL_law_867 dL_law_868 ?_
  refine zz_arg (j := 2) Z hw hl hin.2.1 dL_law_869 dL_law_870 dL_law_871 (by decide) dL_law_872 dL_law_873 ?_
  refine zz_c1 Z hw hl.1 [.int (xs (x3 + 1).toNatClampNeg), .int (xs (x3 + 2).toNatClampNeg)] [.int r] (mX11_about l g1 h1) lk_L_98 ⟨Nat.le_of_ble_eq_true rfl, Nat.le_of_ble_eq_true rfl⟩ rfl (Nat.le_of_ble_eq_true rfl) dL_law_874 (fun H locs hw => ?_)
  exact lv_icmp_eq (tgt := 1485) hx hb dL_law_877 (by decide) (fun _ => kk H locs C1 M1 hw hR1) (fun q => absurd rfl q)
set_option maxRecDepth 100000 in
set_option maxHeartbeats 4000000 in
theorem lw_c20 (Z : zz_Z p s m b L xs c g0 g1) (hw : zz_w g0 g1 s H locs C M) (hR : Rel C M) (hin : zz_in x3 L) (hl : lv_has ls 4 [(3, .int x3), (2, .ref (g1.2.2.1 0)), (1, .ref (g0.2.2.1 0)), (0, .ref b)]) (kk : ∀ (H1 : Heap) (locs1 : List Loc) (C1 M1 : xM), zz_w g0 g1 s H1 locs1 C1 M1 → Rel C1 M1 → W p l e room_1 s m #[Value.ref b] below meth c H1 locs1 600000 7302250 Q (F0 m 1485 ls [])) : W p l e room_1 s m #[Value.ref b] below meth c H locs 600000 7302250 Q (F0 m 882 ls []) := by
  obtain ⟨hx, hb, -⟩ := id Z.1
  obtain ⟨r, C1, M1, h0, h1, hR1⟩ := q_appeal hR (xs (x3 + 1).toNatClampNeg) (xs (x3 + 2).toNatClampNeg) (xs (x3 + 3).toNatClampNeg)
  refine lv_aload_n hx hb dL_law_882 rfl (lv_at hl 2 rfl) ?_
  refine zz_arg (j := 1) Z hw hl hin.1 dL_law_883 dL_law_884 dL_law_885 (by decide) dL_law_886 dL_law_887 ?_
  refine zz_arg (j := 2) Z hw hl hin.2.1 dL_law_888 dL_law_889 dL_law_890 (by decide) dL_law_891 dL_law_892 ?_
  refine zz_arg (j := 3) Z hw hl hin.2.2.1 dL_law_893 dL_law_894 dL_law_895 (by decide) dL_law_896 dL_law_897 ?_
  refine zz_c0 Z hw hl.1 [.int (xs (x3 + 1).toNatClampNeg), .int (xs (x3 + 2).toNatClampNeg), .int (xs (x3 + 3).toNatClampNeg)] [] (mX10_appeal l g0 h0) lk_L_99 ⟨Nat.le_of_ble_eq_true rfl, Nat.le_of_ble_eq_true rfl⟩ rfl (Nat.le_of_ble_eq_true rfl) dL_law_898 (fun H locs hw => ?_)
  refine lv_aload_n hx hb dL_law_901 rfl (lv_at hl 1 rfl) ?_
  refine zz_arg (j := 1) Z hw hl hin.1 dL_law_902 dL_law_903 dL_law_904 (by decide) dL_law_905 dL_law_906 ?_
  refine zz_arg (j := 2) Z hw hl hin.2.1 dL_law_907 dL_law_908 dL_law_909 (by decide) dL_law_910 dL_law_911 ?_
  refine zz_arg (j := 3) Z hw hl hin.2.2.1 dL_law_912 dL_law_913 dL_law_914 (by decide) dL_law_915 dL_law_916 ?_
  refine zz_c1 Z hw hl.1 [.int (xs (x3 + 1).toNatClampNeg), .int (xs (x3 + 2).toNatClampNeg), .int (xs (x3 + 3).toNatClampNeg)] [.int r] (mX11_appeal l g1 h1) lk_L_102 ⟨Nat.le_of_ble_eq_true rfl, Nat.le_of_ble_eq_true rfl⟩ rfl (Nat.le_of_ble_eq_true rfl) dL_law_917 (fun H locs hw => ?_)
  exact lv_icmp_eq (tgt := 1485) hx hb dL_law_920 (by decide) (fun _ => kk H locs C1 M1 hw hR1) (fun q => absurd rfl q)
set_option maxRecDepth 100000 in
set_option maxHeartbeats 4000000 in
theorem lw_c21 (Z : zz_Z p s m b L xs c g0 g1) (hw : zz_w g0 g1 s H locs C M) (hR : Rel C M) (hin : zz_in x3 L) (hl : lv_has ls 4 [(3, .int x3), (2, .ref (g1.2.2.1 0)), (1, .ref (g0.2.2.1 0)), (0, .ref b)]) (kk : ∀ (H1 : Heap) (locs1 : List Loc) (C1 M1 : xM), zz_w g0 g1 s H1 locs1 C1 M1 → Rel C1 M1 → W p l e room_1 s m #[Value.ref b] below meth c H1 locs1 600000 7302250 Q (F0 m 1485 ls [])) : W p l e room_1 s m #[Value.ref b] below meth c H locs 600000 7302250 Q (F0 m 925 ls []) := by
  obtain ⟨hx, hb, -⟩ := id Z.1
  obtain ⟨r, C1, M1, h0, h1, hR1⟩ := q_reopen hR (xs (x3 + 1).toNatClampNeg)
  refine lv_aload_n hx hb dL_law_925 rfl (lv_at hl 2 rfl) ?_
  refine zz_arg (j := 1) Z hw hl hin.1 dL_law_926 dL_law_927 dL_law_928 (by decide) dL_law_929 dL_law_930 ?_
  refine zz_c0 Z hw hl.1 [.int (xs (x3 + 1).toNatClampNeg)] [] (mX10_reopen l g0 h0) lk_L_103 ⟨Nat.le_of_ble_eq_true rfl, Nat.le_of_ble_eq_true rfl⟩ rfl (Nat.le_of_ble_eq_true rfl) dL_law_931 (fun H locs hw => ?_)
  refine lv_aload_n hx hb dL_law_934 rfl (lv_at hl 1 rfl) ?_
  refine zz_arg (j := 1) Z hw hl hin.1 dL_law_935 dL_law_936 dL_law_937 (by decide) dL_law_938 dL_law_939 ?_
  refine zz_c1 Z hw hl.1 [.int (xs (x3 + 1).toNatClampNeg)] [.int r] (mX11_reopen l g1 h1) lk_L_106 ⟨Nat.le_of_ble_eq_true rfl, Nat.le_of_ble_eq_true rfl⟩ rfl (Nat.le_of_ble_eq_true rfl) dL_law_940 (fun H locs hw => ?_)
  exact lv_icmp_eq (tgt := 1485) hx hb dL_law_943 (by decide) (fun _ => kk H locs C1 M1 hw hR1) (fun q => absurd rfl q)
set_option maxRecDepth 100000 in
set_option maxHeartbeats 4000000 in
theorem lw_c22 (Z : zz_Z p s m b L xs c g0 g1) (hw : zz_w g0 g1 s H locs C M) (hR : Rel C M) (hin : zz_in x3 L) (hl : lv_has ls 4 [(3, .int x3), (2, .ref (g1.2.2.1 0)), (1, .ref (g0.2.2.1 0)), (0, .ref b)]) (kk : ∀ (H1 : Heap) (locs1 : List Loc) (C1 M1 : xM), zz_w g0 g1 s H1 locs1 C1 M1 → Rel C1 M1 → W p l e room_1 s m #[Value.ref b] below meth c H1 locs1 600000 7302250 Q (F0 m 1485 ls [])) : W p l e room_1 s m #[Value.ref b] below meth c H locs 600000 7302250 Q (F0 m 948 ls []) := by
  obtain ⟨hx, hb, -⟩ := id Z.1
  obtain ⟨r, C1, M1, h0, h1, hR1⟩ := q_pay hR (xs (x3 + 1).toNatClampNeg) (xs (x3 + 2).toNatClampNeg)
  refine lv_aload_n hx hb dL_law_948 rfl (lv_at hl 2 rfl) ?_
  refine zz_arg (j := 1) Z hw hl hin.1 dL_law_949 dL_law_950 dL_law_951 (by decide) dL_law_952 dL_law_953 ?_
  refine zz_arg (j := 2) Z hw hl hin.2.1 dL_law_954 dL_law_955 dL_law_956 (by decide) dL_law_957 dL_law_958 ?_
  refine zz_c0 Z hw hl.1 [.int (xs (x3 + 1).toNatClampNeg), .int (xs (x3 + 2).toNatClampNeg)] [] (mX10_pay l g0 h0) lk_L_107 ⟨Nat.le_of_ble_eq_true rfl, Nat.le_of_ble_eq_true rfl⟩ rfl (Nat.le_of_ble_eq_true rfl) dL_law_959 (fun H locs hw => ?_)
  refine lv_aload_n hx hb dL_law_962 rfl (lv_at hl 1 rfl) ?_
  refine zz_arg (j := 1) Z hw hl hin.1 dL_law_963 dL_law_964 dL_law_965 (by decide) dL_law_966 dL_law_967 ?_
  refine zz_arg (j := 2) Z hw hl hin.2.1 dL_law_968 dL_law_969 dL_law_970 (by decide) dL_law_971 dL_law_972 ?_
  refine zz_c1 Z hw hl.1 [.int (xs (x3 + 1).toNatClampNeg), .int (xs (x3 + 2).toNatClampNeg)] [.int r] (mX11_pay l g1 h1) lk_L_110 ⟨Nat.le_of_ble_eq_true rfl, Nat.le_of_ble_eq_true rfl⟩ rfl (Nat.le_of_ble_eq_true rfl) dL_law_973 (fun H locs hw => ?_)
  exact lv_icmp_eq (tgt := 1485) hx hb dL_law_976 (by decide) (fun _ => kk H locs C1 M1 hw hR1) (fun q => absurd rfl q)
set_option maxRecDepth 100000 in
set_option maxHeartbeats 4000000 in
theorem lw_c23 (Z : zz_Z p s m b L xs c g0 g1) (hw : zz_w g0 g1 s H locs C M) (hR : Rel C M) (hin : zz_in x3 L) (hl : lv_has ls 4 [(3, .int x3), (2, .ref (g1.2.2.1 0)), (1, .ref (g0.2.2.1 0)), (0, .ref b)]) (kk : ∀ (H1 : Heap) (locs1 : List Loc) (C1 M1 : xM), zz_w g0 g1 s H1 locs1 C1 M1 → Rel C1 M1 → W p l e room_1 s m #[Value.ref b] below meth c H1 locs1 600000 7302250 Q (F0 m 1485 ls [])) : W p l e room_1 s m #[Value.ref b] below meth c H locs 600000 7302250 Q (F0 m 981 ls []) := by
  obtain ⟨hx, hb, -⟩ := id Z.1
  obtain ⟨r, C1, M1, h0, h1, hR1⟩ := q_back hR (xs (x3 + 1).toNatClampNeg)
  refine lv_aload_n hx hb dL_law_981 rfl (lv_at hl 2 rfl) ?_
  refine zz_arg (j := 1) Z hw hl hin.1 dL_law_982 dL_law_983 dL_law_984 (by decide) dL_law_985 dL_law_986 ?_
  refine zz_c0 Z hw hl.1 [.int (xs (x3 + 1).toNatClampNeg)] [] (mX10_back l g0 h0) lk_L_111 ⟨Nat.le_of_ble_eq_true rfl, Nat.le_of_ble_eq_true rfl⟩ rfl (Nat.le_of_ble_eq_true rfl) dL_law_987 (fun H locs hw => ?_)
  refine lv_aload_n hx hb dL_law_990 rfl (lv_at hl 1 rfl) ?_
  refine zz_arg (j := 1) Z hw hl hin.1 dL_law_991 dL_law_992 dL_law_993 (by decide) dL_law_994 dL_law_995 ?_
  refine zz_c1 Z hw hl.1 [.int (xs (x3 + 1).toNatClampNeg)] [.int r] (mX11_back l g1 h1) lk_L_114 ⟨Nat.le_of_ble_eq_true rfl, Nat.le_of_ble_eq_true rfl⟩ rfl (Nat.le_of_ble_eq_true rfl) dL_law_996 (fun H locs hw => ?_)
  exact lv_icmp_eq (tgt := 1485) hx hb dL_law_999 (by decide) (fun _ => kk H locs C1 M1 hw hR1) (fun q => absurd rfl q)
set_option maxRecDepth 100000 in
set_option maxHeartbeats 4000000 in
theorem lw_c24 (Z : zz_Z p s m b L xs c g0 g1) (hw : zz_w g0 g1 s H locs C M) (hR : Rel C M) (hin : zz_in x3 L) (hl : lv_has ls 4 [(3, .int x3), (2, .ref (g1.2.2.1 0)), (1, .ref (g0.2.2.1 0)), (0, .ref b)]) (kk : ∀ (H1 : Heap) (locs1 : List Loc) (C1 M1 : xM), zz_w g0 g1 s H1 locs1 C1 M1 → Rel C1 M1 → W p l e room_1 s m #[Value.ref b] below meth c H1 locs1 600000 7302250 Q (F0 m 1485 ls [])) : W p l e room_1 s m #[Value.ref b] below meth c H locs 600000 7302250 Q (F0 m 1004 ls []) := by
  obtain ⟨hx, hb, -⟩ := id Z.1
  obtain ⟨r, C1, M1, h0, h1, hR1⟩ := q_step hR (xs (x3 + 1).toNatClampNeg)
  refine lv_aload_n hx hb dL_law_1004 rfl (lv_at hl 2 rfl) ?_
  refine zz_arg (j := 1) Z hw hl hin.1 dL_law_1005 dL_law_1006 dL_law_1007 (by decide) dL_law_1008 dL_law_1009 ?_
  refine zz_c0 Z hw hl.1 [.int (xs (x3 + 1).toNatClampNeg)] [] (mX10_step l g0 h0) lk_L_115 ⟨Nat.le_of_ble_eq_true rfl, Nat.le_of_ble_eq_true rfl⟩ rfl (Nat.le_of_ble_eq_true rfl) dL_law_1010 (fun H locs hw => ?_)
  refine lv_aload_n hx hb dL_law_1013 rfl (lv_at hl 1 rfl) ?_
  refine zz_arg (j := 1) Z hw hl hin.1 dL_law_1014 dL_law_1015 dL_law_1016 (by decide) dL_law_1017 dL_law_1018 ?_
  refine zz_c1 Z hw hl.1 [.int (xs (x3 + 1).toNatClampNeg)] [.int r] (mX11_step l g1 h1) lk_L_118 ⟨Nat.le_of_ble_eq_true rfl, Nat.le_of_ble_eq_true rfl⟩ rfl (Nat.le_of_ble_eq_true rfl) dL_law_1019 (fun H locs hw => ?_)
  exact lv_icmp_eq (tgt := 1485) hx hb dL_law_1022 (by decide) (fun _ => kk H locs C1 M1 hw hR1) (fun q => absurd rfl q)
set_option maxRecDepth 100000 in
set_option maxHeartbeats 4000000 in
theorem lw_c25 (Z : zz_Z p s m b L xs c g0 g1) (hw : zz_w g0 g1 s H locs C M) (hR : Rel C M) (hin : zz_in x3 L) (hl : lv_has ls 4 [(3, .int x3), (2, .ref (g1.2.2.1 0)), (1, .ref (g0.2.2.1 0)), (0, .ref b)]) (kk : ∀ (H1 : Heap) (locs1 : List Loc) (C1 M1 : xM), zz_w g0 g1 s H1 locs1 C1 M1 → Rel C1 M1 → W p l e room_1 s m #[Value.ref b] below meth c H1 locs1 600000 7302250 Q (F0 m 1485 ls [])) : W p l e room_1 s m #[Value.ref b] below meth c H locs 600000 7302250 Q (F0 m 1027 ls []) := by
  obtain ⟨hx, hb, -⟩ := id Z.1
  obtain ⟨r, C1, M1, h0, h1, hR1⟩ := q_work hR (xs (x3 + 1).toNatClampNeg) (xs (x3 + 2).toNatClampNeg)
  refine lv_aload_n hx hb dL_law_1027 rfl (lv_at hl 2 rfl) ?_
  refine zz_arg (j := 1) Z hw hl hin.1 dL_law_1028 dL_law_1029 dL_law_1030 (by decide) dL_law_1031 dL_law_1032 ?_
  refine zz_arg (j := 2) Z hw hl hin.2.1 dL_law_1033 dL_law_1034 dL_law_1035 (by decide) dL_law_1036 dL_law_1037 ?_
  refine zz_c0 Z hw hl.1 [.int (xs (x3 + 1).toNatClampNeg), .int (xs (x3 + 2).toNatClampNeg)] [] (mX10_work l g0 h0) lk_L_119 ⟨Nat.le_of_ble_eq_true rfl, Nat.le_of_ble_eq_true rfl⟩ rfl (Nat.le_of_ble_eq_true rfl) dL_law_1038 (fun H locs hw => ?_)
  refine lv_aload_n hx hb dL_law_1041 rfl (lv_at hl 1 rfl) ?_
  refine zz_arg (j := 1) Z hw hl hin.1 dL_law_1042 dL_law_1043 dL_law_1044 (by decide) dL_law_1045 dL_law_1046 ?_
  refine zz_arg (j := 2) Z hw hl hin.2.1 dL_law_1047 dL_law_1048 dL_law_1049 (by decide) dL_law_1050 dL_law_1051 ?_
  refine zz_c1 Z hw hl.1 [.int (xs (x3 + 1).toNatClampNeg), .int (xs (x3 + 2).toNatClampNeg)] [.int r] (mX11_work l g1 h1) lk_L_122 ⟨Nat.le_of_ble_eq_true rfl, Nat.le_of_ble_eq_true rfl⟩ rfl (Nat.le_of_ble_eq_true rfl) dL_law_1052 (fun H locs hw => ?_)
  exact lv_icmp_eq (tgt := 1485) hx hb dL_law_1055 (by decide) (fun _ => kk H locs C1 M1 hw hR1) (fun q => absurd rfl q)
set_option maxRecDepth 100000 in
set_option maxHeartbeats 4000000 in
theorem lw_c26 (Z : zz_Z p s m b L xs c g0 g1) (hw : zz_w g0 g1 s H locs C M) (hR : Rel C M) (hin : zz_in x3 L) (hl : lv_has ls 4 [(3, .int x3), (2, .ref (g1.2.2.1 0)), (1, .ref (g0.2.2.1 0)), (0, .ref b)]) (kk : ∀ (H1 : Heap) (locs1 : List Loc) (C1 M1 : xM), zz_w g0 g1 s H1 locs1 C1 M1 → Rel C1 M1 → W p l e room_1 s m #[Value.ref b] below meth c H1 locs1 600000 7302250 Q (F0 m 1485 ls [])) : W p l e room_1 s m #[Value.ref b] below meth c H locs 600000 7302250 Q (F0 m 1060 ls []) := by
  obtain ⟨hx, hb, -⟩ := id Z.1
  obtain ⟨r, C1, M1, h0, h1, hR1⟩ := q_level hR (xs (x3 + 1).toNatClampNeg)
  refine lv_aload_n hx hb dL_law_1060 rfl (lv_at hl 2 rfl) ?_
  refine zz_arg (j := 1) Z hw hl hin.1 dL_law_1061 dL_law_1062 dL_law_1063 (by decide) dL_law_1064 dL_law_1065 ?_
  refine zz_c0 Z hw hl.1 [.int (xs (x3 + 1).toNatClampNeg)] [] (mX10_level l g0 h0) lk_L_123 ⟨Nat.le_of_ble_eq_true rfl, Nat.le_of_ble_eq_true rfl⟩ rfl (Nat.le_of_ble_eq_true rfl) dL_law_1066 (fun H locs hw => ?_)
  refine lv_aload_n hx hb dL_law_1069 rfl (lv_at hl 1 rfl) ?_
  refine zz_arg (j := 1) Z hw hl hin.1 dL_law_1070 dL_law_1071 dL_law_1072 (by decide) dL_law_1073 dL_law_1074 ?_
  refine zz_c1 Z hw hl.1 [.int (xs (x3 + 1).toNatClampNeg)] [.int r] (mX11_level l g1 h1) lk_L_126 ⟨Nat.le_of_ble_eq_true rfl, Nat.le_of_ble_eq_true rfl⟩ rfl (Nat.le_of_ble_eq_true rfl) dL_law_1075 (fun H locs hw => ?_)
  exact lv_icmp_eq (tgt := 1485) hx hb dL_law_1078 (by decide) (fun _ => kk H locs C1 M1 hw hR1) (fun q => absurd rfl q)
set_option maxRecDepth 100000 in
set_option maxHeartbeats 4000000 in
theorem lw_c27 (Z : zz_Z p s m b L xs c g0 g1) (hw : zz_w g0 g1 s H locs C M) (hR : Rel C M) (hin : zz_in x3 L) (hl : lv_has ls 4 [(3, .int x3), (2, .ref (g1.2.2.1 0)), (1, .ref (g0.2.2.1 0)), (0, .ref b)]) (kk : ∀ (H1 : Heap) (locs1 : List Loc) (C1 M1 : xM), zz_w g0 g1 s H1 locs1 C1 M1 → Rel C1 M1 → W p l e room_1 s m #[Value.ref b] below meth c H1 locs1 600000 7302250 Q (F0 m 1485 ls [])) : W p l e room_1 s m #[Value.ref b] below meth c H locs 600000 7302250 Q (F0 m 1083 ls []) := by
  obtain ⟨hx, hb, -⟩ := id Z.1
  obtain ⟨r, C1, M1, h0, h1, hR1⟩ := q_month hR (xs (x3 + 1).toNatClampNeg) (xs (x3 + 2).toNatClampNeg)
  refine lv_aload_n hx hb dL_law_1083 rfl (lv_at hl 2 rfl) ?_
  refine zz_arg (j := 1) Z hw hl hin.1 dL_law_1084 dL_law_1085 dL_law_1086 (by decide) dL_law_1087 dL_law_1088 ?_
  refine zz_arg (j := 2) Z hw hl hin.2.1 dL_law_1089 dL_law_1090 dL_law_1091 (by decide) dL_law_1092 dL_law_1093 ?_
  refine zz_c0 Z hw hl.1 [.int (xs (x3 + 1).toNatClampNeg), .int (xs (x3 + 2).toNatClampNeg)] [] (mX10_month l g0 h0) lk_L_127 ⟨Nat.le_of_ble_eq_true rfl, Nat.le_of_ble_eq_true rfl⟩ rfl (Nat.le_of_ble_eq_true rfl) dL_law_1094 (fun H locs hw => ?_)
  refine lv_aload_n hx hb dL_law_1097 rfl (lv_at hl 1 rfl) ?_
  refine zz_arg (j := 1) Z hw hl hin.1 dL_law_1098 dL_law_1099 dL_law_1100 (by decide) dL_law_1101 dL_law_1102 ?_
  refine zz_arg (j := 2) Z hw hl hin.2.1 dL_law_1103 dL_law_1104 dL_law_1105 (by decide) dL_law_1106 dL_law_1107 ?_
  refine zz_c1 Z hw hl.1 [.int (xs (x3 + 1).toNatClampNeg), .int (xs (x3 + 2).toNatClampNeg)] [.int r] (mX11_month l g1 h1) lk_L_130 ⟨Nat.le_of_ble_eq_true rfl, Nat.le_of_ble_eq_true rfl⟩ rfl (Nat.le_of_ble_eq_true rfl) dL_law_1108 (fun H locs hw => ?_)
  exact lv_icmp_eq (tgt := 1485) hx hb dL_law_1111 (by decide) (fun _ => kk H locs C1 M1 hw hR1) (fun q => absurd rfl q)
set_option maxRecDepth 100000 in
set_option maxHeartbeats 4000000 in
theorem lw_c28 (Z : zz_Z p s m b L xs c g0 g1) (hw : zz_w g0 g1 s H locs C M) (hR : Rel C M) (hin : zz_in x3 L) (hl : lv_has ls 4 [(3, .int x3), (2, .ref (g1.2.2.1 0)), (1, .ref (g0.2.2.1 0)), (0, .ref b)]) (kk : ∀ (H1 : Heap) (locs1 : List Loc) (C1 M1 : xM), zz_w g0 g1 s H1 locs1 C1 M1 → Rel C1 M1 → W p l e room_1 s m #[Value.ref b] below meth c H1 locs1 600000 7302250 Q (F0 m 1485 ls [])) : W p l e room_1 s m #[Value.ref b] below meth c H locs 600000 7302250 Q (F0 m 1116 ls []) := by
  obtain ⟨hx, hb, -⟩ := id Z.1
  obtain ⟨r, C1, M1, h0, h1, hR1⟩ := q_room hR (xs (x3 + 1).toNatClampNeg) (xs (x3 + 2).toNatClampNeg)
  refine lv_aload_n hx hb dL_law_1116 rfl (lv_at hl 2 rfl) ?_
  refine zz_arg (j := 1) Z hw hl hin.1 dL_law_1117 dL_law_1118 dL_law_1119 (by decide) dL_law_1120 dL_law_1121 ?_
  refine zz_arg (j := 2) Z hw hl hin.2.1 dL_law_1122 dL_law_1123 dL_law_1124 (by decide) dL_law_1125 dL_law_1126 ?_
  refine zz_c0 Z hw hl.1 [.int (xs (x3 + 1).toNatClampNeg), .int (xs (x3 + 2).toNatClampNeg)] [] (mX10_room l g0 h0) lk_L_131 ⟨Nat.le_of_ble_eq_true rfl, Nat.le_of_ble_eq_true rfl⟩ rfl (Nat.le_of_ble_eq_true rfl) dL_law_1127 (fun H locs hw => ?_)
  refine lv_aload_n hx hb dL_law_1130 rfl (lv_at hl 1 rfl) ?_
  refine zz_arg (j := 1) Z hw hl hin.1 dL_law_1131 dL_law_1132 dL_law_1133 (by decide) dL_law_1134 dL_law_1135 ?_
  refine zz_arg (j := 2) Z hw hl hin.2.1 dL_law_1136 dL_law_1137 dL_law_1138 (by decide) dL_law_1139 dL_law_1140 ?_
  refine zz_c1 Z hw hl.1 [.int (xs (x3 + 1).toNatClampNeg), .int (xs (x3 + 2).toNatClampNeg)] [.int r] (mX11_room l g1 h1) lk_L_134 ⟨Nat.le_of_ble_eq_true rfl, Nat.le_of_ble_eq_true rfl⟩ rfl (Nat.le_of_ble_eq_true rfl) dL_law_1141 (fun H locs hw => ?_)
  exact lv_icmp_eq (tgt := 1485) hx hb dL_law_1144 (by decide) (fun _ => kk H locs C1 M1 hw hR1) (fun q => absurd rfl q)
set_option maxRecDepth 100000 in
set_option maxHeartbeats 4000000 in
theorem lw_c29 (Z : zz_Z p s m b L xs c g0 g1) (hw : zz_w g0 g1 s H locs C M) (hR : Rel C M) (hin : zz_in x3 L) (hl : lv_has ls 4 [(3, .int x3), (2, .ref (g1.2.2.1 0)), (1, .ref (g0.2.2.1 0)), (0, .ref b)]) (kk : ∀ (H1 : Heap) (locs1 : List Loc) (C1 M1 : xM), zz_w g0 g1 s H1 locs1 C1 M1 → Rel C1 M1 → W p l e room_1 s m #[Value.ref b] below meth c H1 locs1 600000 7302250 Q (F0 m 1485 ls [])) : W p l e room_1 s m #[Value.ref b] below meth c H locs 600000 7302250 Q (F0 m 1149 ls []) := by
  obtain ⟨hx, hb, -⟩ := id Z.1
  obtain ⟨r, C1, M1, h0, h1, hR1⟩ := q_tell hR (xs (x3 + 1).toNatClampNeg)
  refine lv_aload_n hx hb dL_law_1149 rfl (lv_at hl 2 rfl) ?_
  refine zz_arg (j := 1) Z hw hl hin.1 dL_law_1150 dL_law_1151 dL_law_1152 (by decide) dL_law_1153 dL_law_1154 ?_
  refine zz_c0 Z hw hl.1 [.int (xs (x3 + 1).toNatClampNeg)] [] (mX10_tell l g0 h0) lk_L_135 ⟨Nat.le_of_ble_eq_true rfl, Nat.le_of_ble_eq_true rfl⟩ rfl (Nat.le_of_ble_eq_true rfl) dL_law_1155 (fun H locs hw => ?_)
  refine lv_aload_n hx hb dL_law_1158 rfl (lv_at hl 1 rfl) ?_
  refine zz_arg (j := 1) Z hw hl hin.1 dL_law_1159 dL_law_1160 dL_law_1161 (by decide) dL_law_1162 dL_law_1163 ?_
  refine zz_c1 Z hw hl.1 [.int (xs (x3 + 1).toNatClampNeg)] [.int r] (mX11_tell l g1 h1) lk_L_138 ⟨Nat.le_of_ble_eq_true rfl, Nat.le_of_ble_eq_true rfl⟩ rfl (Nat.le_of_ble_eq_true rfl) dL_law_1164 (fun H locs hw => ?_)
  exact lv_icmp_eq (tgt := 1485) hx hb dL_law_1167 (by decide) (fun _ => kk H locs C1 M1 hw hR1) (fun q => absurd rfl q)
set_option maxRecDepth 100000 in
set_option maxHeartbeats 4000000 in
theorem lw_c30 (Z : zz_Z p s m b L xs c g0 g1) (hw : zz_w g0 g1 s H locs C M) (hR : Rel C M) (hin : zz_in x3 L) (hl : lv_has ls 4 [(3, .int x3), (2, .ref (g1.2.2.1 0)), (1, .ref (g0.2.2.1 0)), (0, .ref b)]) (kk : ∀ (H1 : Heap) (locs1 : List Loc) (C1 M1 : xM), zz_w g0 g1 s H1 locs1 C1 M1 → Rel C1 M1 → W p l e room_1 s m #[Value.ref b] below meth c H1 locs1 600000 7302250 Q (F0 m 1485 ls [])) : W p l e room_1 s m #[Value.ref b] below meth c H locs 600000 7302250 Q (F0 m 1172 ls []) := by
  obtain ⟨hx, hb, -⟩ := id Z.1
  obtain ⟨r, C1, M1, h0, h1, hR1⟩ := q_check hR (xs (x3 + 1).toNatClampNeg)
  refine lv_aload_n hx hb dL_law_1172 rfl (lv_at hl 2 rfl) ?_
  refine zz_arg (j := 1) Z hw hl hin.1 dL_law_1173 dL_law_1174 dL_law_1175 (by decide) dL_law_1176 dL_law_1177 ?_
  refine zz_c0 Z hw hl.1 [.int (xs (x3 + 1).toNatClampNeg)] [] (mX10_check l g0 h0) lk_L_139 ⟨Nat.le_of_ble_eq_true rfl, Nat.le_of_ble_eq_true rfl⟩ rfl (Nat.le_of_ble_eq_true rfl) dL_law_1178 (fun H locs hw => ?_)
  refine lv_aload_n hx hb dL_law_1181 rfl (lv_at hl 1 rfl) ?_
  refine zz_arg (j := 1) Z hw hl hin.1 dL_law_1182 dL_law_1183 dL_law_1184 (by decide) dL_law_1185 dL_law_1186 ?_
  refine zz_c1 Z hw hl.1 [.int (xs (x3 + 1).toNatClampNeg)] [.int r] (mX11_check l g1 h1) lk_L_142 ⟨Nat.le_of_ble_eq_true rfl, Nat.le_of_ble_eq_true rfl⟩ rfl (Nat.le_of_ble_eq_true rfl) dL_law_1187 (fun H locs hw => ?_)
  exact lv_icmp_eq (tgt := 1485) hx hb dL_law_1190 (by decide) (fun _ => kk H locs C1 M1 hw hR1) (fun q => absurd rfl q)
set_option maxRecDepth 100000 in
set_option maxHeartbeats 4000000 in
theorem lw_c31 (Z : zz_Z p s m b L xs c g0 g1) (hw : zz_w g0 g1 s H locs C M) (hR : Rel C M) (hin : zz_in x3 L) (hl : lv_has ls 4 [(3, .int x3), (2, .ref (g1.2.2.1 0)), (1, .ref (g0.2.2.1 0)), (0, .ref b)]) (kk : ∀ (H1 : Heap) (locs1 : List Loc) (C1 M1 : xM), zz_w g0 g1 s H1 locs1 C1 M1 → Rel C1 M1 → W p l e room_1 s m #[Value.ref b] below meth c H1 locs1 600000 7302250 Q (F0 m 1485 ls [])) : W p l e room_1 s m #[Value.ref b] below meth c H locs 600000 7302250 Q (F0 m 1195 ls []) := by
  obtain ⟨hx, hb, -⟩ := id Z.1
  obtain ⟨r, C1, M1, h0, h1, hR1⟩ := q_alike hR (xs (x3 + 1).toNatClampNeg) (xs (x3 + 2).toNatClampNeg)
  refine lv_aload_n hx hb dL_law_1195 rfl (lv_at hl 2 rfl) ?_
  refine zz_arg (j := 1) Z hw hl hin.1 dL_law_1196 dL_law_1197 dL_law_1198 (by decide) dL_law_1199 dL_law_1200 ?_
  refine zz_arg (j := 2) Z hw hl hin.2.1 dL_law_1201 dL_law_1202 dL_law_1203 (by decide) dL_law_1204 dL_law_1205 ?_
  refine zz_c0 Z hw hl.1 [.int (xs (x3 + 1).toNatClampNeg), .int (xs (x3 + 2).toNatClampNeg)] [] (mX10_alike l g0 h0) lk_L_143 ⟨Nat.le_of_ble_eq_true rfl, Nat.le_of_ble_eq_true rfl⟩ rfl (Nat.le_of_ble_eq_true rfl) dL_law_1206 (fun H locs hw => ?_)
  refine lv_aload_n hx hb dL_law_1209 rfl (lv_at hl 1 rfl) ?_
  refine zz_arg (j := 1) Z hw hl hin.1 dL_law_1210 dL_law_1211 dL_law_1212 (by decide) dL_law_1213 dL_law_1214 ?_
  refine zz_arg (j := 2) Z hw hl hin.2.1 dL_law_1215 dL_law_1216 dL_law_1217 (by decide) dL_law_1218 dL_law_1219 ?_
  refine zz_c1 Z hw hl.1 [.int (xs (x3 + 1).toNatClampNeg), .int (xs (x3 + 2).toNatClampNeg)] [.int r] (mX11_alike l g1 h1) lk_L_146 ⟨Nat.le_of_ble_eq_true rfl, Nat.le_of_ble_eq_true rfl⟩ rfl (Nat.le_of_ble_eq_true rfl) dL_law_1220 (fun H locs hw => ?_)
  exact lv_icmp_eq (tgt := 1485) hx hb dL_law_1223 (by decide) (fun _ => kk H locs C1 M1 hw hR1) (fun q => absurd rfl q)
set_option maxRecDepth 100000 in
set_option maxHeartbeats 4000000 in
theorem lw_c32 (Z : zz_Z p s m b L xs c g0 g1) (hw : zz_w g0 g1 s H locs C M) (hR : Rel C M) (hin : zz_in x3 L) (hl : lv_has ls 4 [(3, .int x3), (2, .ref (g1.2.2.1 0)), (1, .ref (g0.2.2.1 0)), (0, .ref b)]) (kk : ∀ (H1 : Heap) (locs1 : List Loc) (C1 M1 : xM), zz_w g0 g1 s H1 locs1 C1 M1 → Rel C1 M1 → W p l e room_1 s m #[Value.ref b] below meth c H1 locs1 600000 7302250 Q (F0 m 1485 ls [])) : W p l e room_1 s m #[Value.ref b] below meth c H locs 600000 7302250 Q (F0 m 1228 ls []) := by
  obtain ⟨hx, hb, -⟩ := id Z.1
  obtain ⟨r, C1, M1, h0, h1, hR1⟩ := q_unlike hR 
  refine lv_aload_n hx hb dL_law_1228 rfl (lv_at hl 2 rfl) ?_
  refine zz_c0 Z hw hl.1 [] [] (mX10_unlike l g0 h0) lk_L_147 ⟨Nat.le_of_ble_eq_true rfl, Nat.le_of_ble_eq_true rfl⟩ rfl (Nat.le_of_ble_eq_true rfl) dL_law_1229 (fun H locs hw => ?_)
  refine lv_aload_n hx hb dL_law_1232 rfl (lv_at hl 1 rfl) ?_
  refine zz_c1 Z hw hl.1 [] [.int r] (mX11_unlike l g1 h1) lk_L_150 ⟨Nat.le_of_ble_eq_true rfl, Nat.le_of_ble_eq_true rfl⟩ rfl (Nat.le_of_ble_eq_true rfl) dL_law_1233 (fun H locs hw => ?_)
  exact lv_icmp_eq (tgt := 1485) hx hb dL_law_1236 (by decide) (fun _ => kk H locs C1 M1 hw hR1) (fun q => absurd rfl q)
set_option maxRecDepth 100000 in
set_option maxHeartbeats 4000000 in
theorem lw_c33 (Z : zz_Z p s m b L xs c g0 g1) (hw : zz_w g0 g1 s H locs C M) (hR : Rel C M) (hin : zz_in x3 L) (hl : lv_has ls 4 [(3, .int x3), (2, .ref (g1.2.2.1 0)), (1, .ref (g0.2.2.1 0)), (0, .ref b)]) (kk : ∀ (H1 : Heap) (locs1 : List Loc) (C1 M1 : xM), zz_w g0 g1 s H1 locs1 C1 M1 → Rel C1 M1 → W p l e room_1 s m #[Value.ref b] below meth c H1 locs1 600000 7302250 Q (F0 m 1485 ls [])) : W p l e room_1 s m #[Value.ref b] below meth c H locs 600000 7302250 Q (F0 m 1241 ls []) := by
  obtain ⟨hx, hb, -⟩ := id Z.1
  obtain ⟨r, C1, M1, h0, h1, hR1⟩ := q_spread hR (xs (x3 + 1).toNatClampNeg)
  refine lv_aload_n hx hb dL_law_1241 rfl (lv_at hl 2 rfl) ?_
  refine zz_arg (j := 1) Z hw hl hin.1 dL_law_1242 dL_law_1243 dL_law_1244 (by decide) dL_law_1245 dL_law_1246 ?_
  refine zz_c0 Z hw hl.1 [.int (xs (x3 + 1).toNatClampNeg)] [] (mX10_spread l g0 h0) lk_L_151 ⟨Nat.le_of_ble_eq_true rfl, Nat.le_of_ble_eq_true rfl⟩ rfl (Nat.le_of_ble_eq_true rfl) dL_law_1247 (fun H locs hw => ?_)
  refine lv_aload_n hx hb dL_law_1250 rfl (lv_at hl 1 rfl) ?_
  refine zz_arg (j := 1) Z hw hl hin.1 dL_law_1251 dL_law_1252 dL_law_1253 (by decide) dL_law_1254 dL_law_1255 ?_
  refine zz_c1 Z hw hl.1 [.int (xs (x3 + 1).toNatClampNeg)] [.int r] (mX11_spread l g1 h1) lk_L_154 ⟨Nat.le_of_ble_eq_true rfl, Nat.le_of_ble_eq_true rfl⟩ rfl (Nat.le_of_ble_eq_true rfl) dL_law_1256 (fun H locs hw => ?_)
  exact lv_icmp_eq (tgt := 1485) hx hb dL_law_1259 (by decide) (fun _ => kk H locs C1 M1 hw hR1) (fun q => absurd rfl q)
set_option maxRecDepth 100000 in
set_option maxHeartbeats 4000000 in
theorem lw_c34 (Z : zz_Z p s m b L xs c g0 g1) (hw : zz_w g0 g1 s H locs C M) (hR : Rel C M) (hin : zz_in x3 L) (hl : lv_has ls 4 [(3, .int x3), (2, .ref (g1.2.2.1 0)), (1, .ref (g0.2.2.1 0)), (0, .ref b)]) (kk : ∀ (H1 : Heap) (locs1 : List Loc) (C1 M1 : xM), zz_w g0 g1 s H1 locs1 C1 M1 → Rel C1 M1 → W p l e room_1 s m #[Value.ref b] below meth c H1 locs1 600000 7302250 Q (F0 m 1485 ls [])) : W p l e room_1 s m #[Value.ref b] below meth c H locs 600000 7302250 Q (F0 m 1264 ls []) := by
  obtain ⟨hx, hb, -⟩ := id Z.1
  obtain ⟨r, C1, M1, h0, h1, hR1⟩ := q_slip hR (xs (x3 + 1).toNatClampNeg) (xs (x3 + 2).toNatClampNeg)
  refine lv_aload_n hx hb dL_law_1264 rfl (lv_at hl 2 rfl) ?_
  refine zz_arg (j := 1) Z hw hl hin.1 dL_law_1265 dL_law_1266 dL_law_1267 (by decide) dL_law_1268 dL_law_1269 ?_
  refine zz_arg (j := 2) Z hw hl hin.2.1 dL_law_1270 dL_law_1271 dL_law_1272 (by decide) dL_law_1273 dL_law_1274 ?_
  refine zz_c0 Z hw hl.1 [.int (xs (x3 + 1).toNatClampNeg), .int (xs (x3 + 2).toNatClampNeg)] [] (mX10_slip l g0 h0) lk_L_155 ⟨Nat.le_of_ble_eq_true rfl, Nat.le_of_ble_eq_true rfl⟩ rfl (Nat.le_of_ble_eq_true rfl) dL_law_1275 (fun H locs hw => ?_)
  refine lv_aload_n hx hb dL_law_1278 rfl (lv_at hl 1 rfl) ?_
  refine zz_arg (j := 1) Z hw hl hin.1 dL_law_1279 dL_law_1280 dL_law_1281 (by decide) dL_law_1282 dL_law_1283 ?_
  refine zz_arg (j := 2) Z hw hl hin.2.1 dL_law_1284 dL_law_1285 dL_law_1286 (by decide) dL_law_1287 dL_law_1288 ?_
  refine zz_c1 Z hw hl.1 [.int (xs (x3 + 1).toNatClampNeg), .int (xs (x3 + 2).toNatClampNeg)] [.int r] (mX11_slip l g1 h1) lk_L_158 ⟨Nat.le_of_ble_eq_true rfl, Nat.le_of_ble_eq_true rfl⟩ rfl (Nat.le_of_ble_eq_true rfl) dL_law_1289 (fun H locs hw => ?_)
  exact lv_icmp_eq (tgt := 1485) hx hb dL_law_1292 (by decide) (fun _ => kk H locs C1 M1 hw hR1) (fun q => absurd rfl q)
set_option maxRecDepth 100000 in
set_option maxHeartbeats 4000000 in
theorem lw_c35 (Z : zz_Z p s m b L xs c g0 g1) (hw : zz_w g0 g1 s H locs C M) (hR : Rel C M) (hin : zz_in x3 L) (hl : lv_has ls 4 [(3, .int x3), (2, .ref (g1.2.2.1 0)), (1, .ref (g0.2.2.1 0)), (0, .ref b)]) (kk : ∀ (H1 : Heap) (locs1 : List Loc) (C1 M1 : xM), zz_w g0 g1 s H1 locs1 C1 M1 → Rel C1 M1 → W p l e room_1 s m #[Value.ref b] below meth c H1 locs1 600000 7302250 Q (F0 m 1485 ls [])) : W p l e room_1 s m #[Value.ref b] below meth c H locs 600000 7302250 Q (F0 m 1297 ls []) := by
  obtain ⟨hx, hb, -⟩ := id Z.1
  obtain ⟨r, C1, M1, h0, h1, hR1⟩ := q_keep hR 
  refine lv_aload_n hx hb dL_law_1297 rfl (lv_at hl 2 rfl) ?_
  refine zz_c0 Z hw hl.1 [] [] (mX10_keep l g0 h0) lk_L_159 ⟨Nat.le_of_ble_eq_true rfl, Nat.le_of_ble_eq_true rfl⟩ rfl (Nat.le_of_ble_eq_true rfl) dL_law_1298 (fun H locs hw => ?_)
  refine lv_aload_n hx hb dL_law_1301 rfl (lv_at hl 1 rfl) ?_
  refine zz_c1 Z hw hl.1 [] [.int r] (mX11_keep l g1 h1) lk_L_162 ⟨Nat.le_of_ble_eq_true rfl, Nat.le_of_ble_eq_true rfl⟩ rfl (Nat.le_of_ble_eq_true rfl) dL_law_1302 (fun H locs hw => ?_)
  exact lv_icmp_eq (tgt := 1485) hx hb dL_law_1305 (by decide) (fun _ => kk H locs C1 M1 hw hR1) (fun q => absurd rfl q)
set_option maxRecDepth 100000 in
set_option maxHeartbeats 4000000 in
theorem lw_c36 (Z : zz_Z p s m b L xs c g0 g1) (hw : zz_w g0 g1 s H locs C M) (hR : Rel C M) (hin : zz_in x3 L) (hl : lv_has ls 4 [(3, .int x3), (2, .ref (g1.2.2.1 0)), (1, .ref (g0.2.2.1 0)), (0, .ref b)]) (kk : ∀ (H1 : Heap) (locs1 : List Loc) (C1 M1 : xM), zz_w g0 g1 s H1 locs1 C1 M1 → Rel C1 M1 → W p l e room_1 s m #[Value.ref b] below meth c H1 locs1 600000 7302250 Q (F0 m 1485 ls [])) : W p l e room_1 s m #[Value.ref b] below meth c H locs 600000 7302250 Q (F0 m 1310 ls []) := by
  obtain ⟨hx, hb, -⟩ := id Z.1
  obtain ⟨r, C1, M1, h0, h1, hR1⟩ := q_again hR 
  refine lv_aload_n hx hb dL_law_1310 rfl (lv_at hl 2 rfl) ?_
  refine zz_c0 Z hw hl.1 [] [] (mX10_again l g0 h0) lk_L_163 ⟨Nat.le_of_ble_eq_true rfl, Nat.le_of_ble_eq_true rfl⟩ rfl (Nat.le_of_ble_eq_true rfl) dL_law_1311 (fun H locs hw => ?_)
  refine lv_aload_n hx hb dL_law_1314 rfl (lv_at hl 1 rfl) ?_
  refine zz_c1 Z hw hl.1 [] [.int r] (mX11_again l g1 h1) lk_L_166 ⟨Nat.le_of_ble_eq_true rfl, Nat.le_of_ble_eq_true rfl⟩ rfl (Nat.le_of_ble_eq_true rfl) dL_law_1315 (fun H locs hw => ?_)
  exact lv_icmp_eq (tgt := 1485) hx hb dL_law_1318 (by decide) (fun _ => kk H locs C1 M1 hw hR1) (fun q => absurd rfl q)
set_option maxRecDepth 100000 in
set_option maxHeartbeats 4000000 in
theorem lw_c37 (Z : zz_Z p s m b L xs c g0 g1) (hw : zz_w g0 g1 s H locs C M) (hR : Rel C M) (hin : zz_in x3 L) (hl : lv_has ls 4 [(3, .int x3), (2, .ref (g1.2.2.1 0)), (1, .ref (g0.2.2.1 0)), (0, .ref b)]) (kk : ∀ (H1 : Heap) (locs1 : List Loc) (C1 M1 : xM), zz_w g0 g1 s H1 locs1 C1 M1 → Rel C1 M1 → W p l e room_1 s m #[Value.ref b] below meth c H1 locs1 600000 7302250 Q (F0 m 1485 ls [])) : W p l e room_1 s m #[Value.ref b] below meth c H locs 600000 7302250 Q (F0 m 1323 ls []) := by
  obtain ⟨hx, hb, -⟩ := id Z.1
  obtain ⟨r, C1, M1, h0, h1, hR1⟩ := q_sheet hR (xs (x3 + 1).toNatClampNeg) (xs (x3 + 2).toNatClampNeg)
  refine lv_aload_n hx hb dL_law_1323 rfl (lv_at hl 2 rfl) ?_
  refine zz_arg (j := 1) Z hw hl hin.1 dL_law_1324 dL_law_1325 dL_law_1326 (by decide) dL_law_1327 dL_law_1328 ?_
  refine zz_arg (j := 2) Z hw hl hin.2.1 dL_law_1329 dL_law_1330 dL_law_1331 (by decide) dL_law_1332 dL_law_1333 ?_
  refine zz_c0 Z hw hl.1 [.int (xs (x3 + 1).toNatClampNeg), .int (xs (x3 + 2).toNatClampNeg)] [] (mX10_sheet l g0 h0) lk_L_167 ⟨Nat.le_of_ble_eq_true rfl, Nat.le_of_ble_eq_true rfl⟩ rfl (Nat.le_of_ble_eq_true rfl) dL_law_1334 (fun H locs hw => ?_)
  refine lv_aload_n hx hb dL_law_1337 rfl (lv_at hl 1 rfl) ?_
  refine zz_arg (j := 1) Z hw hl hin.1 dL_law_1338 dL_law_1339 dL_law_1340 (by decide) dL_law_1341 dL_law_1342 ?_
  refine zz_arg (j := 2) Z hw hl hin.2.1 dL_law_1343 dL_law_1344 dL_law_1345 (by decide) dL_law_1346 dL_law_1347 ?_
  refine zz_c1 Z hw hl.1 [.int (xs (x3 + 1).toNatClampNeg), .int (xs (x3 + 2).toNatClampNeg)] [.int r] (mX11_sheet l g1 h1) lk_L_170 ⟨Nat.le_of_ble_eq_true rfl, Nat.le_of_ble_eq_true rfl⟩ rfl (Nat.le_of_ble_eq_true rfl) dL_law_1348 (fun H locs hw => ?_)
  exact lv_icmp_eq (tgt := 1485) hx hb dL_law_1351 (by decide) (fun _ => kk H locs C1 M1 hw hR1) (fun q => absurd rfl q)
set_option maxRecDepth 100000 in
set_option maxHeartbeats 4000000 in
theorem lw_c38 (Z : zz_Z p s m b L xs c g0 g1) (hw : zz_w g0 g1 s H locs C M) (hR : Rel C M) (hin : zz_in x3 L) (hl : lv_has ls 4 [(3, .int x3), (2, .ref (g1.2.2.1 0)), (1, .ref (g0.2.2.1 0)), (0, .ref b)]) (kk : ∀ (H1 : Heap) (locs1 : List Loc) (C1 M1 : xM), zz_w g0 g1 s H1 locs1 C1 M1 → Rel C1 M1 → W p l e room_1 s m #[Value.ref b] below meth c H1 locs1 600000 7302250 Q (F0 m 1485 ls [])) : W p l e room_1 s m #[Value.ref b] below meth c H locs 600000 7302250 Q (F0 m 1356 ls []) := by
  obtain ⟨hx, hb, -⟩ := id Z.1
  obtain ⟨r, C1, M1, h0, h1, hR1⟩ := q_mark hR (xs (x3 + 1).toNatClampNeg) (xs (x3 + 2).toNatClampNeg) (xs (x3 + 3).toNatClampNeg)
  refine lv_aload_n hx hb dL_law_1356 rfl (lv_at hl 2 rfl) ?_
  refine zz_arg (j := 1) Z hw hl hin.1 dL_law_1357 dL_law_1358 dL_law_1359 (by decide) dL_law_1360 dL_law_1361 ?_
  refine zz_arg (j := 2) Z hw hl hin.2.1 dL_law_1362 dL_law_1363 dL_law_1364 (by decide) dL_law_1365 dL_law_1366 ?_
  refine zz_arg (j := 3) Z hw hl hin.2.2.1 dL_law_1367 dL_law_1368 dL_law_1369 (by decide) dL_law_1370 dL_law_1371 ?_
  refine zz_c0 Z hw hl.1 [.int (xs (x3 + 1).toNatClampNeg), .int (xs (x3 + 2).toNatClampNeg), .int (xs (x3 + 3).toNatClampNeg)] [] (mX10_mark l g0 h0) lk_L_171 ⟨Nat.le_of_ble_eq_true rfl, Nat.le_of_ble_eq_true rfl⟩ rfl (Nat.le_of_ble_eq_true rfl) dL_law_1372 (fun H locs hw => ?_)
  refine lv_aload_n hx hb dL_law_1375 rfl (lv_at hl 1 rfl) ?_
  refine zz_arg (j := 1) Z hw hl hin.1 dL_law_1376 dL_law_1377 dL_law_1378 (by decide) dL_law_1379 dL_law_1380 ?_
  refine zz_arg (j := 2) Z hw hl hin.2.1 dL_law_1381 dL_law_1382 dL_law_1383 (by decide) dL_law_1384 dL_law_1385 ?_
  refine zz_arg (j := 3) Z hw hl hin.2.2.1 dL_law_1386 dL_law_1387 dL_law_1388 (by decide) dL_law_1389 dL_law_1390 ?_
  refine zz_c1 Z hw hl.1 [.int (xs (x3 + 1).toNatClampNeg), .int (xs (x3 + 2).toNatClampNeg), .int (xs (x3 + 3).toNatClampNeg)] [.int r] (mX11_mark l g1 h1) lk_L_174 ⟨Nat.le_of_ble_eq_true rfl, Nat.le_of_ble_eq_true rfl⟩ rfl (Nat.le_of_ble_eq_true rfl) dL_law_1391 (fun H locs hw => ?_)
  exact lv_icmp_eq (tgt := 1485) hx hb dL_law_1394 (by decide) (fun _ => kk H locs C1 M1 hw hR1) (fun q => absurd rfl q)
set_option maxRecDepth 100000 in
set_option maxHeartbeats 4000000 in
theorem lw_c39 (Z : zz_Z p s m b L xs c g0 g1) (hw : zz_w g0 g1 s H locs C M) (hR : Rel C M) (hin : zz_in x3 L) (hl : lv_has ls 4 [(3, .int x3), (2, .ref (g1.2.2.1 0)), (1, .ref (g0.2.2.1 0)), (0, .ref b)]) (kk : ∀ (H1 : Heap) (locs1 : List Loc) (C1 M1 : xM), zz_w g0 g1 s H1 locs1 C1 M1 → Rel C1 M1 → W p l e room_1 s m #[Value.ref b] below meth c H1 locs1 600000 7302250 Q (F0 m 1485 ls [])) : W p l e room_1 s m #[Value.ref b] below meth c H locs 600000 7302250 Q (F0 m 1399 ls []) := by
  obtain ⟨hx, hb, -⟩ := id Z.1
  obtain ⟨r, C1, M1, h0, h1, hR1⟩ := q_copy hR (xs (x3 + 1).toNatClampNeg) (xs (x3 + 2).toNatClampNeg) (xs (x3 + 3).toNatClampNeg) (xs (x3 + 4).toNatClampNeg) (xs (x3 + 5).toNatClampNeg)
  refine lv_aload_n hx hb dL_law_1399 rfl (lv_at hl 2 rfl) ?_
  refine zz_arg (j := 1) Z hw hl hin.1 dL_law_1400 dL_law_1401 dL_law_1402 (by decide) dL_law_1403 dL_law_1404 ?_
  refine zz_arg (j := 2) Z hw hl hin.2.1 dL_law_1405 dL_law_1406 dL_law_1407 (by decide) dL_law_1408 dL_law_1409 ?_
  refine zz_arg (j := 3) Z hw hl hin.2.2.1 dL_law_1410 dL_law_1411 dL_law_1412 (by decide) dL_law_1413 dL_law_1414 ?_
  refine zz_arg (j := 4) Z hw hl hin.2.2.2.1 dL_law_1415 dL_law_1416 dL_law_1417 (by decide) dL_law_1418 dL_law_1419 ?_
  refine zz_arg (j := 5) Z hw hl hin.2.2.2.2 dL_law_1420 dL_law_1421 dL_law_1422 (by decide) dL_law_1423 dL_law_1424 ?_
  refine zz_c0 Z hw hl.1 [.int (xs (x3 + 1).toNatClampNeg), .int (xs (x3 + 2).toNatClampNeg), .int (xs (x3 + 3).toNatClampNeg), .int (xs (x3 + 4).toNatClampNeg), .int (xs (x3 + 5).toNatClampNeg)] [] (mX10_copy l g0 h0) lk_L_175 ⟨Nat.le_of_ble_eq_true rfl, Nat.le_of_ble_eq_true rfl⟩ rfl (Nat.le_of_ble_eq_true rfl) dL_law_1425 (fun H locs hw => ?_)
  refine lv_aload_n hx hb dL_law_1428 rfl (lv_at hl 1 rfl) ?_
  refine zz_arg (j := 1) Z hw hl hin.1 dL_law_1429 dL_law_1430 dL_law_1431 (by decide) dL_law_1432 dL_law_1433 ?_
  refine zz_arg (j := 2) Z hw hl hin.2.1 dL_law_1434 dL_law_1435 dL_law_1436 (by decide) dL_law_1437 dL_law_1438 ?_
  refine zz_arg (j := 3) Z hw hl hin.2.2.1 dL_law_1439 dL_law_1440 dL_law_1441 (by decide) dL_law_1442 dL_law_1443 ?_
  refine zz_arg (j := 4) Z hw hl hin.2.2.2.1 dL_law_1444 dL_law_1445 dL_law_1446 (by decide) dL_law_1447 dL_law_1448 ?_
  refine zz_arg (j := 5) Z hw hl hin.2.2.2.2 dL_law_1449 dL_law_1450 dL_law_1451 (by decide) dL_law_1452 dL_law_1453 ?_
  refine zz_c1 Z hw hl.1 [.int (xs (x3 + 1).toNatClampNeg), .int (xs (x3 + 2).toNatClampNeg), .int (xs (x3 + 3).toNatClampNeg), .int (xs (x3 + 4).toNatClampNeg), .int (xs (x3 + 5).toNatClampNeg)] [.int r] (mX11_copy l g1 h1) lk_L_178 ⟨Nat.le_of_ble_eq_true rfl, Nat.le_of_ble_eq_true rfl⟩ rfl (Nat.le_of_ble_eq_true rfl) dL_law_1454 (fun H locs hw => ?_)
  exact lv_icmp_eq (tgt := 1485) hx hb dL_law_1457 (by decide) (fun _ => kk H locs C1 M1 hw hR1) (fun q => absurd rfl q)
set_option maxRecDepth 100000 in
set_option maxHeartbeats 4000000 in
theorem lw_c40 (Z : zz_Z p s m b L xs c g0 g1) (hw : zz_w g0 g1 s H locs C M) (hR : Rel C M) (hin : zz_in x3 L) (hl : lv_has ls 4 [(3, .int x3), (2, .ref (g1.2.2.1 0)), (1, .ref (g0.2.2.1 0)), (0, .ref b)]) (kk : ∀ (H1 : Heap) (locs1 : List Loc) (C1 M1 : xM), zz_w g0 g1 s H1 locs1 C1 M1 → Rel C1 M1 → W p l e room_1 s m #[Value.ref b] below meth c H1 locs1 600000 7302250 Q (F0 m 1485 ls [])) : W p l e room_1 s m #[Value.ref b] below meth c H locs 600000 7302250 Q (F0 m 1462 ls []) := by
  obtain ⟨hx, hb, -⟩ := id Z.1
  obtain ⟨r, C1, M1, h0, h1, hR1⟩ := q_count hR (xs (x3 + 1).toNatClampNeg)
  refine lv_aload_n hx hb dL_law_1462 rfl (lv_at hl 2 rfl) ?_
  refine zz_arg (j := 1) Z hw hl hin.1 dL_law_1463 dL_law_1464 dL_law_1465 (by decide) dL_law_1466 dL_law_1467 ?_
  refine zz_c0 Z hw hl.1 [.int (xs (x3 + 1).toNatClampNeg)] [] (mX10_count l g0 h0) lk_L_179 ⟨Nat.le_of_ble_eq_true rfl, Nat.le_of_ble_eq_true rfl⟩ rfl (Nat.le_of_ble_eq_true rfl) dL_law_1468 (fun H locs hw => ?_)
  refine lv_aload_n hx hb dL_law_1471 rfl (lv_at hl 1 rfl) ?_
  refine zz_arg (j := 1) Z hw hl hin.1 dL_law_1472 dL_law_1473 dL_law_1474 (by decide) dL_law_1475 dL_law_1476 ?_
  refine zz_c1 Z hw hl.1 [.int (xs (x3 + 1).toNatClampNeg)] [.int r] (mX11_count l g1 h1) lk_L_182 ⟨Nat.le_of_ble_eq_true rfl, Nat.le_of_ble_eq_true rfl⟩ rfl (Nat.le_of_ble_eq_true rfl) dL_law_1477 (fun H locs hw => ?_)
  exact lv_icmp_eq (tgt := 1485) hx hb dL_law_1480 (by decide) (fun _ => kk H locs C1 M1 hw hR1) (fun q => absurd rfl q)
end ZL
