/-! the law, case by case: 0 to 18 (written by wip/gen/mk82.py) -/
set_option maxHeartbeats 4000000 in
set_option maxRecDepth 100000 in
/-- row -/
theorem law_0 {p : Program} {l : Launch} {e : Env} {s : State} {m : MethodId} {below : List Frame} {meth : Method} {c : Code} {b L : Nat} {xs : Nat → Int32} {D : va_G} {cy : Nat → ClassId} {sa va adX adM : Nat → Nat} {a b1 : Bool} {I : qI} {J : qJ} {A : qI} {B : qJ} {H : Heap} {cells slots : Nat} {Q : State → Prop} {ls : Array Slot} {i : Int32} (C : lwC p s m c b L xs D cy sa va) (hi : lwI i L) (hl : lv_has ls 4 [(3, .int i), (2, .ref (adM 0)), (1, .ref (adX 0)), (0, .ref b)]) (hw : lwW s D cy adX adM a b1 I J A B H) (hR : Rel (b2i a, b2i b1) I J A B) (hc : cells + 40 ≤ 600000 ∧ slots + 4180 ≤ 7302250)
    (kk : ∀ (a b1 : Bool) (adM1 : Nat → Nat) (I : qI) (J : qJ) (A : qI) (B : qJ) (H : Heap), adM1 0 = adM 0 → lwW s D cy adX adM1 a b1 I J A B H → Rel (b2i a, b2i b1) I J A B → W p l e room_1 s m #[.ref b] below meth c H [] (cells + 40) (slots + 4180) Q (F0 m 1758 ls [])) : W p l e room_1 s m #[.ref b] below meth c H [] cells slots Q (F0 m 276 ls []) := by
  obtain ⟨⟨hx, hb, hml, hown, hts⟩, ⟨hX, hbl⟩, hK, hE, hM⟩ := C
  obtain ⟨r, I1, J1, A1, B1, e1, e2, hR1⟩ := s_row hR (xs (i + 1).toNatClampNeg) (xs (i + 2).toNatClampNeg) (xs (i + 3).toNatClampNeg)
  refine lv_aload_n hx hb dL_law_276 rfl (lv_at hl 2 rfl) ?_
  refine lw_ld (v := 1) hx hb hX hbl hw hl dL_law_277 dL_law_278 dL_law_279 (by decide) dL_law_280 dL_law_281 hi.1 ?_
  refine lw_ld (v := 2) hx hb hX hbl hw hl dL_law_282 dL_law_283 dL_law_284 (by decide) dL_law_285 dL_law_286 hi.2.1 ?_
  refine lw_ld (v := 3) hx hb hX hbl hw hl dL_law_287 dL_law_288 dL_law_289 (by decide) dL_law_290 dL_law_291 hi.2.2.1 ?_
  refine lw_x (va_runV (As := [.int (xs (i + 1).toNatClampNeg), .int (xs (i + 2).toNatClampNeg), .int (xs (i + 3).toNatClampNeg)]) (rest := []) ⟨hx, hb, hml, hown, hts⟩ (c_X8_row l (D := D) (ad := adX) (cy := cy) (sa := sa) (va := va) (I := I) (J := J) (xs (i + 1).toNatClampNeg) (xs (i + 2).toNatClampNeg) (xs (i + 3).toNatClampNeg) e1) (cwV 3 hts gL_law_X8_row rfl rfl rfl (by decide +kernel) ⟨Nat.le_of_ble_eq_true rfl, Nat.le_of_ble_eq_true rfl⟩) ⟨qPre_blind _, q_recv hK hw.1.1 oX8 rfl, fun U hU hW => ⟨rfl, lw_preX hK hE hw U hU hW⟩⟩ rfl rfl hl.1 rfl (lv_room (Nat.le_of_ble_eq_true rfl)) dL_law_292 (lw_rm0 hc)) hw (fun H hw => ?_)
  refine lv_aload_n hx hb dL_law_295 rfl (lv_at hl 1 rfl) ?_
  refine lw_ld (v := 1) hx hb hX hbl hw hl dL_law_296 dL_law_297 dL_law_298 (by decide) dL_law_299 dL_law_300 hi.1 ?_
  refine lw_ld (v := 2) hx hb hX hbl hw hl dL_law_301 dL_law_302 dL_law_303 (by decide) dL_law_304 dL_law_305 hi.2.1 ?_
  refine lw_ld (v := 3) hx hb hX hbl hw hl dL_law_306 dL_law_307 dL_law_308 (by decide) dL_law_309 dL_law_310 hi.2.2.1 ?_
  refine lw_m (va_runV (As := [.int (xs (i + 1).toNatClampNeg), .int (xs (i + 2).toNatClampNeg), .int (xs (i + 3).toNatClampNeg)]) (rest := [.int r]) ⟨hx, hb, hml, hown, hts⟩ (c_X9_row l (D := D) (ad := adM) (cy := cy) (sa := sa) (va := va) (I := A) (J := B) (S := mS a b1) mS_0 (xs (i + 1).toNatClampNeg) (xs (i + 2).toNatClampNeg) (xs (i + 3).toNatClampNeg) e2) (cwV 3 hts gL_law_X9_row rfl rfl rfl (by decide +kernel) ⟨Nat.le_of_ble_eq_true rfl, Nat.le_of_ble_eq_true rfl⟩) ⟨qPre_blind _, q_recv hK hw.2.1.1 (oX9 mS_0) rfl, fun U hU hW => ⟨rfl, lw_preM hK hE hw U hU hW⟩⟩ rfl rfl hl.1 rfl (lv_room (Nat.le_of_ble_eq_true rfl)) dL_law_311 (lw_rm0 hc)) hw (fun H hw => ?_)
  refine lv_icmp_eq (tgt := 1758) hx hb dL_law_314 (by decide) (fun _ => ?_) (fun cc => absurd rfl cc)
  exact W.widen (k := cells + 40) (n := slots + 4180) (Nat.le_add_right _ _) (Nat.le_add_right _ _) (kk _ _ _ _ _ _ _ _ rfl hw hR1)
set_option maxHeartbeats 4000000 in
set_option maxRecDepth 100000 in
/-- set -/
theorem law_1 {p : Program} {l : Launch} {e : Env} {s : State} {m : MethodId} {below : List Frame} {meth : Method} {c : Code} {b L : Nat} {xs : Nat → Int32} {D : va_G} {cy : Nat → ClassId} {sa va adX adM : Nat → Nat} {a b1 : Bool} {I : qI} {J : qJ} {A : qI} {B : qJ} {H : Heap} {cells slots : Nat} {Q : State → Prop} {ls : Array Slot} {i : Int32} (C : lwC p s m c b L xs D cy sa va) (hi : lwI i L) (hl : lv_has ls 4 [(3, .int i), (2, .ref (adM 0)), (1, .ref (adX 0)), (0, .ref b)]) (hw : lwW s D cy adX adM a b1 I J A B H) (hR : Rel (b2i a, b2i b1) I J A B) (hc : cells + 40 ≤ 600000 ∧ slots + 4180 ≤ 7302250)
    (kk : ∀ (a b1 : Bool) (adM1 : Nat → Nat) (I : qI) (J : qJ) (A : qI) (B : qJ) (H : Heap), adM1 0 = adM 0 → lwW s D cy adX adM1 a b1 I J A B H → Rel (b2i a, b2i b1) I J A B → W p l e room_1 s m #[.ref b] below meth c H [] (cells + 40) (slots + 4180) Q (F0 m 1758 ls [])) : W p l e room_1 s m #[.ref b] below meth c H [] cells slots Q (F0 m 319 ls []) := by
  obtain ⟨⟨hx, hb, hml, hown, hts⟩, ⟨hX, hbl⟩, hK, hE, hM⟩ := C
  obtain ⟨r, I1, J1, A1, B1, e1, e2, hR1⟩ := s_set hR (xs (i + 1).toNatClampNeg) (xs (i + 2).toNatClampNeg) (((((xs (i + 3).toNatClampNeg).toInt64) <<< (((32 : Int32)).toInt64 &&& 63)) ||| (((xs (i + 4).toNatClampNeg).toInt64) &&& (4294967295 : Int64))))
  refine lv_aload_n hx hb dL_law_319 rfl (lv_at hl 2 rfl) ?_
  refine lw_ld (v := 1) hx hb hX hbl hw hl dL_law_320 dL_law_321 dL_law_322 (by decide) dL_law_323 dL_law_324 hi.1 ?_
  refine lw_ld (v := 2) hx hb hX hbl hw hl dL_law_325 dL_law_326 dL_law_327 (by decide) dL_law_328 dL_law_329 hi.2.1 ?_
  refine lw_ld (v := 3) hx hb hX hbl hw hl dL_law_330 dL_law_331 dL_law_332 (by decide) dL_law_333 dL_law_334 hi.2.2.1 ?_
  refine lv_i2l hx hb dL_law_335 rfl ?_
  refine lv_bipush (v := 32) hx hb dL_law_336 (by decide) ?_
  refine lv_lshl hx hb dL_law_338 rfl ?_
  refine lw_ld (v := 4) hx hb hX hbl hw hl dL_law_339 dL_law_340 dL_law_341 (by decide) dL_law_342 dL_law_343 hi.2.2.2.1 ?_
  refine lv_i2l hx hb dL_law_344 rfl ?_
  refine lv_ldc2 (own := RL) (v := (4294967295)) hx hb hown (hts (.constantLong RL 18 (4294967295)) (by decide +kernel)) dL_law_345 ?_
  refine lv_land hx hb dL_law_348 ?_
  refine lv_lor hx hb dL_law_349 ?_
  refine lw_x (va_runV (As := [.int (xs (i + 1).toNatClampNeg), .int (xs (i + 2).toNatClampNeg), .long (((((xs (i + 3).toNatClampNeg).toInt64) <<< (((32 : Int32)).toInt64 &&& 63)) ||| (((xs (i + 4).toNatClampNeg).toInt64) &&& (4294967295 : Int64))))]) (rest := []) ⟨hx, hb, hml, hown, hts⟩ (c_X8_set l (D := D) (ad := adX) (cy := cy) (sa := sa) (va := va) (I := I) (J := J) (xs (i + 1).toNatClampNeg) (xs (i + 2).toNatClampNeg) (((((xs (i + 3).toNatClampNeg).toInt64) <<< (((32 : Int32)).toInt64 &&& 63)) ||| (((xs (i + 4).toNatClampNeg).toInt64) &&& (4294967295 : Int64)))) e1) (cwV 3 hts gL_law_X8_set rfl rfl rfl (by decide +kernel) ⟨Nat.le_of_ble_eq_true rfl, Nat.le_of_ble_eq_true rfl⟩) ⟨qPre_blind _, q_recv hK hw.1.1 oX8 rfl, fun U hU hW => ⟨rfl, lw_preX hK hE hw U hU hW⟩⟩ rfl rfl hl.1 rfl (lv_room (Nat.le_of_ble_eq_true rfl)) dL_law_350 (lw_rm0 hc)) hw (fun H hw => ?_)
  refine lv_aload_n hx hb dL_law_353 rfl (lv_at hl 1 rfl) ?_
  refine lw_ld (v := 1) hx hb hX hbl hw hl dL_law_354 dL_law_355 dL_law_356 (by decide) dL_law_357 dL_law_358 hi.1 ?_
  refine lw_ld (v := 2) hx hb hX hbl hw hl dL_law_359 dL_law_360 dL_law_361 (by decide) dL_law_362 dL_law_363 hi.2.1 ?_
  refine lw_ld (v := 3) hx hb hX hbl hw hl dL_law_364 dL_law_365 dL_law_366 (by decide) dL_law_367 dL_law_368 hi.2.2.1 ?_
  refine lv_i2l hx hb dL_law_369 rfl ?_
  refine lv_bipush (v := 32) hx hb dL_law_370 (by decide) ?_
  refine lv_lshl hx hb dL_law_372 rfl ?_
  refine lw_ld (v := 4) hx hb hX hbl hw hl dL_law_373 dL_law_374 dL_law_375 (by decide) dL_law_376 dL_law_377 hi.2.2.2.1 ?_
  refine lv_i2l hx hb dL_law_378 rfl ?_
  refine lv_ldc2 (own := RL) (v := (4294967295)) hx hb hown (hts (.constantLong RL 18 (4294967295)) (by decide +kernel)) dL_law_379 ?_
  refine lv_land hx hb dL_law_382 ?_
  refine lv_lor hx hb dL_law_383 ?_
  refine lw_m (va_runV (As := [.int (xs (i + 1).toNatClampNeg), .int (xs (i + 2).toNatClampNeg), .long (((((xs (i + 3).toNatClampNeg).toInt64) <<< (((32 : Int32)).toInt64 &&& 63)) ||| (((xs (i + 4).toNatClampNeg).toInt64) &&& (4294967295 : Int64))))]) (rest := [.int r]) ⟨hx, hb, hml, hown, hts⟩ (c_X9_set l (D := D) (ad := adM) (cy := cy) (sa := sa) (va := va) (I := A) (J := B) (S := mS a b1) mS_0 (xs (i + 1).toNatClampNeg) (xs (i + 2).toNatClampNeg) (((((xs (i + 3).toNatClampNeg).toInt64) <<< (((32 : Int32)).toInt64 &&& 63)) ||| (((xs (i + 4).toNatClampNeg).toInt64) &&& (4294967295 : Int64)))) e2) (cwV 3 hts gL_law_X9_set rfl rfl rfl (by decide +kernel) ⟨Nat.le_of_ble_eq_true rfl, Nat.le_of_ble_eq_true rfl⟩) ⟨qPre_blind _, q_recv hK hw.2.1.1 (oX9 mS_0) rfl, fun U hU hW => ⟨rfl, lw_preM hK hE hw U hU hW⟩⟩ rfl rfl hl.1 rfl (lv_room (Nat.le_of_ble_eq_true rfl)) dL_law_384 (lw_rm0 hc)) hw (fun H hw => ?_)
  refine lv_icmp_eq (tgt := 1758) hx hb dL_law_387 (by decide) (fun _ => ?_) (fun cc => absurd rfl cc)
  exact W.widen (k := cells + 40) (n := slots + 4180) (Nat.le_add_right _ _) (Nat.le_add_right _ _) (kk _ _ _ _ _ _ _ _ rfl hw hR1)
set_option maxHeartbeats 4000000 in
set_option maxRecDepth 100000 in
/-- copy -/
theorem law_2 {p : Program} {l : Launch} {e : Env} {s : State} {m : MethodId} {below : List Frame} {meth : Method} {c : Code} {b L : Nat} {xs : Nat → Int32} {D : va_G} {cy : Nat → ClassId} {sa va adX adM : Nat → Nat} {a b1 : Bool} {I : qI} {J : qJ} {A : qI} {B : qJ} {H : Heap} {cells slots : Nat} {Q : State → Prop} {ls : Array Slot} {i : Int32} (C : lwC p s m c b L xs D cy sa va) (hi : lwI i L) (hl : lv_has ls 4 [(3, .int i), (2, .ref (adM 0)), (1, .ref (adX 0)), (0, .ref b)]) (hw : lwW s D cy adX adM a b1 I J A B H) (hR : Rel (b2i a, b2i b1) I J A B) (hc : cells + 40 ≤ 600000 ∧ slots + 4180 ≤ 7302250)
    (kk : ∀ (a b1 : Bool) (adM1 : Nat → Nat) (I : qI) (J : qJ) (A : qI) (B : qJ) (H : Heap), adM1 0 = adM 0 → lwW s D cy adX adM1 a b1 I J A B H → Rel (b2i a, b2i b1) I J A B → W p l e room_1 s m #[.ref b] below meth c H [] (cells + 40) (slots + 4180) Q (F0 m 1758 ls [])) : W p l e room_1 s m #[.ref b] below meth c H [] cells slots Q (F0 m 392 ls []) := by
  obtain ⟨⟨hx, hb, hml, hown, hts⟩, ⟨hX, hbl⟩, hK, hE, hM⟩ := C
  obtain ⟨r, I1, J1, A1, B1, e1, e2, hR1⟩ := s_copy hR (xs (i + 1).toNatClampNeg) (xs (i + 2).toNatClampNeg) (xs (i + 3).toNatClampNeg) (xs (i + 4).toNatClampNeg) (xs (i + 5).toNatClampNeg)
  refine lv_aload_n hx hb dL_law_392 rfl (lv_at hl 2 rfl) ?_
  refine lw_ld (v := 1) hx hb hX hbl hw hl dL_law_393 dL_law_394 dL_law_395 (by decide) dL_law_396 dL_law_397 hi.1 ?_
  refine lw_ld (v := 2) hx hb hX hbl hw hl dL_law_398 dL_law_399 dL_law_400 (by decide) dL_law_401 dL_law_402 hi.2.1 ?_
  refine lw_ld (v := 3) hx hb hX hbl hw hl dL_law_403 dL_law_404 dL_law_405 (by decide) dL_law_406 dL_law_407 hi.2.2.1 ?_
  refine lw_ld (v := 4) hx hb hX hbl hw hl dL_law_408 dL_law_409 dL_law_410 (by decide) dL_law_411 dL_law_412 hi.2.2.2.1 ?_
  refine lw_ld (v := 5) hx hb hX hbl hw hl dL_law_413 dL_law_414 dL_law_415 (by decide) dL_law_416 dL_law_417 hi.2.2.2.2 ?_
  refine lw_x (va_runV (As := [.int (xs (i + 1).toNatClampNeg), .int (xs (i + 2).toNatClampNeg), .int (xs (i + 3).toNatClampNeg), .int (xs (i + 4).toNatClampNeg), .int (xs (i + 5).toNatClampNeg)]) (rest := []) ⟨hx, hb, hml, hown, hts⟩ (c_X8_copy l (D := D) (ad := adX) (cy := cy) (sa := sa) (va := va) (I := I) (J := J) (xs (i + 1).toNatClampNeg) (xs (i + 2).toNatClampNeg) (xs (i + 3).toNatClampNeg) (xs (i + 4).toNatClampNeg) (xs (i + 5).toNatClampNeg) e1) (cwV 5 hts gL_law_X8_copy rfl rfl rfl (by decide +kernel) ⟨Nat.le_of_ble_eq_true rfl, Nat.le_of_ble_eq_true rfl⟩) ⟨qPre_blind _, q_recv hK hw.1.1 oX8 rfl, fun U hU hW => ⟨rfl, lw_preX hK hE hw U hU hW⟩⟩ rfl rfl hl.1 rfl (lv_room (Nat.le_of_ble_eq_true rfl)) dL_law_418 (lw_rm0 hc)) hw (fun H hw => ?_)
  refine lv_aload_n hx hb dL_law_421 rfl (lv_at hl 1 rfl) ?_
  refine lw_ld (v := 1) hx hb hX hbl hw hl dL_law_422 dL_law_423 dL_law_424 (by decide) dL_law_425 dL_law_426 hi.1 ?_
  refine lw_ld (v := 2) hx hb hX hbl hw hl dL_law_427 dL_law_428 dL_law_429 (by decide) dL_law_430 dL_law_431 hi.2.1 ?_
  refine lw_ld (v := 3) hx hb hX hbl hw hl dL_law_432 dL_law_433 dL_law_434 (by decide) dL_law_435 dL_law_436 hi.2.2.1 ?_
  refine lw_ld (v := 4) hx hb hX hbl hw hl dL_law_437 dL_law_438 dL_law_439 (by decide) dL_law_440 dL_law_441 hi.2.2.2.1 ?_
  refine lw_ld (v := 5) hx hb hX hbl hw hl dL_law_442 dL_law_443 dL_law_444 (by decide) dL_law_445 dL_law_446 hi.2.2.2.2 ?_
  refine lw_m (va_runV (As := [.int (xs (i + 1).toNatClampNeg), .int (xs (i + 2).toNatClampNeg), .int (xs (i + 3).toNatClampNeg), .int (xs (i + 4).toNatClampNeg), .int (xs (i + 5).toNatClampNeg)]) (rest := [.int r]) ⟨hx, hb, hml, hown, hts⟩ (c_X9_copy l (D := D) (ad := adM) (cy := cy) (sa := sa) (va := va) (I := A) (J := B) (S := mS a b1) mS_0 (xs (i + 1).toNatClampNeg) (xs (i + 2).toNatClampNeg) (xs (i + 3).toNatClampNeg) (xs (i + 4).toNatClampNeg) (xs (i + 5).toNatClampNeg) e2) (cwV 5 hts gL_law_X9_copy rfl rfl rfl (by decide +kernel) ⟨Nat.le_of_ble_eq_true rfl, Nat.le_of_ble_eq_true rfl⟩) ⟨qPre_blind _, q_recv hK hw.2.1.1 (oX9 mS_0) rfl, fun U hU hW => ⟨rfl, lw_preM hK hE hw U hU hW⟩⟩ rfl rfl hl.1 rfl (lv_room (Nat.le_of_ble_eq_true rfl)) dL_law_447 (lw_rm0 hc)) hw (fun H hw => ?_)
  refine lv_icmp_eq (tgt := 1758) hx hb dL_law_450 (by decide) (fun _ => ?_) (fun cc => absurd rfl cc)
  exact W.widen (k := cells + 40) (n := slots + 4180) (Nat.le_add_right _ _) (Nat.le_add_right _ _) (kk _ _ _ _ _ _ _ _ rfl hw hR1)
set_option maxHeartbeats 4000000 in
set_option maxRecDepth 100000 in
/-- element -/
theorem law_3 {p : Program} {l : Launch} {e : Env} {s : State} {m : MethodId} {below : List Frame} {meth : Method} {c : Code} {b L : Nat} {xs : Nat → Int32} {D : va_G} {cy : Nat → ClassId} {sa va adX adM : Nat → Nat} {a b1 : Bool} {I : qI} {J : qJ} {A : qI} {B : qJ} {H : Heap} {cells slots : Nat} {Q : State → Prop} {ls : Array Slot} {i : Int32} (C : lwC p s m c b L xs D cy sa va) (hi : lwI i L) (hl : lv_has ls 4 [(3, .int i), (2, .ref (adM 0)), (1, .ref (adX 0)), (0, .ref b)]) (hw : lwW s D cy adX adM a b1 I J A B H) (hR : Rel (b2i a, b2i b1) I J A B) (hc : cells + 40 ≤ 600000 ∧ slots + 4180 ≤ 7302250)
    (kk : ∀ (a b1 : Bool) (adM1 : Nat → Nat) (I : qI) (J : qJ) (A : qI) (B : qJ) (H : Heap), adM1 0 = adM 0 → lwW s D cy adX adM1 a b1 I J A B H → Rel (b2i a, b2i b1) I J A B → W p l e room_1 s m #[.ref b] below meth c H [] (cells + 40) (slots + 4180) Q (F0 m 1758 ls [])) : W p l e room_1 s m #[.ref b] below meth c H [] cells slots Q (F0 m 455 ls []) := by
  obtain ⟨⟨hx, hb, hml, hown, hts⟩, ⟨hX, hbl⟩, hK, hE, hM⟩ := C
  obtain ⟨r, e1, e2⟩ := s_element hR (xs (i + 1).toNatClampNeg) (xs (i + 2).toNatClampNeg)
  refine lv_aload_n hx hb dL_law_455 rfl (lv_at hl 2 rfl) ?_
  refine lw_ld (v := 1) hx hb hX hbl hw hl dL_law_456 dL_law_457 dL_law_458 (by decide) dL_law_459 dL_law_460 hi.1 ?_
  refine lw_ld (v := 2) hx hb hX hbl hw hl dL_law_461 dL_law_462 dL_law_463 (by decide) dL_law_464 dL_law_465 hi.2.1 ?_
  refine q_cSl (va_runV (As := [.int (xs (i + 1).toNatClampNeg), .int (xs (i + 2).toNatClampNeg)]) (rest := []) ⟨hx, hb, hml, hown, hts⟩ (c_X8_element l (D := D) (ad := adX) (cy := cy) (sa := sa) (va := va) (I := I) (J := J) (xs (i + 1).toNatClampNeg) (xs (i + 2).toNatClampNeg) e1) (cwV 2 hts gL_law_X8_element rfl rfl rfl (by decide +kernel) ⟨Nat.le_of_ble_eq_true rfl, Nat.le_of_ble_eq_true rfl⟩) ⟨qPre_blind _, q_recv hK hw.1.1 oX8 rfl, fun U hU hW => ⟨rfl, lw_preX hK hE hw U hU hW⟩⟩ rfl rfl hl.1 rfl (lv_room (Nat.le_of_ble_eq_true rfl)) dL_law_466 (lw_rm0 hc)) ?_
  refine lv_aload_n hx hb dL_law_469 rfl (lv_at hl 1 rfl) ?_
  refine lw_ld (v := 1) hx hb hX hbl hw hl dL_law_470 dL_law_471 dL_law_472 (by decide) dL_law_473 dL_law_474 hi.1 ?_
  refine lw_ld (v := 2) hx hb hX hbl hw hl dL_law_475 dL_law_476 dL_law_477 (by decide) dL_law_478 dL_law_479 hi.2.1 ?_
  refine q_cSl (va_runV (As := [.int (xs (i + 1).toNatClampNeg), .int (xs (i + 2).toNatClampNeg)]) (rest := [.long r]) ⟨hx, hb, hml, hown, hts⟩ (c_X9_element l (D := D) (ad := adM) (cy := cy) (sa := sa) (va := va) (I := A) (J := B) (S := mS a b1) mS_0 (xs (i + 1).toNatClampNeg) (xs (i + 2).toNatClampNeg) e2) (cwV 2 hts gL_law_X9_element rfl rfl rfl (by decide +kernel) ⟨Nat.le_of_ble_eq_true rfl, Nat.le_of_ble_eq_true rfl⟩) ⟨qPre_blind _, q_recv hK hw.2.1.1 (oX9 mS_0) rfl, fun U hU hW => ⟨rfl, lw_preM hK hE hw U hU hW⟩⟩ rfl rfl hl.1 rfl (lv_room (Nat.le_of_ble_eq_true rfl)) dL_law_480 (lw_rm0 hc)) ?_
  refine W.lcmp hx hb dL_law_483 ?_
  refine lv_if_eq (tgt := 1758) hx hb dL_law_484 (by decide) (fun _ => ?_) (fun cc => absurd (lg_cmp_self r) cc)
  exact W.widen (k := cells + 40) (n := slots + 4180) (Nat.le_add_right _ _) (Nat.le_add_right _ _) (kk _ _ _ _ _ _ _ _ rfl hw hR)
set_option maxHeartbeats 4000000 in
set_option maxRecDepth 100000 in
/-- holds -/
theorem law_4 {p : Program} {l : Launch} {e : Env} {s : State} {m : MethodId} {below : List Frame} {meth : Method} {c : Code} {b L : Nat} {xs : Nat → Int32} {D : va_G} {cy : Nat → ClassId} {sa va adX adM : Nat → Nat} {a b1 : Bool} {I : qI} {J : qJ} {A : qI} {B : qJ} {H : Heap} {cells slots : Nat} {Q : State → Prop} {ls : Array Slot} {i : Int32} (C : lwC p s m c b L xs D cy sa va) (hi : lwI i L) (hl : lv_has ls 4 [(3, .int i), (2, .ref (adM 0)), (1, .ref (adX 0)), (0, .ref b)]) (hw : lwW s D cy adX adM a b1 I J A B H) (hR : Rel (b2i a, b2i b1) I J A B) (hc : cells + 40 ≤ 600000 ∧ slots + 4180 ≤ 7302250)
    (kk : ∀ (a b1 : Bool) (adM1 : Nat → Nat) (I : qI) (J : qJ) (A : qI) (B : qJ) (H : Heap), adM1 0 = adM 0 → lwW s D cy adX adM1 a b1 I J A B H → Rel (b2i a, b2i b1) I J A B → W p l e room_1 s m #[.ref b] below meth c H [] (cells + 40) (slots + 4180) Q (F0 m 1758 ls [])) : W p l e room_1 s m #[.ref b] below meth c H [] cells slots Q (F0 m 489 ls []) := by
  obtain ⟨⟨hx, hb, hml, hown, hts⟩, ⟨hX, hbl⟩, hK, hE, hM⟩ := C
  obtain ⟨r, e1, e2⟩ := s_holds hR (xs (i + 1).toNatClampNeg)
  refine lv_aload_n hx hb dL_law_489 rfl (lv_at hl 2 rfl) ?_
  refine lw_ld (v := 1) hx hb hX hbl hw hl dL_law_490 dL_law_491 dL_law_492 (by decide) dL_law_493 dL_law_494 hi.1 ?_
  refine q_cSi (va_runV (As := [.int (xs (i + 1).toNatClampNeg)]) (rest := []) ⟨hx, hb, hml, hown, hts⟩ (c_X8_holds l (D := D) (ad := adX) (cy := cy) (sa := sa) (va := va) (I := I) (J := J) (xs (i + 1).toNatClampNeg) e1) (cwV 1 hts gL_law_X8_holds rfl rfl rfl (by decide +kernel) ⟨Nat.le_of_ble_eq_true rfl, Nat.le_of_ble_eq_true rfl⟩) ⟨qPre_blind _, q_recv hK hw.1.1 oX8 rfl, fun U hU hW => ⟨rfl, lw_preX hK hE hw U hU hW⟩⟩ rfl rfl hl.1 rfl (lv_room (Nat.le_of_ble_eq_true rfl)) dL_law_495 (lw_rm0 hc)) ?_
  refine lv_aload_n hx hb dL_law_498 rfl (lv_at hl 1 rfl) ?_
  refine lw_ld (v := 1) hx hb hX hbl hw hl dL_law_499 dL_law_500 dL_law_501 (by decide) dL_law_502 dL_law_503 hi.1 ?_
  refine q_cSi (va_runV (As := [.int (xs (i + 1).toNatClampNeg)]) (rest := [.int r]) ⟨hx, hb, hml, hown, hts⟩ (c_X9_holds l (D := D) (ad := adM) (cy := cy) (sa := sa) (va := va) (I := A) (J := B) (S := mS a b1) mS_0 (xs (i + 1).toNatClampNeg) e2) (cwV 1 hts gL_law_X9_holds rfl rfl rfl (by decide +kernel) ⟨Nat.le_of_ble_eq_true rfl, Nat.le_of_ble_eq_true rfl⟩) ⟨qPre_blind _, q_recv hK hw.2.1.1 (oX9 mS_0) rfl, fun U hU hW => ⟨rfl, lw_preM hK hE hw U hU hW⟩⟩ rfl rfl hl.1 rfl (lv_room (Nat.le_of_ble_eq_true rfl)) dL_law_504 (lw_rm0 hc)) ?_
  refine lv_icmp_eq (tgt := 1758) hx hb dL_law_507 (by decide) (fun _ => ?_) (fun cc => absurd rfl cc)
  exact W.widen (k := cells + 40) (n := slots + 4180) (Nat.le_add_right _ _) (Nat.le_add_right _ _) (kk _ _ _ _ _ _ _ _ rfl hw hR)
set_option maxHeartbeats 4000000 in
set_option maxRecDepth 100000 in
/-- show -/
theorem law_5 {p : Program} {l : Launch} {e : Env} {s : State} {m : MethodId} {below : List Frame} {meth : Method} {c : Code} {b L : Nat} {xs : Nat → Int32} {D : va_G} {cy : Nat → ClassId} {sa va adX adM : Nat → Nat} {a b1 : Bool} {I : qI} {J : qJ} {A : qI} {B : qJ} {H : Heap} {cells slots : Nat} {Q : State → Prop} {ls : Array Slot} {i : Int32} (C : lwC p s m c b L xs D cy sa va) (hi : lwI i L) (hl : lv_has ls 4 [(3, .int i), (2, .ref (adM 0)), (1, .ref (adX 0)), (0, .ref b)]) (hw : lwW s D cy adX adM a b1 I J A B H) (hR : Rel (b2i a, b2i b1) I J A B) (hc : cells + 40 ≤ 600000 ∧ slots + 4180 ≤ 7302250)
    (kk : ∀ (a b1 : Bool) (adM1 : Nat → Nat) (I : qI) (J : qJ) (A : qI) (B : qJ) (H : Heap), adM1 0 = adM 0 → lwW s D cy adX adM1 a b1 I J A B H → Rel (b2i a, b2i b1) I J A B → W p l e room_1 s m #[.ref b] below meth c H [] (cells + 40) (slots + 4180) Q (F0 m 1758 ls [])) : W p l e room_1 s m #[.ref b] below meth c H [] cells slots Q (F0 m 512 ls []) := by
  obtain ⟨⟨hx, hb, hml, hown, hts⟩, ⟨hX, hbl⟩, hK, hE, hM⟩ := C
  obtain ⟨r, I1, A1, e1, e2, hR1⟩ := s_show hR (xs (i + 1).toNatClampNeg) (xs (i + 2).toNatClampNeg)
  refine lv_aload_n hx hb dL_law_512 rfl (lv_at hl 2 rfl) ?_
  refine lw_ld (v := 1) hx hb hX hbl hw hl dL_law_513 dL_law_514 dL_law_515 (by decide) dL_law_516 dL_law_517 hi.1 ?_
  refine lw_ld (v := 2) hx hb hX hbl hw hl dL_law_518 dL_law_519 dL_law_520 (by decide) dL_law_521 dL_law_522 hi.2.1 ?_
  refine lw_x (va_runV (As := [.int (xs (i + 1).toNatClampNeg), .int (xs (i + 2).toNatClampNeg)]) (rest := []) ⟨hx, hb, hml, hown, hts⟩ (c_X8_show l (D := D) (ad := adX) (cy := cy) (sa := sa) (va := va) (I := I) (J := J) (xs (i + 1).toNatClampNeg) (xs (i + 2).toNatClampNeg) e1) (cwV 2 hts gL_law_X8_show rfl rfl rfl (by decide +kernel) ⟨Nat.le_of_ble_eq_true rfl, Nat.le_of_ble_eq_true rfl⟩) ⟨qPre_blind _, q_recv hK hw.1.1 oX8 rfl, fun U hU hW => ⟨rfl, lw_preX hK hE hw U hU hW⟩⟩ rfl rfl hl.1 rfl (lv_room (Nat.le_of_ble_eq_true rfl)) dL_law_523 (lw_rm0 hc)) hw (fun H hw => ?_)
  refine lv_aload_n hx hb dL_law_526 rfl (lv_at hl 1 rfl) ?_
  refine lw_ld (v := 1) hx hb hX hbl hw hl dL_law_527 dL_law_528 dL_law_529 (by decide) dL_law_530 dL_law_531 hi.1 ?_
  refine lw_ld (v := 2) hx hb hX hbl hw hl dL_law_532 dL_law_533 dL_law_534 (by decide) dL_law_535 dL_law_536 hi.2.1 ?_
  refine lw_m (va_runV (As := [.int (xs (i + 1).toNatClampNeg), .int (xs (i + 2).toNatClampNeg)]) (rest := [.int r]) ⟨hx, hb, hml, hown, hts⟩ (c_X9_show l (D := D) (ad := adM) (cy := cy) (sa := sa) (va := va) (I := A) (J := B) (S := mS a b1) mS_0 (xs (i + 1).toNatClampNeg) (xs (i + 2).toNatClampNeg) e2) (cwV 2 hts gL_law_X9_show rfl rfl rfl (by decide +kernel) ⟨Nat.le_of_ble_eq_true rfl, Nat.le_of_ble_eq_true rfl⟩) ⟨qPre_blind _, q_recv hK hw.2.1.1 (oX9 mS_0) rfl, fun U hU hW => ⟨rfl, lw_preM hK hE hw U hU hW⟩⟩ rfl rfl hl.1 rfl (lv_room (Nat.le_of_ble_eq_true rfl)) dL_law_537 (lw_rm0 hc)) hw (fun H hw => ?_)
  refine lv_icmp_eq (tgt := 1758) hx hb dL_law_540 (by decide) (fun _ => ?_) (fun cc => absurd rfl cc)
  exact W.widen (k := cells + 40) (n := slots + 4180) (Nat.le_add_right _ _) (Nat.le_add_right _ _) (kk _ _ _ _ _ _ _ _ rfl hw hR1)
set_option maxHeartbeats 4000000 in
set_option maxRecDepth 100000 in
/-- says -/
theorem law_6 {p : Program} {l : Launch} {e : Env} {s : State} {m : MethodId} {below : List Frame} {meth : Method} {c : Code} {b L : Nat} {xs : Nat → Int32} {D : va_G} {cy : Nat → ClassId} {sa va adX adM : Nat → Nat} {a b1 : Bool} {I : qI} {J : qJ} {A : qI} {B : qJ} {H : Heap} {cells slots : Nat} {Q : State → Prop} {ls : Array Slot} {i : Int32} (C : lwC p s m c b L xs D cy sa va) (hi : lwI i L) (hl : lv_has ls 4 [(3, .int i), (2, .ref (adM 0)), (1, .ref (adX 0)), (0, .ref b)]) (hw : lwW s D cy adX adM a b1 I J A B H) (hR : Rel (b2i a, b2i b1) I J A B) (hc : cells + 40 ≤ 600000 ∧ slots + 4180 ≤ 7302250)
    (kk : ∀ (a b1 : Bool) (adM1 : Nat → Nat) (I : qI) (J : qJ) (A : qI) (B : qJ) (H : Heap), adM1 0 = adM 0 → lwW s D cy adX adM1 a b1 I J A B H → Rel (b2i a, b2i b1) I J A B → W p l e room_1 s m #[.ref b] below meth c H [] (cells + 40) (slots + 4180) Q (F0 m 1758 ls [])) : W p l e room_1 s m #[.ref b] below meth c H [] cells slots Q (F0 m 545 ls []) := by
  obtain ⟨⟨hx, hb, hml, hown, hts⟩, ⟨hX, hbl⟩, hK, hE, hM⟩ := C
  obtain ⟨r, I1, A1, e1, e2, hR1⟩ := s_says hR (xs (i + 1).toNatClampNeg) (xs (i + 2).toNatClampNeg)
  refine lv_aload_n hx hb dL_law_545 rfl (lv_at hl 2 rfl) ?_
  refine lw_ld (v := 1) hx hb hX hbl hw hl dL_law_546 dL_law_547 dL_law_548 (by decide) dL_law_549 dL_law_550 hi.1 ?_
  refine lw_ld (v := 2) hx hb hX hbl hw hl dL_law_551 dL_law_552 dL_law_553 (by decide) dL_law_554 dL_law_555 hi.2.1 ?_
  refine lw_x (va_runV (As := [.int (xs (i + 1).toNatClampNeg), .int (xs (i + 2).toNatClampNeg)]) (rest := []) ⟨hx, hb, hml, hown, hts⟩ (c_X8_says l (D := D) (ad := adX) (cy := cy) (sa := sa) (va := va) (I := I) (J := J) (xs (i + 1).toNatClampNeg) (xs (i + 2).toNatClampNeg) e1) (cwV 2 hts gL_law_X8_says rfl rfl rfl (by decide +kernel) ⟨Nat.le_of_ble_eq_true rfl, Nat.le_of_ble_eq_true rfl⟩) ⟨qPre_blind _, q_recv hK hw.1.1 oX8 rfl, fun U hU hW => ⟨rfl, lw_preX hK hE hw U hU hW⟩⟩ rfl rfl hl.1 rfl (lv_room (Nat.le_of_ble_eq_true rfl)) dL_law_556 (lw_rm0 hc)) hw (fun H hw => ?_)
  refine lv_aload_n hx hb dL_law_559 rfl (lv_at hl 1 rfl) ?_
  refine lw_ld (v := 1) hx hb hX hbl hw hl dL_law_560 dL_law_561 dL_law_562 (by decide) dL_law_563 dL_law_564 hi.1 ?_
  refine lw_ld (v := 2) hx hb hX hbl hw hl dL_law_565 dL_law_566 dL_law_567 (by decide) dL_law_568 dL_law_569 hi.2.1 ?_
  refine lw_m (va_runV (As := [.int (xs (i + 1).toNatClampNeg), .int (xs (i + 2).toNatClampNeg)]) (rest := [.int r]) ⟨hx, hb, hml, hown, hts⟩ (c_X9_says l (D := D) (ad := adM) (cy := cy) (sa := sa) (va := va) (I := A) (J := B) (S := mS a b1) mS_0 (xs (i + 1).toNatClampNeg) (xs (i + 2).toNatClampNeg) e2) (cwV 2 hts gL_law_X9_says rfl rfl rfl (by decide +kernel) ⟨Nat.le_of_ble_eq_true rfl, Nat.le_of_ble_eq_true rfl⟩) ⟨qPre_blind _, q_recv hK hw.2.1.1 (oX9 mS_0) rfl, fun U hU hW => ⟨rfl, lw_preM hK hE hw U hU hW⟩⟩ rfl rfl hl.1 rfl (lv_room (Nat.le_of_ble_eq_true rfl)) dL_law_570 (lw_rm0 hc)) hw (fun H hw => ?_)
  refine lv_icmp_eq (tgt := 1758) hx hb dL_law_573 (by decide) (fun _ => ?_) (fun cc => absurd rfl cc)
  exact W.widen (k := cells + 40) (n := slots + 4180) (Nat.le_add_right _ _) (Nat.le_add_right _ _) (kk _ _ _ _ _ _ _ _ rfl hw hR1)
set_option maxHeartbeats 4000000 in
set_option maxRecDepth 100000 in
/-- party -/
theorem law_7 {p : Program} {l : Launch} {e : Env} {s : State} {m : MethodId} {below : List Frame} {meth : Method} {c : Code} {b L : Nat} {xs : Nat → Int32} {D : va_G} {cy : Nat → ClassId} {sa va adX adM : Nat → Nat} {a b1 : Bool} {I : qI} {J : qJ} {A : qI} {B : qJ} {H : Heap} {cells slots : Nat} {Q : State → Prop} {ls : Array Slot} {i : Int32} (C : lwC p s m c b L xs D cy sa va) (hi : lwI i L) (hl : lv_has ls 4 [(3, .int i), (2, .ref (adM 0)), (1, .ref (adX 0)), (0, .ref b)]) (hw : lwW s D cy adX adM a b1 I J A B H) (hR : Rel (b2i a, b2i b1) I J A B) (hc : cells + 40 ≤ 600000 ∧ slots + 4180 ≤ 7302250)
    (kk : ∀ (a b1 : Bool) (adM1 : Nat → Nat) (I : qI) (J : qJ) (A : qI) (B : qJ) (H : Heap), adM1 0 = adM 0 → lwW s D cy adX adM1 a b1 I J A B H → Rel (b2i a, b2i b1) I J A B → W p l e room_1 s m #[.ref b] below meth c H [] (cells + 40) (slots + 4180) Q (F0 m 1758 ls [])) : W p l e room_1 s m #[.ref b] below meth c H [] cells slots Q (F0 m 578 ls []) := by
  obtain ⟨⟨hx, hb, hml, hown, hts⟩, ⟨hX, hbl⟩, hK, hE, hM⟩ := C
  obtain ⟨r, I1, A1, e1, e2, hR1⟩ := s_party hR (xs (i + 1).toNatClampNeg) (xs (i + 2).toNatClampNeg) (xs (i + 3).toNatClampNeg) (xs (i + 4).toNatClampNeg)
  refine lv_aload_n hx hb dL_law_578 rfl (lv_at hl 2 rfl) ?_
  refine lw_ld (v := 1) hx hb hX hbl hw hl dL_law_579 dL_law_580 dL_law_581 (by decide) dL_law_582 dL_law_583 hi.1 ?_
  refine lw_ld (v := 2) hx hb hX hbl hw hl dL_law_584 dL_law_585 dL_law_586 (by decide) dL_law_587 dL_law_588 hi.2.1 ?_
  refine lw_ld (v := 3) hx hb hX hbl hw hl dL_law_589 dL_law_590 dL_law_591 (by decide) dL_law_592 dL_law_593 hi.2.2.1 ?_
  refine lw_ld (v := 4) hx hb hX hbl hw hl dL_law_594 dL_law_595 dL_law_596 (by decide) dL_law_597 dL_law_598 hi.2.2.2.1 ?_
  refine lw_x (va_runV (As := [.int (xs (i + 1).toNatClampNeg), .int (xs (i + 2).toNatClampNeg), .int (xs (i + 3).toNatClampNeg), .int (xs (i + 4).toNatClampNeg)]) (rest := []) ⟨hx, hb, hml, hown, hts⟩ (c_X8_party l (D := D) (ad := adX) (cy := cy) (sa := sa) (va := va) (I := I) (J := J) (xs (i + 1).toNatClampNeg) (xs (i + 2).toNatClampNeg) (xs (i + 3).toNatClampNeg) (xs (i + 4).toNatClampNeg) e1) (cwV 4 hts gL_law_X8_party rfl rfl rfl (by decide +kernel) ⟨Nat.le_of_ble_eq_true rfl, Nat.le_of_ble_eq_true rfl⟩) ⟨qPre_blind _, q_recv hK hw.1.1 oX8 rfl, fun U hU hW => ⟨rfl, lw_preX hK hE hw U hU hW⟩⟩ rfl rfl hl.1 rfl (lv_room (Nat.le_of_ble_eq_true rfl)) dL_law_599 (lw_rm0 hc)) hw (fun H hw => ?_)
  refine lv_aload_n hx hb dL_law_602 rfl (lv_at hl 1 rfl) ?_
  refine lw_ld (v := 1) hx hb hX hbl hw hl dL_law_603 dL_law_604 dL_law_605 (by decide) dL_law_606 dL_law_607 hi.1 ?_
  refine lw_ld (v := 2) hx hb hX hbl hw hl dL_law_608 dL_law_609 dL_law_610 (by decide) dL_law_611 dL_law_612 hi.2.1 ?_
  refine lw_ld (v := 3) hx hb hX hbl hw hl dL_law_613 dL_law_614 dL_law_615 (by decide) dL_law_616 dL_law_617 hi.2.2.1 ?_
  refine lw_ld (v := 4) hx hb hX hbl hw hl dL_law_618 dL_law_619 dL_law_620 (by decide) dL_law_621 dL_law_622 hi.2.2.2.1 ?_
  refine lw_m (va_runV (As := [.int (xs (i + 1).toNatClampNeg), .int (xs (i + 2).toNatClampNeg), .int (xs (i + 3).toNatClampNeg), .int (xs (i + 4).toNatClampNeg)]) (rest := [.int r]) ⟨hx, hb, hml, hown, hts⟩ (c_X9_party l (D := D) (ad := adM) (cy := cy) (sa := sa) (va := va) (I := A) (J := B) (S := mS a b1) mS_0 (xs (i + 1).toNatClampNeg) (xs (i + 2).toNatClampNeg) (xs (i + 3).toNatClampNeg) (xs (i + 4).toNatClampNeg) e2) (cwV 4 hts gL_law_X9_party rfl rfl rfl (by decide +kernel) ⟨Nat.le_of_ble_eq_true rfl, Nat.le_of_ble_eq_true rfl⟩) ⟨qPre_blind _, q_recv hK hw.2.1.1 (oX9 mS_0) rfl, fun U hU hW => ⟨rfl, lw_preM hK hE hw U hU hW⟩⟩ rfl rfl hl.1 rfl (lv_room (Nat.le_of_ble_eq_true rfl)) dL_law_623 (lw_rm0 hc)) hw (fun H hw => ?_)
  refine lv_icmp_eq (tgt := 1758) hx hb dL_law_626 (by decide) (fun _ => ?_) (fun cc => absurd rfl cc)
  exact W.widen (k := cells + 40) (n := slots + 4180) (Nat.le_add_right _ _) (Nat.le_add_right _ _) (kk _ _ _ _ _ _ _ _ rfl hw hR1)
set_option maxHeartbeats 4000000 in
set_option maxRecDepth 100000 in
/-- give -/
theorem law_8 {p : Program} {l : Launch} {e : Env} {s : State} {m : MethodId} {below : List Frame} {meth : Method} {c : Code} {b L : Nat} {xs : Nat → Int32} {D : va_G} {cy : Nat → ClassId} {sa va adX adM : Nat → Nat} {a b1 : Bool} {I : qI} {J : qJ} {A : qI} {B : qJ} {H : Heap} {cells slots : Nat} {Q : State → Prop} {ls : Array Slot} {i : Int32} (C : lwC p s m c b L xs D cy sa va) (hi : lwI i L) (hl : lv_has ls 4 [(3, .int i), (2, .ref (adM 0)), (1, .ref (adX 0)), (0, .ref b)]) (hw : lwW s D cy adX adM a b1 I J A B H) (hR : Rel (b2i a, b2i b1) I J A B) (hc : cells + 40 ≤ 600000 ∧ slots + 4180 ≤ 7302250)
    (kk : ∀ (a b1 : Bool) (adM1 : Nat → Nat) (I : qI) (J : qJ) (A : qI) (B : qJ) (H : Heap), adM1 0 = adM 0 → lwW s D cy adX adM1 a b1 I J A B H → Rel (b2i a, b2i b1) I J A B → W p l e room_1 s m #[.ref b] below meth c H [] (cells + 40) (slots + 4180) Q (F0 m 1758 ls [])) : W p l e room_1 s m #[.ref b] below meth c H [] cells slots Q (F0 m 631 ls []) := by
  obtain ⟨⟨hx, hb, hml, hown, hts⟩, ⟨hX, hbl⟩, hK, hE, hM⟩ := C
  obtain ⟨r, I1, A1, e1, e2, hR1⟩ := s_give hR (xs (i + 1).toNatClampNeg) (xs (i + 2).toNatClampNeg) (xs (i + 3).toNatClampNeg)
  refine lv_aload_n hx hb dL_law_631 rfl (lv_at hl 2 rfl) ?_
  refine lw_ld (v := 1) hx hb hX hbl hw hl dL_law_632 dL_law_633 dL_law_634 (by decide) dL_law_635 dL_law_636 hi.1 ?_
  refine lw_ld (v := 2) hx hb hX hbl hw hl dL_law_637 dL_law_638 dL_law_639 (by decide) dL_law_640 dL_law_641 hi.2.1 ?_
  refine lw_ld (v := 3) hx hb hX hbl hw hl dL_law_642 dL_law_643 dL_law_644 (by decide) dL_law_645 dL_law_646 hi.2.2.1 ?_
  refine lw_x (va_runV (As := [.int (xs (i + 1).toNatClampNeg), .int (xs (i + 2).toNatClampNeg), .int (xs (i + 3).toNatClampNeg)]) (rest := []) ⟨hx, hb, hml, hown, hts⟩ (c_X8_give l (D := D) (ad := adX) (cy := cy) (sa := sa) (va := va) (I := I) (J := J) (xs (i + 1).toNatClampNeg) (xs (i + 2).toNatClampNeg) (xs (i + 3).toNatClampNeg) e1) (cwV 3 hts gL_law_X8_give rfl rfl rfl (by decide +kernel) ⟨Nat.le_of_ble_eq_true rfl, Nat.le_of_ble_eq_true rfl⟩) ⟨qPre_blind _, q_recv hK hw.1.1 oX8 rfl, fun U hU hW => ⟨rfl, lw_preX hK hE hw U hU hW⟩⟩ rfl rfl hl.1 rfl (lv_room (Nat.le_of_ble_eq_true rfl)) dL_law_647 (lw_rm0 hc)) hw (fun H hw => ?_)
  refine lv_aload_n hx hb dL_law_650 rfl (lv_at hl 1 rfl) ?_
  refine lw_ld (v := 1) hx hb hX hbl hw hl dL_law_651 dL_law_652 dL_law_653 (by decide) dL_law_654 dL_law_655 hi.1 ?_
  refine lw_ld (v := 2) hx hb hX hbl hw hl dL_law_656 dL_law_657 dL_law_658 (by decide) dL_law_659 dL_law_660 hi.2.1 ?_
  refine lw_ld (v := 3) hx hb hX hbl hw hl dL_law_661 dL_law_662 dL_law_663 (by decide) dL_law_664 dL_law_665 hi.2.2.1 ?_
  refine lw_m (va_runV (As := [.int (xs (i + 1).toNatClampNeg), .int (xs (i + 2).toNatClampNeg), .int (xs (i + 3).toNatClampNeg)]) (rest := [.int r]) ⟨hx, hb, hml, hown, hts⟩ (c_X9_give l (D := D) (ad := adM) (cy := cy) (sa := sa) (va := va) (I := A) (J := B) (S := mS a b1) mS_0 (xs (i + 1).toNatClampNeg) (xs (i + 2).toNatClampNeg) (xs (i + 3).toNatClampNeg) e2) (cwV 3 hts gL_law_X9_give rfl rfl rfl (by decide +kernel) ⟨Nat.le_of_ble_eq_true rfl, Nat.le_of_ble_eq_true rfl⟩) ⟨qPre_blind _, q_recv hK hw.2.1.1 (oX9 mS_0) rfl, fun U hU hW => ⟨rfl, lw_preM hK hE hw U hU hW⟩⟩ rfl rfl hl.1 rfl (lv_room (Nat.le_of_ble_eq_true rfl)) dL_law_666 (lw_rm0 hc)) hw (fun H hw => ?_)
  refine lv_icmp_eq (tgt := 1758) hx hb dL_law_669 (by decide) (fun _ => ?_) (fun cc => absurd rfl cc)
  exact W.widen (k := cells + 40) (n := slots + 4180) (Nat.le_add_right _ _) (Nat.le_add_right _ _) (kk _ _ _ _ _ _ _ _ rfl hw hR1)
set_option maxHeartbeats 4000000 in
set_option maxRecDepth 100000 in
/-- bind -/
theorem law_9 {p : Program} {l : Launch} {e : Env} {s : State} {m : MethodId} {below : List Frame} {meth : Method} {c : Code} {b L : Nat} {xs : Nat → Int32} {D : va_G} {cy : Nat → ClassId} {sa va adX adM : Nat → Nat} {a b1 : Bool} {I : qI} {J : qJ} {A : qI} {B : qJ} {H : Heap} {cells slots : Nat} {Q : State → Prop} {ls : Array Slot} {i : Int32} (C : lwC p s m c b L xs D cy sa va) (hi : lwI i L) (hl : lv_has ls 4 [(3, .int i), (2, .ref (adM 0)), (1, .ref (adX 0)), (0, .ref b)]) (hw : lwW s D cy adX adM a b1 I J A B H) (hR : Rel (b2i a, b2i b1) I J A B) (hc : cells + 40 ≤ 600000 ∧ slots + 4180 ≤ 7302250)
    (kk : ∀ (a b1 : Bool) (adM1 : Nat → Nat) (I : qI) (J : qJ) (A : qI) (B : qJ) (H : Heap), adM1 0 = adM 0 → lwW s D cy adX adM1 a b1 I J A B H → Rel (b2i a, b2i b1) I J A B → W p l e room_1 s m #[.ref b] below meth c H [] (cells + 40) (slots + 4180) Q (F0 m 1758 ls [])) : W p l e room_1 s m #[.ref b] below meth c H [] cells slots Q (F0 m 674 ls []) := by
  obtain ⟨⟨hx, hb, hml, hown, hts⟩, ⟨hX, hbl⟩, hK, hE, hM⟩ := C
  obtain ⟨r, I1, A1, e1, e2, hR1⟩ := s_bind hR (xs (i + 1).toNatClampNeg) (xs (i + 2).toNatClampNeg) (xs (i + 3).toNatClampNeg)
  refine lv_aload_n hx hb dL_law_674 rfl (lv_at hl 2 rfl) ?_
  refine lw_ld (v := 1) hx hb hX hbl hw hl dL_law_675 dL_law_676 dL_law_677 (by decide) dL_law_678 dL_law_679 hi.1 ?_
  refine lw_ld (v := 2) hx hb hX hbl hw hl dL_law_680 dL_law_681 dL_law_682 (by decide) dL_law_683 dL_law_684 hi.2.1 ?_
  refine lw_ld (v := 3) hx hb hX hbl hw hl dL_law_685 dL_law_686 dL_law_687 (by decide) dL_law_688 dL_law_689 hi.2.2.1 ?_
  refine lw_x (va_runV (As := [.int (xs (i + 1).toNatClampNeg), .int (xs (i + 2).toNatClampNeg), .int (xs (i + 3).toNatClampNeg)]) (rest := []) ⟨hx, hb, hml, hown, hts⟩ (c_X8_bind l (D := D) (ad := adX) (cy := cy) (sa := sa) (va := va) (I := I) (J := J) (xs (i + 1).toNatClampNeg) (xs (i + 2).toNatClampNeg) (xs (i + 3).toNatClampNeg) e1) (cwV 3 hts gL_law_X8_bind rfl rfl rfl (by decide +kernel) ⟨Nat.le_of_ble_eq_true rfl, Nat.le_of_ble_eq_true rfl⟩) ⟨qPre_blind _, q_recv hK hw.1.1 oX8 rfl, fun U hU hW => ⟨rfl, lw_preX hK hE hw U hU hW⟩⟩ rfl rfl hl.1 rfl (lv_room (Nat.le_of_ble_eq_true rfl)) dL_law_690 (lw_rm0 hc)) hw (fun H hw => ?_)
  refine lv_aload_n hx hb dL_law_693 rfl (lv_at hl 1 rfl) ?_
  refine lw_ld (v := 1) hx hb hX hbl hw hl dL_law_694 dL_law_695 dL_law_696 (by decide) dL_law_697 dL_law_698 hi.1 ?_
  refine lw_ld (v := 2) hx hb hX hbl hw hl dL_law_699 dL_law_700 dL_law_701 (by decide) dL_law_702 dL_law_703 hi.2.1 ?_
  refine lw_ld (v := 3) hx hb hX hbl hw hl dL_law_704 dL_law_705 dL_law_706 (by decide) dL_law_707 dL_law_708 hi.2.2.1 ?_
  refine lw_m (va_runV (As := [.int (xs (i + 1).toNatClampNeg), .int (xs (i + 2).toNatClampNeg), .int (xs (i + 3).toNatClampNeg)]) (rest := [.int r]) ⟨hx, hb, hml, hown, hts⟩ (c_X9_bind l (D := D) (ad := adM) (cy := cy) (sa := sa) (va := va) (I := A) (J := B) (S := mS a b1) mS_0 (xs (i + 1).toNatClampNeg) (xs (i + 2).toNatClampNeg) (xs (i + 3).toNatClampNeg) e2) (cwV 3 hts gL_law_X9_bind rfl rfl rfl (by decide +kernel) ⟨Nat.le_of_ble_eq_true rfl, Nat.le_of_ble_eq_true rfl⟩) ⟨qPre_blind _, q_recv hK hw.2.1.1 (oX9 mS_0) rfl, fun U hU hW => ⟨rfl, lw_preM hK hE hw U hU hW⟩⟩ rfl rfl hl.1 rfl (lv_room (Nat.le_of_ble_eq_true rfl)) dL_law_709 (lw_rm0 hc)) hw (fun H hw => ?_)
  refine lv_icmp_eq (tgt := 1758) hx hb dL_law_712 (by decide) (fun _ => ?_) (fun cc => absurd rfl cc)
  exact W.widen (k := cells + 40) (n := slots + 4180) (Nat.le_add_right _ _) (Nat.le_add_right _ _) (kk _ _ _ _ _ _ _ _ rfl hw hR1)
set_option maxHeartbeats 4000000 in
set_option maxRecDepth 100000 in
/-- tell -/
theorem law_10 {p : Program} {l : Launch} {e : Env} {s : State} {m : MethodId} {below : List Frame} {meth : Method} {c : Code} {b L : Nat} {xs : Nat → Int32} {D : va_G} {cy : Nat → ClassId} {sa va adX adM : Nat → Nat} {a b1 : Bool} {I : qI} {J : qJ} {A : qI} {B : qJ} {H : Heap} {cells slots : Nat} {Q : State → Prop} {ls : Array Slot} {i : Int32} (C : lwC p s m c b L xs D cy sa va) (hi : lwI i L) (hl : lv_has ls 4 [(3, .int i), (2, .ref (adM 0)), (1, .ref (adX 0)), (0, .ref b)]) (hw : lwW s D cy adX adM a b1 I J A B H) (hR : Rel (b2i a, b2i b1) I J A B) (hc : cells + 40 ≤ 600000 ∧ slots + 4180 ≤ 7302250)
    (kk : ∀ (a b1 : Bool) (adM1 : Nat → Nat) (I : qI) (J : qJ) (A : qI) (B : qJ) (H : Heap), adM1 0 = adM 0 → lwW s D cy adX adM1 a b1 I J A B H → Rel (b2i a, b2i b1) I J A B → W p l e room_1 s m #[.ref b] below meth c H [] (cells + 40) (slots + 4180) Q (F0 m 1758 ls [])) : W p l e room_1 s m #[.ref b] below meth c H [] cells slots Q (F0 m 717 ls []) := by
  obtain ⟨⟨hx, hb, hml, hown, hts⟩, ⟨hX, hbl⟩, hK, hE, hM⟩ := C
  obtain ⟨r, I1, A1, e1, e2, hR1⟩ := s_tell hR (xs (i + 1).toNatClampNeg) (xs (i + 2).toNatClampNeg)
  refine lv_aload_n hx hb dL_law_717 rfl (lv_at hl 2 rfl) ?_
  refine lw_ld (v := 1) hx hb hX hbl hw hl dL_law_718 dL_law_719 dL_law_720 (by decide) dL_law_721 dL_law_722 hi.1 ?_
  refine lw_ld (v := 2) hx hb hX hbl hw hl dL_law_723 dL_law_724 dL_law_725 (by decide) dL_law_726 dL_law_727 hi.2.1 ?_
  refine lw_x (va_runV (As := [.int (xs (i + 1).toNatClampNeg), .int (xs (i + 2).toNatClampNeg)]) (rest := []) ⟨hx, hb, hml, hown, hts⟩ (c_X8_tell l (D := D) (ad := adX) (cy := cy) (sa := sa) (va := va) (I := I) (J := J) (xs (i + 1).toNatClampNeg) (xs (i + 2).toNatClampNeg) e1) (cwV 2 hts gL_law_X8_tell rfl rfl rfl (by decide +kernel) ⟨Nat.le_of_ble_eq_true rfl, Nat.le_of_ble_eq_true rfl⟩) ⟨qPre_blind _, q_recv hK hw.1.1 oX8 rfl, fun U hU hW => ⟨rfl, lw_preX hK hE hw U hU hW⟩⟩ rfl rfl hl.1 rfl (lv_room (Nat.le_of_ble_eq_true rfl)) dL_law_728 (lw_rm0 hc)) hw (fun H hw => ?_)
  refine lv_aload_n hx hb dL_law_731 rfl (lv_at hl 1 rfl) ?_
  refine lw_ld (v := 1) hx hb hX hbl hw hl dL_law_732 dL_law_733 dL_law_734 (by decide) dL_law_735 dL_law_736 hi.1 ?_
  refine lw_ld (v := 2) hx hb hX hbl hw hl dL_law_737 dL_law_738 dL_law_739 (by decide) dL_law_740 dL_law_741 hi.2.1 ?_
  refine lw_m (va_runV (As := [.int (xs (i + 1).toNatClampNeg), .int (xs (i + 2).toNatClampNeg)]) (rest := [.int r]) ⟨hx, hb, hml, hown, hts⟩ (c_X9_tell l (D := D) (ad := adM) (cy := cy) (sa := sa) (va := va) (I := A) (J := B) (S := mS a b1) mS_0 (xs (i + 1).toNatClampNeg) (xs (i + 2).toNatClampNeg) e2) (cwV 2 hts gL_law_X9_tell rfl rfl rfl (by decide +kernel) ⟨Nat.le_of_ble_eq_true rfl, Nat.le_of_ble_eq_true rfl⟩) ⟨qPre_blind _, q_recv hK hw.2.1.1 (oX9 mS_0) rfl, fun U hU hW => ⟨rfl, lw_preM hK hE hw U hU hW⟩⟩ rfl rfl hl.1 rfl (lv_room (Nat.le_of_ble_eq_true rfl)) dL_law_742 (lw_rm0 hc)) hw (fun H hw => ?_)
  refine lv_icmp_eq (tgt := 1758) hx hb dL_law_745 (by decide) (fun _ => ?_) (fun cc => absurd rfl cc)
  exact W.widen (k := cells + 40) (n := slots + 4180) (Nat.le_add_right _ _) (Nat.le_add_right _ _) (kk _ _ _ _ _ _ _ _ rfl hw hR1)
set_option maxHeartbeats 4000000 in
set_option maxRecDepth 100000 in
/-- feed -/
theorem law_11 {p : Program} {l : Launch} {e : Env} {s : State} {m : MethodId} {below : List Frame} {meth : Method} {c : Code} {b L : Nat} {xs : Nat → Int32} {D : va_G} {cy : Nat → ClassId} {sa va adX adM : Nat → Nat} {a b1 : Bool} {I : qI} {J : qJ} {A : qI} {B : qJ} {H : Heap} {cells slots : Nat} {Q : State → Prop} {ls : Array Slot} {i : Int32} (C : lwC p s m c b L xs D cy sa va) (hi : lwI i L) (hl : lv_has ls 4 [(3, .int i), (2, .ref (adM 0)), (1, .ref (adX 0)), (0, .ref b)]) (hw : lwW s D cy adX adM a b1 I J A B H) (hR : Rel (b2i a, b2i b1) I J A B) (hc : cells + 40 ≤ 600000 ∧ slots + 4180 ≤ 7302250)
    (kk : ∀ (a b1 : Bool) (adM1 : Nat → Nat) (I : qI) (J : qJ) (A : qI) (B : qJ) (H : Heap), adM1 0 = adM 0 → lwW s D cy adX adM1 a b1 I J A B H → Rel (b2i a, b2i b1) I J A B → W p l e room_1 s m #[.ref b] below meth c H [] (cells + 40) (slots + 4180) Q (F0 m 1758 ls [])) : W p l e room_1 s m #[.ref b] below meth c H [] cells slots Q (F0 m 750 ls []) := by
  obtain ⟨⟨hx, hb, hml, hown, hts⟩, ⟨hX, hbl⟩, hK, hE, hM⟩ := C
  obtain ⟨r, I1, A1, e1, e2, hR1⟩ := s_feed hR (xs (i + 1).toNatClampNeg)
  refine lv_aload_n hx hb dL_law_750 rfl (lv_at hl 2 rfl) ?_
  refine lw_ld (v := 1) hx hb hX hbl hw hl dL_law_751 dL_law_752 dL_law_753 (by decide) dL_law_754 dL_law_755 hi.1 ?_
  refine lw_x (va_runV (As := [.int (xs (i + 1).toNatClampNeg)]) (rest := []) ⟨hx, hb, hml, hown, hts⟩ (c_X8_feed l (D := D) (ad := adX) (cy := cy) (sa := sa) (va := va) (I := I) (J := J) (xs (i + 1).toNatClampNeg) e1) (cwV 1 hts gL_law_X8_feed rfl rfl rfl (by decide +kernel) ⟨Nat.le_of_ble_eq_true rfl, Nat.le_of_ble_eq_true rfl⟩) ⟨qPre_blind _, q_recv hK hw.1.1 oX8 rfl, fun U hU hW => ⟨rfl, lw_preX hK hE hw U hU hW⟩⟩ rfl rfl hl.1 rfl (lv_room (Nat.le_of_ble_eq_true rfl)) dL_law_756 (lw_rm0 hc)) hw (fun H hw => ?_)
  refine lv_aload_n hx hb dL_law_759 rfl (lv_at hl 1 rfl) ?_
  refine lw_ld (v := 1) hx hb hX hbl hw hl dL_law_760 dL_law_761 dL_law_762 (by decide) dL_law_763 dL_law_764 hi.1 ?_
  refine lw_m (va_runV (As := [.int (xs (i + 1).toNatClampNeg)]) (rest := [.int r]) ⟨hx, hb, hml, hown, hts⟩ (c_X9_feed l (D := D) (ad := adM) (cy := cy) (sa := sa) (va := va) (I := A) (J := B) (S := mS a b1) mS_0 (xs (i + 1).toNatClampNeg) e2) (cwV 1 hts gL_law_X9_feed rfl rfl rfl (by decide +kernel) ⟨Nat.le_of_ble_eq_true rfl, Nat.le_of_ble_eq_true rfl⟩) ⟨qPre_blind _, q_recv hK hw.2.1.1 (oX9 mS_0) rfl, fun U hU hW => ⟨rfl, lw_preM hK hE hw U hU hW⟩⟩ rfl rfl hl.1 rfl (lv_room (Nat.le_of_ble_eq_true rfl)) dL_law_765 (lw_rm0 hc)) hw (fun H hw => ?_)
  refine lv_icmp_eq (tgt := 1758) hx hb dL_law_768 (by decide) (fun _ => ?_) (fun cc => absurd rfl cc)
  exact W.widen (k := cells + 40) (n := slots + 4180) (Nat.le_add_right _ _) (Nat.le_add_right _ _) (kk _ _ _ _ _ _ _ _ rfl hw hR1)
set_option maxHeartbeats 4000000 in
set_option maxRecDepth 100000 in
/-- wipe -/
theorem law_12 {p : Program} {l : Launch} {e : Env} {s : State} {m : MethodId} {below : List Frame} {meth : Method} {c : Code} {b L : Nat} {xs : Nat → Int32} {D : va_G} {cy : Nat → ClassId} {sa va adX adM : Nat → Nat} {a b1 : Bool} {I : qI} {J : qJ} {A : qI} {B : qJ} {H : Heap} {cells slots : Nat} {Q : State → Prop} {ls : Array Slot} {i : Int32} (C : lwC p s m c b L xs D cy sa va) (hi : lwI i L) (hl : lv_has ls 4 [(3, .int i), (2, .ref (adM 0)), (1, .ref (adX 0)), (0, .ref b)]) (hw : lwW s D cy adX adM a b1 I J A B H) (hR : Rel (b2i a, b2i b1) I J A B) (hc : cells + 40 ≤ 600000 ∧ slots + 4180 ≤ 7302250)
    (kk : ∀ (a b1 : Bool) (adM1 : Nat → Nat) (I : qI) (J : qJ) (A : qI) (B : qJ) (H : Heap), adM1 0 = adM 0 → lwW s D cy adX adM1 a b1 I J A B H → Rel (b2i a, b2i b1) I J A B → W p l e room_1 s m #[.ref b] below meth c H [] (cells + 40) (slots + 4180) Q (F0 m 1758 ls [])) : W p l e room_1 s m #[.ref b] below meth c H [] cells slots Q (F0 m 773 ls []) := by
  obtain ⟨⟨hx, hb, hml, hown, hts⟩, ⟨hX, hbl⟩, hK, hE, hM⟩ := C
  obtain ⟨r, I1, A1, e1, e2, hR1⟩ := s_wipe hR 
  refine lv_aload_n hx hb dL_law_773 rfl (lv_at hl 2 rfl) ?_
  refine lw_x (va_runV (As := []) (rest := []) ⟨hx, hb, hml, hown, hts⟩ (c_X8_wipe l (D := D) (ad := adX) (cy := cy) (sa := sa) (va := va) (I := I) (J := J)  e1) (cwV 0 hts gL_law_X8_wipe rfl rfl rfl (by decide +kernel) ⟨Nat.le_of_ble_eq_true rfl, Nat.le_of_ble_eq_true rfl⟩) ⟨qPre_blind _, q_recv hK hw.1.1 oX8 rfl, fun U hU hW => ⟨rfl, lw_preX hK hE hw U hU hW⟩⟩ rfl rfl hl.1 rfl (lv_room (Nat.le_of_ble_eq_true rfl)) dL_law_774 (lw_rm0 hc)) hw (fun H hw => ?_)
  refine lv_aload_n hx hb dL_law_777 rfl (lv_at hl 1 rfl) ?_
  refine lw_m (va_runV (As := []) (rest := [.int r]) ⟨hx, hb, hml, hown, hts⟩ (c_X9_wipe l (D := D) (ad := adM) (cy := cy) (sa := sa) (va := va) (I := A) (J := B) (S := mS a b1) mS_0  e2) (cwV 0 hts gL_law_X9_wipe rfl rfl rfl (by decide +kernel) ⟨Nat.le_of_ble_eq_true rfl, Nat.le_of_ble_eq_true rfl⟩) ⟨qPre_blind _, q_recv hK hw.2.1.1 (oX9 mS_0) rfl, fun U hU hW => ⟨rfl, lw_preM hK hE hw U hU hW⟩⟩ rfl rfl hl.1 rfl (lv_room (Nat.le_of_ble_eq_true rfl)) dL_law_778 (lw_rm0 hc)) hw (fun H hw => ?_)
  refine lv_icmp_eq (tgt := 1758) hx hb dL_law_781 (by decide) (fun _ => ?_) (fun cc => absurd rfl cc)
  exact W.widen (k := cells + 40) (n := slots + 4180) (Nat.le_add_right _ _) (Nat.le_add_right _ _) (kk _ _ _ _ _ _ _ _ rfl hw hR1)
set_option maxHeartbeats 4000000 in
set_option maxRecDepth 100000 in
/-- bank -/
theorem law_13 {p : Program} {l : Launch} {e : Env} {s : State} {m : MethodId} {below : List Frame} {meth : Method} {c : Code} {b L : Nat} {xs : Nat → Int32} {D : va_G} {cy : Nat → ClassId} {sa va adX adM : Nat → Nat} {a b1 : Bool} {I : qI} {J : qJ} {A : qI} {B : qJ} {H : Heap} {cells slots : Nat} {Q : State → Prop} {ls : Array Slot} {i : Int32} (C : lwC p s m c b L xs D cy sa va) (hi : lwI i L) (hl : lv_has ls 4 [(3, .int i), (2, .ref (adM 0)), (1, .ref (adX 0)), (0, .ref b)]) (hw : lwW s D cy adX adM a b1 I J A B H) (hR : Rel (b2i a, b2i b1) I J A B) (hc : cells + 40 ≤ 600000 ∧ slots + 4180 ≤ 7302250)
    (kk : ∀ (a b1 : Bool) (adM1 : Nat → Nat) (I : qI) (J : qJ) (A : qI) (B : qJ) (H : Heap), adM1 0 = adM 0 → lwW s D cy adX adM1 a b1 I J A B H → Rel (b2i a, b2i b1) I J A B → W p l e room_1 s m #[.ref b] below meth c H [] (cells + 40) (slots + 4180) Q (F0 m 1758 ls [])) : W p l e room_1 s m #[.ref b] below meth c H [] cells slots Q (F0 m 786 ls []) := by
  obtain ⟨⟨hx, hb, hml, hown, hts⟩, ⟨hX, hbl⟩, hK, hE, hM⟩ := C
  obtain ⟨r, I1, A1, e1, e2, hR1⟩ := s_bankA hR
  refine lv_aload_n hx hb dL_law_786 rfl (lv_at hl 2 rfl) ?_
  refine lw_x (va_runV (As := []) (rest := []) ⟨hx, hb, hml, hown, hts⟩ (c_X8_bank l (D := D) (ad := adX) (cy := cy) (sa := sa) (va := va) (I := I) (J := J)  e1) (cwV 0 hts gL_law_X8_bank rfl rfl rfl (by decide +kernel) ⟨Nat.le_of_ble_eq_true rfl, Nat.le_of_ble_eq_true rfl⟩) ⟨qPre_blind _, q_recv hK hw.1.1 oX8 rfl, fun U hU hW => ⟨rfl, lw_preX hK hE hw U hU hW⟩⟩ rfl rfl hl.1 rfl (lv_room (Nat.le_of_ble_eq_true rfl)) dL_law_787 (lw_rm0 hc)) hw (fun H hw => ?_)
  refine lv_aload_n hx hb dL_law_790 rfl (lv_at hl 1 rfl) ?_
  refine lw_n (va_runV (As := []) (rest := [.int r]) ⟨hx, hb, hml, hown, hts⟩ (c_X9_bank l (D := D) (ad := adM) (cy := cy) (sa := sa) (va := va) (I := A) (J := B) a b1 H.size hR.f27 (fun z => hR.f8027) e2) (cwV 0 hts gL_law_X9_bank rfl rfl rfl (by decide +kernel) ⟨Nat.le_of_ble_eq_true rfl, Nat.le_of_ble_eq_true rfl⟩) ⟨mPre_blind _, q_recv hK hw.2.1.1 (oX9 mS_0) rfl, fun U hU hW => ⟨rfl, lw_preN hK hE hM hw U hU hW⟩⟩ rfl rfl hl.1 rfl (lv_room (Nat.le_of_ble_eq_true rfl)) dL_law_791 (lw_rm1 hc)) hw (fun H ad1 h01 hw => ?_)
  refine lv_icmp_eq (tgt := 1758) hx hb dL_law_794 (by decide) (fun _ => ?_) (fun cc => absurd rfl cc)
  exact kk _ _ _ _ _ _ _ _ h01 hw hR1
set_option maxHeartbeats 4000000 in
set_option maxRecDepth 100000 in
/-- partyOf -/
theorem law_14 {p : Program} {l : Launch} {e : Env} {s : State} {m : MethodId} {below : List Frame} {meth : Method} {c : Code} {b L : Nat} {xs : Nat → Int32} {D : va_G} {cy : Nat → ClassId} {sa va adX adM : Nat → Nat} {a b1 : Bool} {I : qI} {J : qJ} {A : qI} {B : qJ} {H : Heap} {cells slots : Nat} {Q : State → Prop} {ls : Array Slot} {i : Int32} (C : lwC p s m c b L xs D cy sa va) (hi : lwI i L) (hl : lv_has ls 4 [(3, .int i), (2, .ref (adM 0)), (1, .ref (adX 0)), (0, .ref b)]) (hw : lwW s D cy adX adM a b1 I J A B H) (hR : Rel (b2i a, b2i b1) I J A B) (hc : cells + 40 ≤ 600000 ∧ slots + 4180 ≤ 7302250)
    (kk : ∀ (a b1 : Bool) (adM1 : Nat → Nat) (I : qI) (J : qJ) (A : qI) (B : qJ) (H : Heap), adM1 0 = adM 0 → lwW s D cy adX adM1 a b1 I J A B H → Rel (b2i a, b2i b1) I J A B → W p l e room_1 s m #[.ref b] below meth c H [] (cells + 40) (slots + 4180) Q (F0 m 1758 ls [])) : W p l e room_1 s m #[.ref b] below meth c H [] cells slots Q (F0 m 799 ls []) := by
  obtain ⟨⟨hx, hb, hml, hown, hts⟩, ⟨hX, hbl⟩, hK, hE, hM⟩ := C
  obtain ⟨r, I1, A1, e1, e2, hR1⟩ := s_partyOf hR (xs (i + 1).toNatClampNeg) (xs (i + 2).toNatClampNeg)
  refine lv_aload_n hx hb dL_law_799 rfl (lv_at hl 2 rfl) ?_
  refine lw_ld (v := 1) hx hb hX hbl hw hl dL_law_800 dL_law_801 dL_law_802 (by decide) dL_law_803 dL_law_804 hi.1 ?_
  refine lw_ld (v := 2) hx hb hX hbl hw hl dL_law_805 dL_law_806 dL_law_807 (by decide) dL_law_808 dL_law_809 hi.2.1 ?_
  refine lw_x (va_runV (As := [.int (xs (i + 1).toNatClampNeg), .int (xs (i + 2).toNatClampNeg)]) (rest := []) ⟨hx, hb, hml, hown, hts⟩ (c_X8_partyOf l (D := D) (ad := adX) (cy := cy) (sa := sa) (va := va) (I := I) (J := J) (xs (i + 1).toNatClampNeg) (xs (i + 2).toNatClampNeg) e1) (cwV 2 hts gL_law_X8_partyOf rfl rfl rfl (by decide +kernel) ⟨Nat.le_of_ble_eq_true rfl, Nat.le_of_ble_eq_true rfl⟩) ⟨qPre_blind _, q_recv hK hw.1.1 oX8 rfl, fun U hU hW => ⟨rfl, lw_preX hK hE hw U hU hW⟩⟩ rfl rfl hl.1 rfl (lv_room (Nat.le_of_ble_eq_true rfl)) dL_law_810 (lw_rm0 hc)) hw (fun H hw => ?_)
  refine lv_aload_n hx hb dL_law_813 rfl (lv_at hl 1 rfl) ?_
  refine lw_ld (v := 1) hx hb hX hbl hw hl dL_law_814 dL_law_815 dL_law_816 (by decide) dL_law_817 dL_law_818 hi.1 ?_
  refine lw_ld (v := 2) hx hb hX hbl hw hl dL_law_819 dL_law_820 dL_law_821 (by decide) dL_law_822 dL_law_823 hi.2.1 ?_
  refine lw_m (va_runV (As := [.int (xs (i + 1).toNatClampNeg), .int (xs (i + 2).toNatClampNeg)]) (rest := [.int r]) ⟨hx, hb, hml, hown, hts⟩ (c_X9_partyOf l (D := D) (ad := adM) (cy := cy) (sa := sa) (va := va) (I := A) (J := B) (S := mS a b1) mS_0 (xs (i + 1).toNatClampNeg) (xs (i + 2).toNatClampNeg) e2) (cwV 2 hts gL_law_X9_partyOf rfl rfl rfl (by decide +kernel) ⟨Nat.le_of_ble_eq_true rfl, Nat.le_of_ble_eq_true rfl⟩) ⟨qPre_blind _, q_recv hK hw.2.1.1 (oX9 mS_0) rfl, fun U hU hW => ⟨rfl, lw_preM hK hE hw U hU hW⟩⟩ rfl rfl hl.1 rfl (lv_room (Nat.le_of_ble_eq_true rfl)) dL_law_824 (lw_rm0 hc)) hw (fun H hw => ?_)
  refine lv_icmp_eq (tgt := 1758) hx hb dL_law_827 (by decide) (fun _ => ?_) (fun cc => absurd rfl cc)
  exact W.widen (k := cells + 40) (n := slots + 4180) (Nat.le_add_right _ _) (Nat.le_add_right _ _) (kk _ _ _ _ _ _ _ _ rfl hw hR1)
set_option maxHeartbeats 4000000 in
set_option maxRecDepth 100000 in
/-- heads -/
theorem law_15 {p : Program} {l : Launch} {e : Env} {s : State} {m : MethodId} {below : List Frame} {meth : Method} {c : Code} {b L : Nat} {xs : Nat → Int32} {D : va_G} {cy : Nat → ClassId} {sa va adX adM : Nat → Nat} {a b1 : Bool} {I : qI} {J : qJ} {A : qI} {B : qJ} {H : Heap} {cells slots : Nat} {Q : State → Prop} {ls : Array Slot} {i : Int32} (C : lwC p s m c b L xs D cy sa va) (hi : lwI i L) (hl : lv_has ls 4 [(3, .int i), (2, .ref (adM 0)), (1, .ref (adX 0)), (0, .ref b)]) (hw : lwW s D cy adX adM a b1 I J A B H) (hR : Rel (b2i a, b2i b1) I J A B) (hc : cells + 40 ≤ 600000 ∧ slots + 4180 ≤ 7302250)
    (kk : ∀ (a b1 : Bool) (adM1 : Nat → Nat) (I : qI) (J : qJ) (A : qI) (B : qJ) (H : Heap), adM1 0 = adM 0 → lwW s D cy adX adM1 a b1 I J A B H → Rel (b2i a, b2i b1) I J A B → W p l e room_1 s m #[.ref b] below meth c H [] (cells + 40) (slots + 4180) Q (F0 m 1758 ls [])) : W p l e room_1 s m #[.ref b] below meth c H [] cells slots Q (F0 m 832 ls []) := by
  obtain ⟨⟨hx, hb, hml, hown, hts⟩, ⟨hX, hbl⟩, hK, hE, hM⟩ := C
  obtain ⟨r, I1, A1, e1, e2, hR1⟩ := s_heads hR (xs (i + 1).toNatClampNeg)
  refine lv_aload_n hx hb dL_law_832 rfl (lv_at hl 2 rfl) ?_
  refine lw_ld (v := 1) hx hb hX hbl hw hl dL_law_833 dL_law_834 dL_law_835 (by decide) dL_law_836 dL_law_837 hi.1 ?_
  refine lw_x (va_runV (As := [.int (xs (i + 1).toNatClampNeg)]) (rest := []) ⟨hx, hb, hml, hown, hts⟩ (c_X8_heads l (D := D) (ad := adX) (cy := cy) (sa := sa) (va := va) (I := I) (J := J) (xs (i + 1).toNatClampNeg) e1) (cwV 1 hts gL_law_X8_heads rfl rfl rfl (by decide +kernel) ⟨Nat.le_of_ble_eq_true rfl, Nat.le_of_ble_eq_true rfl⟩) ⟨qPre_blind _, q_recv hK hw.1.1 oX8 rfl, fun U hU hW => ⟨rfl, lw_preX hK hE hw U hU hW⟩⟩ rfl rfl hl.1 rfl (lv_room (Nat.le_of_ble_eq_true rfl)) dL_law_838 (lw_rm0 hc)) hw (fun H hw => ?_)
  refine lv_aload_n hx hb dL_law_841 rfl (lv_at hl 1 rfl) ?_
  refine lw_ld (v := 1) hx hb hX hbl hw hl dL_law_842 dL_law_843 dL_law_844 (by decide) dL_law_845 dL_law_846 hi.1 ?_
  refine lw_m (va_runV (As := [.int (xs (i + 1).toNatClampNeg)]) (rest := [.int r]) ⟨hx, hb, hml, hown, hts⟩ (c_X9_heads l (D := D) (ad := adM) (cy := cy) (sa := sa) (va := va) (I := A) (J := B) (S := mS a b1) mS_0 (xs (i + 1).toNatClampNeg) e2) (cwV 1 hts gL_law_X9_heads rfl rfl rfl (by decide +kernel) ⟨Nat.le_of_ble_eq_true rfl, Nat.le_of_ble_eq_true rfl⟩) ⟨qPre_blind _, q_recv hK hw.2.1.1 (oX9 mS_0) rfl, fun U hU hW => ⟨rfl, lw_preM hK hE hw U hU hW⟩⟩ rfl rfl hl.1 rfl (lv_room (Nat.le_of_ble_eq_true rfl)) dL_law_847 (lw_rm0 hc)) hw (fun H hw => ?_)
  refine lv_icmp_eq (tgt := 1758) hx hb dL_law_850 (by decide) (fun _ => ?_) (fun cc => absurd rfl cc)
  exact W.widen (k := cells + 40) (n := slots + 4180) (Nat.le_add_right _ _) (Nat.le_add_right _ _) (kk _ _ _ _ _ _ _ _ rfl hw hR1)
set_option maxHeartbeats 4000000 in
set_option maxRecDepth 100000 in
/-- goes -/
theorem law_16 {p : Program} {l : Launch} {e : Env} {s : State} {m : MethodId} {below : List Frame} {meth : Method} {c : Code} {b L : Nat} {xs : Nat → Int32} {D : va_G} {cy : Nat → ClassId} {sa va adX adM : Nat → Nat} {a b1 : Bool} {I : qI} {J : qJ} {A : qI} {B : qJ} {H : Heap} {cells slots : Nat} {Q : State → Prop} {ls : Array Slot} {i : Int32} (C : lwC p s m c b L xs D cy sa va) (hi : lwI i L) (hl : lv_has ls 4 [(3, .int i), (2, .ref (adM 0)), (1, .ref (adX 0)), (0, .ref b)]) (hw : lwW s D cy adX adM a b1 I J A B H) (hR : Rel (b2i a, b2i b1) I J A B) (hc : cells + 40 ≤ 600000 ∧ slots + 4180 ≤ 7302250)
    (kk : ∀ (a b1 : Bool) (adM1 : Nat → Nat) (I : qI) (J : qJ) (A : qI) (B : qJ) (H : Heap), adM1 0 = adM 0 → lwW s D cy adX adM1 a b1 I J A B H → Rel (b2i a, b2i b1) I J A B → W p l e room_1 s m #[.ref b] below meth c H [] (cells + 40) (slots + 4180) Q (F0 m 1758 ls [])) : W p l e room_1 s m #[.ref b] below meth c H [] cells slots Q (F0 m 855 ls []) := by
  obtain ⟨⟨hx, hb, hml, hown, hts⟩, ⟨hX, hbl⟩, hK, hE, hM⟩ := C
  obtain ⟨r, I1, A1, e1, e2, hR1⟩ := s_goes hR (xs (i + 1).toNatClampNeg)
  refine lv_aload_n hx hb dL_law_855 rfl (lv_at hl 2 rfl) ?_
  refine lw_ld (v := 1) hx hb hX hbl hw hl dL_law_856 dL_law_857 dL_law_858 (by decide) dL_law_859 dL_law_860 hi.1 ?_
  refine lw_x (va_runV (As := [.int (xs (i + 1).toNatClampNeg)]) (rest := []) ⟨hx, hb, hml, hown, hts⟩ (c_X8_goes l (D := D) (ad := adX) (cy := cy) (sa := sa) (va := va) (I := I) (J := J) (xs (i + 1).toNatClampNeg) e1) (cwV 1 hts gL_law_X8_goes rfl rfl rfl (by decide +kernel) ⟨Nat.le_of_ble_eq_true rfl, Nat.le_of_ble_eq_true rfl⟩) ⟨qPre_blind _, q_recv hK hw.1.1 oX8 rfl, fun U hU hW => ⟨rfl, lw_preX hK hE hw U hU hW⟩⟩ rfl rfl hl.1 rfl (lv_room (Nat.le_of_ble_eq_true rfl)) dL_law_861 (lw_rm0 hc)) hw (fun H hw => ?_)
  refine lv_aload_n hx hb dL_law_864 rfl (lv_at hl 1 rfl) ?_
  refine lw_ld (v := 1) hx hb hX hbl hw hl dL_law_865 dL_law_866 dL_law_867 (by decide) dL_law_868 dL_law_869 hi.1 ?_
  refine lw_m (va_runV (As := [.int (xs (i + 1).toNatClampNeg)]) (rest := [.int r]) ⟨hx, hb, hml, hown, hts⟩ (c_X9_goes l (D := D) (ad := adM) (cy := cy) (sa := sa) (va := va) (I := A) (J := B) (S := mS a b1) mS_0 (xs (i + 1).toNatClampNeg) e2) (cwV 1 hts gL_law_X9_goes rfl rfl rfl (by decide +kernel) ⟨Nat.le_of_ble_eq_true rfl, Nat.le_of_ble_eq_true rfl⟩) ⟨qPre_blind _, q_recv hK hw.2.1.1 (oX9 mS_0) rfl, fun U hU hW => ⟨rfl, lw_preM hK hE hw U hU hW⟩⟩ rfl rfl hl.1 rfl (lv_room (Nat.le_of_ble_eq_true rfl)) dL_law_870 (lw_rm0 hc)) hw (fun H hw => ?_)
  refine lv_icmp_eq (tgt := 1758) hx hb dL_law_873 (by decide) (fun _ => ?_) (fun cc => absurd rfl cc)
  exact W.widen (k := cells + 40) (n := slots + 4180) (Nat.le_add_right _ _) (Nat.le_add_right _ _) (kk _ _ _ _ _ _ _ _ rfl hw hR1)
set_option maxHeartbeats 4000000 in
set_option maxRecDepth 100000 in
/-- next -/
theorem law_17 {p : Program} {l : Launch} {e : Env} {s : State} {m : MethodId} {below : List Frame} {meth : Method} {c : Code} {b L : Nat} {xs : Nat → Int32} {D : va_G} {cy : Nat → ClassId} {sa va adX adM : Nat → Nat} {a b1 : Bool} {I : qI} {J : qJ} {A : qI} {B : qJ} {H : Heap} {cells slots : Nat} {Q : State → Prop} {ls : Array Slot} {i : Int32} (C : lwC p s m c b L xs D cy sa va) (hi : lwI i L) (hl : lv_has ls 4 [(3, .int i), (2, .ref (adM 0)), (1, .ref (adX 0)), (0, .ref b)]) (hw : lwW s D cy adX adM a b1 I J A B H) (hR : Rel (b2i a, b2i b1) I J A B) (hc : cells + 40 ≤ 600000 ∧ slots + 4180 ≤ 7302250)
    (kk : ∀ (a b1 : Bool) (adM1 : Nat → Nat) (I : qI) (J : qJ) (A : qI) (B : qJ) (H : Heap), adM1 0 = adM 0 → lwW s D cy adX adM1 a b1 I J A B H → Rel (b2i a, b2i b1) I J A B → W p l e room_1 s m #[.ref b] below meth c H [] (cells + 40) (slots + 4180) Q (F0 m 1758 ls [])) : W p l e room_1 s m #[.ref b] below meth c H [] cells slots Q (F0 m 878 ls []) := by
  obtain ⟨⟨hx, hb, hml, hown, hts⟩, ⟨hX, hbl⟩, hK, hE, hM⟩ := C
  obtain ⟨r, I1, A1, e1, e2, hR1⟩ := s_next hR (xs (i + 1).toNatClampNeg)
  refine lv_aload_n hx hb dL_law_878 rfl (lv_at hl 2 rfl) ?_
  refine lw_ld (v := 1) hx hb hX hbl hw hl dL_law_879 dL_law_880 dL_law_881 (by decide) dL_law_882 dL_law_883 hi.1 ?_
  refine lw_x (va_runV (As := [.int (xs (i + 1).toNatClampNeg)]) (rest := []) ⟨hx, hb, hml, hown, hts⟩ (c_X8_next l (D := D) (ad := adX) (cy := cy) (sa := sa) (va := va) (I := I) (J := J) (xs (i + 1).toNatClampNeg) e1) (cwV 1 hts gL_law_X8_next rfl rfl rfl (by decide +kernel) ⟨Nat.le_of_ble_eq_true rfl, Nat.le_of_ble_eq_true rfl⟩) ⟨qPre_blind _, q_recv hK hw.1.1 oX8 rfl, fun U hU hW => ⟨rfl, lw_preX hK hE hw U hU hW⟩⟩ rfl rfl hl.1 rfl (lv_room (Nat.le_of_ble_eq_true rfl)) dL_law_884 (lw_rm0 hc)) hw (fun H hw => ?_)
  refine lv_aload_n hx hb dL_law_887 rfl (lv_at hl 1 rfl) ?_
  refine lw_ld (v := 1) hx hb hX hbl hw hl dL_law_888 dL_law_889 dL_law_890 (by decide) dL_law_891 dL_law_892 hi.1 ?_
  refine lw_m (va_runV (As := [.int (xs (i + 1).toNatClampNeg)]) (rest := [.int r]) ⟨hx, hb, hml, hown, hts⟩ (c_X9_next l (D := D) (ad := adM) (cy := cy) (sa := sa) (va := va) (I := A) (J := B) (S := mS a b1) mS_0 (xs (i + 1).toNatClampNeg) e2) (cwV 1 hts gL_law_X9_next rfl rfl rfl (by decide +kernel) ⟨Nat.le_of_ble_eq_true rfl, Nat.le_of_ble_eq_true rfl⟩) ⟨qPre_blind _, q_recv hK hw.2.1.1 (oX9 mS_0) rfl, fun U hU hW => ⟨rfl, lw_preM hK hE hw U hU hW⟩⟩ rfl rfl hl.1 rfl (lv_room (Nat.le_of_ble_eq_true rfl)) dL_law_893 (lw_rm0 hc)) hw (fun H hw => ?_)
  refine lv_icmp_eq (tgt := 1758) hx hb dL_law_896 (by decide) (fun _ => ?_) (fun cc => absurd rfl cc)
  exact W.widen (k := cells + 40) (n := slots + 4180) (Nat.le_add_right _ _) (Nat.le_add_right _ _) (kk _ _ _ _ _ _ _ _ rfl hw hR1)
set_option maxHeartbeats 4000000 in
set_option maxRecDepth 100000 in
/-- hire -/
theorem law_18 {p : Program} {l : Launch} {e : Env} {s : State} {m : MethodId} {below : List Frame} {meth : Method} {c : Code} {b L : Nat} {xs : Nat → Int32} {D : va_G} {cy : Nat → ClassId} {sa va adX adM : Nat → Nat} {a b1 : Bool} {I : qI} {J : qJ} {A : qI} {B : qJ} {H : Heap} {cells slots : Nat} {Q : State → Prop} {ls : Array Slot} {i : Int32} (C : lwC p s m c b L xs D cy sa va) (hi : lwI i L) (hl : lv_has ls 4 [(3, .int i), (2, .ref (adM 0)), (1, .ref (adX 0)), (0, .ref b)]) (hw : lwW s D cy adX adM a b1 I J A B H) (hR : Rel (b2i a, b2i b1) I J A B) (hc : cells + 40 ≤ 600000 ∧ slots + 4180 ≤ 7302250)
    (kk : ∀ (a b1 : Bool) (adM1 : Nat → Nat) (I : qI) (J : qJ) (A : qI) (B : qJ) (H : Heap), adM1 0 = adM 0 → lwW s D cy adX adM1 a b1 I J A B H → Rel (b2i a, b2i b1) I J A B → W p l e room_1 s m #[.ref b] below meth c H [] (cells + 40) (slots + 4180) Q (F0 m 1758 ls [])) : W p l e room_1 s m #[.ref b] below meth c H [] cells slots Q (F0 m 901 ls []) := by
  obtain ⟨⟨hx, hb, hml, hown, hts⟩, ⟨hX, hbl⟩, hK, hE, hM⟩ := C
  obtain ⟨r, I1, A1, e1, e2, hR1⟩ := s_hire hR (xs (i + 1).toNatClampNeg)
  refine lv_aload_n hx hb dL_law_901 rfl (lv_at hl 2 rfl) ?_
  refine lw_ld (v := 1) hx hb hX hbl hw hl dL_law_902 dL_law_903 dL_law_904 (by decide) dL_law_905 dL_law_906 hi.1 ?_
  refine lw_x (va_runV (As := [.int (xs (i + 1).toNatClampNeg)]) (rest := []) ⟨hx, hb, hml, hown, hts⟩ (c_X8_hire l (D := D) (ad := adX) (cy := cy) (sa := sa) (va := va) (I := I) (J := J) (xs (i + 1).toNatClampNeg) e1) (cwV 1 hts gL_law_X8_hire rfl rfl rfl (by decide +kernel) ⟨Nat.le_of_ble_eq_true rfl, Nat.le_of_ble_eq_true rfl⟩) ⟨qPre_blind _, q_recv hK hw.1.1 oX8 rfl, fun U hU hW => ⟨rfl, lw_preX hK hE hw U hU hW⟩⟩ rfl rfl hl.1 rfl (lv_room (Nat.le_of_ble_eq_true rfl)) dL_law_907 (lw_rm0 hc)) hw (fun H hw => ?_)
  refine lv_aload_n hx hb dL_law_910 rfl (lv_at hl 1 rfl) ?_
  refine lw_ld (v := 1) hx hb hX hbl hw hl dL_law_911 dL_law_912 dL_law_913 (by decide) dL_law_914 dL_law_915 hi.1 ?_
  refine lw_m (va_runV (As := [.int (xs (i + 1).toNatClampNeg)]) (rest := [.int r]) ⟨hx, hb, hml, hown, hts⟩ (c_X9_hire l (D := D) (ad := adM) (cy := cy) (sa := sa) (va := va) (I := A) (J := B) (S := mS a b1) mS_0 (xs (i + 1).toNatClampNeg) e2) (cwV 1 hts gL_law_X9_hire rfl rfl rfl (by decide +kernel) ⟨Nat.le_of_ble_eq_true rfl, Nat.le_of_ble_eq_true rfl⟩) ⟨qPre_blind _, q_recv hK hw.2.1.1 (oX9 mS_0) rfl, fun U hU hW => ⟨rfl, lw_preM hK hE hw U hU hW⟩⟩ rfl rfl hl.1 rfl (lv_room (Nat.le_of_ble_eq_true rfl)) dL_law_916 (lw_rm0 hc)) hw (fun H hw => ?_)
  refine lv_icmp_eq (tgt := 1758) hx hb dL_law_919 (by decide) (fun _ => ?_) (fun cc => absurd rfl cc)
  exact W.widen (k := cells + 40) (n := slots + 4180) (Nat.le_add_right _ _) (Nat.le_add_right _ _) (kk _ _ _ _ _ _ _ _ rfl hw hR1)
