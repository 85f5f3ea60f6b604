/-! the law, case by case: 38 to 56 (written by wip/gen/mk82.py) -/
set_option maxHeartbeats 4000000 in
set_option maxRecDepth 100000 in
/-- fare -/
theorem law_38 {p : Program} {l : Launch} {e : Env} {s : State} {m : MethodId} {below : List Frame} {meth : Method} {c : Code} {b L : Nat} {xs : Nat → Int32} {D : va_G} {cy : Nat → ClassId} {sa va adX adM : Nat → Nat} {a b1 : Bool} {I : qI} {J : qJ} {A : qI} {B : qJ} {H : Heap} {cells slots : Nat} {Q : State → Prop} {ls : Array Slot} {i : Int32} (C : lwC p s m c b L xs D cy sa va) (hi : lwI i L) (hl : lv_has ls 4 [(3, .int i), (2, .ref (adM 0)), (1, .ref (adX 0)), (0, .ref b)]) (hw : lwW s D cy adX adM a b1 I J A B H) (hR : Rel (b2i a, b2i b1) I J A B) (hc : cells + 40 ≤ 600000 ∧ slots + 4180 ≤ 7302250)
    (kk : ∀ (a b1 : Bool) (adM1 : Nat → Nat) (I : qI) (J : qJ) (A : qI) (B : qJ) (H : Heap), adM1 0 = adM 0 → lwW s D cy adX adM1 a b1 I J A B H → Rel (b2i a, b2i b1) I J A B → W p l e room_1 s m #[.ref b] below meth c H [] (cells + 40) (slots + 4180) Q (F0 m 1758 ls [])) : W p l e room_1 s m #[.ref b] below meth c H [] cells slots Q (F0 m 1341 ls []) := by
  obtain ⟨⟨hx, hb, hml, hown, hts⟩, ⟨hX, hbl⟩, hK, hE, hM⟩ := C
  obtain ⟨r, I1, A1, e1, e2, hR1⟩ := s_fare hR (xs (i + 1).toNatClampNeg)
  refine lv_aload_n hx hb dL_law_1341 rfl (lv_at hl 2 rfl) ?_
  refine lw_ld (v := 1) hx hb hX hbl hw hl dL_law_1342 dL_law_1343 dL_law_1344 (by decide) dL_law_1345 dL_law_1346 hi.1 ?_
  refine lw_x (va_runV (As := [.int (xs (i + 1).toNatClampNeg)]) (rest := []) ⟨hx, hb, hml, hown, hts⟩ (c_X8_fare l (D := D) (ad := adX) (cy := cy) (sa := sa) (va := va) (I := I) (J := J) (xs (i + 1).toNatClampNeg) e1) (cwV 1 hts gL_law_X8_fare rfl rfl rfl (by decide +kernel) ⟨Nat.le_of_ble_eq_true rfl, Nat.le_of_ble_eq_true rfl⟩) ⟨qPre_blind _, q_recv hK hw.1.1 oX8 rfl, fun U hU hW => ⟨rfl, lw_preX hK hE hw U hU hW⟩⟩ rfl rfl hl.1 rfl (lv_room (Nat.le_of_ble_eq_true rfl)) dL_law_1347 (lw_rm0 hc)) hw (fun H hw => ?_)
  refine lv_aload_n hx hb dL_law_1350 rfl (lv_at hl 1 rfl) ?_
  refine lw_ld (v := 1) hx hb hX hbl hw hl dL_law_1351 dL_law_1352 dL_law_1353 (by decide) dL_law_1354 dL_law_1355 hi.1 ?_
  refine lw_m (va_runV (As := [.int (xs (i + 1).toNatClampNeg)]) (rest := [.int r]) ⟨hx, hb, hml, hown, hts⟩ (c_X9_fare l (D := D) (ad := adM) (cy := cy) (sa := sa) (va := va) (I := A) (J := B) (S := mS a b1) mS_0 (xs (i + 1).toNatClampNeg) e2) (cwV 1 hts gL_law_X9_fare rfl rfl rfl (by decide +kernel) ⟨Nat.le_of_ble_eq_true rfl, Nat.le_of_ble_eq_true rfl⟩) ⟨qPre_blind _, q_recv hK hw.2.1.1 (oX9 mS_0) rfl, fun U hU hW => ⟨rfl, lw_preM hK hE hw U hU hW⟩⟩ rfl rfl hl.1 rfl (lv_room (Nat.le_of_ble_eq_true rfl)) dL_law_1356 (lw_rm0 hc)) hw (fun H hw => ?_)
  refine lv_icmp_eq (tgt := 1758) hx hb dL_law_1359 (by decide) (fun _ => ?_) (fun cc => absurd rfl cc)
  exact W.widen (k := cells + 40) (n := slots + 4180) (Nat.le_add_right _ _) (Nat.le_add_right _ _) (kk _ _ _ _ _ _ _ _ rfl hw hR1)
set_option maxHeartbeats 4000000 in
set_option maxRecDepth 100000 in
/-- waiting -/
theorem law_39 {p : Program} {l : Launch} {e : Env} {s : State} {m : MethodId} {below : List Frame} {meth : Method} {c : Code} {b L : Nat} {xs : Nat → Int32} {D : va_G} {cy : Nat → ClassId} {sa va adX adM : Nat → Nat} {a b1 : Bool} {I : qI} {J : qJ} {A : qI} {B : qJ} {H : Heap} {cells slots : Nat} {Q : State → Prop} {ls : Array Slot} {i : Int32} (C : lwC p s m c b L xs D cy sa va) (hi : lwI i L) (hl : lv_has ls 4 [(3, .int i), (2, .ref (adM 0)), (1, .ref (adX 0)), (0, .ref b)]) (hw : lwW s D cy adX adM a b1 I J A B H) (hR : Rel (b2i a, b2i b1) I J A B) (hc : cells + 40 ≤ 600000 ∧ slots + 4180 ≤ 7302250)
    (kk : ∀ (a b1 : Bool) (adM1 : Nat → Nat) (I : qI) (J : qJ) (A : qI) (B : qJ) (H : Heap), adM1 0 = adM 0 → lwW s D cy adX adM1 a b1 I J A B H → Rel (b2i a, b2i b1) I J A B → W p l e room_1 s m #[.ref b] below meth c H [] (cells + 40) (slots + 4180) Q (F0 m 1758 ls [])) : W p l e room_1 s m #[.ref b] below meth c H [] cells slots Q (F0 m 1364 ls []) := by
  obtain ⟨⟨hx, hb, hml, hown, hts⟩, ⟨hX, hbl⟩, hK, hE, hM⟩ := C
  obtain ⟨r, e1, e2⟩ := s_waiting hR 
  refine lv_aload_n hx hb dL_law_1364 rfl (lv_at hl 2 rfl) ?_
  refine q_cSi (va_runV (As := []) (rest := []) ⟨hx, hb, hml, hown, hts⟩ (c_X8_waiting l (D := D) (ad := adX) (cy := cy) (sa := sa) (va := va) (I := I) (J := J)  e1) (cwV 0 hts gL_law_X8_waiting rfl rfl rfl (by decide +kernel) ⟨Nat.le_of_ble_eq_true rfl, Nat.le_of_ble_eq_true rfl⟩) ⟨qPre_blind _, q_recv hK hw.1.1 oX8 rfl, fun U hU hW => ⟨rfl, lw_preX hK hE hw U hU hW⟩⟩ rfl rfl hl.1 rfl (lv_room (Nat.le_of_ble_eq_true rfl)) dL_law_1365 (lw_rm0 hc)) ?_
  refine lv_aload_n hx hb dL_law_1368 rfl (lv_at hl 1 rfl) ?_
  refine q_cSi (va_runV (As := []) (rest := [.int r]) ⟨hx, hb, hml, hown, hts⟩ (c_X9_waiting l (D := D) (ad := adM) (cy := cy) (sa := sa) (va := va) (I := A) (J := B) (S := mS a b1) mS_0  e2) (cwV 0 hts gL_law_X9_waiting rfl rfl rfl (by decide +kernel) ⟨Nat.le_of_ble_eq_true rfl, Nat.le_of_ble_eq_true rfl⟩) ⟨qPre_blind _, q_recv hK hw.2.1.1 (oX9 mS_0) rfl, fun U hU hW => ⟨rfl, lw_preM hK hE hw U hU hW⟩⟩ rfl rfl hl.1 rfl (lv_room (Nat.le_of_ble_eq_true rfl)) dL_law_1369 (lw_rm0 hc)) ?_
  refine lv_icmp_eq (tgt := 1758) hx hb dL_law_1372 (by decide) (fun _ => ?_) (fun cc => absurd rfl cc)
  exact W.widen (k := cells + 40) (n := slots + 4180) (Nat.le_add_right _ _) (Nat.le_add_right _ _) (kk _ _ _ _ _ _ _ _ rfl hw hR)
set_option maxHeartbeats 4000000 in
set_option maxRecDepth 100000 in
/-- time -/
theorem law_40 {p : Program} {l : Launch} {e : Env} {s : State} {m : MethodId} {below : List Frame} {meth : Method} {c : Code} {b L : Nat} {xs : Nat → Int32} {D : va_G} {cy : Nat → ClassId} {sa va adX adM : Nat → Nat} {a b1 : Bool} {I : qI} {J : qJ} {A : qI} {B : qJ} {H : Heap} {cells slots : Nat} {Q : State → Prop} {ls : Array Slot} {i : Int32} (C : lwC p s m c b L xs D cy sa va) (hi : lwI i L) (hl : lv_has ls 4 [(3, .int i), (2, .ref (adM 0)), (1, .ref (adX 0)), (0, .ref b)]) (hw : lwW s D cy adX adM a b1 I J A B H) (hR : Rel (b2i a, b2i b1) I J A B) (hc : cells + 40 ≤ 600000 ∧ slots + 4180 ≤ 7302250)
    (kk : ∀ (a b1 : Bool) (adM1 : Nat → Nat) (I : qI) (J : qJ) (A : qI) (B : qJ) (H : Heap), adM1 0 = adM 0 → lwW s D cy adX adM1 a b1 I J A B H → Rel (b2i a, b2i b1) I J A B → W p l e room_1 s m #[.ref b] below meth c H [] (cells + 40) (slots + 4180) Q (F0 m 1758 ls [])) : W p l e room_1 s m #[.ref b] below meth c H [] cells slots Q (F0 m 1377 ls []) := by
  obtain ⟨⟨hx, hb, hml, hown, hts⟩, ⟨hX, hbl⟩, hK, hE, hM⟩ := C
  obtain ⟨r, I1, A1, e1, e2, hR1⟩ := s_time hR 
  refine lv_aload_n hx hb dL_law_1377 rfl (lv_at hl 2 rfl) ?_
  refine lw_x (va_runV (As := []) (rest := []) ⟨hx, hb, hml, hown, hts⟩ (c_X8_time l (D := D) (ad := adX) (cy := cy) (sa := sa) (va := va) (I := I) (J := J)  e1) (cwV 0 hts gL_law_X8_time rfl rfl rfl (by decide +kernel) ⟨Nat.le_of_ble_eq_true rfl, Nat.le_of_ble_eq_true rfl⟩) ⟨qPre_blind _, q_recv hK hw.1.1 oX8 rfl, fun U hU hW => ⟨rfl, lw_preX hK hE hw U hU hW⟩⟩ rfl rfl hl.1 rfl (lv_room (Nat.le_of_ble_eq_true rfl)) dL_law_1378 (lw_rm0 hc)) hw (fun H hw => ?_)
  refine lv_aload_n hx hb dL_law_1381 rfl (lv_at hl 1 rfl) ?_
  refine lw_m (va_runV (As := []) (rest := [.int r]) ⟨hx, hb, hml, hown, hts⟩ (c_X9_time l (D := D) (ad := adM) (cy := cy) (sa := sa) (va := va) (I := A) (J := B) (S := mS a b1) mS_0  e2) (cwV 0 hts gL_law_X9_time rfl rfl rfl (by decide +kernel) ⟨Nat.le_of_ble_eq_true rfl, Nat.le_of_ble_eq_true rfl⟩) ⟨qPre_blind _, q_recv hK hw.2.1.1 (oX9 mS_0) rfl, fun U hU hW => ⟨rfl, lw_preM hK hE hw U hU hW⟩⟩ rfl rfl hl.1 rfl (lv_room (Nat.le_of_ble_eq_true rfl)) dL_law_1382 (lw_rm0 hc)) hw (fun H hw => ?_)
  refine lv_icmp_eq (tgt := 1758) hx hb dL_law_1385 (by decide) (fun _ => ?_) (fun cc => absurd rfl cc)
  exact W.widen (k := cells + 40) (n := slots + 4180) (Nat.le_add_right _ _) (Nat.le_add_right _ _) (kk _ _ _ _ _ _ _ _ rfl hw hR1)
set_option maxHeartbeats 4000000 in
set_option maxRecDepth 100000 in
/-- loosen -/
theorem law_41 {p : Program} {l : Launch} {e : Env} {s : State} {m : MethodId} {below : List Frame} {meth : Method} {c : Code} {b L : Nat} {xs : Nat → Int32} {D : va_G} {cy : Nat → ClassId} {sa va adX adM : Nat → Nat} {a b1 : Bool} {I : qI} {J : qJ} {A : qI} {B : qJ} {H : Heap} {cells slots : Nat} {Q : State → Prop} {ls : Array Slot} {i : Int32} (C : lwC p s m c b L xs D cy sa va) (hi : lwI i L) (hl : lv_has ls 4 [(3, .int i), (2, .ref (adM 0)), (1, .ref (adX 0)), (0, .ref b)]) (hw : lwW s D cy adX adM a b1 I J A B H) (hR : Rel (b2i a, b2i b1) I J A B) (hc : cells + 40 ≤ 600000 ∧ slots + 4180 ≤ 7302250)
    (kk : ∀ (a b1 : Bool) (adM1 : Nat → Nat) (I : qI) (J : qJ) (A : qI) (B : qJ) (H : Heap), adM1 0 = adM 0 → lwW s D cy adX adM1 a b1 I J A B H → Rel (b2i a, b2i b1) I J A B → W p l e room_1 s m #[.ref b] below meth c H [] (cells + 40) (slots + 4180) Q (F0 m 1758 ls [])) : W p l e room_1 s m #[.ref b] below meth c H [] cells slots Q (F0 m 1390 ls []) := by
  obtain ⟨⟨hx, hb, hml, hown, hts⟩, ⟨hX, hbl⟩, hK, hE, hM⟩ := C
  obtain ⟨r, I1, A1, e1, e2, hR1⟩ := s_loosen hR 
  refine lv_aload_n hx hb dL_law_1390 rfl (lv_at hl 2 rfl) ?_
  refine lw_x (va_runV (As := []) (rest := []) ⟨hx, hb, hml, hown, hts⟩ (c_X8_loosen l (D := D) (ad := adX) (cy := cy) (sa := sa) (va := va) (I := I) (J := J)  e1) (cwV 0 hts gL_law_X8_loosen rfl rfl rfl (by decide +kernel) ⟨Nat.le_of_ble_eq_true rfl, Nat.le_of_ble_eq_true rfl⟩) ⟨qPre_blind _, q_recv hK hw.1.1 oX8 rfl, fun U hU hW => ⟨rfl, lw_preX hK hE hw U hU hW⟩⟩ rfl rfl hl.1 rfl (lv_room (Nat.le_of_ble_eq_true rfl)) dL_law_1391 (lw_rm0 hc)) hw (fun H hw => ?_)
  refine lv_aload_n hx hb dL_law_1394 rfl (lv_at hl 1 rfl) ?_
  refine lw_m (va_runV (As := []) (rest := [.int r]) ⟨hx, hb, hml, hown, hts⟩ (c_X9_loosen l (D := D) (ad := adM) (cy := cy) (sa := sa) (va := va) (I := A) (J := B) (S := mS a b1) mS_0  e2) (cwV 0 hts gL_law_X9_loosen rfl rfl rfl (by decide +kernel) ⟨Nat.le_of_ble_eq_true rfl, Nat.le_of_ble_eq_true rfl⟩) ⟨qPre_blind _, q_recv hK hw.2.1.1 (oX9 mS_0) rfl, fun U hU hW => ⟨rfl, lw_preM hK hE hw U hU hW⟩⟩ rfl rfl hl.1 rfl (lv_room (Nat.le_of_ble_eq_true rfl)) dL_law_1395 (lw_rm0 hc)) hw (fun H hw => ?_)
  refine lv_icmp_eq (tgt := 1758) hx hb dL_law_1398 (by decide) (fun _ => ?_) (fun cc => absurd rfl cc)
  exact W.widen (k := cells + 40) (n := slots + 4180) (Nat.le_add_right _ _) (Nat.le_add_right _ _) (kk _ _ _ _ _ _ _ _ rfl hw hR1)
set_option maxHeartbeats 4000000 in
set_option maxRecDepth 100000 in
/-- alone -/
theorem law_42 {p : Program} {l : Launch} {e : Env} {s : State} {m : MethodId} {below : List Frame} {meth : Method} {c : Code} {b L : Nat} {xs : Nat → Int32} {D : va_G} {cy : Nat → ClassId} {sa va adX adM : Nat → Nat} {a b1 : Bool} {I : qI} {J : qJ} {A : qI} {B : qJ} {H : Heap} {cells slots : Nat} {Q : State → Prop} {ls : Array Slot} {i : Int32} (C : lwC p s m c b L xs D cy sa va) (hi : lwI i L) (hl : lv_has ls 4 [(3, .int i), (2, .ref (adM 0)), (1, .ref (adX 0)), (0, .ref b)]) (hw : lwW s D cy adX adM a b1 I J A B H) (hR : Rel (b2i a, b2i b1) I J A B) (hc : cells + 40 ≤ 600000 ∧ slots + 4180 ≤ 7302250)
    (kk : ∀ (a b1 : Bool) (adM1 : Nat → Nat) (I : qI) (J : qJ) (A : qI) (B : qJ) (H : Heap), adM1 0 = adM 0 → lwW s D cy adX adM1 a b1 I J A B H → Rel (b2i a, b2i b1) I J A B → W p l e room_1 s m #[.ref b] below meth c H [] (cells + 40) (slots + 4180) Q (F0 m 1758 ls [])) : W p l e room_1 s m #[.ref b] below meth c H [] cells slots Q (F0 m 1403 ls []) := by
  obtain ⟨⟨hx, hb, hml, hown, hts⟩, ⟨hX, hbl⟩, hK, hE, hM⟩ := C
  obtain ⟨r, e1, e2⟩ := s_alone hR 
  refine lv_aload_n hx hb dL_law_1403 rfl (lv_at hl 2 rfl) ?_
  refine q_cSi (va_runV (As := []) (rest := []) ⟨hx, hb, hml, hown, hts⟩ (c_X8_alone l (D := D) (ad := adX) (cy := cy) (sa := sa) (va := va) (I := I) (J := J)  e1) (cwV 0 hts gL_law_X8_alone rfl rfl rfl (by decide +kernel) ⟨Nat.le_of_ble_eq_true rfl, Nat.le_of_ble_eq_true rfl⟩) ⟨qPre_blind _, q_recv hK hw.1.1 oX8 rfl, fun U hU hW => ⟨rfl, lw_preX hK hE hw U hU hW⟩⟩ rfl rfl hl.1 rfl (lv_room (Nat.le_of_ble_eq_true rfl)) dL_law_1404 (lw_rm0 hc)) ?_
  refine lv_aload_n hx hb dL_law_1407 rfl (lv_at hl 1 rfl) ?_
  refine q_cSi (va_runV (As := []) (rest := [.int r]) ⟨hx, hb, hml, hown, hts⟩ (c_X9_alone l (D := D) (ad := adM) (cy := cy) (sa := sa) (va := va) (I := A) (J := B) (S := mS a b1) mS_0  e2) (cwV 0 hts gL_law_X9_alone rfl rfl rfl (by decide +kernel) ⟨Nat.le_of_ble_eq_true rfl, Nat.le_of_ble_eq_true rfl⟩) ⟨qPre_blind _, q_recv hK hw.2.1.1 (oX9 mS_0) rfl, fun U hU hW => ⟨rfl, lw_preM hK hE hw U hU hW⟩⟩ rfl rfl hl.1 rfl (lv_room (Nat.le_of_ble_eq_true rfl)) dL_law_1408 (lw_rm0 hc)) ?_
  refine lv_icmp_eq (tgt := 1758) hx hb dL_law_1411 (by decide) (fun _ => ?_) (fun cc => absurd rfl cc)
  exact W.widen (k := cells + 40) (n := slots + 4180) (Nat.le_add_right _ _) (Nat.le_add_right _ _) (kk _ _ _ _ _ _ _ _ rfl hw hR)
set_option maxHeartbeats 4000000 in
set_option maxRecDepth 100000 in
/-- together -/
theorem law_43 {p : Program} {l : Launch} {e : Env} {s : State} {m : MethodId} {below : List Frame} {meth : Method} {c : Code} {b L : Nat} {xs : Nat → Int32} {D : va_G} {cy : Nat → ClassId} {sa va adX adM : Nat → Nat} {a b1 : Bool} {I : qI} {J : qJ} {A : qI} {B : qJ} {H : Heap} {cells slots : Nat} {Q : State → Prop} {ls : Array Slot} {i : Int32} (C : lwC p s m c b L xs D cy sa va) (hi : lwI i L) (hl : lv_has ls 4 [(3, .int i), (2, .ref (adM 0)), (1, .ref (adX 0)), (0, .ref b)]) (hw : lwW s D cy adX adM a b1 I J A B H) (hR : Rel (b2i a, b2i b1) I J A B) (hc : cells + 40 ≤ 600000 ∧ slots + 4180 ≤ 7302250)
    (kk : ∀ (a b1 : Bool) (adM1 : Nat → Nat) (I : qI) (J : qJ) (A : qI) (B : qJ) (H : Heap), adM1 0 = adM 0 → lwW s D cy adX adM1 a b1 I J A B H → Rel (b2i a, b2i b1) I J A B → W p l e room_1 s m #[.ref b] below meth c H [] (cells + 40) (slots + 4180) Q (F0 m 1758 ls [])) : W p l e room_1 s m #[.ref b] below meth c H [] cells slots Q (F0 m 1416 ls []) := by
  obtain ⟨⟨hx, hb, hml, hown, hts⟩, ⟨hX, hbl⟩, hK, hE, hM⟩ := C
  obtain ⟨r, I1, A1, e1, e2, hR1⟩ := s_together hR (xs (i + 1).toNatClampNeg) (xs (i + 2).toNatClampNeg)
  refine lv_aload_n hx hb dL_law_1416 rfl (lv_at hl 2 rfl) ?_
  refine lw_ld (v := 1) hx hb hX hbl hw hl dL_law_1417 dL_law_1418 dL_law_1419 (by decide) dL_law_1420 dL_law_1421 hi.1 ?_
  refine lw_ld (v := 2) hx hb hX hbl hw hl dL_law_1422 dL_law_1423 dL_law_1424 (by decide) dL_law_1425 dL_law_1426 hi.2.1 ?_
  refine lw_x (va_runV (As := [.int (xs (i + 1).toNatClampNeg), .int (xs (i + 2).toNatClampNeg)]) (rest := []) ⟨hx, hb, hml, hown, hts⟩ (c_X8_together l (D := D) (ad := adX) (cy := cy) (sa := sa) (va := va) (I := I) (J := J) (xs (i + 1).toNatClampNeg) (xs (i + 2).toNatClampNeg) e1) (cwV 2 hts gL_law_X8_together rfl rfl rfl (by decide +kernel) ⟨Nat.le_of_ble_eq_true rfl, Nat.le_of_ble_eq_true rfl⟩) ⟨qPre_blind _, q_recv hK hw.1.1 oX8 rfl, fun U hU hW => ⟨rfl, lw_preX hK hE hw U hU hW⟩⟩ rfl rfl hl.1 rfl (lv_room (Nat.le_of_ble_eq_true rfl)) dL_law_1427 (lw_rm0 hc)) hw (fun H hw => ?_)
  refine lv_aload_n hx hb dL_law_1430 rfl (lv_at hl 1 rfl) ?_
  refine lw_ld (v := 1) hx hb hX hbl hw hl dL_law_1431 dL_law_1432 dL_law_1433 (by decide) dL_law_1434 dL_law_1435 hi.1 ?_
  refine lw_ld (v := 2) hx hb hX hbl hw hl dL_law_1436 dL_law_1437 dL_law_1438 (by decide) dL_law_1439 dL_law_1440 hi.2.1 ?_
  refine lw_m (va_runV (As := [.int (xs (i + 1).toNatClampNeg), .int (xs (i + 2).toNatClampNeg)]) (rest := [.int r]) ⟨hx, hb, hml, hown, hts⟩ (c_X9_together l (D := D) (ad := adM) (cy := cy) (sa := sa) (va := va) (I := A) (J := B) (S := mS a b1) mS_0 (xs (i + 1).toNatClampNeg) (xs (i + 2).toNatClampNeg) e2) (cwV 2 hts gL_law_X9_together rfl rfl rfl (by decide +kernel) ⟨Nat.le_of_ble_eq_true rfl, Nat.le_of_ble_eq_true rfl⟩) ⟨qPre_blind _, q_recv hK hw.2.1.1 (oX9 mS_0) rfl, fun U hU hW => ⟨rfl, lw_preM hK hE hw U hU hW⟩⟩ rfl rfl hl.1 rfl (lv_room (Nat.le_of_ble_eq_true rfl)) dL_law_1441 (lw_rm0 hc)) hw (fun H hw => ?_)
  refine lv_icmp_eq (tgt := 1758) hx hb dL_law_1444 (by decide) (fun _ => ?_) (fun cc => absurd rfl cc)
  exact W.widen (k := cells + 40) (n := slots + 4180) (Nat.le_add_right _ _) (Nat.le_add_right _ _) (kk _ _ _ _ _ _ _ _ rfl hw hR1)
set_option maxHeartbeats 4000000 in
set_option maxRecDepth 100000 in
/-- spare -/
theorem law_44 {p : Program} {l : Launch} {e : Env} {s : State} {m : MethodId} {below : List Frame} {meth : Method} {c : Code} {b L : Nat} {xs : Nat → Int32} {D : va_G} {cy : Nat → ClassId} {sa va adX adM : Nat → Nat} {a b1 : Bool} {I : qI} {J : qJ} {A : qI} {B : qJ} {H : Heap} {cells slots : Nat} {Q : State → Prop} {ls : Array Slot} {i : Int32} (C : lwC p s m c b L xs D cy sa va) (hi : lwI i L) (hl : lv_has ls 4 [(3, .int i), (2, .ref (adM 0)), (1, .ref (adX 0)), (0, .ref b)]) (hw : lwW s D cy adX adM a b1 I J A B H) (hR : Rel (b2i a, b2i b1) I J A B) (hc : cells + 40 ≤ 600000 ∧ slots + 4180 ≤ 7302250)
    (kk : ∀ (a b1 : Bool) (adM1 : Nat → Nat) (I : qI) (J : qJ) (A : qI) (B : qJ) (H : Heap), adM1 0 = adM 0 → lwW s D cy adX adM1 a b1 I J A B H → Rel (b2i a, b2i b1) I J A B → W p l e room_1 s m #[.ref b] below meth c H [] (cells + 40) (slots + 4180) Q (F0 m 1758 ls [])) : W p l e room_1 s m #[.ref b] below meth c H [] cells slots Q (F0 m 1449 ls []) := by
  obtain ⟨⟨hx, hb, hml, hown, hts⟩, ⟨hX, hbl⟩, hK, hE, hM⟩ := C
  obtain ⟨r, I1, A1, e1, e2, hR1⟩ := s_spare hR (xs (i + 1).toNatClampNeg)
  refine lv_aload_n hx hb dL_law_1449 rfl (lv_at hl 2 rfl) ?_
  refine lw_ld (v := 1) hx hb hX hbl hw hl dL_law_1450 dL_law_1451 dL_law_1452 (by decide) dL_law_1453 dL_law_1454 hi.1 ?_
  refine lw_x (va_runV (As := [.int (xs (i + 1).toNatClampNeg)]) (rest := []) ⟨hx, hb, hml, hown, hts⟩ (c_X8_spare l (D := D) (ad := adX) (cy := cy) (sa := sa) (va := va) (I := I) (J := J) (xs (i + 1).toNatClampNeg) e1) (cwV 1 hts gL_law_X8_spare rfl rfl rfl (by decide +kernel) ⟨Nat.le_of_ble_eq_true rfl, Nat.le_of_ble_eq_true rfl⟩) ⟨qPre_blind _, q_recv hK hw.1.1 oX8 rfl, fun U hU hW => ⟨rfl, lw_preX hK hE hw U hU hW⟩⟩ rfl rfl hl.1 rfl (lv_room (Nat.le_of_ble_eq_true rfl)) dL_law_1455 (lw_rm0 hc)) hw (fun H hw => ?_)
  refine lv_aload_n hx hb dL_law_1458 rfl (lv_at hl 1 rfl) ?_
  refine lw_ld (v := 1) hx hb hX hbl hw hl dL_law_1459 dL_law_1460 dL_law_1461 (by decide) dL_law_1462 dL_law_1463 hi.1 ?_
  refine lw_m (va_runV (As := [.int (xs (i + 1).toNatClampNeg)]) (rest := [.int r]) ⟨hx, hb, hml, hown, hts⟩ (c_X9_spare l (D := D) (ad := adM) (cy := cy) (sa := sa) (va := va) (I := A) (J := B) (S := mS a b1) mS_0 (xs (i + 1).toNatClampNeg) e2) (cwV 1 hts gL_law_X9_spare rfl rfl rfl (by decide +kernel) ⟨Nat.le_of_ble_eq_true rfl, Nat.le_of_ble_eq_true rfl⟩) ⟨qPre_blind _, q_recv hK hw.2.1.1 (oX9 mS_0) rfl, fun U hU hW => ⟨rfl, lw_preM hK hE hw U hU hW⟩⟩ rfl rfl hl.1 rfl (lv_room (Nat.le_of_ble_eq_true rfl)) dL_law_1464 (lw_rm0 hc)) hw (fun H hw => ?_)
  refine lv_icmp_eq (tgt := 1758) hx hb dL_law_1467 (by decide) (fun _ => ?_) (fun cc => absurd rfl cc)
  exact W.widen (k := cells + 40) (n := slots + 4180) (Nat.le_add_right _ _) (Nat.le_add_right _ _) (kk _ _ _ _ _ _ _ _ rfl hw hR1)
set_option maxHeartbeats 4000000 in
set_option maxRecDepth 100000 in
/-- purses -/
theorem law_45 {p : Program} {l : Launch} {e : Env} {s : State} {m : MethodId} {below : List Frame} {meth : Method} {c : Code} {b L : Nat} {xs : Nat → Int32} {D : va_G} {cy : Nat → ClassId} {sa va adX adM : Nat → Nat} {a b1 : Bool} {I : qI} {J : qJ} {A : qI} {B : qJ} {H : Heap} {cells slots : Nat} {Q : State → Prop} {ls : Array Slot} {i : Int32} (C : lwC p s m c b L xs D cy sa va) (hi : lwI i L) (hl : lv_has ls 4 [(3, .int i), (2, .ref (adM 0)), (1, .ref (adX 0)), (0, .ref b)]) (hw : lwW s D cy adX adM a b1 I J A B H) (hR : Rel (b2i a, b2i b1) I J A B) (hc : cells + 40 ≤ 600000 ∧ slots + 4180 ≤ 7302250)
    (kk : ∀ (a b1 : Bool) (adM1 : Nat → Nat) (I : qI) (J : qJ) (A : qI) (B : qJ) (H : Heap), adM1 0 = adM 0 → lwW s D cy adX adM1 a b1 I J A B H → Rel (b2i a, b2i b1) I J A B → W p l e room_1 s m #[.ref b] below meth c H [] (cells + 40) (slots + 4180) Q (F0 m 1758 ls [])) : W p l e room_1 s m #[.ref b] below meth c H [] cells slots Q (F0 m 1472 ls []) := by
  obtain ⟨⟨hx, hb, hml, hown, hts⟩, ⟨hX, hbl⟩, hK, hE, hM⟩ := C
  obtain ⟨r, I1, A1, e1, e2, hR1⟩ := s_purses hR (xs (i + 1).toNatClampNeg)
  refine lv_aload_n hx hb dL_law_1472 rfl (lv_at hl 2 rfl) ?_
  refine lw_ld (v := 1) hx hb hX hbl hw hl dL_law_1473 dL_law_1474 dL_law_1475 (by decide) dL_law_1476 dL_law_1477 hi.1 ?_
  refine lw_x (va_runV (As := [.int (xs (i + 1).toNatClampNeg)]) (rest := []) ⟨hx, hb, hml, hown, hts⟩ (c_X8_purses l (D := D) (ad := adX) (cy := cy) (sa := sa) (va := va) (I := I) (J := J) (xs (i + 1).toNatClampNeg) e1) (cwV 1 hts gL_law_X8_purses rfl rfl rfl (by decide +kernel) ⟨Nat.le_of_ble_eq_true rfl, Nat.le_of_ble_eq_true rfl⟩) ⟨qPre_blind _, q_recv hK hw.1.1 oX8 rfl, fun U hU hW => ⟨rfl, lw_preX hK hE hw U hU hW⟩⟩ rfl rfl hl.1 rfl (lv_room (Nat.le_of_ble_eq_true rfl)) dL_law_1478 (lw_rm0 hc)) hw (fun H hw => ?_)
  refine lv_aload_n hx hb dL_law_1481 rfl (lv_at hl 1 rfl) ?_
  refine lw_ld (v := 1) hx hb hX hbl hw hl dL_law_1482 dL_law_1483 dL_law_1484 (by decide) dL_law_1485 dL_law_1486 hi.1 ?_
  refine lw_m (va_runV (As := [.int (xs (i + 1).toNatClampNeg)]) (rest := [.int r]) ⟨hx, hb, hml, hown, hts⟩ (c_X9_purses l (D := D) (ad := adM) (cy := cy) (sa := sa) (va := va) (I := A) (J := B) (S := mS a b1) mS_0 (xs (i + 1).toNatClampNeg) e2) (cwV 1 hts gL_law_X9_purses rfl rfl rfl (by decide +kernel) ⟨Nat.le_of_ble_eq_true rfl, Nat.le_of_ble_eq_true rfl⟩) ⟨qPre_blind _, q_recv hK hw.2.1.1 (oX9 mS_0) rfl, fun U hU hW => ⟨rfl, lw_preM hK hE hw U hU hW⟩⟩ rfl rfl hl.1 rfl (lv_room (Nat.le_of_ble_eq_true rfl)) dL_law_1487 (lw_rm0 hc)) hw (fun H hw => ?_)
  refine lv_icmp_eq (tgt := 1758) hx hb dL_law_1490 (by decide) (fun _ => ?_) (fun cc => absurd rfl cc)
  exact W.widen (k := cells + 40) (n := slots + 4180) (Nat.le_add_right _ _) (Nat.le_add_right _ _) (kk _ _ _ _ _ _ _ _ rfl hw hR1)
set_option maxHeartbeats 4000000 in
set_option maxRecDepth 100000 in
/-- before -/
theorem law_46 {p : Program} {l : Launch} {e : Env} {s : State} {m : MethodId} {below : List Frame} {meth : Method} {c : Code} {b L : Nat} {xs : Nat → Int32} {D : va_G} {cy : Nat → ClassId} {sa va adX adM : Nat → Nat} {a b1 : Bool} {I : qI} {J : qJ} {A : qI} {B : qJ} {H : Heap} {cells slots : Nat} {Q : State → Prop} {ls : Array Slot} {i : Int32} (C : lwC p s m c b L xs D cy sa va) (hi : lwI i L) (hl : lv_has ls 4 [(3, .int i), (2, .ref (adM 0)), (1, .ref (adX 0)), (0, .ref b)]) (hw : lwW s D cy adX adM a b1 I J A B H) (hR : Rel (b2i a, b2i b1) I J A B) (hc : cells + 40 ≤ 600000 ∧ slots + 4180 ≤ 7302250)
    (kk : ∀ (a b1 : Bool) (adM1 : Nat → Nat) (I : qI) (J : qJ) (A : qI) (B : qJ) (H : Heap), adM1 0 = adM 0 → lwW s D cy adX adM1 a b1 I J A B H → Rel (b2i a, b2i b1) I J A B → W p l e room_1 s m #[.ref b] below meth c H [] (cells + 40) (slots + 4180) Q (F0 m 1758 ls [])) : W p l e room_1 s m #[.ref b] below meth c H [] cells slots Q (F0 m 1495 ls []) := by
  obtain ⟨⟨hx, hb, hml, hown, hts⟩, ⟨hX, hbl⟩, hK, hE, hM⟩ := C
  obtain ⟨r, I1, A1, e1, e2, hR1⟩ := s_before hR (xs (i + 1).toNatClampNeg)
  refine lv_aload_n hx hb dL_law_1495 rfl (lv_at hl 2 rfl) ?_
  refine lw_ld (v := 1) hx hb hX hbl hw hl dL_law_1496 dL_law_1497 dL_law_1498 (by decide) dL_law_1499 dL_law_1500 hi.1 ?_
  refine lw_x (va_runV (As := [.int (xs (i + 1).toNatClampNeg)]) (rest := []) ⟨hx, hb, hml, hown, hts⟩ (c_X8_before l (D := D) (ad := adX) (cy := cy) (sa := sa) (va := va) (I := I) (J := J) (xs (i + 1).toNatClampNeg) e1) (cwV 1 hts gL_law_X8_before rfl rfl rfl (by decide +kernel) ⟨Nat.le_of_ble_eq_true rfl, Nat.le_of_ble_eq_true rfl⟩) ⟨qPre_blind _, q_recv hK hw.1.1 oX8 rfl, fun U hU hW => ⟨rfl, lw_preX hK hE hw U hU hW⟩⟩ rfl rfl hl.1 rfl (lv_room (Nat.le_of_ble_eq_true rfl)) dL_law_1501 (lw_rm0 hc)) hw (fun H hw => ?_)
  refine lv_aload_n hx hb dL_law_1504 rfl (lv_at hl 1 rfl) ?_
  refine lw_ld (v := 1) hx hb hX hbl hw hl dL_law_1505 dL_law_1506 dL_law_1507 (by decide) dL_law_1508 dL_law_1509 hi.1 ?_
  refine lw_m (va_runV (As := [.int (xs (i + 1).toNatClampNeg)]) (rest := [.int r]) ⟨hx, hb, hml, hown, hts⟩ (c_X9_before l (D := D) (ad := adM) (cy := cy) (sa := sa) (va := va) (I := A) (J := B) (S := mS a b1) mS_0 (xs (i + 1).toNatClampNeg) e2) (cwV 1 hts gL_law_X9_before rfl rfl rfl (by decide +kernel) ⟨Nat.le_of_ble_eq_true rfl, Nat.le_of_ble_eq_true rfl⟩) ⟨qPre_blind _, q_recv hK hw.2.1.1 (oX9 mS_0) rfl, fun U hU hW => ⟨rfl, lw_preM hK hE hw U hU hW⟩⟩ rfl rfl hl.1 rfl (lv_room (Nat.le_of_ble_eq_true rfl)) dL_law_1510 (lw_rm0 hc)) hw (fun H hw => ?_)
  refine lv_icmp_eq (tgt := 1758) hx hb dL_law_1513 (by decide) (fun _ => ?_) (fun cc => absurd rfl cc)
  exact W.widen (k := cells + 40) (n := slots + 4180) (Nat.le_add_right _ _) (Nat.le_add_right _ _) (kk _ _ _ _ _ _ _ _ rfl hw hR1)
set_option maxHeartbeats 4000000 in
set_option maxRecDepth 100000 in
/-- ofKind -/
theorem law_47 {p : Program} {l : Launch} {e : Env} {s : State} {m : MethodId} {below : List Frame} {meth : Method} {c : Code} {b L : Nat} {xs : Nat → Int32} {D : va_G} {cy : Nat → ClassId} {sa va adX adM : Nat → Nat} {a b1 : Bool} {I : qI} {J : qJ} {A : qI} {B : qJ} {H : Heap} {cells slots : Nat} {Q : State → Prop} {ls : Array Slot} {i : Int32} (C : lwC p s m c b L xs D cy sa va) (hi : lwI i L) (hl : lv_has ls 4 [(3, .int i), (2, .ref (adM 0)), (1, .ref (adX 0)), (0, .ref b)]) (hw : lwW s D cy adX adM a b1 I J A B H) (hR : Rel (b2i a, b2i b1) I J A B) (hc : cells + 40 ≤ 600000 ∧ slots + 4180 ≤ 7302250)
    (kk : ∀ (a b1 : Bool) (adM1 : Nat → Nat) (I : qI) (J : qJ) (A : qI) (B : qJ) (H : Heap), adM1 0 = adM 0 → lwW s D cy adX adM1 a b1 I J A B H → Rel (b2i a, b2i b1) I J A B → W p l e room_1 s m #[.ref b] below meth c H [] (cells + 40) (slots + 4180) Q (F0 m 1758 ls [])) : W p l e room_1 s m #[.ref b] below meth c H [] cells slots Q (F0 m 1518 ls []) := by
  obtain ⟨⟨hx, hb, hml, hown, hts⟩, ⟨hX, hbl⟩, hK, hE, hM⟩ := C
  obtain ⟨r, I1, A1, e1, e2, hR1⟩ := s_ofKind hR (xs (i + 1).toNatClampNeg)
  refine lv_aload_n hx hb dL_law_1518 rfl (lv_at hl 2 rfl) ?_
  refine lw_ld (v := 1) hx hb hX hbl hw hl dL_law_1519 dL_law_1520 dL_law_1521 (by decide) dL_law_1522 dL_law_1523 hi.1 ?_
  refine lw_x (va_runV (As := [.int (xs (i + 1).toNatClampNeg)]) (rest := []) ⟨hx, hb, hml, hown, hts⟩ (c_X8_ofKind l (D := D) (ad := adX) (cy := cy) (sa := sa) (va := va) (I := I) (J := J) (xs (i + 1).toNatClampNeg) e1) (cwV 1 hts gL_law_X8_ofKind rfl rfl rfl (by decide +kernel) ⟨Nat.le_of_ble_eq_true rfl, Nat.le_of_ble_eq_true rfl⟩) ⟨qPre_blind _, q_recv hK hw.1.1 oX8 rfl, fun U hU hW => ⟨rfl, lw_preX hK hE hw U hU hW⟩⟩ rfl rfl hl.1 rfl (lv_room (Nat.le_of_ble_eq_true rfl)) dL_law_1524 (lw_rm0 hc)) hw (fun H hw => ?_)
  refine lv_aload_n hx hb dL_law_1527 rfl (lv_at hl 1 rfl) ?_
  refine lw_ld (v := 1) hx hb hX hbl hw hl dL_law_1528 dL_law_1529 dL_law_1530 (by decide) dL_law_1531 dL_law_1532 hi.1 ?_
  refine lw_m (va_runV (As := [.int (xs (i + 1).toNatClampNeg)]) (rest := [.int r]) ⟨hx, hb, hml, hown, hts⟩ (c_X9_ofKind l (D := D) (ad := adM) (cy := cy) (sa := sa) (va := va) (I := A) (J := B) (S := mS a b1) mS_0 (xs (i + 1).toNatClampNeg) e2) (cwV 1 hts gL_law_X9_ofKind rfl rfl rfl (by decide +kernel) ⟨Nat.le_of_ble_eq_true rfl, Nat.le_of_ble_eq_true rfl⟩) ⟨qPre_blind _, q_recv hK hw.2.1.1 (oX9 mS_0) rfl, fun U hU hW => ⟨rfl, lw_preM hK hE hw U hU hW⟩⟩ rfl rfl hl.1 rfl (lv_room (Nat.le_of_ble_eq_true rfl)) dL_law_1533 (lw_rm0 hc)) hw (fun H hw => ?_)
  refine lv_icmp_eq (tgt := 1758) hx hb dL_law_1536 (by decide) (fun _ => ?_) (fun cc => absurd rfl cc)
  exact W.widen (k := cells + 40) (n := slots + 4180) (Nat.le_add_right _ _) (Nat.le_add_right _ _) (kk _ _ _ _ _ _ _ _ rfl hw hR1)
set_option maxHeartbeats 4000000 in
set_option maxRecDepth 100000 in
/-- judge -/
theorem law_48 {p : Program} {l : Launch} {e : Env} {s : State} {m : MethodId} {below : List Frame} {meth : Method} {c : Code} {b L : Nat} {xs : Nat → Int32} {D : va_G} {cy : Nat → ClassId} {sa va adX adM : Nat → Nat} {a b1 : Bool} {I : qI} {J : qJ} {A : qI} {B : qJ} {H : Heap} {cells slots : Nat} {Q : State → Prop} {ls : Array Slot} {i : Int32} (C : lwC p s m c b L xs D cy sa va) (hi : lwI i L) (hl : lv_has ls 4 [(3, .int i), (2, .ref (adM 0)), (1, .ref (adX 0)), (0, .ref b)]) (hw : lwW s D cy adX adM a b1 I J A B H) (hR : Rel (b2i a, b2i b1) I J A B) (hc : cells + 40 ≤ 600000 ∧ slots + 4180 ≤ 7302250)
    (kk : ∀ (a b1 : Bool) (adM1 : Nat → Nat) (I : qI) (J : qJ) (A : qI) (B : qJ) (H : Heap), adM1 0 = adM 0 → lwW s D cy adX adM1 a b1 I J A B H → Rel (b2i a, b2i b1) I J A B → W p l e room_1 s m #[.ref b] below meth c H [] (cells + 40) (slots + 4180) Q (F0 m 1758 ls [])) : W p l e room_1 s m #[.ref b] below meth c H [] cells slots Q (F0 m 1541 ls []) := by
  obtain ⟨⟨hx, hb, hml, hown, hts⟩, ⟨hX, hbl⟩, hK, hE, hM⟩ := C
  obtain ⟨r, I1, A1, e1, e2, hR1⟩ := s_judge hR (xs (i + 1).toNatClampNeg) (xs (i + 2).toNatClampNeg)
  refine lv_aload_n hx hb dL_law_1541 rfl (lv_at hl 2 rfl) ?_
  refine lw_ld (v := 1) hx hb hX hbl hw hl dL_law_1542 dL_law_1543 dL_law_1544 (by decide) dL_law_1545 dL_law_1546 hi.1 ?_
  refine lw_ld (v := 2) hx hb hX hbl hw hl dL_law_1547 dL_law_1548 dL_law_1549 (by decide) dL_law_1550 dL_law_1551 hi.2.1 ?_
  refine lw_x (va_runV (As := [.int (xs (i + 1).toNatClampNeg), .int (xs (i + 2).toNatClampNeg)]) (rest := []) ⟨hx, hb, hml, hown, hts⟩ (c_X8_judge l (D := D) (ad := adX) (cy := cy) (sa := sa) (va := va) (I := I) (J := J) (xs (i + 1).toNatClampNeg) (xs (i + 2).toNatClampNeg) e1) (cwV 2 hts gL_law_X8_judge rfl rfl rfl (by decide +kernel) ⟨Nat.le_of_ble_eq_true rfl, Nat.le_of_ble_eq_true rfl⟩) ⟨qPre_blind _, q_recv hK hw.1.1 oX8 rfl, fun U hU hW => ⟨rfl, lw_preX hK hE hw U hU hW⟩⟩ rfl rfl hl.1 rfl (lv_room (Nat.le_of_ble_eq_true rfl)) dL_law_1552 (lw_rm0 hc)) hw (fun H hw => ?_)
  refine lv_aload_n hx hb dL_law_1555 rfl (lv_at hl 1 rfl) ?_
  refine lw_ld (v := 1) hx hb hX hbl hw hl dL_law_1556 dL_law_1557 dL_law_1558 (by decide) dL_law_1559 dL_law_1560 hi.1 ?_
  refine lw_ld (v := 2) hx hb hX hbl hw hl dL_law_1561 dL_law_1562 dL_law_1563 (by decide) dL_law_1564 dL_law_1565 hi.2.1 ?_
  refine lw_m (va_runV (As := [.int (xs (i + 1).toNatClampNeg), .int (xs (i + 2).toNatClampNeg)]) (rest := [.int r]) ⟨hx, hb, hml, hown, hts⟩ (c_X9_judge l (D := D) (ad := adM) (cy := cy) (sa := sa) (va := va) (I := A) (J := B) (S := mS a b1) mS_0 (xs (i + 1).toNatClampNeg) (xs (i + 2).toNatClampNeg) e2) (cwV 2 hts gL_law_X9_judge rfl rfl rfl (by decide +kernel) ⟨Nat.le_of_ble_eq_true rfl, Nat.le_of_ble_eq_true rfl⟩) ⟨qPre_blind _, q_recv hK hw.2.1.1 (oX9 mS_0) rfl, fun U hU hW => ⟨rfl, lw_preM hK hE hw U hU hW⟩⟩ rfl rfl hl.1 rfl (lv_room (Nat.le_of_ble_eq_true rfl)) dL_law_1566 (lw_rm0 hc)) hw (fun H hw => ?_)
  refine lv_icmp_eq (tgt := 1758) hx hb dL_law_1569 (by decide) (fun _ => ?_) (fun cc => absurd rfl cc)
  exact W.widen (k := cells + 40) (n := slots + 4180) (Nat.le_add_right _ _) (Nat.le_add_right _ _) (kk _ _ _ _ _ _ _ _ rfl hw hR1)
set_option maxHeartbeats 4000000 in
set_option maxRecDepth 100000 in
/-- behind -/
theorem law_49 {p : Program} {l : Launch} {e : Env} {s : State} {m : MethodId} {below : List Frame} {meth : Method} {c : Code} {b L : Nat} {xs : Nat → Int32} {D : va_G} {cy : Nat → ClassId} {sa va adX adM : Nat → Nat} {a b1 : Bool} {I : qI} {J : qJ} {A : qI} {B : qJ} {H : Heap} {cells slots : Nat} {Q : State → Prop} {ls : Array Slot} {i : Int32} (C : lwC p s m c b L xs D cy sa va) (hi : lwI i L) (hl : lv_has ls 4 [(3, .int i), (2, .ref (adM 0)), (1, .ref (adX 0)), (0, .ref b)]) (hw : lwW s D cy adX adM a b1 I J A B H) (hR : Rel (b2i a, b2i b1) I J A B) (hc : cells + 40 ≤ 600000 ∧ slots + 4180 ≤ 7302250)
    (kk : ∀ (a b1 : Bool) (adM1 : Nat → Nat) (I : qI) (J : qJ) (A : qI) (B : qJ) (H : Heap), adM1 0 = adM 0 → lwW s D cy adX adM1 a b1 I J A B H → Rel (b2i a, b2i b1) I J A B → W p l e room_1 s m #[.ref b] below meth c H [] (cells + 40) (slots + 4180) Q (F0 m 1758 ls [])) : W p l e room_1 s m #[.ref b] below meth c H [] cells slots Q (F0 m 1574 ls []) := by
  obtain ⟨⟨hx, hb, hml, hown, hts⟩, ⟨hX, hbl⟩, hK, hE, hM⟩ := C
  obtain ⟨r, I1, A1, e1, e2, hR1⟩ := s_behind hR (xs (i + 1).toNatClampNeg) (xs (i + 2).toNatClampNeg) (xs (i + 3).toNatClampNeg)
  refine lv_aload_n hx hb dL_law_1574 rfl (lv_at hl 2 rfl) ?_
  refine lw_ld (v := 1) hx hb hX hbl hw hl dL_law_1575 dL_law_1576 dL_law_1577 (by decide) dL_law_1578 dL_law_1579 hi.1 ?_
  refine lw_ld (v := 2) hx hb hX hbl hw hl dL_law_1580 dL_law_1581 dL_law_1582 (by decide) dL_law_1583 dL_law_1584 hi.2.1 ?_
  refine lw_ld (v := 3) hx hb hX hbl hw hl dL_law_1585 dL_law_1586 dL_law_1587 (by decide) dL_law_1588 dL_law_1589 hi.2.2.1 ?_
  refine lw_x (va_runV (As := [.int (xs (i + 1).toNatClampNeg), .int (xs (i + 2).toNatClampNeg), .int (xs (i + 3).toNatClampNeg)]) (rest := []) ⟨hx, hb, hml, hown, hts⟩ (c_X8_behind l (D := D) (ad := adX) (cy := cy) (sa := sa) (va := va) (I := I) (J := J) (xs (i + 1).toNatClampNeg) (xs (i + 2).toNatClampNeg) (xs (i + 3).toNatClampNeg) e1) (cwV 3 hts gL_law_X8_behind rfl rfl rfl (by decide +kernel) ⟨Nat.le_of_ble_eq_true rfl, Nat.le_of_ble_eq_true rfl⟩) ⟨qPre_blind _, q_recv hK hw.1.1 oX8 rfl, fun U hU hW => ⟨rfl, lw_preX hK hE hw U hU hW⟩⟩ rfl rfl hl.1 rfl (lv_room (Nat.le_of_ble_eq_true rfl)) dL_law_1590 (lw_rm0 hc)) hw (fun H hw => ?_)
  refine lv_aload_n hx hb dL_law_1593 rfl (lv_at hl 1 rfl) ?_
  refine lw_ld (v := 1) hx hb hX hbl hw hl dL_law_1594 dL_law_1595 dL_law_1596 (by decide) dL_law_1597 dL_law_1598 hi.1 ?_
  refine lw_ld (v := 2) hx hb hX hbl hw hl dL_law_1599 dL_law_1600 dL_law_1601 (by decide) dL_law_1602 dL_law_1603 hi.2.1 ?_
  refine lw_ld (v := 3) hx hb hX hbl hw hl dL_law_1604 dL_law_1605 dL_law_1606 (by decide) dL_law_1607 dL_law_1608 hi.2.2.1 ?_
  refine lw_m (va_runV (As := [.int (xs (i + 1).toNatClampNeg), .int (xs (i + 2).toNatClampNeg), .int (xs (i + 3).toNatClampNeg)]) (rest := [.int r]) ⟨hx, hb, hml, hown, hts⟩ (c_X9_behind l (D := D) (ad := adM) (cy := cy) (sa := sa) (va := va) (I := A) (J := B) (S := mS a b1) mS_0 (xs (i + 1).toNatClampNeg) (xs (i + 2).toNatClampNeg) (xs (i + 3).toNatClampNeg) e2) (cwV 3 hts gL_law_X9_behind rfl rfl rfl (by decide +kernel) ⟨Nat.le_of_ble_eq_true rfl, Nat.le_of_ble_eq_true rfl⟩) ⟨qPre_blind _, q_recv hK hw.2.1.1 (oX9 mS_0) rfl, fun U hU hW => ⟨rfl, lw_preM hK hE hw U hU hW⟩⟩ rfl rfl hl.1 rfl (lv_room (Nat.le_of_ble_eq_true rfl)) dL_law_1609 (lw_rm0 hc)) hw (fun H hw => ?_)
  refine lv_icmp_eq (tgt := 1758) hx hb dL_law_1612 (by decide) (fun _ => ?_) (fun cc => absurd rfl cc)
  exact W.widen (k := cells + 40) (n := slots + 4180) (Nat.le_add_right _ _) (Nat.le_add_right _ _) (kk _ _ _ _ _ _ _ _ rfl hw hR1)
set_option maxHeartbeats 4000000 in
set_option maxRecDepth 100000 in
/-- cross -/
theorem law_50 {p : Program} {l : Launch} {e : Env} {s : State} {m : MethodId} {below : List Frame} {meth : Method} {c : Code} {b L : Nat} {xs : Nat → Int32} {D : va_G} {cy : Nat → ClassId} {sa va adX adM : Nat → Nat} {a b1 : Bool} {I : qI} {J : qJ} {A : qI} {B : qJ} {H : Heap} {cells slots : Nat} {Q : State → Prop} {ls : Array Slot} {i : Int32} (C : lwC p s m c b L xs D cy sa va) (hi : lwI i L) (hl : lv_has ls 4 [(3, .int i), (2, .ref (adM 0)), (1, .ref (adX 0)), (0, .ref b)]) (hw : lwW s D cy adX adM a b1 I J A B H) (hR : Rel (b2i a, b2i b1) I J A B) (hc : cells + 40 ≤ 600000 ∧ slots + 4180 ≤ 7302250)
    (kk : ∀ (a b1 : Bool) (adM1 : Nat → Nat) (I : qI) (J : qJ) (A : qI) (B : qJ) (H : Heap), adM1 0 = adM 0 → lwW s D cy adX adM1 a b1 I J A B H → Rel (b2i a, b2i b1) I J A B → W p l e room_1 s m #[.ref b] below meth c H [] (cells + 40) (slots + 4180) Q (F0 m 1758 ls [])) : W p l e room_1 s m #[.ref b] below meth c H [] cells slots Q (F0 m 1617 ls []) := by
  obtain ⟨⟨hx, hb, hml, hown, hts⟩, ⟨hX, hbl⟩, hK, hE, hM⟩ := C
  obtain ⟨r, I1, A1, e1, e2, hR1⟩ := s_cross hR (xs (i + 1).toNatClampNeg)
  refine lv_aload_n hx hb dL_law_1617 rfl (lv_at hl 2 rfl) ?_
  refine lw_ld (v := 1) hx hb hX hbl hw hl dL_law_1618 dL_law_1619 dL_law_1620 (by decide) dL_law_1621 dL_law_1622 hi.1 ?_
  refine lw_x (va_runV (As := [.int (xs (i + 1).toNatClampNeg)]) (rest := []) ⟨hx, hb, hml, hown, hts⟩ (c_X8_cross l (D := D) (ad := adX) (cy := cy) (sa := sa) (va := va) (I := I) (J := J) (xs (i + 1).toNatClampNeg) e1) (cwV 1 hts gL_law_X8_cross rfl rfl rfl (by decide +kernel) ⟨Nat.le_of_ble_eq_true rfl, Nat.le_of_ble_eq_true rfl⟩) ⟨qPre_blind _, q_recv hK hw.1.1 oX8 rfl, fun U hU hW => ⟨rfl, lw_preX hK hE hw U hU hW⟩⟩ rfl rfl hl.1 rfl (lv_room (Nat.le_of_ble_eq_true rfl)) dL_law_1623 (lw_rm0 hc)) hw (fun H hw => ?_)
  refine lv_aload_n hx hb dL_law_1626 rfl (lv_at hl 1 rfl) ?_
  refine lw_ld (v := 1) hx hb hX hbl hw hl dL_law_1627 dL_law_1628 dL_law_1629 (by decide) dL_law_1630 dL_law_1631 hi.1 ?_
  refine lw_m (va_runV (As := [.int (xs (i + 1).toNatClampNeg)]) (rest := [.int r]) ⟨hx, hb, hml, hown, hts⟩ (c_X9_cross l (D := D) (ad := adM) (cy := cy) (sa := sa) (va := va) (I := A) (J := B) (S := mS a b1) mS_0 (xs (i + 1).toNatClampNeg) e2) (cwV 1 hts gL_law_X9_cross rfl rfl rfl (by decide +kernel) ⟨Nat.le_of_ble_eq_true rfl, Nat.le_of_ble_eq_true rfl⟩) ⟨qPre_blind _, q_recv hK hw.2.1.1 (oX9 mS_0) rfl, fun U hU hW => ⟨rfl, lw_preM hK hE hw U hU hW⟩⟩ rfl rfl hl.1 rfl (lv_room (Nat.le_of_ble_eq_true rfl)) dL_law_1632 (lw_rm0 hc)) hw (fun H hw => ?_)
  refine lv_icmp_eq (tgt := 1758) hx hb dL_law_1635 (by decide) (fun _ => ?_) (fun cc => absurd rfl cc)
  exact W.widen (k := cells + 40) (n := slots + 4180) (Nat.le_add_right _ _) (Nat.le_add_right _ _) (kk _ _ _ _ _ _ _ _ rfl hw hR1)
set_option maxHeartbeats 4000000 in
set_option maxRecDepth 100000 in
/-- comesBack -/
theorem law_51 {p : Program} {l : Launch} {e : Env} {s : State} {m : MethodId} {below : List Frame} {meth : Method} {c : Code} {b L : Nat} {xs : Nat → Int32} {D : va_G} {cy : Nat → ClassId} {sa va adX adM : Nat → Nat} {a b1 : Bool} {I : qI} {J : qJ} {A : qI} {B : qJ} {H : Heap} {cells slots : Nat} {Q : State → Prop} {ls : Array Slot} {i : Int32} (C : lwC p s m c b L xs D cy sa va) (hi : lwI i L) (hl : lv_has ls 4 [(3, .int i), (2, .ref (adM 0)), (1, .ref (adX 0)), (0, .ref b)]) (hw : lwW s D cy adX adM a b1 I J A B H) (hR : Rel (b2i a, b2i b1) I J A B) (hc : cells + 40 ≤ 600000 ∧ slots + 4180 ≤ 7302250)
    (kk : ∀ (a b1 : Bool) (adM1 : Nat → Nat) (I : qI) (J : qJ) (A : qI) (B : qJ) (H : Heap), adM1 0 = adM 0 → lwW s D cy adX adM1 a b1 I J A B H → Rel (b2i a, b2i b1) I J A B → W p l e room_1 s m #[.ref b] below meth c H [] (cells + 40) (slots + 4180) Q (F0 m 1758 ls [])) : W p l e room_1 s m #[.ref b] below meth c H [] cells slots Q (F0 m 1640 ls []) := by
  obtain ⟨⟨hx, hb, hml, hown, hts⟩, ⟨hX, hbl⟩, hK, hE, hM⟩ := C
  obtain ⟨r, I1, A1, e1, e2, hR1⟩ := s_comesBack hR (xs (i + 1).toNatClampNeg)
  refine lv_aload_n hx hb dL_law_1640 rfl (lv_at hl 2 rfl) ?_
  refine lw_ld (v := 1) hx hb hX hbl hw hl dL_law_1641 dL_law_1642 dL_law_1643 (by decide) dL_law_1644 dL_law_1645 hi.1 ?_
  refine lw_x (va_runV (As := [.int (xs (i + 1).toNatClampNeg)]) (rest := []) ⟨hx, hb, hml, hown, hts⟩ (c_X8_comesBack l (D := D) (ad := adX) (cy := cy) (sa := sa) (va := va) (I := I) (J := J) (xs (i + 1).toNatClampNeg) e1) (cwV 1 hts gL_law_X8_comesBack rfl rfl rfl (by decide +kernel) ⟨Nat.le_of_ble_eq_true rfl, Nat.le_of_ble_eq_true rfl⟩) ⟨qPre_blind _, q_recv hK hw.1.1 oX8 rfl, fun U hU hW => ⟨rfl, lw_preX hK hE hw U hU hW⟩⟩ rfl rfl hl.1 rfl (lv_room (Nat.le_of_ble_eq_true rfl)) dL_law_1646 (lw_rm0 hc)) hw (fun H hw => ?_)
  refine lv_aload_n hx hb dL_law_1649 rfl (lv_at hl 1 rfl) ?_
  refine lw_ld (v := 1) hx hb hX hbl hw hl dL_law_1650 dL_law_1651 dL_law_1652 (by decide) dL_law_1653 dL_law_1654 hi.1 ?_
  refine lw_m (va_runV (As := [.int (xs (i + 1).toNatClampNeg)]) (rest := [.int r]) ⟨hx, hb, hml, hown, hts⟩ (c_X9_comesBack l (D := D) (ad := adM) (cy := cy) (sa := sa) (va := va) (I := A) (J := B) (S := mS a b1) mS_0 (xs (i + 1).toNatClampNeg) e2) (cwV 1 hts gL_law_X9_comesBack rfl rfl rfl (by decide +kernel) ⟨Nat.le_of_ble_eq_true rfl, Nat.le_of_ble_eq_true rfl⟩) ⟨qPre_blind _, q_recv hK hw.2.1.1 (oX9 mS_0) rfl, fun U hU hW => ⟨rfl, lw_preM hK hE hw U hU hW⟩⟩ rfl rfl hl.1 rfl (lv_room (Nat.le_of_ble_eq_true rfl)) dL_law_1655 (lw_rm0 hc)) hw (fun H hw => ?_)
  refine lv_icmp_eq (tgt := 1758) hx hb dL_law_1658 (by decide) (fun _ => ?_) (fun cc => absurd rfl cc)
  exact W.widen (k := cells + 40) (n := slots + 4180) (Nat.le_add_right _ _) (Nat.le_add_right _ _) (kk _ _ _ _ _ _ _ _ rfl hw hR1)
set_option maxHeartbeats 4000000 in
set_option maxRecDepth 100000 in
/-- days -/
theorem law_52 {p : Program} {l : Launch} {e : Env} {s : State} {m : MethodId} {below : List Frame} {meth : Method} {c : Code} {b L : Nat} {xs : Nat → Int32} {D : va_G} {cy : Nat → ClassId} {sa va adX adM : Nat → Nat} {a b1 : Bool} {I : qI} {J : qJ} {A : qI} {B : qJ} {H : Heap} {cells slots : Nat} {Q : State → Prop} {ls : Array Slot} {i : Int32} (C : lwC p s m c b L xs D cy sa va) (hi : lwI i L) (hl : lv_has ls 4 [(3, .int i), (2, .ref (adM 0)), (1, .ref (adX 0)), (0, .ref b)]) (hw : lwW s D cy adX adM a b1 I J A B H) (hR : Rel (b2i a, b2i b1) I J A B) (hc : cells + 40 ≤ 600000 ∧ slots + 4180 ≤ 7302250)
    (kk : ∀ (a b1 : Bool) (adM1 : Nat → Nat) (I : qI) (J : qJ) (A : qI) (B : qJ) (H : Heap), adM1 0 = adM 0 → lwW s D cy adX adM1 a b1 I J A B H → Rel (b2i a, b2i b1) I J A B → W p l e room_1 s m #[.ref b] below meth c H [] (cells + 40) (slots + 4180) Q (F0 m 1758 ls [])) : W p l e room_1 s m #[.ref b] below meth c H [] cells slots Q (F0 m 1663 ls []) := by
  obtain ⟨⟨hx, hb, hml, hown, hts⟩, ⟨hX, hbl⟩, hK, hE, hM⟩ := C
  obtain ⟨r, I1, A1, e1, e2, hR1⟩ := s_days hR (xs (i + 1).toNatClampNeg)
  refine lv_aload_n hx hb dL_law_1663 rfl (lv_at hl 2 rfl) ?_
  refine lw_ld (v := 1) hx hb hX hbl hw hl dL_law_1664 dL_law_1665 dL_law_1666 (by decide) dL_law_1667 dL_law_1668 hi.1 ?_
  refine lw_x (va_runV (As := [.int (xs (i + 1).toNatClampNeg)]) (rest := []) ⟨hx, hb, hml, hown, hts⟩ (c_X8_days l (D := D) (ad := adX) (cy := cy) (sa := sa) (va := va) (I := I) (J := J) (xs (i + 1).toNatClampNeg) e1) (cwV 1 hts gL_law_X8_days rfl rfl rfl (by decide +kernel) ⟨Nat.le_of_ble_eq_true rfl, Nat.le_of_ble_eq_true rfl⟩) ⟨qPre_blind _, q_recv hK hw.1.1 oX8 rfl, fun U hU hW => ⟨rfl, lw_preX hK hE hw U hU hW⟩⟩ rfl rfl hl.1 rfl (lv_room (Nat.le_of_ble_eq_true rfl)) dL_law_1669 (lw_rm0 hc)) hw (fun H hw => ?_)
  refine lv_aload_n hx hb dL_law_1672 rfl (lv_at hl 1 rfl) ?_
  refine lw_ld (v := 1) hx hb hX hbl hw hl dL_law_1673 dL_law_1674 dL_law_1675 (by decide) dL_law_1676 dL_law_1677 hi.1 ?_
  refine lw_m (va_runV (As := [.int (xs (i + 1).toNatClampNeg)]) (rest := [.int r]) ⟨hx, hb, hml, hown, hts⟩ (c_X9_days l (D := D) (ad := adM) (cy := cy) (sa := sa) (va := va) (I := A) (J := B) (S := mS a b1) mS_0 (xs (i + 1).toNatClampNeg) e2) (cwV 1 hts gL_law_X9_days rfl rfl rfl (by decide +kernel) ⟨Nat.le_of_ble_eq_true rfl, Nat.le_of_ble_eq_true rfl⟩) ⟨qPre_blind _, q_recv hK hw.2.1.1 (oX9 mS_0) rfl, fun U hU hW => ⟨rfl, lw_preM hK hE hw U hU hW⟩⟩ rfl rfl hl.1 rfl (lv_room (Nat.le_of_ble_eq_true rfl)) dL_law_1678 (lw_rm0 hc)) hw (fun H hw => ?_)
  refine lv_icmp_eq (tgt := 1758) hx hb dL_law_1681 (by decide) (fun _ => ?_) (fun cc => absurd rfl cc)
  exact W.widen (k := cells + 40) (n := slots + 4180) (Nat.le_add_right _ _) (Nat.le_add_right _ _) (kk _ _ _ _ _ _ _ _ rfl hw hR1)
set_option maxHeartbeats 4000000 in
set_option maxRecDepth 100000 in
/-- seed -/
theorem law_53 {p : Program} {l : Launch} {e : Env} {s : State} {m : MethodId} {below : List Frame} {meth : Method} {c : Code} {b L : Nat} {xs : Nat → Int32} {D : va_G} {cy : Nat → ClassId} {sa va adX adM : Nat → Nat} {a b1 : Bool} {I : qI} {J : qJ} {A : qI} {B : qJ} {H : Heap} {cells slots : Nat} {Q : State → Prop} {ls : Array Slot} {i : Int32} (C : lwC p s m c b L xs D cy sa va) (hi : lwI i L) (hl : lv_has ls 4 [(3, .int i), (2, .ref (adM 0)), (1, .ref (adX 0)), (0, .ref b)]) (hw : lwW s D cy adX adM a b1 I J A B H) (hR : Rel (b2i a, b2i b1) I J A B) (hc : cells + 40 ≤ 600000 ∧ slots + 4180 ≤ 7302250)
    (kk : ∀ (a b1 : Bool) (adM1 : Nat → Nat) (I : qI) (J : qJ) (A : qI) (B : qJ) (H : Heap), adM1 0 = adM 0 → lwW s D cy adX adM1 a b1 I J A B H → Rel (b2i a, b2i b1) I J A B → W p l e room_1 s m #[.ref b] below meth c H [] (cells + 40) (slots + 4180) Q (F0 m 1758 ls [])) : W p l e room_1 s m #[.ref b] below meth c H [] cells slots Q (F0 m 1686 ls []) := by
  obtain ⟨⟨hx, hb, hml, hown, hts⟩, ⟨hX, hbl⟩, hK, hE, hM⟩ := C
  obtain ⟨r, I1, A1, e1, e2, hR1⟩ := s_seed hR (xs (i + 1).toNatClampNeg)
  refine lv_aload_n hx hb dL_law_1686 rfl (lv_at hl 2 rfl) ?_
  refine lw_ld (v := 1) hx hb hX hbl hw hl dL_law_1687 dL_law_1688 dL_law_1689 (by decide) dL_law_1690 dL_law_1691 hi.1 ?_
  refine lw_x (va_runV (As := [.int (xs (i + 1).toNatClampNeg)]) (rest := []) ⟨hx, hb, hml, hown, hts⟩ (c_X8_seed l (D := D) (ad := adX) (cy := cy) (sa := sa) (va := va) (I := I) (J := J) (xs (i + 1).toNatClampNeg) e1) (cwV 1 hts gL_law_X8_seed rfl rfl rfl (by decide +kernel) ⟨Nat.le_of_ble_eq_true rfl, Nat.le_of_ble_eq_true rfl⟩) ⟨qPre_blind _, q_recv hK hw.1.1 oX8 rfl, fun U hU hW => ⟨rfl, lw_preX hK hE hw U hU hW⟩⟩ rfl rfl hl.1 rfl (lv_room (Nat.le_of_ble_eq_true rfl)) dL_law_1692 (lw_rm0 hc)) hw (fun H hw => ?_)
  refine lv_aload_n hx hb dL_law_1695 rfl (lv_at hl 1 rfl) ?_
  refine lw_ld (v := 1) hx hb hX hbl hw hl dL_law_1696 dL_law_1697 dL_law_1698 (by decide) dL_law_1699 dL_law_1700 hi.1 ?_
  refine lw_m (va_runV (As := [.int (xs (i + 1).toNatClampNeg)]) (rest := [.int r]) ⟨hx, hb, hml, hown, hts⟩ (c_X9_seed l (D := D) (ad := adM) (cy := cy) (sa := sa) (va := va) (I := A) (J := B) (S := mS a b1) mS_0 (xs (i + 1).toNatClampNeg) e2) (cwV 1 hts gL_law_X9_seed rfl rfl rfl (by decide +kernel) ⟨Nat.le_of_ble_eq_true rfl, Nat.le_of_ble_eq_true rfl⟩) ⟨qPre_blind _, q_recv hK hw.2.1.1 (oX9 mS_0) rfl, fun U hU hW => ⟨rfl, lw_preM hK hE hw U hU hW⟩⟩ rfl rfl hl.1 rfl (lv_room (Nat.le_of_ble_eq_true rfl)) dL_law_1701 (lw_rm0 hc)) hw (fun H hw => ?_)
  refine lv_icmp_eq (tgt := 1758) hx hb dL_law_1704 (by decide) (fun _ => ?_) (fun cc => absurd rfl cc)
  exact W.widen (k := cells + 40) (n := slots + 4180) (Nat.le_add_right _ _) (Nat.le_add_right _ _) (kk _ _ _ _ _ _ _ _ rfl hw hR1)
set_option maxHeartbeats 4000000 in
set_option maxRecDepth 100000 in
/-- image -/
theorem law_54 {p : Program} {l : Launch} {e : Env} {s : State} {m : MethodId} {below : List Frame} {meth : Method} {c : Code} {b L : Nat} {xs : Nat → Int32} {D : va_G} {cy : Nat → ClassId} {sa va adX adM : Nat → Nat} {a b1 : Bool} {I : qI} {J : qJ} {A : qI} {B : qJ} {H : Heap} {cells slots : Nat} {Q : State → Prop} {ls : Array Slot} {i : Int32} (C : lwC p s m c b L xs D cy sa va) (hi : lwI i L) (hl : lv_has ls 4 [(3, .int i), (2, .ref (adM 0)), (1, .ref (adX 0)), (0, .ref b)]) (hw : lwW s D cy adX adM a b1 I J A B H) (hR : Rel (b2i a, b2i b1) I J A B) (hc : cells + 40 ≤ 600000 ∧ slots + 4180 ≤ 7302250)
    (kk : ∀ (a b1 : Bool) (adM1 : Nat → Nat) (I : qI) (J : qJ) (A : qI) (B : qJ) (H : Heap), adM1 0 = adM 0 → lwW s D cy adX adM1 a b1 I J A B H → Rel (b2i a, b2i b1) I J A B → W p l e room_1 s m #[.ref b] below meth c H [] (cells + 40) (slots + 4180) Q (F0 m 1758 ls [])) : W p l e room_1 s m #[.ref b] below meth c H [] cells slots Q (F0 m 1709 ls []) := by
  obtain ⟨⟨hx, hb, hml, hown, hts⟩, ⟨hX, hbl⟩, hK, hE, hM⟩ := C
  obtain ⟨r, I1, A1, e1, e2, hR1⟩ := s_imageA hR
  refine lv_aload_n hx hb dL_law_1709 rfl (lv_at hl 2 rfl) ?_
  refine lw_x (va_runV (As := []) (rest := []) ⟨hx, hb, hml, hown, hts⟩ (c_X8_image l (D := D) (ad := adX) (cy := cy) (sa := sa) (va := va) (I := I) (J := J)  e1) (cwV 0 hts gL_law_X8_image rfl rfl rfl (by decide +kernel) ⟨Nat.le_of_ble_eq_true rfl, Nat.le_of_ble_eq_true rfl⟩) ⟨qPre_blind _, q_recv hK hw.1.1 oX8 rfl, fun U hU hW => ⟨rfl, lw_preX hK hE hw U hU hW⟩⟩ rfl rfl hl.1 rfl (lv_room (Nat.le_of_ble_eq_true rfl)) dL_law_1710 (lw_rm0 hc)) hw (fun H hw => ?_)
  refine lv_aload_n hx hb dL_law_1713 rfl (lv_at hl 1 rfl) ?_
  refine lw_n (va_runV (As := []) (rest := [.int r]) ⟨hx, hb, hml, hown, hts⟩ (c_X9_image l (D := D) (ad := adM) (cy := cy) (sa := sa) (va := va) (I := A) (J := B) a b1 H.size hR.f26 (fun z => hR.f4026) e2) (cwV 0 hts gL_law_X9_image rfl rfl rfl (by decide +kernel) ⟨Nat.le_of_ble_eq_true rfl, Nat.le_of_ble_eq_true rfl⟩) ⟨mPre_blind _, q_recv hK hw.2.1.1 (oX9 mS_0) rfl, fun U hU hW => ⟨rfl, lw_preN hK hE hM hw U hU hW⟩⟩ rfl rfl hl.1 rfl (lv_room (Nat.le_of_ble_eq_true rfl)) dL_law_1714 (lw_rm1 hc)) hw (fun H ad1 h01 hw => ?_)
  refine lv_icmp_eq (tgt := 1758) hx hb dL_law_1717 (by decide) (fun _ => ?_) (fun cc => absurd rfl cc)
  exact kk _ _ _ _ _ _ _ _ h01 hw hR1
set_option maxHeartbeats 4000000 in
set_option maxRecDepth 100000 in
/-- back -/
theorem law_55 {p : Program} {l : Launch} {e : Env} {s : State} {m : MethodId} {below : List Frame} {meth : Method} {c : Code} {b L : Nat} {xs : Nat → Int32} {D : va_G} {cy : Nat → ClassId} {sa va adX adM : Nat → Nat} {a b1 : Bool} {I : qI} {J : qJ} {A : qI} {B : qJ} {H : Heap} {cells slots : Nat} {Q : State → Prop} {ls : Array Slot} {i : Int32} (C : lwC p s m c b L xs D cy sa va) (hi : lwI i L) (hl : lv_has ls 4 [(3, .int i), (2, .ref (adM 0)), (1, .ref (adX 0)), (0, .ref b)]) (hw : lwW s D cy adX adM a b1 I J A B H) (hR : Rel (b2i a, b2i b1) I J A B) (hc : cells + 40 ≤ 600000 ∧ slots + 4180 ≤ 7302250)
    (kk : ∀ (a b1 : Bool) (adM1 : Nat → Nat) (I : qI) (J : qJ) (A : qI) (B : qJ) (H : Heap), adM1 0 = adM 0 → lwW s D cy adX adM1 a b1 I J A B H → Rel (b2i a, b2i b1) I J A B → W p l e room_1 s m #[.ref b] below meth c H [] (cells + 40) (slots + 4180) Q (F0 m 1758 ls [])) : W p l e room_1 s m #[.ref b] below meth c H [] cells slots Q (F0 m 1722 ls []) := by
  obtain ⟨⟨hx, hb, hml, hown, hts⟩, ⟨hX, hbl⟩, hK, hE, hM⟩ := C
  obtain ⟨r, I1, A1, e1, e2, hR1⟩ := s_backA hR
  refine lv_aload_n hx hb dL_law_1722 rfl (lv_at hl 2 rfl) ?_
  refine lw_x (va_runV (As := []) (rest := []) ⟨hx, hb, hml, hown, hts⟩ (c_X8_back l (D := D) (ad := adX) (cy := cy) (sa := sa) (va := va) (I := I) (J := J)  e1) (cwV 0 hts gL_law_X8_back rfl rfl rfl (by decide +kernel) ⟨Nat.le_of_ble_eq_true rfl, Nat.le_of_ble_eq_true rfl⟩) ⟨qPre_blind _, q_recv hK hw.1.1 oX8 rfl, fun U hU hW => ⟨rfl, lw_preX hK hE hw U hU hW⟩⟩ rfl rfl hl.1 rfl (lv_room (Nat.le_of_ble_eq_true rfl)) dL_law_1723 (lw_rm0 hc)) hw (fun H hw => ?_)
  refine lv_aload_n hx hb dL_law_1726 rfl (lv_at hl 1 rfl) ?_
  refine lw_n (va_runV (As := []) (rest := [.int r]) ⟨hx, hb, hml, hown, hts⟩ (c_X9_back l (D := D) (ad := adM) (cy := cy) (sa := sa) (va := va) (I := A) (J := B) a b1 H.size hR.f26 e2) (cwV 0 hts gL_law_X9_back rfl rfl rfl (by decide +kernel) ⟨Nat.le_of_ble_eq_true rfl, Nat.le_of_ble_eq_true rfl⟩) ⟨mPre_blind _, q_recv hK hw.2.1.1 (oX9 mS_0) rfl, fun U hU hW => ⟨rfl, lw_preN hK hE hM hw U hU hW⟩⟩ rfl rfl hl.1 rfl (lv_room (Nat.le_of_ble_eq_true rfl)) dL_law_1727 (lw_rm1 hc)) hw (fun H ad1 h01 hw => ?_)
  refine lv_icmp_eq (tgt := 1758) hx hb dL_law_1730 (by decide) (fun _ => ?_) (fun cc => absurd rfl cc)
  exact kk _ _ _ _ _ _ _ _ h01 hw hR1
set_option maxHeartbeats 4000000 in
set_option maxRecDepth 100000 in
/-- status -/
theorem law_56 {p : Program} {l : Launch} {e : Env} {s : State} {m : MethodId} {below : List Frame} {meth : Method} {c : Code} {b L : Nat} {xs : Nat → Int32} {D : va_G} {cy : Nat → ClassId} {sa va adX adM : Nat → Nat} {a b1 : Bool} {I : qI} {J : qJ} {A : qI} {B : qJ} {H : Heap} {cells slots : Nat} {Q : State → Prop} {ls : Array Slot} {i : Int32} (C : lwC p s m c b L xs D cy sa va) (hi : lwI i L) (hl : lv_has ls 4 [(3, .int i), (2, .ref (adM 0)), (1, .ref (adX 0)), (0, .ref b)]) (hw : lwW s D cy adX adM a b1 I J A B H) (hR : Rel (b2i a, b2i b1) I J A B) (hc : cells + 40 ≤ 600000 ∧ slots + 4180 ≤ 7302250)
    (kk : ∀ (a b1 : Bool) (adM1 : Nat → Nat) (I : qI) (J : qJ) (A : qI) (B : qJ) (H : Heap), adM1 0 = adM 0 → lwW s D cy adX adM1 a b1 I J A B H → Rel (b2i a, b2i b1) I J A B → W p l e room_1 s m #[.ref b] below meth c H [] (cells + 40) (slots + 4180) Q (F0 m 1758 ls [])) : W p l e room_1 s m #[.ref b] below meth c H [] cells slots Q (F0 m 1735 ls []) := by
  obtain ⟨⟨hx, hb, hml, hown, hts⟩, ⟨hX, hbl⟩, hK, hE, hM⟩ := C
  obtain ⟨r, e1, e2⟩ := s_status hR (xs (i + 1).toNatClampNeg)
  refine lv_aload_n hx hb dL_law_1735 rfl (lv_at hl 2 rfl) ?_
  refine lw_ld (v := 1) hx hb hX hbl hw hl dL_law_1736 dL_law_1737 dL_law_1738 (by decide) dL_law_1739 dL_law_1740 hi.1 ?_
  refine q_cSi (va_runV (As := [.int (xs (i + 1).toNatClampNeg)]) (rest := []) ⟨hx, hb, hml, hown, hts⟩ (c_X8_status l (D := D) (ad := adX) (cy := cy) (sa := sa) (va := va) (I := I) (J := J) (xs (i + 1).toNatClampNeg) e1) (cwV 1 hts gL_law_X8_status rfl rfl rfl (by decide +kernel) ⟨Nat.le_of_ble_eq_true rfl, Nat.le_of_ble_eq_true rfl⟩) ⟨qPre_blind _, q_recv hK hw.1.1 oX8 rfl, fun U hU hW => ⟨rfl, lw_preX hK hE hw U hU hW⟩⟩ rfl rfl hl.1 rfl (lv_room (Nat.le_of_ble_eq_true rfl)) dL_law_1741 (lw_rm0 hc)) ?_
  refine lv_aload_n hx hb dL_law_1744 rfl (lv_at hl 1 rfl) ?_
  refine lw_ld (v := 1) hx hb hX hbl hw hl dL_law_1745 dL_law_1746 dL_law_1747 (by decide) dL_law_1748 dL_law_1749 hi.1 ?_
  refine q_cSi (va_runV (As := [.int (xs (i + 1).toNatClampNeg)]) (rest := [.int r]) ⟨hx, hb, hml, hown, hts⟩ (c_X9_status l (D := D) (ad := adM) (cy := cy) (sa := sa) (va := va) (I := A) (J := B) (S := mS a b1) mS_0 (xs (i + 1).toNatClampNeg) e2) (cwV 1 hts gL_law_X9_status rfl rfl rfl (by decide +kernel) ⟨Nat.le_of_ble_eq_true rfl, Nat.le_of_ble_eq_true rfl⟩) ⟨qPre_blind _, q_recv hK hw.2.1.1 (oX9 mS_0) rfl, fun U hU hW => ⟨rfl, lw_preM hK hE hw U hU hW⟩⟩ rfl rfl hl.1 rfl (lv_room (Nat.le_of_ble_eq_true rfl)) dL_law_1750 (lw_rm0 hc)) ?_
  refine lv_icmp_eq (tgt := 1758) hx hb dL_law_1753 (by decide) (fun _ => ?_) (fun cc => absurd rfl cc)
  exact W.widen (k := cells + 40) (n := slots + 4180) (Nat.le_add_right _ _) (Nat.le_add_right _ _) (kk _ _ _ _ _ _ _ _ rfl hw hR)
