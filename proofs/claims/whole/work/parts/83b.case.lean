/-! the law, case by case: 19 to 37 (written by wip/gen/mk82.py) -/
set_option maxHeartbeats 4000000 in
set_option maxRecDepth 100000 in
/-- many -/
theorem law_19 {p : Program} {l : Launch} {e : Env} {s : State} {m : MethodId} {below : List Frame} {meth : Method} {c : Code} {b L : Nat} {xs : Nat → Int32} {D : va_G} {cy : Nat → ClassId} {sa va adX adM : Nat → Nat} {a b1 : Bool} {I : qI} {J : qJ} {A : qI} {B : qJ} {H : Heap} {cells slots : Nat} {Q : State → Prop} {ls : Array Slot} {i : Int32} (C : lwC p s m c b L xs D cy sa va) (hi : lwI i L) (hl : lv_has ls 4 [(3, .int i), (2, .ref (adM 0)), (1, .ref (adX 0)), (0, .ref b)]) (hw : lwW s D cy adX adM a b1 I J A B H) (hR : Rel (b2i a, b2i b1) I J A B) (hc : cells + 40 ≤ 600000 ∧ slots + 4180 ≤ 7302250)
    (kk : ∀ (a b1 : Bool) (adM1 : Nat → Nat) (I : qI) (J : qJ) (A : qI) (B : qJ) (H : Heap), adM1 0 = adM 0 → lwW s D cy adX adM1 a b1 I J A B H → Rel (b2i a, b2i b1) I J A B → W p l e room_1 s m #[.ref b] below meth c H [] (cells + 40) (slots + 4180) Q (F0 m 1758 ls [])) : W p l e room_1 s m #[.ref b] below meth c H [] cells slots Q (F0 m 924 ls []) := by
  obtain ⟨⟨hx, hb, hml, hown, hts⟩, ⟨hX, hbl⟩, hK, hE, hM⟩ := C
  obtain ⟨r, e1, e2⟩ := s_many hR 
  refine lv_aload_n hx hb dL_law_924 rfl (lv_at hl 2 rfl) ?_
  refine q_cSi (va_runV (As := []) (rest := []) ⟨hx, hb, hml, hown, hts⟩ (c_X8_many l (D := D) (ad := adX) (cy := cy) (sa := sa) (va := va) (I := I) (J := J)  e1) (cwV 0 hts gL_law_X8_many rfl rfl rfl (by decide +kernel) ⟨Nat.le_of_ble_eq_true rfl, Nat.le_of_ble_eq_true rfl⟩) ⟨qPre_blind _, q_recv hK hw.1.1 oX8 rfl, fun U hU hW => ⟨rfl, lw_preX hK hE hw U hU hW⟩⟩ rfl rfl hl.1 rfl (lv_room (Nat.le_of_ble_eq_true rfl)) dL_law_925 (lw_rm0 hc)) ?_
  refine lv_aload_n hx hb dL_law_928 rfl (lv_at hl 1 rfl) ?_
  refine q_cSi (va_runV (As := []) (rest := [.int r]) ⟨hx, hb, hml, hown, hts⟩ (c_X9_many l (D := D) (ad := adM) (cy := cy) (sa := sa) (va := va) (I := A) (J := B) (S := mS a b1) mS_0  e2) (cwV 0 hts gL_law_X9_many rfl rfl rfl (by decide +kernel) ⟨Nat.le_of_ble_eq_true rfl, Nat.le_of_ble_eq_true rfl⟩) ⟨qPre_blind _, q_recv hK hw.2.1.1 (oX9 mS_0) rfl, fun U hU hW => ⟨rfl, lw_preM hK hE hw U hU hW⟩⟩ rfl rfl hl.1 rfl (lv_room (Nat.le_of_ble_eq_true rfl)) dL_law_929 (lw_rm0 hc)) ?_
  refine lv_icmp_eq (tgt := 1758) hx hb dL_law_932 (by decide) (fun _ => ?_) (fun cc => absurd rfl cc)
  exact W.widen (k := cells + 40) (n := slots + 4180) (Nat.le_add_right _ _) (Nat.le_add_right _ _) (kk _ _ _ _ _ _ _ _ rfl hw hR)
set_option maxHeartbeats 4000000 in
set_option maxRecDepth 100000 in
/-- stranded -/
theorem law_20 {p : Program} {l : Launch} {e : Env} {s : State} {m : MethodId} {below : List Frame} {meth : Method} {c : Code} {b L : Nat} {xs : Nat → Int32} {D : va_G} {cy : Nat → ClassId} {sa va adX adM : Nat → Nat} {a b1 : Bool} {I : qI} {J : qJ} {A : qI} {B : qJ} {H : Heap} {cells slots : Nat} {Q : State → Prop} {ls : Array Slot} {i : Int32} (C : lwC p s m c b L xs D cy sa va) (hi : lwI i L) (hl : lv_has ls 4 [(3, .int i), (2, .ref (adM 0)), (1, .ref (adX 0)), (0, .ref b)]) (hw : lwW s D cy adX adM a b1 I J A B H) (hR : Rel (b2i a, b2i b1) I J A B) (hc : cells + 40 ≤ 600000 ∧ slots + 4180 ≤ 7302250)
    (kk : ∀ (a b1 : Bool) (adM1 : Nat → Nat) (I : qI) (J : qJ) (A : qI) (B : qJ) (H : Heap), adM1 0 = adM 0 → lwW s D cy adX adM1 a b1 I J A B H → Rel (b2i a, b2i b1) I J A B → W p l e room_1 s m #[.ref b] below meth c H [] (cells + 40) (slots + 4180) Q (F0 m 1758 ls [])) : W p l e room_1 s m #[.ref b] below meth c H [] cells slots Q (F0 m 937 ls []) := by
  obtain ⟨⟨hx, hb, hml, hown, hts⟩, ⟨hX, hbl⟩, hK, hE, hM⟩ := C
  obtain ⟨r, e1, e2⟩ := s_stranded hR 
  refine lv_aload_n hx hb dL_law_937 rfl (lv_at hl 2 rfl) ?_
  refine q_cSi (va_runV (As := []) (rest := []) ⟨hx, hb, hml, hown, hts⟩ (c_X8_stranded l (D := D) (ad := adX) (cy := cy) (sa := sa) (va := va) (I := I) (J := J)  e1) (cwV 0 hts gL_law_X8_stranded rfl rfl rfl (by decide +kernel) ⟨Nat.le_of_ble_eq_true rfl, Nat.le_of_ble_eq_true rfl⟩) ⟨qPre_blind _, q_recv hK hw.1.1 oX8 rfl, fun U hU hW => ⟨rfl, lw_preX hK hE hw U hU hW⟩⟩ rfl rfl hl.1 rfl (lv_room (Nat.le_of_ble_eq_true rfl)) dL_law_938 (lw_rm0 hc)) ?_
  refine lv_aload_n hx hb dL_law_941 rfl (lv_at hl 1 rfl) ?_
  refine q_cSi (va_runV (As := []) (rest := [.int r]) ⟨hx, hb, hml, hown, hts⟩ (c_X9_stranded l (D := D) (ad := adM) (cy := cy) (sa := sa) (va := va) (I := A) (J := B) (S := mS a b1) mS_0  e2) (cwV 0 hts gL_law_X9_stranded rfl rfl rfl (by decide +kernel) ⟨Nat.le_of_ble_eq_true rfl, Nat.le_of_ble_eq_true rfl⟩) ⟨qPre_blind _, q_recv hK hw.2.1.1 (oX9 mS_0) rfl, fun U hU hW => ⟨rfl, lw_preM hK hE hw U hU hW⟩⟩ rfl rfl hl.1 rfl (lv_room (Nat.le_of_ble_eq_true rfl)) dL_law_942 (lw_rm0 hc)) ?_
  refine lv_icmp_eq (tgt := 1758) hx hb dL_law_945 (by decide) (fun _ => ?_) (fun cc => absurd rfl cc)
  exact W.widen (k := cells + 40) (n := slots + 4180) (Nat.le_add_right _ _) (Nat.le_add_right _ _) (kk _ _ _ _ _ _ _ _ rfl hw hR)
set_option maxHeartbeats 4000000 in
set_option maxRecDepth 100000 in
/-- along -/
theorem law_21 {p : Program} {l : Launch} {e : Env} {s : State} {m : MethodId} {below : List Frame} {meth : Method} {c : Code} {b L : Nat} {xs : Nat → Int32} {D : va_G} {cy : Nat → ClassId} {sa va adX adM : Nat → Nat} {a b1 : Bool} {I : qI} {J : qJ} {A : qI} {B : qJ} {H : Heap} {cells slots : Nat} {Q : State → Prop} {ls : Array Slot} {i : Int32} (C : lwC p s m c b L xs D cy sa va) (hi : lwI i L) (hl : lv_has ls 4 [(3, .int i), (2, .ref (adM 0)), (1, .ref (adX 0)), (0, .ref b)]) (hw : lwW s D cy adX adM a b1 I J A B H) (hR : Rel (b2i a, b2i b1) I J A B) (hc : cells + 40 ≤ 600000 ∧ slots + 4180 ≤ 7302250)
    (kk : ∀ (a b1 : Bool) (adM1 : Nat → Nat) (I : qI) (J : qJ) (A : qI) (B : qJ) (H : Heap), adM1 0 = adM 0 → lwW s D cy adX adM1 a b1 I J A B H → Rel (b2i a, b2i b1) I J A B → W p l e room_1 s m #[.ref b] below meth c H [] (cells + 40) (slots + 4180) Q (F0 m 1758 ls [])) : W p l e room_1 s m #[.ref b] below meth c H [] cells slots Q (F0 m 950 ls []) := by
  obtain ⟨⟨hx, hb, hml, hown, hts⟩, ⟨hX, hbl⟩, hK, hE, hM⟩ := C
  obtain ⟨r, I1, A1, e1, e2, hR1⟩ := s_along hR (xs (i + 1).toNatClampNeg)
  refine lv_aload_n hx hb dL_law_950 rfl (lv_at hl 2 rfl) ?_
  refine lw_ld (v := 1) hx hb hX hbl hw hl dL_law_951 dL_law_952 dL_law_953 (by decide) dL_law_954 dL_law_955 hi.1 ?_
  refine lw_x (va_runV (As := [.int (xs (i + 1).toNatClampNeg)]) (rest := []) ⟨hx, hb, hml, hown, hts⟩ (c_X8_along l (D := D) (ad := adX) (cy := cy) (sa := sa) (va := va) (I := I) (J := J) (xs (i + 1).toNatClampNeg) e1) (cwV 1 hts gL_law_X8_along rfl rfl rfl (by decide +kernel) ⟨Nat.le_of_ble_eq_true rfl, Nat.le_of_ble_eq_true rfl⟩) ⟨qPre_blind _, q_recv hK hw.1.1 oX8 rfl, fun U hU hW => ⟨rfl, lw_preX hK hE hw U hU hW⟩⟩ rfl rfl hl.1 rfl (lv_room (Nat.le_of_ble_eq_true rfl)) dL_law_956 (lw_rm0 hc)) hw (fun H hw => ?_)
  refine lv_aload_n hx hb dL_law_959 rfl (lv_at hl 1 rfl) ?_
  refine lw_ld (v := 1) hx hb hX hbl hw hl dL_law_960 dL_law_961 dL_law_962 (by decide) dL_law_963 dL_law_964 hi.1 ?_
  refine lw_m (va_runV (As := [.int (xs (i + 1).toNatClampNeg)]) (rest := [.int r]) ⟨hx, hb, hml, hown, hts⟩ (c_X9_along l (D := D) (ad := adM) (cy := cy) (sa := sa) (va := va) (I := A) (J := B) (S := mS a b1) mS_0 (xs (i + 1).toNatClampNeg) e2) (cwV 1 hts gL_law_X9_along rfl rfl rfl (by decide +kernel) ⟨Nat.le_of_ble_eq_true rfl, Nat.le_of_ble_eq_true rfl⟩) ⟨qPre_blind _, q_recv hK hw.2.1.1 (oX9 mS_0) rfl, fun U hU hW => ⟨rfl, lw_preM hK hE hw U hU hW⟩⟩ rfl rfl hl.1 rfl (lv_room (Nat.le_of_ble_eq_true rfl)) dL_law_965 (lw_rm0 hc)) hw (fun H hw => ?_)
  refine lv_icmp_eq (tgt := 1758) hx hb dL_law_968 (by decide) (fun _ => ?_) (fun cc => absurd rfl cc)
  exact W.widen (k := cells + 40) (n := slots + 4180) (Nat.le_add_right _ _) (Nat.le_add_right _ _) (kk _ _ _ _ _ _ _ _ rfl hw hR1)
set_option maxHeartbeats 4000000 in
set_option maxRecDepth 100000 in
/-- plan -/
theorem law_22 {p : Program} {l : Launch} {e : Env} {s : State} {m : MethodId} {below : List Frame} {meth : Method} {c : Code} {b L : Nat} {xs : Nat → Int32} {D : va_G} {cy : Nat → ClassId} {sa va adX adM : Nat → Nat} {a b1 : Bool} {I : qI} {J : qJ} {A : qI} {B : qJ} {H : Heap} {cells slots : Nat} {Q : State → Prop} {ls : Array Slot} {i : Int32} (C : lwC p s m c b L xs D cy sa va) (hi : lwI i L) (hl : lv_has ls 4 [(3, .int i), (2, .ref (adM 0)), (1, .ref (adX 0)), (0, .ref b)]) (hw : lwW s D cy adX adM a b1 I J A B H) (hR : Rel (b2i a, b2i b1) I J A B) (hc : cells + 40 ≤ 600000 ∧ slots + 4180 ≤ 7302250)
    (kk : ∀ (a b1 : Bool) (adM1 : Nat → Nat) (I : qI) (J : qJ) (A : qI) (B : qJ) (H : Heap), adM1 0 = adM 0 → lwW s D cy adX adM1 a b1 I J A B H → Rel (b2i a, b2i b1) I J A B → W p l e room_1 s m #[.ref b] below meth c H [] (cells + 40) (slots + 4180) Q (F0 m 1758 ls [])) : W p l e room_1 s m #[.ref b] below meth c H [] cells slots Q (F0 m 973 ls []) := by
  obtain ⟨⟨hx, hb, hml, hown, hts⟩, ⟨hX, hbl⟩, hK, hE, hM⟩ := C
  obtain ⟨r, I1, A1, e1, e2, hR1⟩ := s_plan hR (xs (i + 1).toNatClampNeg)
  refine lv_aload_n hx hb dL_law_973 rfl (lv_at hl 2 rfl) ?_
  refine lw_ld (v := 1) hx hb hX hbl hw hl dL_law_974 dL_law_975 dL_law_976 (by decide) dL_law_977 dL_law_978 hi.1 ?_
  refine lw_x (va_runV (As := [.int (xs (i + 1).toNatClampNeg)]) (rest := []) ⟨hx, hb, hml, hown, hts⟩ (c_X8_plan l (D := D) (ad := adX) (cy := cy) (sa := sa) (va := va) (I := I) (J := J) (xs (i + 1).toNatClampNeg) e1) (cwV 1 hts gL_law_X8_plan rfl rfl rfl (by decide +kernel) ⟨Nat.le_of_ble_eq_true rfl, Nat.le_of_ble_eq_true rfl⟩) ⟨qPre_blind _, q_recv hK hw.1.1 oX8 rfl, fun U hU hW => ⟨rfl, lw_preX hK hE hw U hU hW⟩⟩ rfl rfl hl.1 rfl (lv_room (Nat.le_of_ble_eq_true rfl)) dL_law_979 (lw_rm0 hc)) hw (fun H hw => ?_)
  refine lv_aload_n hx hb dL_law_982 rfl (lv_at hl 1 rfl) ?_
  refine lw_ld (v := 1) hx hb hX hbl hw hl dL_law_983 dL_law_984 dL_law_985 (by decide) dL_law_986 dL_law_987 hi.1 ?_
  refine lw_m (va_runV (As := [.int (xs (i + 1).toNatClampNeg)]) (rest := [.int r]) ⟨hx, hb, hml, hown, hts⟩ (c_X9_plan l (D := D) (ad := adM) (cy := cy) (sa := sa) (va := va) (I := A) (J := B) (S := mS a b1) mS_0 (xs (i + 1).toNatClampNeg) e2) (cwV 1 hts gL_law_X9_plan rfl rfl rfl (by decide +kernel) ⟨Nat.le_of_ble_eq_true rfl, Nat.le_of_ble_eq_true rfl⟩) ⟨qPre_blind _, q_recv hK hw.2.1.1 (oX9 mS_0) rfl, fun U hU hW => ⟨rfl, lw_preM hK hE hw U hU hW⟩⟩ rfl rfl hl.1 rfl (lv_room (Nat.le_of_ble_eq_true rfl)) dL_law_988 (lw_rm0 hc)) hw (fun H hw => ?_)
  refine lv_icmp_eq (tgt := 1758) hx hb dL_law_991 (by decide) (fun _ => ?_) (fun cc => absurd rfl cc)
  exact W.widen (k := cells + 40) (n := slots + 4180) (Nat.le_add_right _ _) (Nat.le_add_right _ _) (kk _ _ _ _ _ _ _ _ rfl hw hR1)
set_option maxHeartbeats 4000000 in
set_option maxRecDepth 100000 in
/-- worth -/
theorem law_23 {p : Program} {l : Launch} {e : Env} {s : State} {m : MethodId} {below : List Frame} {meth : Method} {c : Code} {b L : Nat} {xs : Nat → Int32} {D : va_G} {cy : Nat → ClassId} {sa va adX adM : Nat → Nat} {a b1 : Bool} {I : qI} {J : qJ} {A : qI} {B : qJ} {H : Heap} {cells slots : Nat} {Q : State → Prop} {ls : Array Slot} {i : Int32} (C : lwC p s m c b L xs D cy sa va) (hi : lwI i L) (hl : lv_has ls 4 [(3, .int i), (2, .ref (adM 0)), (1, .ref (adX 0)), (0, .ref b)]) (hw : lwW s D cy adX adM a b1 I J A B H) (hR : Rel (b2i a, b2i b1) I J A B) (hc : cells + 40 ≤ 600000 ∧ slots + 4180 ≤ 7302250)
    (kk : ∀ (a b1 : Bool) (adM1 : Nat → Nat) (I : qI) (J : qJ) (A : qI) (B : qJ) (H : Heap), adM1 0 = adM 0 → lwW s D cy adX adM1 a b1 I J A B H → Rel (b2i a, b2i b1) I J A B → W p l e room_1 s m #[.ref b] below meth c H [] (cells + 40) (slots + 4180) Q (F0 m 1758 ls [])) : W p l e room_1 s m #[.ref b] below meth c H [] cells slots Q (F0 m 996 ls []) := by
  obtain ⟨⟨hx, hb, hml, hown, hts⟩, ⟨hX, hbl⟩, hK, hE, hM⟩ := C
  obtain ⟨r, I1, A1, e1, e2, hR1⟩ := s_worth hR (xs (i + 1).toNatClampNeg)
  refine lv_aload_n hx hb dL_law_996 rfl (lv_at hl 2 rfl) ?_
  refine lw_ld (v := 1) hx hb hX hbl hw hl dL_law_997 dL_law_998 dL_law_999 (by decide) dL_law_1000 dL_law_1001 hi.1 ?_
  refine lw_x (va_runV (As := [.int (xs (i + 1).toNatClampNeg)]) (rest := []) ⟨hx, hb, hml, hown, hts⟩ (c_X8_worth l (D := D) (ad := adX) (cy := cy) (sa := sa) (va := va) (I := I) (J := J) (xs (i + 1).toNatClampNeg) e1) (cwV 1 hts gL_law_X8_worth rfl rfl rfl (by decide +kernel) ⟨Nat.le_of_ble_eq_true rfl, Nat.le_of_ble_eq_true rfl⟩) ⟨qPre_blind _, q_recv hK hw.1.1 oX8 rfl, fun U hU hW => ⟨rfl, lw_preX hK hE hw U hU hW⟩⟩ rfl rfl hl.1 rfl (lv_room (Nat.le_of_ble_eq_true rfl)) dL_law_1002 (lw_rm0 hc)) hw (fun H hw => ?_)
  refine lv_aload_n hx hb dL_law_1005 rfl (lv_at hl 1 rfl) ?_
  refine lw_ld (v := 1) hx hb hX hbl hw hl dL_law_1006 dL_law_1007 dL_law_1008 (by decide) dL_law_1009 dL_law_1010 hi.1 ?_
  refine lw_m (va_runV (As := [.int (xs (i + 1).toNatClampNeg)]) (rest := [.int r]) ⟨hx, hb, hml, hown, hts⟩ (c_X9_worth l (D := D) (ad := adM) (cy := cy) (sa := sa) (va := va) (I := A) (J := B) (S := mS a b1) mS_0 (xs (i + 1).toNatClampNeg) e2) (cwV 1 hts gL_law_X9_worth rfl rfl rfl (by decide +kernel) ⟨Nat.le_of_ble_eq_true rfl, Nat.le_of_ble_eq_true rfl⟩) ⟨qPre_blind _, q_recv hK hw.2.1.1 (oX9 mS_0) rfl, fun U hU hW => ⟨rfl, lw_preM hK hE hw U hU hW⟩⟩ rfl rfl hl.1 rfl (lv_room (Nat.le_of_ble_eq_true rfl)) dL_law_1011 (lw_rm0 hc)) hw (fun H hw => ?_)
  refine lv_icmp_eq (tgt := 1758) hx hb dL_law_1014 (by decide) (fun _ => ?_) (fun cc => absurd rfl cc)
  exact W.widen (k := cells + 40) (n := slots + 4180) (Nat.le_add_right _ _) (Nat.le_add_right _ _) (kk _ _ _ _ _ _ _ _ rfl hw hR1)
set_option maxHeartbeats 4000000 in
set_option maxRecDepth 100000 in
/-- laws -/
theorem law_24 {p : Program} {l : Launch} {e : Env} {s : State} {m : MethodId} {below : List Frame} {meth : Method} {c : Code} {b L : Nat} {xs : Nat → Int32} {D : va_G} {cy : Nat → ClassId} {sa va adX adM : Nat → Nat} {a b1 : Bool} {I : qI} {J : qJ} {A : qI} {B : qJ} {H : Heap} {cells slots : Nat} {Q : State → Prop} {ls : Array Slot} {i : Int32} (C : lwC p s m c b L xs D cy sa va) (hi : lwI i L) (hl : lv_has ls 4 [(3, .int i), (2, .ref (adM 0)), (1, .ref (adX 0)), (0, .ref b)]) (hw : lwW s D cy adX adM a b1 I J A B H) (hR : Rel (b2i a, b2i b1) I J A B) (hc : cells + 40 ≤ 600000 ∧ slots + 4180 ≤ 7302250)
    (kk : ∀ (a b1 : Bool) (adM1 : Nat → Nat) (I : qI) (J : qJ) (A : qI) (B : qJ) (H : Heap), adM1 0 = adM 0 → lwW s D cy adX adM1 a b1 I J A B H → Rel (b2i a, b2i b1) I J A B → W p l e room_1 s m #[.ref b] below meth c H [] (cells + 40) (slots + 4180) Q (F0 m 1758 ls [])) : W p l e room_1 s m #[.ref b] below meth c H [] cells slots Q (F0 m 1019 ls []) := by
  obtain ⟨⟨hx, hb, hml, hown, hts⟩, ⟨hX, hbl⟩, hK, hE, hM⟩ := C
  obtain ⟨r, I1, A1, e1, e2, hR1⟩ := s_laws hR (xs (i + 1).toNatClampNeg)
  refine lv_aload_n hx hb dL_law_1019 rfl (lv_at hl 2 rfl) ?_
  refine lw_ld (v := 1) hx hb hX hbl hw hl dL_law_1020 dL_law_1021 dL_law_1022 (by decide) dL_law_1023 dL_law_1024 hi.1 ?_
  refine lw_x (va_runV (As := [.int (xs (i + 1).toNatClampNeg)]) (rest := []) ⟨hx, hb, hml, hown, hts⟩ (c_X8_laws l (D := D) (ad := adX) (cy := cy) (sa := sa) (va := va) (I := I) (J := J) (xs (i + 1).toNatClampNeg) e1) (cwV 1 hts gL_law_X8_laws rfl rfl rfl (by decide +kernel) ⟨Nat.le_of_ble_eq_true rfl, Nat.le_of_ble_eq_true rfl⟩) ⟨qPre_blind _, q_recv hK hw.1.1 oX8 rfl, fun U hU hW => ⟨rfl, lw_preX hK hE hw U hU hW⟩⟩ rfl rfl hl.1 rfl (lv_room (Nat.le_of_ble_eq_true rfl)) dL_law_1025 (lw_rm0 hc)) hw (fun H hw => ?_)
  refine lv_aload_n hx hb dL_law_1028 rfl (lv_at hl 1 rfl) ?_
  refine lw_ld (v := 1) hx hb hX hbl hw hl dL_law_1029 dL_law_1030 dL_law_1031 (by decide) dL_law_1032 dL_law_1033 hi.1 ?_
  refine lw_m (va_runV (As := [.int (xs (i + 1).toNatClampNeg)]) (rest := [.int r]) ⟨hx, hb, hml, hown, hts⟩ (c_X9_laws l (D := D) (ad := adM) (cy := cy) (sa := sa) (va := va) (I := A) (J := B) (S := mS a b1) mS_0 (xs (i + 1).toNatClampNeg) e2) (cwV 1 hts gL_law_X9_laws rfl rfl rfl (by decide +kernel) ⟨Nat.le_of_ble_eq_true rfl, Nat.le_of_ble_eq_true rfl⟩) ⟨qPre_blind _, q_recv hK hw.2.1.1 (oX9 mS_0) rfl, fun U hU hW => ⟨rfl, lw_preM hK hE hw U hU hW⟩⟩ rfl rfl hl.1 rfl (lv_room (Nat.le_of_ble_eq_true rfl)) dL_law_1034 (lw_rm0 hc)) hw (fun H hw => ?_)
  refine lv_icmp_eq (tgt := 1758) hx hb dL_law_1037 (by decide) (fun _ => ?_) (fun cc => absurd rfl cc)
  exact W.widen (k := cells + 40) (n := slots + 4180) (Nat.le_add_right _ _) (Nat.le_add_right _ _) (kk _ _ _ _ _ _ _ _ rfl hw hR1)
set_option maxHeartbeats 4000000 in
set_option maxRecDepth 100000 in
/-- sizes -/
theorem law_25 {p : Program} {l : Launch} {e : Env} {s : State} {m : MethodId} {below : List Frame} {meth : Method} {c : Code} {b L : Nat} {xs : Nat → Int32} {D : va_G} {cy : Nat → ClassId} {sa va adX adM : Nat → Nat} {a b1 : Bool} {I : qI} {J : qJ} {A : qI} {B : qJ} {H : Heap} {cells slots : Nat} {Q : State → Prop} {ls : Array Slot} {i : Int32} (C : lwC p s m c b L xs D cy sa va) (hi : lwI i L) (hl : lv_has ls 4 [(3, .int i), (2, .ref (adM 0)), (1, .ref (adX 0)), (0, .ref b)]) (hw : lwW s D cy adX adM a b1 I J A B H) (hR : Rel (b2i a, b2i b1) I J A B) (hc : cells + 40 ≤ 600000 ∧ slots + 4180 ≤ 7302250)
    (kk : ∀ (a b1 : Bool) (adM1 : Nat → Nat) (I : qI) (J : qJ) (A : qI) (B : qJ) (H : Heap), adM1 0 = adM 0 → lwW s D cy adX adM1 a b1 I J A B H → Rel (b2i a, b2i b1) I J A B → W p l e room_1 s m #[.ref b] below meth c H [] (cells + 40) (slots + 4180) Q (F0 m 1758 ls [])) : W p l e room_1 s m #[.ref b] below meth c H [] cells slots Q (F0 m 1042 ls []) := by
  obtain ⟨⟨hx, hb, hml, hown, hts⟩, ⟨hX, hbl⟩, hK, hE, hM⟩ := C
  obtain ⟨r, I1, A1, e1, e2, hR1⟩ := s_sizes hR 
  refine lv_aload_n hx hb dL_law_1042 rfl (lv_at hl 2 rfl) ?_
  refine lw_x (va_runV (As := []) (rest := []) ⟨hx, hb, hml, hown, hts⟩ (c_X8_sizes l (D := D) (ad := adX) (cy := cy) (sa := sa) (va := va) (I := I) (J := J)  e1) (cwV 0 hts gL_law_X8_sizes rfl rfl rfl (by decide +kernel) ⟨Nat.le_of_ble_eq_true rfl, Nat.le_of_ble_eq_true rfl⟩) ⟨qPre_blind _, q_recv hK hw.1.1 oX8 rfl, fun U hU hW => ⟨rfl, lw_preX hK hE hw U hU hW⟩⟩ rfl rfl hl.1 rfl (lv_room (Nat.le_of_ble_eq_true rfl)) dL_law_1043 (lw_rm0 hc)) hw (fun H hw => ?_)
  refine lv_aload_n hx hb dL_law_1046 rfl (lv_at hl 1 rfl) ?_
  refine lw_m (va_runV (As := []) (rest := [.int r]) ⟨hx, hb, hml, hown, hts⟩ (c_X9_sizes l (D := D) (ad := adM) (cy := cy) (sa := sa) (va := va) (I := A) (J := B) (S := mS a b1) mS_0  e2) (cwV 0 hts gL_law_X9_sizes rfl rfl rfl (by decide +kernel) ⟨Nat.le_of_ble_eq_true rfl, Nat.le_of_ble_eq_true rfl⟩) ⟨qPre_blind _, q_recv hK hw.2.1.1 (oX9 mS_0) rfl, fun U hU hW => ⟨rfl, lw_preM hK hE hw U hU hW⟩⟩ rfl rfl hl.1 rfl (lv_room (Nat.le_of_ble_eq_true rfl)) dL_law_1047 (lw_rm0 hc)) hw (fun H hw => ?_)
  refine lv_icmp_eq (tgt := 1758) hx hb dL_law_1050 (by decide) (fun _ => ?_) (fun cc => absurd rfl cc)
  exact W.widen (k := cells + 40) (n := slots + 4180) (Nat.le_add_right _ _) (Nat.le_add_right _ _) (kk _ _ _ _ _ _ _ _ rfl hw hR1)
set_option maxHeartbeats 4000000 in
set_option maxRecDepth 100000 in
/-- left -/
theorem law_26 {p : Program} {l : Launch} {e : Env} {s : State} {m : MethodId} {below : List Frame} {meth : Method} {c : Code} {b L : Nat} {xs : Nat → Int32} {D : va_G} {cy : Nat → ClassId} {sa va adX adM : Nat → Nat} {a b1 : Bool} {I : qI} {J : qJ} {A : qI} {B : qJ} {H : Heap} {cells slots : Nat} {Q : State → Prop} {ls : Array Slot} {i : Int32} (C : lwC p s m c b L xs D cy sa va) (hi : lwI i L) (hl : lv_has ls 4 [(3, .int i), (2, .ref (adM 0)), (1, .ref (adX 0)), (0, .ref b)]) (hw : lwW s D cy adX adM a b1 I J A B H) (hR : Rel (b2i a, b2i b1) I J A B) (hc : cells + 40 ≤ 600000 ∧ slots + 4180 ≤ 7302250)
    (kk : ∀ (a b1 : Bool) (adM1 : Nat → Nat) (I : qI) (J : qJ) (A : qI) (B : qJ) (H : Heap), adM1 0 = adM 0 → lwW s D cy adX adM1 a b1 I J A B H → Rel (b2i a, b2i b1) I J A B → W p l e room_1 s m #[.ref b] below meth c H [] (cells + 40) (slots + 4180) Q (F0 m 1758 ls [])) : W p l e room_1 s m #[.ref b] below meth c H [] cells slots Q (F0 m 1055 ls []) := by
  obtain ⟨⟨hx, hb, hml, hown, hts⟩, ⟨hX, hbl⟩, hK, hE, hM⟩ := C
  obtain ⟨r, I1, A1, e1, e2, hR1⟩ := s_left hR (xs (i + 1).toNatClampNeg)
  refine lv_aload_n hx hb dL_law_1055 rfl (lv_at hl 2 rfl) ?_
  refine lw_ld (v := 1) hx hb hX hbl hw hl dL_law_1056 dL_law_1057 dL_law_1058 (by decide) dL_law_1059 dL_law_1060 hi.1 ?_
  refine lw_x (va_runV (As := [.int (xs (i + 1).toNatClampNeg)]) (rest := []) ⟨hx, hb, hml, hown, hts⟩ (c_X8_left l (D := D) (ad := adX) (cy := cy) (sa := sa) (va := va) (I := I) (J := J) (xs (i + 1).toNatClampNeg) e1) (cwV 1 hts gL_law_X8_left rfl rfl rfl (by decide +kernel) ⟨Nat.le_of_ble_eq_true rfl, Nat.le_of_ble_eq_true rfl⟩) ⟨qPre_blind _, q_recv hK hw.1.1 oX8 rfl, fun U hU hW => ⟨rfl, lw_preX hK hE hw U hU hW⟩⟩ rfl rfl hl.1 rfl (lv_room (Nat.le_of_ble_eq_true rfl)) dL_law_1061 (lw_rm0 hc)) hw (fun H hw => ?_)
  refine lv_aload_n hx hb dL_law_1064 rfl (lv_at hl 1 rfl) ?_
  refine lw_ld (v := 1) hx hb hX hbl hw hl dL_law_1065 dL_law_1066 dL_law_1067 (by decide) dL_law_1068 dL_law_1069 hi.1 ?_
  refine lw_m (va_runV (As := [.int (xs (i + 1).toNatClampNeg)]) (rest := [.int r]) ⟨hx, hb, hml, hown, hts⟩ (c_X9_left l (D := D) (ad := adM) (cy := cy) (sa := sa) (va := va) (I := A) (J := B) (S := mS a b1) mS_0 (xs (i + 1).toNatClampNeg) e2) (cwV 1 hts gL_law_X9_left rfl rfl rfl (by decide +kernel) ⟨Nat.le_of_ble_eq_true rfl, Nat.le_of_ble_eq_true rfl⟩) ⟨qPre_blind _, q_recv hK hw.2.1.1 (oX9 mS_0) rfl, fun U hU hW => ⟨rfl, lw_preM hK hE hw U hU hW⟩⟩ rfl rfl hl.1 rfl (lv_room (Nat.le_of_ble_eq_true rfl)) dL_law_1070 (lw_rm0 hc)) hw (fun H hw => ?_)
  refine lv_icmp_eq (tgt := 1758) hx hb dL_law_1073 (by decide) (fun _ => ?_) (fun cc => absurd rfl cc)
  exact W.widen (k := cells + 40) (n := slots + 4180) (Nat.le_add_right _ _) (Nat.le_add_right _ _) (kk _ _ _ _ _ _ _ _ rfl hw hR1)
set_option maxHeartbeats 4000000 in
set_option maxRecDepth 100000 in
/-- ways -/
theorem law_27 {p : Program} {l : Launch} {e : Env} {s : State} {m : MethodId} {below : List Frame} {meth : Method} {c : Code} {b L : Nat} {xs : Nat → Int32} {D : va_G} {cy : Nat → ClassId} {sa va adX adM : Nat → Nat} {a b1 : Bool} {I : qI} {J : qJ} {A : qI} {B : qJ} {H : Heap} {cells slots : Nat} {Q : State → Prop} {ls : Array Slot} {i : Int32} (C : lwC p s m c b L xs D cy sa va) (hi : lwI i L) (hl : lv_has ls 4 [(3, .int i), (2, .ref (adM 0)), (1, .ref (adX 0)), (0, .ref b)]) (hw : lwW s D cy adX adM a b1 I J A B H) (hR : Rel (b2i a, b2i b1) I J A B) (hc : cells + 40 ≤ 600000 ∧ slots + 4180 ≤ 7302250)
    (kk : ∀ (a b1 : Bool) (adM1 : Nat → Nat) (I : qI) (J : qJ) (A : qI) (B : qJ) (H : Heap), adM1 0 = adM 0 → lwW s D cy adX adM1 a b1 I J A B H → Rel (b2i a, b2i b1) I J A B → W p l e room_1 s m #[.ref b] below meth c H [] (cells + 40) (slots + 4180) Q (F0 m 1758 ls [])) : W p l e room_1 s m #[.ref b] below meth c H [] cells slots Q (F0 m 1078 ls []) := by
  obtain ⟨⟨hx, hb, hml, hown, hts⟩, ⟨hX, hbl⟩, hK, hE, hM⟩ := C
  obtain ⟨r, I1, A1, e1, e2, hR1⟩ := s_ways hR (xs (i + 1).toNatClampNeg)
  refine lv_aload_n hx hb dL_law_1078 rfl (lv_at hl 2 rfl) ?_
  refine lw_ld (v := 1) hx hb hX hbl hw hl dL_law_1079 dL_law_1080 dL_law_1081 (by decide) dL_law_1082 dL_law_1083 hi.1 ?_
  refine lw_x (va_runV (As := [.int (xs (i + 1).toNatClampNeg)]) (rest := []) ⟨hx, hb, hml, hown, hts⟩ (c_X8_ways l (D := D) (ad := adX) (cy := cy) (sa := sa) (va := va) (I := I) (J := J) (xs (i + 1).toNatClampNeg) e1) (cwV 1 hts gL_law_X8_ways rfl rfl rfl (by decide +kernel) ⟨Nat.le_of_ble_eq_true rfl, Nat.le_of_ble_eq_true rfl⟩) ⟨qPre_blind _, q_recv hK hw.1.1 oX8 rfl, fun U hU hW => ⟨rfl, lw_preX hK hE hw U hU hW⟩⟩ rfl rfl hl.1 rfl (lv_room (Nat.le_of_ble_eq_true rfl)) dL_law_1084 (lw_rm0 hc)) hw (fun H hw => ?_)
  refine lv_aload_n hx hb dL_law_1087 rfl (lv_at hl 1 rfl) ?_
  refine lw_ld (v := 1) hx hb hX hbl hw hl dL_law_1088 dL_law_1089 dL_law_1090 (by decide) dL_law_1091 dL_law_1092 hi.1 ?_
  refine lw_m (va_runV (As := [.int (xs (i + 1).toNatClampNeg)]) (rest := [.int r]) ⟨hx, hb, hml, hown, hts⟩ (c_X9_ways l (D := D) (ad := adM) (cy := cy) (sa := sa) (va := va) (I := A) (J := B) (S := mS a b1) mS_0 (xs (i + 1).toNatClampNeg) e2) (cwV 1 hts gL_law_X9_ways rfl rfl rfl (by decide +kernel) ⟨Nat.le_of_ble_eq_true rfl, Nat.le_of_ble_eq_true rfl⟩) ⟨qPre_blind _, q_recv hK hw.2.1.1 (oX9 mS_0) rfl, fun U hU hW => ⟨rfl, lw_preM hK hE hw U hU hW⟩⟩ rfl rfl hl.1 rfl (lv_room (Nat.le_of_ble_eq_true rfl)) dL_law_1093 (lw_rm0 hc)) hw (fun H hw => ?_)
  refine lv_icmp_eq (tgt := 1758) hx hb dL_law_1096 (by decide) (fun _ => ?_) (fun cc => absurd rfl cc)
  exact W.widen (k := cells + 40) (n := slots + 4180) (Nat.le_add_right _ _) (Nat.le_add_right _ _) (kk _ _ _ _ _ _ _ _ rfl hw hR1)
set_option maxHeartbeats 4000000 in
set_option maxRecDepth 100000 in
/-- bids -/
theorem law_28 {p : Program} {l : Launch} {e : Env} {s : State} {m : MethodId} {below : List Frame} {meth : Method} {c : Code} {b L : Nat} {xs : Nat → Int32} {D : va_G} {cy : Nat → ClassId} {sa va adX adM : Nat → Nat} {a b1 : Bool} {I : qI} {J : qJ} {A : qI} {B : qJ} {H : Heap} {cells slots : Nat} {Q : State → Prop} {ls : Array Slot} {i : Int32} (C : lwC p s m c b L xs D cy sa va) (hi : lwI i L) (hl : lv_has ls 4 [(3, .int i), (2, .ref (adM 0)), (1, .ref (adX 0)), (0, .ref b)]) (hw : lwW s D cy adX adM a b1 I J A B H) (hR : Rel (b2i a, b2i b1) I J A B) (hc : cells + 40 ≤ 600000 ∧ slots + 4180 ≤ 7302250)
    (kk : ∀ (a b1 : Bool) (adM1 : Nat → Nat) (I : qI) (J : qJ) (A : qI) (B : qJ) (H : Heap), adM1 0 = adM 0 → lwW s D cy adX adM1 a b1 I J A B H → Rel (b2i a, b2i b1) I J A B → W p l e room_1 s m #[.ref b] below meth c H [] (cells + 40) (slots + 4180) Q (F0 m 1758 ls [])) : W p l e room_1 s m #[.ref b] below meth c H [] cells slots Q (F0 m 1101 ls []) := by
  obtain ⟨⟨hx, hb, hml, hown, hts⟩, ⟨hX, hbl⟩, hK, hE, hM⟩ := C
  obtain ⟨r, I1, A1, e1, e2, hR1⟩ := s_bids hR (xs (i + 1).toNatClampNeg) (xs (i + 2).toNatClampNeg) (xs (i + 3).toNatClampNeg)
  refine lv_aload_n hx hb dL_law_1101 rfl (lv_at hl 2 rfl) ?_
  refine lw_ld (v := 1) hx hb hX hbl hw hl dL_law_1102 dL_law_1103 dL_law_1104 (by decide) dL_law_1105 dL_law_1106 hi.1 ?_
  refine lw_ld (v := 2) hx hb hX hbl hw hl dL_law_1107 dL_law_1108 dL_law_1109 (by decide) dL_law_1110 dL_law_1111 hi.2.1 ?_
  refine lw_ld (v := 3) hx hb hX hbl hw hl dL_law_1112 dL_law_1113 dL_law_1114 (by decide) dL_law_1115 dL_law_1116 hi.2.2.1 ?_
  refine lw_x (va_runV (As := [.int (xs (i + 1).toNatClampNeg), .int (xs (i + 2).toNatClampNeg), .int (xs (i + 3).toNatClampNeg)]) (rest := []) ⟨hx, hb, hml, hown, hts⟩ (c_X8_bids l (D := D) (ad := adX) (cy := cy) (sa := sa) (va := va) (I := I) (J := J) (xs (i + 1).toNatClampNeg) (xs (i + 2).toNatClampNeg) (xs (i + 3).toNatClampNeg) e1) (cwV 3 hts gL_law_X8_bids rfl rfl rfl (by decide +kernel) ⟨Nat.le_of_ble_eq_true rfl, Nat.le_of_ble_eq_true rfl⟩) ⟨qPre_blind _, q_recv hK hw.1.1 oX8 rfl, fun U hU hW => ⟨rfl, lw_preX hK hE hw U hU hW⟩⟩ rfl rfl hl.1 rfl (lv_room (Nat.le_of_ble_eq_true rfl)) dL_law_1117 (lw_rm0 hc)) hw (fun H hw => ?_)
  refine lv_aload_n hx hb dL_law_1120 rfl (lv_at hl 1 rfl) ?_
  refine lw_ld (v := 1) hx hb hX hbl hw hl dL_law_1121 dL_law_1122 dL_law_1123 (by decide) dL_law_1124 dL_law_1125 hi.1 ?_
  refine lw_ld (v := 2) hx hb hX hbl hw hl dL_law_1126 dL_law_1127 dL_law_1128 (by decide) dL_law_1129 dL_law_1130 hi.2.1 ?_
  refine lw_ld (v := 3) hx hb hX hbl hw hl dL_law_1131 dL_law_1132 dL_law_1133 (by decide) dL_law_1134 dL_law_1135 hi.2.2.1 ?_
  refine lw_m (va_runV (As := [.int (xs (i + 1).toNatClampNeg), .int (xs (i + 2).toNatClampNeg), .int (xs (i + 3).toNatClampNeg)]) (rest := [.int r]) ⟨hx, hb, hml, hown, hts⟩ (c_X9_bids l (D := D) (ad := adM) (cy := cy) (sa := sa) (va := va) (I := A) (J := B) (S := mS a b1) mS_0 (xs (i + 1).toNatClampNeg) (xs (i + 2).toNatClampNeg) (xs (i + 3).toNatClampNeg) e2) (cwV 3 hts gL_law_X9_bids rfl rfl rfl (by decide +kernel) ⟨Nat.le_of_ble_eq_true rfl, Nat.le_of_ble_eq_true rfl⟩) ⟨qPre_blind _, q_recv hK hw.2.1.1 (oX9 mS_0) rfl, fun U hU hW => ⟨rfl, lw_preM hK hE hw U hU hW⟩⟩ rfl rfl hl.1 rfl (lv_room (Nat.le_of_ble_eq_true rfl)) dL_law_1136 (lw_rm0 hc)) hw (fun H hw => ?_)
  refine lv_icmp_eq (tgt := 1758) hx hb dL_law_1139 (by decide) (fun _ => ?_) (fun cc => absurd rfl cc)
  exact W.widen (k := cells + 40) (n := slots + 4180) (Nat.le_add_right _ _) (Nat.le_add_right _ _) (kk _ _ _ _ _ _ _ _ rfl hw hR1)
set_option maxHeartbeats 4000000 in
set_option maxRecDepth 100000 in
/-- crossed -/
theorem law_29 {p : Program} {l : Launch} {e : Env} {s : State} {m : MethodId} {below : List Frame} {meth : Method} {c : Code} {b L : Nat} {xs : Nat → Int32} {D : va_G} {cy : Nat → ClassId} {sa va adX adM : Nat → Nat} {a b1 : Bool} {I : qI} {J : qJ} {A : qI} {B : qJ} {H : Heap} {cells slots : Nat} {Q : State → Prop} {ls : Array Slot} {i : Int32} (C : lwC p s m c b L xs D cy sa va) (hi : lwI i L) (hl : lv_has ls 4 [(3, .int i), (2, .ref (adM 0)), (1, .ref (adX 0)), (0, .ref b)]) (hw : lwW s D cy adX adM a b1 I J A B H) (hR : Rel (b2i a, b2i b1) I J A B) (hc : cells + 40 ≤ 600000 ∧ slots + 4180 ≤ 7302250)
    (kk : ∀ (a b1 : Bool) (adM1 : Nat → Nat) (I : qI) (J : qJ) (A : qI) (B : qJ) (H : Heap), adM1 0 = adM 0 → lwW s D cy adX adM1 a b1 I J A B H → Rel (b2i a, b2i b1) I J A B → W p l e room_1 s m #[.ref b] below meth c H [] (cells + 40) (slots + 4180) Q (F0 m 1758 ls [])) : W p l e room_1 s m #[.ref b] below meth c H [] cells slots Q (F0 m 1144 ls []) := by
  obtain ⟨⟨hx, hb, hml, hown, hts⟩, ⟨hX, hbl⟩, hK, hE, hM⟩ := C
  obtain ⟨r, I1, A1, e1, e2, hR1⟩ := s_crossed hR (xs (i + 1).toNatClampNeg) (xs (i + 2).toNatClampNeg) (xs (i + 3).toNatClampNeg)
  refine lv_aload_n hx hb dL_law_1144 rfl (lv_at hl 2 rfl) ?_
  refine lw_ld (v := 1) hx hb hX hbl hw hl dL_law_1145 dL_law_1146 dL_law_1147 (by decide) dL_law_1148 dL_law_1149 hi.1 ?_
  refine lw_ld (v := 2) hx hb hX hbl hw hl dL_law_1150 dL_law_1151 dL_law_1152 (by decide) dL_law_1153 dL_law_1154 hi.2.1 ?_
  refine lw_ld (v := 3) hx hb hX hbl hw hl dL_law_1155 dL_law_1156 dL_law_1157 (by decide) dL_law_1158 dL_law_1159 hi.2.2.1 ?_
  refine lw_x (va_runV (As := [.int (xs (i + 1).toNatClampNeg), .int (xs (i + 2).toNatClampNeg), .int (xs (i + 3).toNatClampNeg)]) (rest := []) ⟨hx, hb, hml, hown, hts⟩ (c_X8_crossed l (D := D) (ad := adX) (cy := cy) (sa := sa) (va := va) (I := I) (J := J) (xs (i + 1).toNatClampNeg) (xs (i + 2).toNatClampNeg) (xs (i + 3).toNatClampNeg) e1) (cwV 3 hts gL_law_X8_crossed rfl rfl rfl (by decide +kernel) ⟨Nat.le_of_ble_eq_true rfl, Nat.le_of_ble_eq_true rfl⟩) ⟨qPre_blind _, q_recv hK hw.1.1 oX8 rfl, fun U hU hW => ⟨rfl, lw_preX hK hE hw U hU hW⟩⟩ rfl rfl hl.1 rfl (lv_room (Nat.le_of_ble_eq_true rfl)) dL_law_1160 (lw_rm0 hc)) hw (fun H hw => ?_)
  refine lv_aload_n hx hb dL_law_1163 rfl (lv_at hl 1 rfl) ?_
  refine lw_ld (v := 1) hx hb hX hbl hw hl dL_law_1164 dL_law_1165 dL_law_1166 (by decide) dL_law_1167 dL_law_1168 hi.1 ?_
  refine lw_ld (v := 2) hx hb hX hbl hw hl dL_law_1169 dL_law_1170 dL_law_1171 (by decide) dL_law_1172 dL_law_1173 hi.2.1 ?_
  refine lw_ld (v := 3) hx hb hX hbl hw hl dL_law_1174 dL_law_1175 dL_law_1176 (by decide) dL_law_1177 dL_law_1178 hi.2.2.1 ?_
  refine lw_m (va_runV (As := [.int (xs (i + 1).toNatClampNeg), .int (xs (i + 2).toNatClampNeg), .int (xs (i + 3).toNatClampNeg)]) (rest := [.int r]) ⟨hx, hb, hml, hown, hts⟩ (c_X9_crossed l (D := D) (ad := adM) (cy := cy) (sa := sa) (va := va) (I := A) (J := B) (S := mS a b1) mS_0 (xs (i + 1).toNatClampNeg) (xs (i + 2).toNatClampNeg) (xs (i + 3).toNatClampNeg) e2) (cwV 3 hts gL_law_X9_crossed rfl rfl rfl (by decide +kernel) ⟨Nat.le_of_ble_eq_true rfl, Nat.le_of_ble_eq_true rfl⟩) ⟨qPre_blind _, q_recv hK hw.2.1.1 (oX9 mS_0) rfl, fun U hU hW => ⟨rfl, lw_preM hK hE hw U hU hW⟩⟩ rfl rfl hl.1 rfl (lv_room (Nat.le_of_ble_eq_true rfl)) dL_law_1179 (lw_rm0 hc)) hw (fun H hw => ?_)
  refine lv_icmp_eq (tgt := 1758) hx hb dL_law_1182 (by decide) (fun _ => ?_) (fun cc => absurd rfl cc)
  exact W.widen (k := cells + 40) (n := slots + 4180) (Nat.le_add_right _ _) (Nat.le_add_right _ _) (kk _ _ _ _ _ _ _ _ rfl hw hR1)
set_option maxHeartbeats 4000000 in
set_option maxRecDepth 100000 in
/-- numbers -/
theorem law_30 {p : Program} {l : Launch} {e : Env} {s : State} {m : MethodId} {below : List Frame} {meth : Method} {c : Code} {b L : Nat} {xs : Nat → Int32} {D : va_G} {cy : Nat → ClassId} {sa va adX adM : Nat → Nat} {a b1 : Bool} {I : qI} {J : qJ} {A : qI} {B : qJ} {H : Heap} {cells slots : Nat} {Q : State → Prop} {ls : Array Slot} {i : Int32} (C : lwC p s m c b L xs D cy sa va) (hi : lwI i L) (hl : lv_has ls 4 [(3, .int i), (2, .ref (adM 0)), (1, .ref (adX 0)), (0, .ref b)]) (hw : lwW s D cy adX adM a b1 I J A B H) (hR : Rel (b2i a, b2i b1) I J A B) (hc : cells + 40 ≤ 600000 ∧ slots + 4180 ≤ 7302250)
    (kk : ∀ (a b1 : Bool) (adM1 : Nat → Nat) (I : qI) (J : qJ) (A : qI) (B : qJ) (H : Heap), adM1 0 = adM 0 → lwW s D cy adX adM1 a b1 I J A B H → Rel (b2i a, b2i b1) I J A B → W p l e room_1 s m #[.ref b] below meth c H [] (cells + 40) (slots + 4180) Q (F0 m 1758 ls [])) : W p l e room_1 s m #[.ref b] below meth c H [] cells slots Q (F0 m 1187 ls []) := by
  obtain ⟨⟨hx, hb, hml, hown, hts⟩, ⟨hX, hbl⟩, hK, hE, hM⟩ := C
  obtain ⟨r, e1, e2⟩ := s_numbers hR 
  refine lv_aload_n hx hb dL_law_1187 rfl (lv_at hl 2 rfl) ?_
  refine q_cSi (va_runV (As := []) (rest := []) ⟨hx, hb, hml, hown, hts⟩ (c_X8_numbers l (D := D) (ad := adX) (cy := cy) (sa := sa) (va := va) (I := I) (J := J)  e1) (cwV 0 hts gL_law_X8_numbers rfl rfl rfl (by decide +kernel) ⟨Nat.le_of_ble_eq_true rfl, Nat.le_of_ble_eq_true rfl⟩) ⟨qPre_blind _, q_recv hK hw.1.1 oX8 rfl, fun U hU hW => ⟨rfl, lw_preX hK hE hw U hU hW⟩⟩ rfl rfl hl.1 rfl (lv_room (Nat.le_of_ble_eq_true rfl)) dL_law_1188 (lw_rm0 hc)) ?_
  refine lv_aload_n hx hb dL_law_1191 rfl (lv_at hl 1 rfl) ?_
  refine q_cSi (va_runV (As := []) (rest := [.int r]) ⟨hx, hb, hml, hown, hts⟩ (c_X9_numbers l (D := D) (ad := adM) (cy := cy) (sa := sa) (va := va) (I := A) (J := B) (S := mS a b1) mS_0  e2) (cwV 0 hts gL_law_X9_numbers rfl rfl rfl (by decide +kernel) ⟨Nat.le_of_ble_eq_true rfl, Nat.le_of_ble_eq_true rfl⟩) ⟨qPre_blind _, q_recv hK hw.2.1.1 (oX9 mS_0) rfl, fun U hU hW => ⟨rfl, lw_preM hK hE hw U hU hW⟩⟩ rfl rfl hl.1 rfl (lv_room (Nat.le_of_ble_eq_true rfl)) dL_law_1192 (lw_rm0 hc)) ?_
  refine lv_icmp_eq (tgt := 1758) hx hb dL_law_1195 (by decide) (fun _ => ?_) (fun cc => absurd rfl cc)
  exact W.widen (k := cells + 40) (n := slots + 4180) (Nat.le_add_right _ _) (Nat.le_add_right _ _) (kk _ _ _ _ _ _ _ _ rfl hw hR)
set_option maxHeartbeats 4000000 in
set_option maxRecDepth 100000 in
/-- lacks -/
theorem law_31 {p : Program} {l : Launch} {e : Env} {s : State} {m : MethodId} {below : List Frame} {meth : Method} {c : Code} {b L : Nat} {xs : Nat → Int32} {D : va_G} {cy : Nat → ClassId} {sa va adX adM : Nat → Nat} {a b1 : Bool} {I : qI} {J : qJ} {A : qI} {B : qJ} {H : Heap} {cells slots : Nat} {Q : State → Prop} {ls : Array Slot} {i : Int32} (C : lwC p s m c b L xs D cy sa va) (hi : lwI i L) (hl : lv_has ls 4 [(3, .int i), (2, .ref (adM 0)), (1, .ref (adX 0)), (0, .ref b)]) (hw : lwW s D cy adX adM a b1 I J A B H) (hR : Rel (b2i a, b2i b1) I J A B) (hc : cells + 40 ≤ 600000 ∧ slots + 4180 ≤ 7302250)
    (kk : ∀ (a b1 : Bool) (adM1 : Nat → Nat) (I : qI) (J : qJ) (A : qI) (B : qJ) (H : Heap), adM1 0 = adM 0 → lwW s D cy adX adM1 a b1 I J A B H → Rel (b2i a, b2i b1) I J A B → W p l e room_1 s m #[.ref b] below meth c H [] (cells + 40) (slots + 4180) Q (F0 m 1758 ls [])) : W p l e room_1 s m #[.ref b] below meth c H [] cells slots Q (F0 m 1200 ls []) := by
  obtain ⟨⟨hx, hb, hml, hown, hts⟩, ⟨hX, hbl⟩, hK, hE, hM⟩ := C
  obtain ⟨r, I1, A1, e1, e2, hR1⟩ := s_lacks hR (xs (i + 1).toNatClampNeg)
  refine lv_aload_n hx hb dL_law_1200 rfl (lv_at hl 2 rfl) ?_
  refine lw_ld (v := 1) hx hb hX hbl hw hl dL_law_1201 dL_law_1202 dL_law_1203 (by decide) dL_law_1204 dL_law_1205 hi.1 ?_
  refine lw_x (va_runV (As := [.int (xs (i + 1).toNatClampNeg)]) (rest := []) ⟨hx, hb, hml, hown, hts⟩ (c_X8_lacks l (D := D) (ad := adX) (cy := cy) (sa := sa) (va := va) (I := I) (J := J) (xs (i + 1).toNatClampNeg) e1) (cwV 1 hts gL_law_X8_lacks rfl rfl rfl (by decide +kernel) ⟨Nat.le_of_ble_eq_true rfl, Nat.le_of_ble_eq_true rfl⟩) ⟨qPre_blind _, q_recv hK hw.1.1 oX8 rfl, fun U hU hW => ⟨rfl, lw_preX hK hE hw U hU hW⟩⟩ rfl rfl hl.1 rfl (lv_room (Nat.le_of_ble_eq_true rfl)) dL_law_1206 (lw_rm0 hc)) hw (fun H hw => ?_)
  refine lv_aload_n hx hb dL_law_1209 rfl (lv_at hl 1 rfl) ?_
  refine lw_ld (v := 1) hx hb hX hbl hw hl dL_law_1210 dL_law_1211 dL_law_1212 (by decide) dL_law_1213 dL_law_1214 hi.1 ?_
  refine lw_m (va_runV (As := [.int (xs (i + 1).toNatClampNeg)]) (rest := [.int r]) ⟨hx, hb, hml, hown, hts⟩ (c_X9_lacks l (D := D) (ad := adM) (cy := cy) (sa := sa) (va := va) (I := A) (J := B) (S := mS a b1) mS_0 (xs (i + 1).toNatClampNeg) e2) (cwV 1 hts gL_law_X9_lacks rfl rfl rfl (by decide +kernel) ⟨Nat.le_of_ble_eq_true rfl, Nat.le_of_ble_eq_true rfl⟩) ⟨qPre_blind _, q_recv hK hw.2.1.1 (oX9 mS_0) rfl, fun U hU hW => ⟨rfl, lw_preM hK hE hw U hU hW⟩⟩ rfl rfl hl.1 rfl (lv_room (Nat.le_of_ble_eq_true rfl)) dL_law_1215 (lw_rm0 hc)) hw (fun H hw => ?_)
  refine lv_icmp_eq (tgt := 1758) hx hb dL_law_1218 (by decide) (fun _ => ?_) (fun cc => absurd rfl cc)
  exact W.widen (k := cells + 40) (n := slots + 4180) (Nat.le_add_right _ _) (Nat.le_add_right _ _) (kk _ _ _ _ _ _ _ _ rfl hw hR1)
set_option maxHeartbeats 4000000 in
set_option maxRecDepth 100000 in
/-- fullest -/
theorem law_32 {p : Program} {l : Launch} {e : Env} {s : State} {m : MethodId} {below : List Frame} {meth : Method} {c : Code} {b L : Nat} {xs : Nat → Int32} {D : va_G} {cy : Nat → ClassId} {sa va adX adM : Nat → Nat} {a b1 : Bool} {I : qI} {J : qJ} {A : qI} {B : qJ} {H : Heap} {cells slots : Nat} {Q : State → Prop} {ls : Array Slot} {i : Int32} (C : lwC p s m c b L xs D cy sa va) (hi : lwI i L) (hl : lv_has ls 4 [(3, .int i), (2, .ref (adM 0)), (1, .ref (adX 0)), (0, .ref b)]) (hw : lwW s D cy adX adM a b1 I J A B H) (hR : Rel (b2i a, b2i b1) I J A B) (hc : cells + 40 ≤ 600000 ∧ slots + 4180 ≤ 7302250)
    (kk : ∀ (a b1 : Bool) (adM1 : Nat → Nat) (I : qI) (J : qJ) (A : qI) (B : qJ) (H : Heap), adM1 0 = adM 0 → lwW s D cy adX adM1 a b1 I J A B H → Rel (b2i a, b2i b1) I J A B → W p l e room_1 s m #[.ref b] below meth c H [] (cells + 40) (slots + 4180) Q (F0 m 1758 ls [])) : W p l e room_1 s m #[.ref b] below meth c H [] cells slots Q (F0 m 1223 ls []) := by
  obtain ⟨⟨hx, hb, hml, hown, hts⟩, ⟨hX, hbl⟩, hK, hE, hM⟩ := C
  obtain ⟨r, I1, A1, e1, e2, hR1⟩ := s_fullest hR (xs (i + 1).toNatClampNeg)
  refine lv_aload_n hx hb dL_law_1223 rfl (lv_at hl 2 rfl) ?_
  refine lw_ld (v := 1) hx hb hX hbl hw hl dL_law_1224 dL_law_1225 dL_law_1226 (by decide) dL_law_1227 dL_law_1228 hi.1 ?_
  refine lw_x (va_runV (As := [.int (xs (i + 1).toNatClampNeg)]) (rest := []) ⟨hx, hb, hml, hown, hts⟩ (c_X8_fullest l (D := D) (ad := adX) (cy := cy) (sa := sa) (va := va) (I := I) (J := J) (xs (i + 1).toNatClampNeg) e1) (cwV 1 hts gL_law_X8_fullest rfl rfl rfl (by decide +kernel) ⟨Nat.le_of_ble_eq_true rfl, Nat.le_of_ble_eq_true rfl⟩) ⟨qPre_blind _, q_recv hK hw.1.1 oX8 rfl, fun U hU hW => ⟨rfl, lw_preX hK hE hw U hU hW⟩⟩ rfl rfl hl.1 rfl (lv_room (Nat.le_of_ble_eq_true rfl)) dL_law_1229 (lw_rm0 hc)) hw (fun H hw => ?_)
  refine lv_aload_n hx hb dL_law_1232 rfl (lv_at hl 1 rfl) ?_
  refine lw_ld (v := 1) hx hb hX hbl hw hl dL_law_1233 dL_law_1234 dL_law_1235 (by decide) dL_law_1236 dL_law_1237 hi.1 ?_
  refine lw_m (va_runV (As := [.int (xs (i + 1).toNatClampNeg)]) (rest := [.int r]) ⟨hx, hb, hml, hown, hts⟩ (c_X9_fullest l (D := D) (ad := adM) (cy := cy) (sa := sa) (va := va) (I := A) (J := B) (S := mS a b1) mS_0 (xs (i + 1).toNatClampNeg) e2) (cwV 1 hts gL_law_X9_fullest rfl rfl rfl (by decide +kernel) ⟨Nat.le_of_ble_eq_true rfl, Nat.le_of_ble_eq_true rfl⟩) ⟨qPre_blind _, q_recv hK hw.2.1.1 (oX9 mS_0) rfl, fun U hU hW => ⟨rfl, lw_preM hK hE hw U hU hW⟩⟩ rfl rfl hl.1 rfl (lv_room (Nat.le_of_ble_eq_true rfl)) dL_law_1238 (lw_rm0 hc)) hw (fun H hw => ?_)
  refine lv_icmp_eq (tgt := 1758) hx hb dL_law_1241 (by decide) (fun _ => ?_) (fun cc => absurd rfl cc)
  exact W.widen (k := cells + 40) (n := slots + 4180) (Nat.le_add_right _ _) (Nat.le_add_right _ _) (kk _ _ _ _ _ _ _ _ rfl hw hR1)
set_option maxHeartbeats 4000000 in
set_option maxRecDepth 100000 in
/-- cheapest -/
theorem law_33 {p : Program} {l : Launch} {e : Env} {s : State} {m : MethodId} {below : List Frame} {meth : Method} {c : Code} {b L : Nat} {xs : Nat → Int32} {D : va_G} {cy : Nat → ClassId} {sa va adX adM : Nat → Nat} {a b1 : Bool} {I : qI} {J : qJ} {A : qI} {B : qJ} {H : Heap} {cells slots : Nat} {Q : State → Prop} {ls : Array Slot} {i : Int32} (C : lwC p s m c b L xs D cy sa va) (hi : lwI i L) (hl : lv_has ls 4 [(3, .int i), (2, .ref (adM 0)), (1, .ref (adX 0)), (0, .ref b)]) (hw : lwW s D cy adX adM a b1 I J A B H) (hR : Rel (b2i a, b2i b1) I J A B) (hc : cells + 40 ≤ 600000 ∧ slots + 4180 ≤ 7302250)
    (kk : ∀ (a b1 : Bool) (adM1 : Nat → Nat) (I : qI) (J : qJ) (A : qI) (B : qJ) (H : Heap), adM1 0 = adM 0 → lwW s D cy adX adM1 a b1 I J A B H → Rel (b2i a, b2i b1) I J A B → W p l e room_1 s m #[.ref b] below meth c H [] (cells + 40) (slots + 4180) Q (F0 m 1758 ls [])) : W p l e room_1 s m #[.ref b] below meth c H [] cells slots Q (F0 m 1246 ls []) := by
  obtain ⟨⟨hx, hb, hml, hown, hts⟩, ⟨hX, hbl⟩, hK, hE, hM⟩ := C
  obtain ⟨r, I1, A1, e1, e2, hR1⟩ := s_cheapest hR (xs (i + 1).toNatClampNeg)
  refine lv_aload_n hx hb dL_law_1246 rfl (lv_at hl 2 rfl) ?_
  refine lw_ld (v := 1) hx hb hX hbl hw hl dL_law_1247 dL_law_1248 dL_law_1249 (by decide) dL_law_1250 dL_law_1251 hi.1 ?_
  refine lw_x (va_runV (As := [.int (xs (i + 1).toNatClampNeg)]) (rest := []) ⟨hx, hb, hml, hown, hts⟩ (c_X8_cheapest l (D := D) (ad := adX) (cy := cy) (sa := sa) (va := va) (I := I) (J := J) (xs (i + 1).toNatClampNeg) e1) (cwV 1 hts gL_law_X8_cheapest rfl rfl rfl (by decide +kernel) ⟨Nat.le_of_ble_eq_true rfl, Nat.le_of_ble_eq_true rfl⟩) ⟨qPre_blind _, q_recv hK hw.1.1 oX8 rfl, fun U hU hW => ⟨rfl, lw_preX hK hE hw U hU hW⟩⟩ rfl rfl hl.1 rfl (lv_room (Nat.le_of_ble_eq_true rfl)) dL_law_1252 (lw_rm0 hc)) hw (fun H hw => ?_)
  refine lv_aload_n hx hb dL_law_1255 rfl (lv_at hl 1 rfl) ?_
  refine lw_ld (v := 1) hx hb hX hbl hw hl dL_law_1256 dL_law_1257 dL_law_1258 (by decide) dL_law_1259 dL_law_1260 hi.1 ?_
  refine lw_m (va_runV (As := [.int (xs (i + 1).toNatClampNeg)]) (rest := [.int r]) ⟨hx, hb, hml, hown, hts⟩ (c_X9_cheapest l (D := D) (ad := adM) (cy := cy) (sa := sa) (va := va) (I := A) (J := B) (S := mS a b1) mS_0 (xs (i + 1).toNatClampNeg) e2) (cwV 1 hts gL_law_X9_cheapest rfl rfl rfl (by decide +kernel) ⟨Nat.le_of_ble_eq_true rfl, Nat.le_of_ble_eq_true rfl⟩) ⟨qPre_blind _, q_recv hK hw.2.1.1 (oX9 mS_0) rfl, fun U hU hW => ⟨rfl, lw_preM hK hE hw U hU hW⟩⟩ rfl rfl hl.1 rfl (lv_room (Nat.le_of_ble_eq_true rfl)) dL_law_1261 (lw_rm0 hc)) hw (fun H hw => ?_)
  refine lv_icmp_eq (tgt := 1758) hx hb dL_law_1264 (by decide) (fun _ => ?_) (fun cc => absurd rfl cc)
  exact W.widen (k := cells + 40) (n := slots + 4180) (Nat.le_add_right _ _) (Nat.le_add_right _ _) (kk _ _ _ _ _ _ _ _ rfl hw hR1)
set_option maxHeartbeats 4000000 in
set_option maxRecDepth 100000 in
/-- knot -/
theorem law_34 {p : Program} {l : Launch} {e : Env} {s : State} {m : MethodId} {below : List Frame} {meth : Method} {c : Code} {b L : Nat} {xs : Nat → Int32} {D : va_G} {cy : Nat → ClassId} {sa va adX adM : Nat → Nat} {a b1 : Bool} {I : qI} {J : qJ} {A : qI} {B : qJ} {H : Heap} {cells slots : Nat} {Q : State → Prop} {ls : Array Slot} {i : Int32} (C : lwC p s m c b L xs D cy sa va) (hi : lwI i L) (hl : lv_has ls 4 [(3, .int i), (2, .ref (adM 0)), (1, .ref (adX 0)), (0, .ref b)]) (hw : lwW s D cy adX adM a b1 I J A B H) (hR : Rel (b2i a, b2i b1) I J A B) (hc : cells + 40 ≤ 600000 ∧ slots + 4180 ≤ 7302250)
    (kk : ∀ (a b1 : Bool) (adM1 : Nat → Nat) (I : qI) (J : qJ) (A : qI) (B : qJ) (H : Heap), adM1 0 = adM 0 → lwW s D cy adX adM1 a b1 I J A B H → Rel (b2i a, b2i b1) I J A B → W p l e room_1 s m #[.ref b] below meth c H [] (cells + 40) (slots + 4180) Q (F0 m 1758 ls [])) : W p l e room_1 s m #[.ref b] below meth c H [] cells slots Q (F0 m 1269 ls []) := by
  obtain ⟨⟨hx, hb, hml, hown, hts⟩, ⟨hX, hbl⟩, hK, hE, hM⟩ := C
  obtain ⟨r, I1, A1, e1, e2, hR1⟩ := s_knot hR (xs (i + 1).toNatClampNeg)
  refine lv_aload_n hx hb dL_law_1269 rfl (lv_at hl 2 rfl) ?_
  refine lw_ld (v := 1) hx hb hX hbl hw hl dL_law_1270 dL_law_1271 dL_law_1272 (by decide) dL_law_1273 dL_law_1274 hi.1 ?_
  refine lw_x (va_runV (As := [.int (xs (i + 1).toNatClampNeg)]) (rest := []) ⟨hx, hb, hml, hown, hts⟩ (c_X8_knot l (D := D) (ad := adX) (cy := cy) (sa := sa) (va := va) (I := I) (J := J) (xs (i + 1).toNatClampNeg) e1) (cwV 1 hts gL_law_X8_knot rfl rfl rfl (by decide +kernel) ⟨Nat.le_of_ble_eq_true rfl, Nat.le_of_ble_eq_true rfl⟩) ⟨qPre_blind _, q_recv hK hw.1.1 oX8 rfl, fun U hU hW => ⟨rfl, lw_preX hK hE hw U hU hW⟩⟩ rfl rfl hl.1 rfl (lv_room (Nat.le_of_ble_eq_true rfl)) dL_law_1275 (lw_rm0 hc)) hw (fun H hw => ?_)
  refine lv_aload_n hx hb dL_law_1278 rfl (lv_at hl 1 rfl) ?_
  refine lw_ld (v := 1) hx hb hX hbl hw hl dL_law_1279 dL_law_1280 dL_law_1281 (by decide) dL_law_1282 dL_law_1283 hi.1 ?_
  refine lw_m (va_runV (As := [.int (xs (i + 1).toNatClampNeg)]) (rest := [.int r]) ⟨hx, hb, hml, hown, hts⟩ (c_X9_knot l (D := D) (ad := adM) (cy := cy) (sa := sa) (va := va) (I := A) (J := B) (S := mS a b1) mS_0 (xs (i + 1).toNatClampNeg) e2) (cwV 1 hts gL_law_X9_knot rfl rfl rfl (by decide +kernel) ⟨Nat.le_of_ble_eq_true rfl, Nat.le_of_ble_eq_true rfl⟩) ⟨qPre_blind _, q_recv hK hw.2.1.1 (oX9 mS_0) rfl, fun U hU hW => ⟨rfl, lw_preM hK hE hw U hU hW⟩⟩ rfl rfl hl.1 rfl (lv_room (Nat.le_of_ble_eq_true rfl)) dL_law_1284 (lw_rm0 hc)) hw (fun H hw => ?_)
  refine lv_icmp_eq (tgt := 1758) hx hb dL_law_1287 (by decide) (fun _ => ?_) (fun cc => absurd rfl cc)
  exact W.widen (k := cells + 40) (n := slots + 4180) (Nat.le_add_right _ _) (Nat.le_add_right _ _) (kk _ _ _ _ _ _ _ _ rfl hw hR1)
set_option maxHeartbeats 4000000 in
set_option maxRecDepth 100000 in
/-- torn -/
theorem law_35 {p : Program} {l : Launch} {e : Env} {s : State} {m : MethodId} {below : List Frame} {meth : Method} {c : Code} {b L : Nat} {xs : Nat → Int32} {D : va_G} {cy : Nat → ClassId} {sa va adX adM : Nat → Nat} {a b1 : Bool} {I : qI} {J : qJ} {A : qI} {B : qJ} {H : Heap} {cells slots : Nat} {Q : State → Prop} {ls : Array Slot} {i : Int32} (C : lwC p s m c b L xs D cy sa va) (hi : lwI i L) (hl : lv_has ls 4 [(3, .int i), (2, .ref (adM 0)), (1, .ref (adX 0)), (0, .ref b)]) (hw : lwW s D cy adX adM a b1 I J A B H) (hR : Rel (b2i a, b2i b1) I J A B) (hc : cells + 40 ≤ 600000 ∧ slots + 4180 ≤ 7302250)
    (kk : ∀ (a b1 : Bool) (adM1 : Nat → Nat) (I : qI) (J : qJ) (A : qI) (B : qJ) (H : Heap), adM1 0 = adM 0 → lwW s D cy adX adM1 a b1 I J A B H → Rel (b2i a, b2i b1) I J A B → W p l e room_1 s m #[.ref b] below meth c H [] (cells + 40) (slots + 4180) Q (F0 m 1758 ls [])) : W p l e room_1 s m #[.ref b] below meth c H [] cells slots Q (F0 m 1292 ls []) := by
  obtain ⟨⟨hx, hb, hml, hown, hts⟩, ⟨hX, hbl⟩, hK, hE, hM⟩ := C
  obtain ⟨r, e1, e2⟩ := s_torn hR 
  refine lv_aload_n hx hb dL_law_1292 rfl (lv_at hl 2 rfl) ?_
  refine q_cSi (va_runV (As := []) (rest := []) ⟨hx, hb, hml, hown, hts⟩ (c_X8_torn l (D := D) (ad := adX) (cy := cy) (sa := sa) (va := va) (I := I) (J := J)  e1) (cwV 0 hts gL_law_X8_torn rfl rfl rfl (by decide +kernel) ⟨Nat.le_of_ble_eq_true rfl, Nat.le_of_ble_eq_true rfl⟩) ⟨qPre_blind _, q_recv hK hw.1.1 oX8 rfl, fun U hU hW => ⟨rfl, lw_preX hK hE hw U hU hW⟩⟩ rfl rfl hl.1 rfl (lv_room (Nat.le_of_ble_eq_true rfl)) dL_law_1293 (lw_rm0 hc)) ?_
  refine lv_aload_n hx hb dL_law_1296 rfl (lv_at hl 1 rfl) ?_
  refine q_cSi (va_runV (As := []) (rest := [.int r]) ⟨hx, hb, hml, hown, hts⟩ (c_X9_torn l (D := D) (ad := adM) (cy := cy) (sa := sa) (va := va) (I := A) (J := B) (S := mS a b1) mS_0  e2) (cwV 0 hts gL_law_X9_torn rfl rfl rfl (by decide +kernel) ⟨Nat.le_of_ble_eq_true rfl, Nat.le_of_ble_eq_true rfl⟩) ⟨qPre_blind _, q_recv hK hw.2.1.1 (oX9 mS_0) rfl, fun U hU hW => ⟨rfl, lw_preM hK hE hw U hU hW⟩⟩ rfl rfl hl.1 rfl (lv_room (Nat.le_of_ble_eq_true rfl)) dL_law_1297 (lw_rm0 hc)) ?_
  refine lv_icmp_eq (tgt := 1758) hx hb dL_law_1300 (by decide) (fun _ => ?_) (fun cc => absurd rfl cc)
  exact W.widen (k := cells + 40) (n := slots + 4180) (Nat.le_add_right _ _) (Nat.le_add_right _ _) (kk _ _ _ _ _ _ _ _ rfl hw hR)
set_option maxHeartbeats 4000000 in
set_option maxRecDepth 100000 in
/-- fit -/
theorem law_36 {p : Program} {l : Launch} {e : Env} {s : State} {m : MethodId} {below : List Frame} {meth : Method} {c : Code} {b L : Nat} {xs : Nat → Int32} {D : va_G} {cy : Nat → ClassId} {sa va adX adM : Nat → Nat} {a b1 : Bool} {I : qI} {J : qJ} {A : qI} {B : qJ} {H : Heap} {cells slots : Nat} {Q : State → Prop} {ls : Array Slot} {i : Int32} (C : lwC p s m c b L xs D cy sa va) (hi : lwI i L) (hl : lv_has ls 4 [(3, .int i), (2, .ref (adM 0)), (1, .ref (adX 0)), (0, .ref b)]) (hw : lwW s D cy adX adM a b1 I J A B H) (hR : Rel (b2i a, b2i b1) I J A B) (hc : cells + 40 ≤ 600000 ∧ slots + 4180 ≤ 7302250)
    (kk : ∀ (a b1 : Bool) (adM1 : Nat → Nat) (I : qI) (J : qJ) (A : qI) (B : qJ) (H : Heap), adM1 0 = adM 0 → lwW s D cy adX adM1 a b1 I J A B H → Rel (b2i a, b2i b1) I J A B → W p l e room_1 s m #[.ref b] below meth c H [] (cells + 40) (slots + 4180) Q (F0 m 1758 ls [])) : W p l e room_1 s m #[.ref b] below meth c H [] cells slots Q (F0 m 1305 ls []) := by
  obtain ⟨⟨hx, hb, hml, hown, hts⟩, ⟨hX, hbl⟩, hK, hE, hM⟩ := C
  obtain ⟨r, I1, A1, e1, e2, hR1⟩ := s_fit hR (xs (i + 1).toNatClampNeg)
  refine lv_aload_n hx hb dL_law_1305 rfl (lv_at hl 2 rfl) ?_
  refine lw_ld (v := 1) hx hb hX hbl hw hl dL_law_1306 dL_law_1307 dL_law_1308 (by decide) dL_law_1309 dL_law_1310 hi.1 ?_
  refine lw_x (va_runV (As := [.int (xs (i + 1).toNatClampNeg)]) (rest := []) ⟨hx, hb, hml, hown, hts⟩ (c_X8_fit l (D := D) (ad := adX) (cy := cy) (sa := sa) (va := va) (I := I) (J := J) (xs (i + 1).toNatClampNeg) e1) (cwV 1 hts gL_law_X8_fit rfl rfl rfl (by decide +kernel) ⟨Nat.le_of_ble_eq_true rfl, Nat.le_of_ble_eq_true rfl⟩) ⟨qPre_blind _, q_recv hK hw.1.1 oX8 rfl, fun U hU hW => ⟨rfl, lw_preX hK hE hw U hU hW⟩⟩ rfl rfl hl.1 rfl (lv_room (Nat.le_of_ble_eq_true rfl)) dL_law_1311 (lw_rm0 hc)) hw (fun H hw => ?_)
  refine lv_aload_n hx hb dL_law_1314 rfl (lv_at hl 1 rfl) ?_
  refine lw_ld (v := 1) hx hb hX hbl hw hl dL_law_1315 dL_law_1316 dL_law_1317 (by decide) dL_law_1318 dL_law_1319 hi.1 ?_
  refine lw_m (va_runV (As := [.int (xs (i + 1).toNatClampNeg)]) (rest := [.int r]) ⟨hx, hb, hml, hown, hts⟩ (c_X9_fit_ l (D := D) (ad := adM) (cy := cy) (sa := sa) (va := va) (I := A) (J := B) (S := mS a b1) mS_0 (xs (i + 1).toNatClampNeg) e2) (cwV 1 hts gL_law_X9_fit_ rfl rfl rfl (by decide +kernel) ⟨Nat.le_of_ble_eq_true rfl, Nat.le_of_ble_eq_true rfl⟩) ⟨qPre_blind _, q_recv hK hw.2.1.1 (oX9 mS_0) rfl, fun U hU hW => ⟨rfl, lw_preM hK hE hw U hU hW⟩⟩ rfl rfl hl.1 rfl (lv_room (Nat.le_of_ble_eq_true rfl)) dL_law_1320 (lw_rm0 hc)) hw (fun H hw => ?_)
  refine lv_icmp_eq (tgt := 1758) hx hb dL_law_1323 (by decide) (fun _ => ?_) (fun cc => absurd rfl cc)
  exact W.widen (k := cells + 40) (n := slots + 4180) (Nat.le_add_right _ _) (Nat.le_add_right _ _) (kk _ _ _ _ _ _ _ _ rfl hw hR1)
set_option maxHeartbeats 4000000 in
set_option maxRecDepth 100000 in
/-- rules -/
theorem law_37 {p : Program} {l : Launch} {e : Env} {s : State} {m : MethodId} {below : List Frame} {meth : Method} {c : Code} {b L : Nat} {xs : Nat → Int32} {D : va_G} {cy : Nat → ClassId} {sa va adX adM : Nat → Nat} {a b1 : Bool} {I : qI} {J : qJ} {A : qI} {B : qJ} {H : Heap} {cells slots : Nat} {Q : State → Prop} {ls : Array Slot} {i : Int32} (C : lwC p s m c b L xs D cy sa va) (hi : lwI i L) (hl : lv_has ls 4 [(3, .int i), (2, .ref (adM 0)), (1, .ref (adX 0)), (0, .ref b)]) (hw : lwW s D cy adX adM a b1 I J A B H) (hR : Rel (b2i a, b2i b1) I J A B) (hc : cells + 40 ≤ 600000 ∧ slots + 4180 ≤ 7302250)
    (kk : ∀ (a b1 : Bool) (adM1 : Nat → Nat) (I : qI) (J : qJ) (A : qI) (B : qJ) (H : Heap), adM1 0 = adM 0 → lwW s D cy adX adM1 a b1 I J A B H → Rel (b2i a, b2i b1) I J A B → W p l e room_1 s m #[.ref b] below meth c H [] (cells + 40) (slots + 4180) Q (F0 m 1758 ls [])) : W p l e room_1 s m #[.ref b] below meth c H [] cells slots Q (F0 m 1328 ls []) := by
  obtain ⟨⟨hx, hb, hml, hown, hts⟩, ⟨hX, hbl⟩, hK, hE, hM⟩ := C
  obtain ⟨r, I1, A1, e1, e2, hR1⟩ := s_rules hR 
  refine lv_aload_n hx hb dL_law_1328 rfl (lv_at hl 2 rfl) ?_
  refine lw_x (va_runV (As := []) (rest := []) ⟨hx, hb, hml, hown, hts⟩ (c_X8_rules l (D := D) (ad := adX) (cy := cy) (sa := sa) (va := va) (I := I) (J := J)  e1) (cwV 0 hts gL_law_X8_rules rfl rfl rfl (by decide +kernel) ⟨Nat.le_of_ble_eq_true rfl, Nat.le_of_ble_eq_true rfl⟩) ⟨qPre_blind _, q_recv hK hw.1.1 oX8 rfl, fun U hU hW => ⟨rfl, lw_preX hK hE hw U hU hW⟩⟩ rfl rfl hl.1 rfl (lv_room (Nat.le_of_ble_eq_true rfl)) dL_law_1329 (lw_rm0 hc)) hw (fun H hw => ?_)
  refine lv_aload_n hx hb dL_law_1332 rfl (lv_at hl 1 rfl) ?_
  refine lw_m (va_runV (As := []) (rest := [.int r]) ⟨hx, hb, hml, hown, hts⟩ (c_X9_rules l (D := D) (ad := adM) (cy := cy) (sa := sa) (va := va) (I := A) (J := B) (S := mS a b1) mS_0  e2) (cwV 0 hts gL_law_X9_rules rfl rfl rfl (by decide +kernel) ⟨Nat.le_of_ble_eq_true rfl, Nat.le_of_ble_eq_true rfl⟩) ⟨qPre_blind _, q_recv hK hw.2.1.1 (oX9 mS_0) rfl, fun U hU hW => ⟨rfl, lw_preM hK hE hw U hU hW⟩⟩ rfl rfl hl.1 rfl (lv_room (Nat.le_of_ble_eq_true rfl)) dL_law_1333 (lw_rm0 hc)) hw (fun H hw => ?_)
  refine lv_icmp_eq (tgt := 1758) hx hb dL_law_1336 (by decide) (fun _ => ?_) (fun cc => absurd rfl cc)
  exact W.widen (k := cells + 40) (n := slots + 4180) (Nat.le_add_right _ _) (Nat.le_add_right _ _) (kk _ _ _ _ _ _ _ _ rfl hw hR1)
