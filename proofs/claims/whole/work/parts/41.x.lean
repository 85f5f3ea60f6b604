/-! machine: X2_hasRoom X2_add X2_hasParty X2_hasTwo X2_hasGroup X2_isOver X2_relation X2_mark X2_relate X2_knotOf X2_leastHermits X2_hireBy X2_hireNow X2_rowOver X2_rowBack X2_draw X2_passDay X3_follow X4_collect X4_leastStaying X4_waysToSum J6_bitCount_0f7a4 (written by wip/gen/gen.py) -/
section
variable {p : Program} {l : Launch} {e : Env} {s : State} {m : MethodId} {args : Array Value} {below : List Frame} {meth : Method} {c : Code} {D : va_G} {ad : Nat → Nat} {cy : Nat → ClassId} {sa va : Nat → Nat}
abbrev r_X2_hasRoom : Room := { frames := 0, cells := 0, slots := 0, locals := 0 }
theorem in_X2_hasRoom_X2 : ∀ w ∈ u_ws RX2 TX2 13, w ∈ wsX2_hasRoom := by decide +kernel
set_option maxHeartbeats 4000000 in
set_option maxRecDepth 100000 in
theorem c_X2_hasRoom (l : Launch) {D : va_G} {ad : Nat → Nat} {cy : Nat → ClassId} {sa va : Nat → Nat} {I : qI} {J : qJ} (b : Nat) (zb : isB b)  {r : Int32} (hf : f_X2_hasRoom b I = some r) : Met l yX2_hasRoom wsX2_hasRoom r_X2_hasRoom (va_Pc [.ref (ad b)] (qPre D xS ad cy sa va (eX ad cy) I J)) (vp_Si (fun x => x = r)) 0 0 (fun _ => False) := by
  refine Met.ofW (cc := cX2_hasRoom) (maxL := 1) (ret := (some .boolean)) (by decide) rfl ?_
  intro p e s m args below meth c s₁ B hml hv
  obtain ⟨rfl, hP, hK, hE, hN⟩ := hv
  have C : qC p s m _ meth c cX2_hasRoom 1 RX2 wsX2_hasRoom (some .boolean) := ⟨⟨B.exec, B.bytes, hml, findClass_of_methodNamed B.named, atoms_spec (ws := wsX2_hasRoom) B.pre⟩, B.returns, B.notSynchronized⟩
  have C0 := C
  obtain ⟨⟨hx, hb, hml, hown, hts⟩, hr, hlocks⟩ := C0
  have hl := lv_entry ([.ref (ad b)]) (n := 1) (Nat.le_of_ble_eq_true rfl)
  rw [lg_entry_eq]
  generalize (lg_sl ([.ref (ad b)]) ++ List.replicate (1 - (lg_sl ([.ref (ad b)])).length) Slot.unset).toArray = ls at hl ⊢
  have hl : lv_has ls 1 [(0, .ref (ad b))] := hl
  unfold f_X2_hasRoom at hf
  refine lv_aload_n hx hb dX2_hasRoom_0 rfl (lv_at hl 0 rfl) ?_
  refine q_get (C := RX2) (T := TX2) (N := 13) (ci := 2) (v := .int (I b 7)) hx hb hts in_X2_hasRoom_X2 hown hK hP (oX2 zb) rfl 7 (by decide) (hts (.fieldLink RX2 46 "RowsOnlyPrimes$Bank" "size" "I") (by decide +kernel)) (fun _ h9 => h9) rfl dX2_hasRoom_1 ?_
  refine lv_bipush (v := 8) hx hb dX2_hasRoom_4 (by decide) ?_
  refine lv_icmp_ge (tgt := 13) hx hb dX2_hasRoom_6 (by decide) (fun cc => ?_) (fun cc => ?_)
  · have hf := (if_ok hf).1 cc
    refine lv_iconst (v := 0) hx hb dX2_hasRoom_13 (by decide) ?_
    exact W.zret (ty := .boolean) hx hb hr rfl (fun t ht _ => ⟨_, rfl, Option.some.inj hf, ht⟩) (fun _ h => by cases h) dX2_hasRoom_14
  · have hf := (if_ok hf).2 cc
    refine lv_iconst (v := 1) hx hb dX2_hasRoom_9 (by decide) ?_
    refine lv_goto (tgt := 14) hx hb dX2_hasRoom_10 (by decide) ?_
    exact W.zret (ty := .boolean) hx hb hr rfl (fun t ht _ => ⟨_, rfl, Option.some.inj hf, ht⟩) (fun _ h => by cases h) dX2_hasRoom_14
abbrev r_X2_add : Room := { frames := 1, cells := 0, slots := 0, locals := 20 }
theorem in_X2_add_X2 : ∀ w ∈ u_ws RX2 TX2 13, w ∈ wsX2_add := by decide +kernel
set_option maxHeartbeats 4000000 in
set_option maxRecDepth 100000 in
theorem c_X2_add (l : Launch) {D : va_G} {ad : Nat → Nat} {cy : Nat → ClassId} {sa va : Nat → Nat} {I : qI} {J : qJ} (b : Nat) (zb : isB b) (p0 : Int32) (p1 : Int32) (p2 : Int32) (p3 : Int32) {r : Int32} {Ie : qI} (hf : f_X2_add b p0 p1 p2 p3 I = some (r, Ie)) : Met l yX2_add wsX2_add r_X2_add (va_Pc [.ref (ad b), .int p0, .int p1, .int p2, .int p3] (qPre D xS ad cy sa va (eX ad cy) I J)) (va_Qi (S := Unit) (fun x _ => x = r) (fun _ t => qP D xS ad (eX ad cy) Ie J t.heap) (qA xS ad)) 0 0 (qA xS ad) := by
  refine Met.ofW (cc := cX2_add) (maxL := 6) (ret := (some .int)) (by decide) rfl ?_
  intro p e s m args below meth c s₁ B hml hv
  obtain ⟨rfl, hP, hK, hE, hN⟩ := hv
  have C : qC p s m _ meth c cX2_add 6 RX2 wsX2_add (some .int) := ⟨⟨B.exec, B.bytes, hml, findClass_of_methodNamed B.named, atoms_spec (ws := wsX2_add) B.pre⟩, B.returns, B.notSynchronized⟩
  have C0 := C
  obtain ⟨⟨hx, hb, hml, hown, hts⟩, hr, hlocks⟩ := C0
  have hS : va_S (qA xS ad) s.heap s.heap [] := va_S.rf
  have hl := lv_entry ([.ref (ad b), .int p0, .int p1, .int p2, .int p3]) (n := 6) (Nat.le_of_ble_eq_true rfl)
  rw [lg_entry_eq]
  generalize (lg_sl ([.ref (ad b), .int p0, .int p1, .int p2, .int p3]) ++ List.replicate (6 - (lg_sl ([.ref (ad b), .int p0, .int p1, .int p2, .int p3])).length) Slot.unset).toArray = ls at hl ⊢
  have hl : lv_has ls 6 [(0, .ref (ad b)), (1, .int p0), (2, .int p1), (3, .int p2), (4, .int p3)] := hl
  unfold f_X2_add at hf
  refine lv_aload_n hx hb dX2_add_0 rfl (lv_at hl 0 rfl) ?_
  obtain ⟨v1, h2, hf⟩ := bd_ok hf
  refine q_cSi (va_runV (As := []) (rest := []) ⟨hx, hb, hml, hown, hts⟩ (c_X2_hasRoom l (D := D) (ad := ad) (cy := cy) (sa := sa) (va := va) (I := I) (J := J) b zb h2) (cwV 0 hts gX2_add_X2_hasRoom rfl rfl rfl (by decide +kernel) ⟨Nat.le_of_ble_eq_true rfl, Nat.le_of_ble_eq_true rfl⟩) ⟨qPre_blind _, q_recv hK hP (oX2 zb) rfl, fun U hU hW => ⟨rfl, qPre_of hP hK hE hN hS U hU hW⟩⟩ rfl rfl hl.1 rfl (lv_room (Nat.le_of_ble_eq_true rfl)) dX2_add_1 ⟨Nat.le_of_ble_eq_true rfl, Nat.le_of_ble_eq_true rfl⟩) ?_
  refine lv_if_ne (tgt := 9) hx hb dX2_add_4 (by decide) (fun cc => ?_) (fun cc => ?_)
  · have hf := (if_ok hf).2 cc
    refine lv_aload_n hx hb dX2_add_9 rfl (lv_at hl 0 rfl) ?_
    refine q_get (C := RX2) (T := TX2) (N := 13) (ci := 2) (v := .int (I b 7)) hx hb hts in_X2_add_X2 hown hK hP (oX2 zb) rfl 7 (by decide) (hts (.fieldLink RX2 46 "RowsOnlyPrimes$Bank" "size" "I") (by decide +kernel)) (fun _ h9 => h9) rfl dX2_add_10 ?_
    refine lv_istore (lv' := [(5, .int (I b 7)), (0, .ref (ad b)), (1, .int p0), (2, .int p1), (3, .int p2), (4, .int p3)]) hx hb dX2_add_13 hl (by decide) rfl (fun ls hl => ?_)
    refine lv_aload_n hx hb dX2_add_15 rfl (lv_at hl 1 rfl) ?_
    refine q_get (C := RX2) (T := TX2) (N := 13) (ci := 2) (v := .ref (ad (b + 1))) hx hb hts in_X2_add_X2 hown hK hP (oX2 zb) rfl 0 (by decide) (hts (.fieldLink RX2 9 "RowsOnlyPrimes$Bank" "kinds" "[I") (by decide +kernel)) (fun _ h9 => h9) rfl dX2_add_16 ?_
    refine lv_iload hx hb dX2_add_19 (lv_at hl 0 rfl) ?_
    refine lv_iload_n hx hb dX2_add_21 rfl (lv_at hl 2 rfl) ?_
    obtain ⟨g3, hf⟩ := gd_ok hf
    obtain ⟨I4, eI4, hf⟩ := lt_ok hf
    refine q_iast hx hb hK hP hN hS (aX2_1 zb) g3 dX2_add_22 (fun H locs hP hS => ?_)
    have hP : qP D xS ad (eX ad cy) I4 J H := by rw [eI4]; exact hP
    refine lv_aload_n hx hb dX2_add_23 rfl (lv_at hl 1 rfl) ?_
    refine q_get (C := RX2) (T := TX2) (N := 13) (ci := 2) (v := .ref (ad (b + 2))) hx hb hts in_X2_add_X2 hown hK hP (oX2 zb) rfl 1 (by decide) (hts (.fieldLink RX2 15 "RowsOnlyPrimes$Bank" "extras" "[I") (by decide +kernel)) (fun _ h9 => h9) rfl dX2_add_24 ?_
    refine lv_iload hx hb dX2_add_27 (lv_at hl 0 rfl) ?_
    refine lv_iload_n hx hb dX2_add_29 rfl (lv_at hl 3 rfl) ?_
    obtain ⟨g5, hf⟩ := gd_ok hf
    obtain ⟨I6, eI6, hf⟩ := lt_ok hf
    refine q_iast hx hb hK hP hN hS (aX2_2 zb) g5 dX2_add_30 (fun H locs hP hS => ?_)
    have hP : qP D xS ad (eX ad cy) I6 J H := by rw [eI6]; exact hP
    refine lv_aload_n hx hb dX2_add_31 rfl (lv_at hl 1 rfl) ?_
    refine q_get (C := RX2) (T := TX2) (N := 13) (ci := 2) (v := .ref (ad (b + 3))) hx hb hts in_X2_add_X2 hown hK hP (oX2 zb) rfl 2 (by decide) (hts (.fieldLink RX2 18 "RowsOnlyPrimes$Bank" "counts" "[I") (by decide +kernel)) (fun _ h9 => h9) rfl dX2_add_32 ?_
    refine lv_iload hx hb dX2_add_35 (lv_at hl 0 rfl) ?_
    refine lv_iload_n hx hb dX2_add_37 rfl (lv_at hl 4 rfl) ?_
    obtain ⟨g7, hf⟩ := gd_ok hf
    obtain ⟨I8, eI8, hf⟩ := lt_ok hf
    refine q_iast hx hb hK hP hN hS (aX2_3 zb) g7 dX2_add_38 (fun H locs hP hS => ?_)
    have hP : qP D xS ad (eX ad cy) I8 J H := by rw [eI8]; exact hP
    refine lv_aload_n hx hb dX2_add_39 rfl (lv_at hl 1 rfl) ?_
    refine q_get (C := RX2) (T := TX2) (N := 13) (ci := 2) (v := .ref (ad (b + 4))) hx hb hts in_X2_add_X2 hown hK hP (oX2 zb) rfl 3 (by decide) (hts (.fieldLink RX2 21 "RowsOnlyPrimes$Bank" "wallets" "[I") (by decide +kernel)) (fun _ h9 => h9) rfl dX2_add_40 ?_
    refine lv_iload hx hb dX2_add_43 (lv_at hl 0 rfl) ?_
    refine lv_iload hx hb dX2_add_45 (lv_at hl 5 rfl) ?_
    obtain ⟨g9, hf⟩ := gd_ok hf
    obtain ⟨I10, eI10, hf⟩ := lt_ok hf
    refine q_iast hx hb hK hP hN hS (aX2_4 zb) g9 dX2_add_47 (fun H locs hP hS => ?_)
    have hP : qP D xS ad (eX ad cy) I10 J H := by rw [eI10]; exact hP
    refine lv_aload_n hx hb dX2_add_48 rfl (lv_at hl 1 rfl) ?_
    refine lv_dup hx hb dX2_add_49 rfl ?_
    refine q_get (C := RX2) (T := TX2) (N := 13) (ci := 2) (v := .int (I10 b 7)) hx hb hts in_X2_add_X2 hown hK hP (oX2 zb) rfl 7 (by decide) (hts (.fieldLink RX2 46 "RowsOnlyPrimes$Bank" "size" "I") (by decide +kernel)) (fun _ h9 => h9) rfl dX2_add_50 ?_
    refine lv_iconst (v := 1) hx hb dX2_add_53 (by decide) ?_
    refine lv_iadd hx hb dX2_add_54 ?_
    obtain ⟨I11, eI11, hf⟩ := lt_ok hf
    refine q_put (C := RX2) (T := TX2) (N := 13) (ci := 2) (v := .int ((I10 b 7) + (1 : Int32))) (x := ((I10 b 7) + (1 : Int32))) (ty := .int) hx hb hts in_X2_add_X2 tyX2 tyX2_ok nmX2 hown hK hP hN hS (oX2 zb) rfl 7 (by decide) (hts (.fieldLink RX2 46 "RowsOnlyPrimes$Bank" "size" "I") (by decide +kernel)) (fun _ h9 => h9) rfl (by decide +kernel) rfl rfl (fun _ _ => rfl) (fun _ _ => Nat.le_of_ble_eq_true rfl) dX2_add_55 (fun H locs hP hS => ?_)
    rw [← eI11] at hP
    refine lv_iload hx hb dX2_add_58 (lv_at hl 0 rfl) ?_
    have e9 := Option.some.inj hf
    have eI9 : I11 = Ie := (congrArg Prod.snd e9)
    exact W.iret hx hb hr (fun t ht _ => ⟨⟨_, (), rfl, (congrArg Prod.fst e9), by show qP D _ ad _ _ _ t.heap; rw [ht, ← eI9]; exact hP⟩, hS.F ht⟩) hS.2.2 dX2_add_60
  · have hf := (if_ok hf).1 cc
    refine lv_iconst (v := -1) hx hb dX2_add_7 (by decide) ?_
    have e9 := Option.some.inj hf
    have eI9 : I = Ie := (congrArg Prod.snd e9)
    exact W.iret hx hb hr (fun t ht _ => ⟨⟨_, (), rfl, (congrArg Prod.fst e9), by show qP D _ ad _ _ _ t.heap; rw [ht, ← eI9]; exact hP⟩, hS.F ht⟩) hS.2.2 dX2_add_8
abbrev r_X2_hasParty : Room := { frames := 1, cells := 0, slots := 0, locals := 22 }
theorem in_X2_hasParty_X2 : ∀ w ∈ u_ws RX2 TX2 13, w ∈ wsX2_hasParty := by decide +kernel
set_option maxHeartbeats 4000000 in
set_option maxRecDepth 100000 in
theorem c_X2_hasParty (l : Launch) {D : va_G} {ad : Nat → Nat} {cy : Nat → ClassId} {sa va : Nat → Nat} {I : qI} {J : qJ} (b : Nat) (zb : isB b) (p0 : Int32) {r : Int32} (hf : f_X2_hasParty b p0 I = some r) : Met l yX2_hasParty wsX2_hasParty r_X2_hasParty (va_Pc [.ref (ad b), .int p0] (qPre D xS ad cy sa va (eX ad cy) I J)) (vp_Si (fun x => x = r)) 0 0 (fun _ => False) := by
  refine Met.ofW (cc := cX2_hasParty) (maxL := 2) (ret := (some .boolean)) (by decide) rfl ?_
  intro p e s m args below meth c s₁ B hml hv
  obtain ⟨rfl, hP, hK, hE, hN⟩ := hv
  have C : qC p s m _ meth c cX2_hasParty 2 RX2 wsX2_hasParty (some .boolean) := ⟨⟨B.exec, B.bytes, hml, findClass_of_methodNamed B.named, atoms_spec (ws := wsX2_hasParty) B.pre⟩, B.returns, B.notSynchronized⟩
  have C0 := C
  obtain ⟨⟨hx, hb, hml, hown, hts⟩, hr, hlocks⟩ := C0
  have hl := lv_entry ([.ref (ad b), .int p0]) (n := 2) (Nat.le_of_ble_eq_true rfl)
  rw [lg_entry_eq]
  generalize (lg_sl ([.ref (ad b), .int p0]) ++ List.replicate (2 - (lg_sl ([.ref (ad b), .int p0])).length) Slot.unset).toArray = ls at hl ⊢
  have hl : lv_has ls 2 [(0, .ref (ad b)), (1, .int p0)] := hl
  unfold f_X2_hasParty at hf
  refine lv_iload_n hx hb dX2_hasParty_0 rfl (lv_at hl 1 rfl) ?_
  refine lv_iconst (v := 0) hx hb dX2_hasParty_1 (by decide) ?_
  refine lv_aload_n hx hb dX2_hasParty_2 rfl (lv_at hl 0 rfl) ?_
  refine q_get (C := RX2) (T := TX2) (N := 13) (ci := 2) (v := .int (I b 7)) hx hb hts in_X2_hasParty_X2 hown hK hP (oX2 zb) rfl 7 (by decide) (hts (.fieldLink RX2 46 "RowsOnlyPrimes$Bank" "size" "I") (by decide +kernel)) (fun _ h9 => h9) rfl dX2_hasParty_3 ?_
  refine lv_iconst (v := 1) hx hb dX2_hasParty_6 (by decide) ?_
  refine lv_isub hx hb dX2_hasParty_7 ?_
  obtain ⟨v1, h2, hf⟩ := bd_ok hf
  refine q_cSi (va_runSN (host := RX8) (As := [.int p0, .int (0 : Int32), .int ((I b 7) - (1 : Int32))]) (rest := []) ⟨hx, hb, hml, hown, hts⟩ (c_X8_within l (D := D) (ad := ad) (cy := cy) (sa := sa) (va := va) (I := I) (J := J) p0 (0 : Int32) ((I b 7) - (1 : Int32)) h2) ⟨va_cnB 3 hts gX2_hasParty_X8_within_n65 rfl rfl rfl (hK.2.1.2.1.2.1) (hts (.initialized RX8) (by decide +kernel)) (by decide +kernel) ⟨Nat.le_of_ble_eq_true rfl, Nat.le_of_ble_eq_true rfl⟩, (hts (.static yX8_within) (by decide +kernel)), trivial⟩ ⟨qPre_blind _, fun U hU hW => ⟨rfl, qPre_of hP hK hE hN va_S.rf U hU hW⟩⟩ rfl rfl hl.1 rfl (lv_room (Nat.le_of_ble_eq_true rfl)) dX2_hasParty_8 ⟨Nat.le_of_ble_eq_true rfl, Nat.le_of_ble_eq_true rfl⟩) ?_
  obtain ⟨g3, hf⟩ := gd_ok hf
  exact W.zret (ty := .boolean) hx hb hr (q_narZ g3) (fun t ht _ => ⟨_, rfl, Option.some.inj hf, ht⟩) (fun _ h => by cases h) dX2_hasParty_11
abbrev r_X2_hasTwo : Room := { frames := 2, cells := 0, slots := 0, locals := 43 }
set_option maxHeartbeats 4000000 in
set_option maxRecDepth 100000 in
theorem c_X2_hasTwo (l : Launch) {D : va_G} {ad : Nat → Nat} {cy : Nat → ClassId} {sa va : Nat → Nat} {I : qI} {J : qJ} (b : Nat) (zb : isB b) (p0 : Int32) (p1 : Int32) {r : Int32} (hf : f_X2_hasTwo b p0 p1 I = some r) : Met l yX2_hasTwo wsX2_hasTwo r_X2_hasTwo (va_Pc [.ref (ad b), .int p0, .int p1] (qPre D xS ad cy sa va (eX ad cy) I J)) (vp_Si (fun x => x = r)) 0 0 (fun _ => False) := by
  refine Met.ofW (cc := cX2_hasTwo) (maxL := 3) (ret := (some .boolean)) (by decide) rfl ?_
  intro p e s m args below meth c s₁ B hml hv
  obtain ⟨rfl, hP, hK, hE, hN⟩ := hv
  have C : qC p s m _ meth c cX2_hasTwo 3 RX2 wsX2_hasTwo (some .boolean) := ⟨⟨B.exec, B.bytes, hml, findClass_of_methodNamed B.named, atoms_spec (ws := wsX2_hasTwo) B.pre⟩, B.returns, B.notSynchronized⟩
  have C0 := C
  obtain ⟨⟨hx, hb, hml, hown, hts⟩, hr, hlocks⟩ := C0
  have hl := lv_entry ([.ref (ad b), .int p0, .int p1]) (n := 3) (Nat.le_of_ble_eq_true rfl)
  rw [lg_entry_eq]
  generalize (lg_sl ([.ref (ad b), .int p0, .int p1]) ++ List.replicate (3 - (lg_sl ([.ref (ad b), .int p0, .int p1])).length) Slot.unset).toArray = ls at hl ⊢
  have hl : lv_has ls 3 [(0, .ref (ad b)), (1, .int p0), (2, .int p1)] := hl
  unfold f_X2_hasTwo at hf
  refine lv_aload_n hx hb dX2_hasTwo_0 rfl (lv_at hl 0 rfl) ?_
  refine lv_iload_n hx hb dX2_hasTwo_1 rfl (lv_at hl 1 rfl) ?_
  obtain ⟨v1, h2, hf⟩ := bd_ok hf
  refine q_cSi (va_runV (As := [.int p0]) (rest := []) ⟨hx, hb, hml, hown, hts⟩ (c_X2_hasParty l (D := D) (ad := ad) (cy := cy) (sa := sa) (va := va) (I := I) (J := J) b zb p0 h2) (cwV 1 hts gX2_hasTwo_X2_hasParty rfl rfl rfl (by decide +kernel) ⟨Nat.le_of_ble_eq_true rfl, Nat.le_of_ble_eq_true rfl⟩) ⟨qPre_blind _, q_recv hK hP (oX2 zb) rfl, fun U hU hW => ⟨rfl, qPre_of hP hK hE hN va_S.rf U hU hW⟩⟩ rfl rfl hl.1 rfl (lv_room (Nat.le_of_ble_eq_true rfl)) dX2_hasTwo_2 ⟨Nat.le_of_ble_eq_true rfl, Nat.le_of_ble_eq_true rfl⟩) ?_
  refine lv_if_eq (tgt := 25) hx hb dX2_hasTwo_5 (by decide) (fun cc => ?_) (fun cc => ?_)
  · have hf := (if_ok hf).1 cc
    refine lv_iconst (v := 0) hx hb dX2_hasTwo_25 (by decide) ?_
    exact W.zret (ty := .boolean) hx hb hr rfl (fun t ht _ => ⟨_, rfl, Option.some.inj hf, ht⟩) (fun _ h => by cases h) dX2_hasTwo_26
  · have hf := (if_ok hf).2 cc
    refine lv_aload_n hx hb dX2_hasTwo_8 rfl (lv_at hl 0 rfl) ?_
    refine lv_iload_n hx hb dX2_hasTwo_9 rfl (lv_at hl 2 rfl) ?_
    obtain ⟨v3, h4, hf⟩ := bd_ok hf
    refine q_cSi (va_runV (As := [.int p1]) (rest := []) ⟨hx, hb, hml, hown, hts⟩ (c_X2_hasParty l (D := D) (ad := ad) (cy := cy) (sa := sa) (va := va) (I := I) (J := J) b zb p1 h4) (cwV 1 hts gX2_hasTwo_X2_hasParty rfl rfl rfl (by decide +kernel) ⟨Nat.le_of_ble_eq_true rfl, Nat.le_of_ble_eq_true rfl⟩) ⟨qPre_blind _, q_recv hK hP (oX2 zb) rfl, fun U hU hW => ⟨rfl, qPre_of hP hK hE hN va_S.rf U hU hW⟩⟩ rfl rfl hl.1 rfl (lv_room (Nat.le_of_ble_eq_true rfl)) dX2_hasTwo_10 ⟨Nat.le_of_ble_eq_true rfl, Nat.le_of_ble_eq_true rfl⟩) ?_
    refine lv_if_eq (tgt := 25) hx hb dX2_hasTwo_13 (by decide) (fun cc => ?_) (fun cc => ?_)
    · have hf := (if_ok hf).1 cc
      refine lv_iconst (v := 0) hx hb dX2_hasTwo_25 (by decide) ?_
      exact W.zret (ty := .boolean) hx hb hr rfl (fun t ht _ => ⟨_, rfl, Option.some.inj hf, ht⟩) (fun _ h => by cases h) dX2_hasTwo_26
    · have hf := (if_ok hf).2 cc
      refine lv_iload_n hx hb dX2_hasTwo_16 rfl (lv_at hl 1 rfl) ?_
      refine lv_iload_n hx hb dX2_hasTwo_17 rfl (lv_at hl 2 rfl) ?_
      refine lv_icmp_eq (tgt := 25) hx hb dX2_hasTwo_18 (by decide) (fun cc => ?_) (fun cc => ?_)
      · have hf := (if_ok hf).1 cc
        refine lv_iconst (v := 0) hx hb dX2_hasTwo_25 (by decide) ?_
        exact W.zret (ty := .boolean) hx hb hr rfl (fun t ht _ => ⟨_, rfl, Option.some.inj hf, ht⟩) (fun _ h => by cases h) dX2_hasTwo_26
      · have hf := (if_ok hf).2 cc
        refine lv_iconst (v := 1) hx hb dX2_hasTwo_21 (by decide) ?_
        refine lv_goto (tgt := 26) hx hb dX2_hasTwo_22 (by decide) ?_
        exact W.zret (ty := .boolean) hx hb hr rfl (fun t ht _ => ⟨_, rfl, Option.some.inj hf, ht⟩) (fun _ h => by cases h) dX2_hasTwo_26
abbrev r_X2_hasGroup : Room := { frames := 1, cells := 0, slots := 0, locals := 22 }
set_option maxHeartbeats 4000000 in
set_option maxRecDepth 100000 in
theorem c_X2_hasGroup (l : Launch) {D : va_G} {ad : Nat → Nat} {cy : Nat → ClassId} {sa va : Nat → Nat} {I : qI} {J : qJ} (b : Nat) (zb : isB b) (p0 : Int32) {r : Int32} (hf : f_X2_hasGroup b p0 I = some r) : Met l yX2_hasGroup wsX2_hasGroup r_X2_hasGroup (va_Pc [.ref (ad b), .int p0] (qPre D xS ad cy sa va (eX ad cy) I J)) (vp_Si (fun x => x = r)) 0 0 (fun _ => False) := by
  refine Met.ofW (cc := cX2_hasGroup) (maxL := 2) (ret := (some .boolean)) (by decide) rfl ?_
  intro p e s m args below meth c s₁ B hml hv
  obtain ⟨rfl, hP, hK, hE, hN⟩ := hv
  have C : qC p s m _ meth c cX2_hasGroup 2 RX2 wsX2_hasGroup (some .boolean) := ⟨⟨B.exec, B.bytes, hml, findClass_of_methodNamed B.named, atoms_spec (ws := wsX2_hasGroup) B.pre⟩, B.returns, B.notSynchronized⟩
  have C0 := C
  obtain ⟨⟨hx, hb, hml, hown, hts⟩, hr, hlocks⟩ := C0
  have hl := lv_entry ([.ref (ad b), .int p0]) (n := 2) (Nat.le_of_ble_eq_true rfl)
  rw [lg_entry_eq]
  generalize (lg_sl ([.ref (ad b), .int p0]) ++ List.replicate (2 - (lg_sl ([.ref (ad b), .int p0])).length) Slot.unset).toArray = ls at hl ⊢
  have hl : lv_has ls 2 [(0, .ref (ad b)), (1, .int p0)] := hl
  unfold f_X2_hasGroup at hf
  refine lv_iload_n hx hb dX2_hasGroup_0 rfl (lv_at hl 1 rfl) ?_
  refine lv_iconst (v := 0) hx hb dX2_hasGroup_1 (by decide) ?_
  refine lv_aload_n hx hb dX2_hasGroup_2 rfl (lv_at hl 0 rfl) ?_
  obtain ⟨v1, h2, hf⟩ := bd_ok hf
  refine q_cSi (va_runV (As := []) (rest := [.int (0 : Int32), .int p0]) ⟨hx, hb, hml, hown, hts⟩ (c_X2_everybody l (D := D) (ad := ad) (cy := cy) (sa := sa) (va := va) (I := I) (J := J) b zb h2) (cwV 0 hts gX2_hasGroup_X2_everybody rfl rfl rfl (by decide +kernel) ⟨Nat.le_of_ble_eq_true rfl, Nat.le_of_ble_eq_true rfl⟩) ⟨qPre_blind _, q_recv hK hP (oX2 zb) rfl, fun U hU hW => ⟨rfl, qPre_of hP hK hE hN va_S.rf U hU hW⟩⟩ rfl rfl hl.1 rfl (lv_room (Nat.le_of_ble_eq_true rfl)) dX2_hasGroup_3 ⟨Nat.le_of_ble_eq_true rfl, Nat.le_of_ble_eq_true rfl⟩) ?_
  obtain ⟨v3, h4, hf⟩ := bd_ok hf
  refine q_cSi (va_runSN (host := RX8) (As := [.int p0, .int (0 : Int32), .int v1]) (rest := []) ⟨hx, hb, hml, hown, hts⟩ (c_X8_within l (D := D) (ad := ad) (cy := cy) (sa := sa) (va := va) (I := I) (J := J) p0 (0 : Int32) v1 h4) ⟨va_cnB 3 hts gX2_hasGroup_X8_within_n65 rfl rfl rfl (hK.2.1.2.1.2.1) (hts (.initialized RX8) (by decide +kernel)) (by decide +kernel) ⟨Nat.le_of_ble_eq_true rfl, Nat.le_of_ble_eq_true rfl⟩, (hts (.static yX8_within) (by decide +kernel)), trivial⟩ ⟨qPre_blind _, fun U hU hW => ⟨rfl, qPre_of hP hK hE hN va_S.rf U hU hW⟩⟩ rfl rfl hl.1 rfl (lv_room (Nat.le_of_ble_eq_true rfl)) dX2_hasGroup_6 ⟨Nat.le_of_ble_eq_true rfl, Nat.le_of_ble_eq_true rfl⟩) ?_
  obtain ⟨g5, hf⟩ := gd_ok hf
  exact W.zret (ty := .boolean) hx hb hr (q_narZ g5) (fun t ht _ => ⟨_, rfl, Option.some.inj hf, ht⟩) (fun _ h => by cases h) dX2_hasGroup_9
abbrev r_X2_isOver : Room := { frames := 1, cells := 0, slots := 0, locals := 21 }
theorem in_X2_isOver_X2 : ∀ w ∈ u_ws RX2 TX2 13, w ∈ wsX2_isOver := by decide +kernel
set_option maxHeartbeats 4000000 in
set_option maxRecDepth 100000 in
theorem c_X2_isOver (l : Launch) {D : va_G} {ad : Nat → Nat} {cy : Nat → ClassId} {sa va : Nat → Nat} {I : qI} {J : qJ} (b : Nat) (zb : isB b) (p0 : Int32) {r : Int32} (hf : f_X2_isOver b p0 I = some r) : Met l yX2_isOver wsX2_isOver r_X2_isOver (va_Pc [.ref (ad b), .int p0] (qPre D xS ad cy sa va (eX ad cy) I J)) (vp_Si (fun x => x = r)) 0 0 (fun _ => False) := by
  refine Met.ofW (cc := cX2_isOver) (maxL := 2) (ret := (some .boolean)) (by decide) rfl ?_
  intro p e s m args below meth c s₁ B hml hv
  obtain ⟨rfl, hP, hK, hE, hN⟩ := hv
  have C : qC p s m _ meth c cX2_isOver 2 RX2 wsX2_isOver (some .boolean) := ⟨⟨B.exec, B.bytes, hml, findClass_of_methodNamed B.named, atoms_spec (ws := wsX2_isOver) B.pre⟩, B.returns, B.notSynchronized⟩
  have C0 := C
  obtain ⟨⟨hx, hb, hml, hown, hts⟩, hr, hlocks⟩ := C0
  have hl := lv_entry ([.ref (ad b), .int p0]) (n := 2) (Nat.le_of_ble_eq_true rfl)
  rw [lg_entry_eq]
  generalize (lg_sl ([.ref (ad b), .int p0]) ++ List.replicate (2 - (lg_sl ([.ref (ad b), .int p0])).length) Slot.unset).toArray = ls at hl ⊢
  have hl : lv_has ls 2 [(0, .ref (ad b)), (1, .int p0)] := hl
  unfold f_X2_isOver at hf
  refine lv_aload_n hx hb dX2_isOver_0 rfl (lv_at hl 0 rfl) ?_
  refine q_get (C := RX2) (T := TX2) (N := 13) (ci := 2) (v := .int (I b 8)) hx hb hts in_X2_isOver_X2 hown hK hP (oX2 zb) rfl 8 (by decide) (hts (.fieldLink RX2 49 "RowsOnlyPrimes$Bank" "over" "I") (by decide +kernel)) (fun _ h9 => h9) rfl dX2_isOver_1 ?_
  refine lv_iload_n hx hb dX2_isOver_4 rfl (lv_at hl 1 rfl) ?_
  obtain ⟨v1, h2, hf⟩ := bd_ok hf
  refine q_cSi (va_runSN (host := RX8) (As := [.int (I b 8), .int p0]) (rest := []) ⟨hx, hb, hml, hown, hts⟩ (c_X8_has l (D := D) (ad := ad) (cy := cy) (sa := sa) (va := va) (I := I) (J := J) (I b 8) p0 h2) ⟨va_cnB 2 hts gX2_isOver_X8_has_n77 rfl rfl rfl (hK.2.1.2.1.2.2.1) (hts (.initialized RX8) (by decide +kernel)) (by decide +kernel) ⟨Nat.le_of_ble_eq_true rfl, Nat.le_of_ble_eq_true rfl⟩, (hts (.static yX8_has) (by decide +kernel)), trivial⟩ ⟨qPre_blind _, fun U hU hW => ⟨rfl, qPre_of hP hK hE hN va_S.rf U hU hW⟩⟩ rfl rfl hl.1 rfl (lv_room (Nat.le_of_ble_eq_true rfl)) dX2_isOver_5 ⟨Nat.le_of_ble_eq_true rfl, Nat.le_of_ble_eq_true rfl⟩) ?_
  obtain ⟨g3, hf⟩ := gd_ok hf
  exact W.zret (ty := .boolean) hx hb hr (q_narZ g3) (fun t ht _ => ⟨_, rfl, Option.some.inj hf, ht⟩) (fun _ h => by cases h) dX2_isOver_8
abbrev r_X2_relation : Room := { frames := 3, cells := 0, slots := 0, locals := 65 }
theorem in_X2_relation_X2 : ∀ w ∈ u_ws RX2 TX2 13, w ∈ wsX2_relation := by decide +kernel
set_option maxHeartbeats 4000000 in
set_option maxRecDepth 100000 in
theorem c_X2_relation (l : Launch) {D : va_G} {ad : Nat → Nat} {cy : Nat → ClassId} {sa va : Nat → Nat} {I : qI} {J : qJ} (b : Nat) (zb : isB b) (p0 : Int32) (p1 : Int32) {r : Int32} (hf : f_X2_relation b p0 p1 I = some r) : Met l yX2_relation wsX2_relation r_X2_relation (va_Pc [.ref (ad b), .int p0, .int p1] (qPre D xS ad cy sa va (eX ad cy) I J)) (vp_Si (fun x => x = r)) 0 0 (fun _ => False) := by
  refine Met.ofW (cc := cX2_relation) (maxL := 3) (ret := (some .int)) (by decide) rfl ?_
  intro p e s m args below meth c s₁ B hml hv
  obtain ⟨rfl, hP, hK, hE, hN⟩ := hv
  have C : qC p s m _ meth c cX2_relation 3 RX2 wsX2_relation (some .int) := ⟨⟨B.exec, B.bytes, hml, findClass_of_methodNamed B.named, atoms_spec (ws := wsX2_relation) B.pre⟩, B.returns, B.notSynchronized⟩
  have C0 := C
  obtain ⟨⟨hx, hb, hml, hown, hts⟩, hr, hlocks⟩ := C0
  have hl := lv_entry ([.ref (ad b), .int p0, .int p1]) (n := 3) (Nat.le_of_ble_eq_true rfl)
  rw [lg_entry_eq]
  generalize (lg_sl ([.ref (ad b), .int p0, .int p1]) ++ List.replicate (3 - (lg_sl ([.ref (ad b), .int p0, .int p1])).length) Slot.unset).toArray = ls at hl ⊢
  have hl : lv_has ls 3 [(0, .ref (ad b)), (1, .int p0), (2, .int p1)] := hl
  unfold f_X2_relation at hf
  refine lv_aload_n hx hb dX2_relation_0 rfl (lv_at hl 0 rfl) ?_
  refine lv_iload_n hx hb dX2_relation_1 rfl (lv_at hl 1 rfl) ?_
  refine lv_iload_n hx hb dX2_relation_2 rfl (lv_at hl 2 rfl) ?_
  obtain ⟨v1, h2, hf⟩ := bd_ok hf
  refine q_cSi (va_runV (As := [.int p0, .int p1]) (rest := []) ⟨hx, hb, hml, hown, hts⟩ (c_X2_hasTwo l (D := D) (ad := ad) (cy := cy) (sa := sa) (va := va) (I := I) (J := J) b zb p0 p1 h2) (cwV 2 hts gX2_relation_X2_hasTwo rfl rfl rfl (by decide +kernel) ⟨Nat.le_of_ble_eq_true rfl, Nat.le_of_ble_eq_true rfl⟩) ⟨qPre_blind _, q_recv hK hP (oX2 zb) rfl, fun U hU hW => ⟨rfl, qPre_of hP hK hE hN va_S.rf U hU hW⟩⟩ rfl rfl hl.1 rfl (lv_room (Nat.le_of_ble_eq_true rfl)) dX2_relation_3 ⟨Nat.le_of_ble_eq_true rfl, Nat.le_of_ble_eq_true rfl⟩) ?_
  refine lv_if_ne (tgt := 11) hx hb dX2_relation_6 (by decide) (fun cc => ?_) (fun cc => ?_)
  · have hf := (if_ok hf).2 cc
    refine lv_aload_n hx hb dX2_relation_11 rfl (lv_at hl 0 rfl) ?_
    refine q_get (C := RX2) (T := TX2) (N := 13) (ci := 2) (v := .ref (ad (b + 5))) hx hb hts in_X2_relation_X2 hown hK hP (oX2 zb) rfl 4 (by decide) (hts (.fieldLink RX2 24 "RowsOnlyPrimes$Bank" "ties" "[I") (by decide +kernel)) (fun _ h9 => h9) rfl dX2_relation_12 ?_
    refine lv_iload_n hx hb dX2_relation_15 rfl (lv_at hl 1 rfl) ?_
    obtain ⟨g3, hf⟩ := gd_ok hf
    refine q_iald hx hb hK hP (aX2_5 zb) g3 dX2_relation_16 ?_
    refine lv_iload_n hx hb dX2_relation_17 rfl (lv_at hl 2 rfl) ?_
    obtain ⟨v4, h5, hf⟩ := bd_ok hf
    refine q_cSi (va_runSN (host := RX8) (As := [.int (I (b + 5) p0.toNatClampNeg), .int p1]) (rest := []) ⟨hx, hb, hml, hown, hts⟩ (c_X8_has l (D := D) (ad := ad) (cy := cy) (sa := sa) (va := va) (I := I) (J := J) (I (b + 5) p0.toNatClampNeg) p1 h5) ⟨va_cnB 2 hts gX2_relation_X8_has_n77 rfl rfl rfl (hK.2.1.2.1.2.2.1) (hts (.initialized RX8) (by decide +kernel)) (by decide +kernel) ⟨Nat.le_of_ble_eq_true rfl, Nat.le_of_ble_eq_true rfl⟩, (hts (.static yX8_has) (by decide +kernel)), trivial⟩ ⟨qPre_blind _, fun U hU hW => ⟨rfl, qPre_of hP hK hE hN va_S.rf U hU hW⟩⟩ rfl rfl hl.1 rfl (lv_room (Nat.le_of_ble_eq_true rfl)) dX2_relation_18 ⟨Nat.le_of_ble_eq_true rfl, Nat.le_of_ble_eq_true rfl⟩) ?_
    refine lv_if_eq (tgt := 26) hx hb dX2_relation_21 (by decide) (fun cc => ?_) (fun cc => ?_)
    · have hf := (if_ok hf).1 cc
      refine lv_aload_n hx hb dX2_relation_26 rfl (lv_at hl 0 rfl) ?_
      refine q_get (C := RX2) (T := TX2) (N := 13) (ci := 2) (v := .ref (ad (b + 6))) hx hb hts in_X2_relation_X2 hown hK hP (oX2 zb) rfl 5 (by decide) (hts (.fieldLink RX2 27 "RowsOnlyPrimes$Bank" "shuns" "[I") (by decide +kernel)) (fun _ h9 => h9) rfl dX2_relation_27 ?_
      refine lv_iload_n hx hb dX2_relation_30 rfl (lv_at hl 1 rfl) ?_
      obtain ⟨g6, hf⟩ := gd_ok hf
      refine q_iald hx hb hK hP (aX2_6 zb) g6 dX2_relation_31 ?_
      refine lv_iload_n hx hb dX2_relation_32 rfl (lv_at hl 2 rfl) ?_
      obtain ⟨v7, h8, hf⟩ := bd_ok hf
      refine q_cSi (va_runSN (host := RX8) (As := [.int (I (b + 6) p0.toNatClampNeg), .int p1]) (rest := []) ⟨hx, hb, hml, hown, hts⟩ (c_X8_has l (D := D) (ad := ad) (cy := cy) (sa := sa) (va := va) (I := I) (J := J) (I (b + 6) p0.toNatClampNeg) p1 h8) ⟨va_cnB 2 hts gX2_relation_X8_has_n77 rfl rfl rfl (hK.2.1.2.1.2.2.1) (hts (.initialized RX8) (by decide +kernel)) (by decide +kernel) ⟨Nat.le_of_ble_eq_true rfl, Nat.le_of_ble_eq_true rfl⟩, (hts (.static yX8_has) (by decide +kernel)), trivial⟩ ⟨qPre_blind _, fun U hU hW => ⟨rfl, qPre_of hP hK hE hN va_S.rf U hU hW⟩⟩ rfl rfl hl.1 rfl (lv_room (Nat.le_of_ble_eq_true rfl)) dX2_relation_33 ⟨Nat.le_of_ble_eq_true rfl, Nat.le_of_ble_eq_true rfl⟩) ?_
      refine lv_if_eq (tgt := 43) hx hb dX2_relation_36 (by decide) (fun cc => ?_) (fun cc => ?_)
      · have hf := (if_ok hf).1 cc
        refine lv_iconst (v := 0) hx hb dX2_relation_43 (by decide) ?_
        exact W.iret hx hb hr (fun t ht _ => ⟨_, rfl, Option.some.inj hf, ht⟩) (fun _ h => by cases h) dX2_relation_44
      · have hf := (if_ok hf).2 cc
        refine lv_iconst (v := 2) hx hb dX2_relation_39 (by decide) ?_
        refine lv_goto (tgt := 44) hx hb dX2_relation_40 (by decide) ?_
        exact W.iret hx hb hr (fun t ht _ => ⟨_, rfl, Option.some.inj hf, ht⟩) (fun _ h => by cases h) dX2_relation_44
    · have hf := (if_ok hf).2 cc
      refine lv_iconst (v := 1) hx hb dX2_relation_24 (by decide) ?_
      exact W.iret hx hb hr (fun t ht _ => ⟨_, rfl, Option.some.inj hf, ht⟩) (fun _ h => by cases h) dX2_relation_25
  · have hf := (if_ok hf).1 cc
    refine lv_iconst (v := 0) hx hb dX2_relation_9 (by decide) ?_
    exact W.iret hx hb hr (fun t ht _ => ⟨_, rfl, Option.some.inj hf, ht⟩) (fun _ h => by cases h) dX2_relation_10
abbrev r_X2_mark : Room := { frames := 0, cells := 0, slots := 0, locals := 0 }
set_option maxHeartbeats 4000000 in
set_option maxRecDepth 100000 in
theorem w_X2_mark_51 (C : qC p s m args meth c cX2_mark 4 RX2 wsX2_mark none) (hK : qK D cy sa s) (hE : qEnv sa va (qA xS ad) s s.heap) (hN : qN xS ad) (k0 : Nat) (zk0 : qAI xS (eX ad cy) cy k0 8) {J : qJ} {Ie : qI} : ∀ (xs0 : Int32) (xs1 : Int32)  (I : qI) (ls : Array Slot) (H : Heap) (locs : List Loc), f_X2_mark_51 k0 xs0 xs1 I = some Ie → lv_has ls 4 [] → qP D xS ad (eX ad cy) I J H → va_S (qA xS ad) s.heap H locs → W p l e (headSpec wsX2_mark r_X2_mark).room s m args below meth c H locs 0 0 (MQ below (va_Qv (S := Unit) (fun _ => True) (fun _ t => qP D xS ad (eX ad cy) Ie J t.heap) (qA xS ad)) args s 0 0 (qA xS ad)) (F0 m 51 ls [.int xs0, .int xs1, .ref (ad k0)]) := by
  have C0 := C
  obtain ⟨⟨hx, hb, hml, hown, hts⟩, hr, hlocks⟩ := C0
  intro xs0 xs1 I ls H locs hf hl hP hS
  unfold f_X2_mark_51 at hf
  obtain ⟨g1, hf⟩ := gd_ok hf
  obtain ⟨I2, eI2, hf⟩ := lt_ok hf
  refine q_iast hx hb hK hP hN hS zk0 g1 dX2_mark_51 (fun H locs hP hS => ?_)
  have hP : qP D xS ad (eX ad cy) I2 J H := by rw [eI2]; exact hP
  have e9 := Option.some.inj hf
  have eI9 : I2 = Ie := e9
  exact W.vret hx hb hr (fun t ht _ => ⟨⟨(), rfl, trivial, by show qP D _ ad _ _ _ t.heap; rw [ht, ← eI9]; exact hP⟩, hS.F ht⟩) hS.2.2 dX2_mark_52
set_option maxHeartbeats 4000000 in
set_option maxRecDepth 100000 in
theorem w_X2_mark_25 (C : qC p s m args meth c cX2_mark 4 RX2 wsX2_mark none) (hK : qK D cy sa s) (hE : qEnv sa va (qA xS ad) s s.heap) (hN : qN xS ad) (k0 : Nat) (zk0 : qAI xS (eX ad cy) cy k0 8) {J : qJ} {Ie : qI} : ∀ (x1 : Int32) (x2 : Int32) (x3 : Int32) (xs0 : Int32) (xs1 : Int32)  (I : qI) (ls : Array Slot) (H : Heap) (locs : List Loc), f_X2_mark_25 k0 x1 x2 x3 xs0 xs1 I = some Ie → lv_has ls 4 [(0, .ref (ad k0)), (1, .int x1), (2, .int x2), (3, .int x3)] → qP D xS ad (eX ad cy) I J H → va_S (qA xS ad) s.heap H locs → W p l e (headSpec wsX2_mark r_X2_mark).room s m args below meth c H locs 0 0 (MQ below (va_Qv (S := Unit) (fun _ => True) (fun _ t => qP D xS ad (eX ad cy) Ie J t.heap) (qA xS ad)) args s 0 0 (qA xS ad)) (F0 m 25 ls [.int xs0, .int xs1, .ref (ad k0)]) := by
  have C0 := C
  obtain ⟨⟨hx, hb, hml, hown, hts⟩, hr, hlocks⟩ := C0
  intro x1 x2 x3 xs0 xs1 I ls H locs hf hl hP hS
  unfold f_X2_mark_25 at hf
  obtain ⟨g1, hf⟩ := gd_ok hf
  obtain ⟨I2, eI2, hf⟩ := lt_ok hf
  refine q_iast hx hb hK hP hN hS zk0 g1 dX2_mark_25 (fun H locs hP hS => ?_)
  have hP : qP D xS ad (eX ad cy) I2 J H := by rw [eI2]; exact hP
  refine lv_aload_n hx hb dX2_mark_26 rfl (lv_at hl 0 rfl) ?_
  refine lv_iload_n hx hb dX2_mark_27 rfl (lv_at hl 2 rfl) ?_
  refine lv_iload_n hx hb dX2_mark_28 rfl (lv_at hl 3 rfl) ?_
  refine lv_if_eq (tgt := 42) hx hb dX2_mark_29 (by decide) (fun cc => ?_) (fun cc => ?_)
  · have hf := (if_ok hf).1 cc
    refine lv_aload_n hx hb dX2_mark_42 rfl (lv_at hl 0 rfl) ?_
    refine lv_iload_n hx hb dX2_mark_43 rfl (lv_at hl 2 rfl) ?_
    obtain ⟨g3, hf⟩ := gd_ok hf
    refine q_iald hx hb hK hP zk0 g3 dX2_mark_44 ?_
    refine lv_iconst (v := 1) hx hb dX2_mark_45 (by decide) ?_
    refine lv_iload_n hx hb dX2_mark_46 rfl (lv_at hl 1 rfl) ?_
    refine lv_ishl hx hb dX2_mark_47 ?_
    refine lv_iconst (v := -1) hx hb dX2_mark_48 (by decide) ?_
    refine lv_ixor hx hb dX2_mark_49 ?_
    refine lv_iand hx hb dX2_mark_50 ?_
    exact w_X2_mark_51 C hK hE hN k0 zk0   ((I2 k0 x2.toNatClampNeg) &&& (((1 : Int32) <<< (x1 &&& (31 : Int32))) ^^^ (-1 : Int32))) x2 I2 _ _ _ hf (lv_sub hl [] rfl) hP hS
  · have hf := (if_ok hf).2 cc
    refine lv_aload_n hx hb dX2_mark_32 rfl (lv_at hl 0 rfl) ?_
    refine lv_iload_n hx hb dX2_mark_33 rfl (lv_at hl 2 rfl) ?_
    obtain ⟨g4, hf⟩ := gd_ok hf
    refine q_iald hx hb hK hP zk0 g4 dX2_mark_34 ?_
    refine lv_iconst (v := 1) hx hb dX2_mark_35 (by decide) ?_
    refine lv_iload_n hx hb dX2_mark_36 rfl (lv_at hl 1 rfl) ?_
    refine lv_ishl hx hb dX2_mark_37 ?_
    refine lv_ior hx hb dX2_mark_38 ?_
    refine lv_goto (tgt := 51) hx hb dX2_mark_39 (by decide) ?_
    exact w_X2_mark_51 C hK hE hN k0 zk0   ((I2 k0 x2.toNatClampNeg) ||| ((1 : Int32) <<< (x1 &&& (31 : Int32)))) x2 I2 _ _ _ hf (lv_sub hl [] rfl) hP hS
set_option maxHeartbeats 4000000 in
set_option maxRecDepth 100000 in
theorem c_X2_mark (l : Launch) {D : va_G} {ad : Nat → Nat} {cy : Nat → ClassId} {sa va : Nat → Nat} {I : qI} {J : qJ} (k0 : Nat) (zk0 : qAI xS (eX ad cy) cy k0 8) (p1 : Int32) (p2 : Int32) (p3 : Int32) {Ie : qI} (hf : f_X2_mark k0 p1 p2 p3 I = some Ie) : Met l yX2_mark wsX2_mark r_X2_mark (va_Pc [.ref (ad k0), .int p1, .int p2, .int p3] (qPre D xS ad cy sa va (eX ad cy) I J)) (va_Qv (S := Unit) (fun _ => True) (fun _ t => qP D xS ad (eX ad cy) Ie J t.heap) (qA xS ad)) 0 0 (qA xS ad) := by
  refine Met.ofW (cc := cX2_mark) (maxL := 4) (ret := none) (by decide) rfl ?_
  intro p e s m args below meth c s₁ B hml hv
  obtain ⟨rfl, hP, hK, hE, hN⟩ := hv
  have C : qC p s m _ meth c cX2_mark 4 RX2 wsX2_mark none := ⟨⟨B.exec, B.bytes, hml, findClass_of_methodNamed B.named, atoms_spec (ws := wsX2_mark) B.pre⟩, B.returns, B.notSynchronized⟩
  have C0 := C
  obtain ⟨⟨hx, hb, hml, hown, hts⟩, hr, hlocks⟩ := C0
  have hS : va_S (qA xS ad) s.heap s.heap [] := va_S.rf
  have hl := lv_entry ([.ref (ad k0), .int p1, .int p2, .int p3]) (n := 4) (Nat.le_of_ble_eq_true rfl)
  rw [lg_entry_eq]
  generalize (lg_sl ([.ref (ad k0), .int p1, .int p2, .int p3]) ++ List.replicate (4 - (lg_sl ([.ref (ad k0), .int p1, .int p2, .int p3])).length) Slot.unset).toArray = ls at hl ⊢
  have hl : lv_has ls 4 [(0, .ref (ad k0)), (1, .int p1), (2, .int p2), (3, .int p3)] := hl
  unfold f_X2_mark at hf
  refine lv_aload_n hx hb dX2_mark_0 rfl (lv_at hl 0 rfl) ?_
  refine lv_iload_n hx hb dX2_mark_1 rfl (lv_at hl 1 rfl) ?_
  refine lv_iload_n hx hb dX2_mark_2 rfl (lv_at hl 3 rfl) ?_
  refine lv_if_eq (tgt := 16) hx hb dX2_mark_3 (by decide) (fun cc => ?_) (fun cc => ?_)
  · have hf := (if_ok hf).1 cc
    refine lv_aload_n hx hb dX2_mark_16 rfl (lv_at hl 0 rfl) ?_
    refine lv_iload_n hx hb dX2_mark_17 rfl (lv_at hl 1 rfl) ?_
    obtain ⟨g1, hf⟩ := gd_ok hf
    refine q_iald hx hb hK hP zk0 g1 dX2_mark_18 ?_
    refine lv_iconst (v := 1) hx hb dX2_mark_19 (by decide) ?_
    refine lv_iload_n hx hb dX2_mark_20 rfl (lv_at hl 2 rfl) ?_
    refine lv_ishl hx hb dX2_mark_21 ?_
    refine lv_iconst (v := -1) hx hb dX2_mark_22 (by decide) ?_
    refine lv_ixor hx hb dX2_mark_23 ?_
    refine lv_iand hx hb dX2_mark_24 ?_
    exact w_X2_mark_25 C hK hE hN k0 zk0   p1 p2 p3 ((I k0 p1.toNatClampNeg) &&& (((1 : Int32) <<< (p2 &&& (31 : Int32))) ^^^ (-1 : Int32))) p1 I _ _ _ hf (lv_sub hl [0, 1, 2, 3] rfl) hP hS
  · have hf := (if_ok hf).2 cc
    refine lv_aload_n hx hb dX2_mark_6 rfl (lv_at hl 0 rfl) ?_
    refine lv_iload_n hx hb dX2_mark_7 rfl (lv_at hl 1 rfl) ?_
    obtain ⟨g2, hf⟩ := gd_ok hf
    refine q_iald hx hb hK hP zk0 g2 dX2_mark_8 ?_
    refine lv_iconst (v := 1) hx hb dX2_mark_9 (by decide) ?_
    refine lv_iload_n hx hb dX2_mark_10 rfl (lv_at hl 2 rfl) ?_
    refine lv_ishl hx hb dX2_mark_11 ?_
    refine lv_ior hx hb dX2_mark_12 ?_
    refine lv_goto (tgt := 25) hx hb dX2_mark_13 (by decide) ?_
    exact w_X2_mark_25 C hK hE hN k0 zk0   p1 p2 p3 ((I k0 p1.toNatClampNeg) ||| ((1 : Int32) <<< (p2 &&& (31 : Int32)))) p1 I _ _ _ hf (lv_sub hl [0, 1, 2, 3] rfl) hP hS
abbrev r_X2_relate : Room := { frames := 3, cells := 0, slots := 0, locals := 65 }
theorem in_X2_relate_X2 : ∀ w ∈ u_ws RX2 TX2 13, w ∈ wsX2_relate := by decide +kernel
set_option maxHeartbeats 4000000 in
set_option maxRecDepth 100000 in
theorem w_X2_relate_44 (C : qC p s m args meth c cX2_relate 4 RX2 wsX2_relate none) (hK : qK D cy sa s) (hE : qEnv sa va (qA xS ad) s s.heap) (hN : qN xS ad) (b : Nat) (zb : isB b) {J : qJ} {Ie : qI} : ∀ (xs0 : Int32) (xs1 : Int32) (xs2 : Int32)  (I : qI) (ls : Array Slot) (H : Heap) (locs : List Loc), f_X2_relate_44 b xs0 xs1 xs2 I = some Ie → lv_has ls 4 [] → qP D xS ad (eX ad cy) I J H → va_S (qA xS ad) s.heap H locs → W p l e (headSpec wsX2_relate r_X2_relate).room s m args below meth c H locs 0 0 (MQ below (va_Qv (S := Unit) (fun _ => True) (fun _ t => qP D xS ad (eX ad cy) Ie J t.heap) (qA xS ad)) args s 0 0 (qA xS ad)) (F0 m 44 ls [.int xs0, .int xs1, .int xs2, .ref (ad (b + 6))]) := by
  have C0 := C
  obtain ⟨⟨hx, hb, hml, hown, hts⟩, hr, hlocks⟩ := C0
  intro xs0 xs1 xs2 I ls H locs hf hl hP hS
  unfold f_X2_relate_44 at hf
  obtain ⟨I1, h2, hf⟩ := bd_ok hf
  refine q_cEv (va_runS (As := [.ref (ad (b + 6)), .int xs2, .int xs1, .int xs0]) (rest := []) ⟨hx, hb, hml, hown, hts⟩ (c_X2_mark l (D := D) (ad := ad) (cy := cy) (sa := sa) (va := va) (I := I) (J := J) (b + 6) (aX2_6 zb) xs2 xs1 xs0 h2) (va_cwS 4 hts gX2_relate_X2_mark rfl rfl rfl (by decide +kernel) ⟨Nat.le_of_ble_eq_true rfl, Nat.le_of_ble_eq_true rfl⟩) ⟨qPre_blind _, fun U hU hW => ⟨rfl, qPre_of hP hK hE hN hS U hU hW⟩⟩ rfl rfl hl.1 rfl (lv_room (Nat.le_of_ble_eq_true rfl)) dX2_relate_44 ⟨Nat.le_of_ble_eq_true rfl, Nat.le_of_ble_eq_true rfl⟩) hS (fun H locs hP hS => ?_)
  have e9 := Option.some.inj hf
  have eI9 : I1 = Ie := e9
  exact W.vret hx hb hr (fun t ht _ => ⟨⟨(), rfl, trivial, by show qP D _ ad _ _ _ t.heap; rw [ht, ← eI9]; exact hP⟩, hS.F ht⟩) hS.2.2 dX2_relate_47
set_option maxHeartbeats 4000000 in
set_option maxRecDepth 100000 in
theorem w_X2_relate_25 (C : qC p s m args meth c cX2_relate 4 RX2 wsX2_relate none) (hK : qK D cy sa s) (hE : qEnv sa va (qA xS ad) s s.heap) (hN : qN xS ad) (b : Nat) (zb : isB b) {J : qJ} {Ie : qI} : ∀ (x1 : Int32) (x2 : Int32) (x3 : Int32) (xs0 : Int32) (xs1 : Int32) (xs2 : Int32)  (I : qI) (ls : Array Slot) (H : Heap) (locs : List Loc), f_X2_relate_25 b x1 x2 x3 xs0 xs1 xs2 I = some Ie → lv_has ls 4 [(0, .ref (ad b)), (1, .int x1), (2, .int x2), (3, .int x3)] → qP D xS ad (eX ad cy) I J H → va_S (qA xS ad) s.heap H locs → W p l e (headSpec wsX2_relate r_X2_relate).room s m args below meth c H locs 0 0 (MQ below (va_Qv (S := Unit) (fun _ => True) (fun _ t => qP D xS ad (eX ad cy) Ie J t.heap) (qA xS ad)) args s 0 0 (qA xS ad)) (F0 m 25 ls [.int xs0, .int xs1, .int xs2, .ref (ad (b + 5))]) := by
  have C0 := C
  obtain ⟨⟨hx, hb, hml, hown, hts⟩, hr, hlocks⟩ := C0
  intro x1 x2 x3 xs0 xs1 xs2 I ls H locs hf hl hP hS
  unfold f_X2_relate_25 at hf
  obtain ⟨I1, h2, hf⟩ := bd_ok hf
  refine q_cEv (va_runS (As := [.ref (ad (b + 5)), .int xs2, .int xs1, .int xs0]) (rest := []) ⟨hx, hb, hml, hown, hts⟩ (c_X2_mark l (D := D) (ad := ad) (cy := cy) (sa := sa) (va := va) (I := I) (J := J) (b + 5) (aX2_5 zb) xs2 xs1 xs0 h2) (va_cwS 4 hts gX2_relate_X2_mark rfl rfl rfl (by decide +kernel) ⟨Nat.le_of_ble_eq_true rfl, Nat.le_of_ble_eq_true rfl⟩) ⟨qPre_blind _, fun U hU hW => ⟨rfl, qPre_of hP hK hE hN hS U hU hW⟩⟩ rfl rfl hl.1 rfl (lv_room (Nat.le_of_ble_eq_true rfl)) dX2_relate_25 ⟨Nat.le_of_ble_eq_true rfl, Nat.le_of_ble_eq_true rfl⟩) hS (fun H locs hP hS => ?_)
  refine lv_aload_n hx hb dX2_relate_28 rfl (lv_at hl 0 rfl) ?_
  refine q_get (C := RX2) (T := TX2) (N := 13) (ci := 2) (v := .ref (ad (b + 6))) hx hb hts in_X2_relate_X2 hown hK hP (oX2 zb) rfl 5 (by decide) (hts (.fieldLink RX2 27 "RowsOnlyPrimes$Bank" "shuns" "[I") (by decide +kernel)) (fun _ h9 => h9) rfl dX2_relate_29 ?_
  refine lv_iload_n hx hb dX2_relate_32 rfl (lv_at hl 1 rfl) ?_
  refine lv_iload_n hx hb dX2_relate_33 rfl (lv_at hl 2 rfl) ?_
  refine lv_iload_n hx hb dX2_relate_34 rfl (lv_at hl 3 rfl) ?_
  refine lv_iconst (v := 2) hx hb dX2_relate_35 (by decide) ?_
  refine lv_icmp_ne (tgt := 43) hx hb dX2_relate_36 (by decide) (fun cc => ?_) (fun cc => ?_)
  · have hf := (if_ok hf).2 cc
    refine lv_iconst (v := 0) hx hb dX2_relate_43 (by decide) ?_
    exact w_X2_relate_44 C hK hE hN b zb   (0 : Int32) x2 x1 I1 _ _ _ hf (lv_sub hl [] rfl) hP hS
  · have hf := (if_ok hf).1 cc
    refine lv_iconst (v := 1) hx hb dX2_relate_39 (by decide) ?_
    refine lv_goto (tgt := 44) hx hb dX2_relate_40 (by decide) ?_
    exact w_X2_relate_44 C hK hE hN b zb   (1 : Int32) x2 x1 I1 _ _ _ hf (lv_sub hl [] rfl) hP hS
set_option maxHeartbeats 4000000 in
set_option maxRecDepth 100000 in
theorem c_X2_relate (l : Launch) {D : va_G} {ad : Nat → Nat} {cy : Nat → ClassId} {sa va : Nat → Nat} {I : qI} {J : qJ} (b : Nat) (zb : isB b) (p0 : Int32) (p1 : Int32) (p2 : Int32) {Ie : qI} (hf : f_X2_relate b p0 p1 p2 I = some Ie) : Met l yX2_relate wsX2_relate r_X2_relate (va_Pc [.ref (ad b), .int p0, .int p1, .int p2] (qPre D xS ad cy sa va (eX ad cy) I J)) (va_Qv (S := Unit) (fun _ => True) (fun _ t => qP D xS ad (eX ad cy) Ie J t.heap) (qA xS ad)) 0 0 (qA xS ad) := by
  refine Met.ofW (cc := cX2_relate) (maxL := 4) (ret := none) (by decide) rfl ?_
  intro p e s m args below meth c s₁ B hml hv
  obtain ⟨rfl, hP, hK, hE, hN⟩ := hv
  have C : qC p s m _ meth c cX2_relate 4 RX2 wsX2_relate none := ⟨⟨B.exec, B.bytes, hml, findClass_of_methodNamed B.named, atoms_spec (ws := wsX2_relate) B.pre⟩, B.returns, B.notSynchronized⟩
  have C0 := C
  obtain ⟨⟨hx, hb, hml, hown, hts⟩, hr, hlocks⟩ := C0
  have hS : va_S (qA xS ad) s.heap s.heap [] := va_S.rf
  have hl := lv_entry ([.ref (ad b), .int p0, .int p1, .int p2]) (n := 4) (Nat.le_of_ble_eq_true rfl)
  rw [lg_entry_eq]
  generalize (lg_sl ([.ref (ad b), .int p0, .int p1, .int p2]) ++ List.replicate (4 - (lg_sl ([.ref (ad b), .int p0, .int p1, .int p2])).length) Slot.unset).toArray = ls at hl ⊢
  have hl : lv_has ls 4 [(0, .ref (ad b)), (1, .int p0), (2, .int p1), (3, .int p2)] := hl
  unfold f_X2_relate at hf
  refine lv_aload_n hx hb dX2_relate_0 rfl (lv_at hl 0 rfl) ?_
  refine lv_iload_n hx hb dX2_relate_1 rfl (lv_at hl 1 rfl) ?_
  refine lv_iload_n hx hb dX2_relate_2 rfl (lv_at hl 2 rfl) ?_
  obtain ⟨v1, h2, hf⟩ := bd_ok hf
  refine q_cSi (va_runV (As := [.int p0, .int p1]) (rest := []) ⟨hx, hb, hml, hown, hts⟩ (c_X2_hasTwo l (D := D) (ad := ad) (cy := cy) (sa := sa) (va := va) (I := I) (J := J) b zb p0 p1 h2) (cwV 2 hts gX2_relate_X2_hasTwo rfl rfl rfl (by decide +kernel) ⟨Nat.le_of_ble_eq_true rfl, Nat.le_of_ble_eq_true rfl⟩) ⟨qPre_blind _, q_recv hK hP (oX2 zb) rfl, fun U hU hW => ⟨rfl, qPre_of hP hK hE hN hS U hU hW⟩⟩ rfl rfl hl.1 rfl (lv_room (Nat.le_of_ble_eq_true rfl)) dX2_relate_3 ⟨Nat.le_of_ble_eq_true rfl, Nat.le_of_ble_eq_true rfl⟩) ?_
  refine lv_if_eq (tgt := 47) hx hb dX2_relate_6 (by decide) (fun cc => ?_) (fun cc => ?_)
  · have hf := (if_ok hf).1 cc
    have e9 := Option.some.inj hf
    have eI9 : I = Ie := e9
    exact W.vret hx hb hr (fun t ht _ => ⟨⟨(), rfl, trivial, by show qP D _ ad _ _ _ t.heap; rw [ht, ← eI9]; exact hP⟩, hS.F ht⟩) hS.2.2 dX2_relate_47
  · have hf := (if_ok hf).2 cc
    refine lv_aload_n hx hb dX2_relate_9 rfl (lv_at hl 0 rfl) ?_
    refine q_get (C := RX2) (T := TX2) (N := 13) (ci := 2) (v := .ref (ad (b + 5))) hx hb hts in_X2_relate_X2 hown hK hP (oX2 zb) rfl 4 (by decide) (hts (.fieldLink RX2 24 "RowsOnlyPrimes$Bank" "ties" "[I") (by decide +kernel)) (fun _ h9 => h9) rfl dX2_relate_10 ?_
    refine lv_iload_n hx hb dX2_relate_13 rfl (lv_at hl 1 rfl) ?_
    refine lv_iload_n hx hb dX2_relate_14 rfl (lv_at hl 2 rfl) ?_
    refine lv_iload_n hx hb dX2_relate_15 rfl (lv_at hl 3 rfl) ?_
    refine lv_iconst (v := 1) hx hb dX2_relate_16 (by decide) ?_
    refine lv_icmp_ne (tgt := 24) hx hb dX2_relate_17 (by decide) (fun cc => ?_) (fun cc => ?_)
    · have hf := (if_ok hf).2 cc
      refine lv_iconst (v := 0) hx hb dX2_relate_24 (by decide) ?_
      exact w_X2_relate_25 C hK hE hN b zb   p0 p1 p2 (0 : Int32) p1 p0 I _ _ _ hf (lv_sub hl [0, 1, 2, 3] rfl) hP hS
    · have hf := (if_ok hf).1 cc
      refine lv_iconst (v := 1) hx hb dX2_relate_20 (by decide) ?_
      refine lv_goto (tgt := 25) hx hb dX2_relate_21 (by decide) ?_
      exact w_X2_relate_25 C hK hE hN b zb   p0 p1 p2 (1 : Int32) p1 p0 I _ _ _ hf (lv_sub hl [0, 1, 2, 3] rfl) hP hS
abbrev r_X2_knotOf : Room := { frames := 1, cells := 0, slots := 0, locals := 21 }
theorem in_X2_knotOf_X2 : ∀ w ∈ u_ws RX2 TX2 13, w ∈ wsX2_knotOf := by decide +kernel
set_option maxHeartbeats 4000000 in
set_option maxRecDepth 100000 in
theorem w_X2_knotOf_17 (C : qC p s m args meth c cX2_knotOf 5 RX2 wsX2_knotOf (some .int)) (hK : qK D cy sa s) (hE : qEnv sa va (qA xS ad) s s.heap) (hN : qN xS ad) (b : Nat) (zb : isB b) {I : qI} {J : qJ} (hP : qP D xS ad (eX ad cy) I J s.heap) {r : Int32} (k6 : Int32 → Int32 → Option Int32) (hk6 : ∀ (x2 : Int32) (x3 : Int32)  (ls : Array Slot), k6 x2 x3 = some r → lv_has ls 5 [(0, .ref (ad b)), (2, .int x2), (3, .int x3)] → W p l e (headSpec wsX2_knotOf r_X2_knotOf).room s m args below meth c s.heap [] 0 0 (MQ below (vp_Si (fun x => x = r)) args s 0 0 (fun _ => False)) (F0 m 6 ls [])) : ∀ (n : Nat) (x2 : Int32) (x3 : Int32) (x4 : Int32)  (ls : Array Slot), f_X2_knotOf_17 b I k6 n x2 x3 x4 = some r → lv_has ls 5 [(0, .ref (ad b)), (2, .int x2), (3, .int x3), (4, .int x4)] → W p l e (headSpec wsX2_knotOf r_X2_knotOf).room s m args below meth c s.heap [] 0 0 (MQ below (vp_Si (fun x => x = r)) args s 0 0 (fun _ => False)) (F0 m 17 ls []) := by
  have C0 := C
  obtain ⟨⟨hx, hb, hml, hown, hts⟩, hr, hlocks⟩ := C0
  intro n
  induction n with
  | zero =>
    intro x2 x3 x4 ls hf hl
    rw [f_X2_knotOf_17] at hf
    cases hf
  | succ n ih =>
    intro x2 x3 x4 ls hf hl
    rw [f_X2_knotOf_17] at hf
    refine lv_iload hx hb dX2_knotOf_17 (lv_at hl 3 rfl) ?_
    refine lv_aload_n hx hb dX2_knotOf_19 rfl (lv_at hl 0 rfl) ?_
    refine q_get (C := RX2) (T := TX2) (N := 13) (ci := 2) (v := .int (I b 7)) hx hb hts in_X2_knotOf_X2 hown hK hP (oX2 zb) rfl 7 (by decide) (hts (.fieldLink RX2 46 "RowsOnlyPrimes$Bank" "size" "I") (by decide +kernel)) (fun _ h9 => h9) rfl dX2_knotOf_20 ?_
    refine lv_icmp_ge (tgt := 51) hx hb dX2_knotOf_23 (by decide) (fun cc => ?_) (fun cc => ?_)
    · have hf := (if_ok hf).1 cc
      refine lv_iinc (v := (x3 + (1 : Int32))) (lv' := [(3, .int (x3 + (1 : Int32))), (0, .ref (ad b)), (2, .int x2), (4, .int x4)]) hx hb dX2_knotOf_51 hl (k := 2) rfl rfl (by decide) rfl (fun ls hl => ?_)
      refine lv_goto (tgt := 6) hx hb dX2_knotOf_54 (by decide) ?_
      exact hk6 x2 (x3 + (1 : Int32)) _ hf (lv_sub hl [1, 2, 0] rfl)
    · have hf := (if_ok hf).2 cc
      refine lv_iload_n hx hb dX2_knotOf_26 rfl (lv_at hl 1 rfl) ?_
      refine lv_iload hx hb dX2_knotOf_27 (lv_at hl 3 rfl) ?_
      obtain ⟨v1, h2, hf⟩ := bd_ok hf
      refine q_cSi (va_runSN (host := RX8) (As := [.int x2, .int x4]) (rest := []) ⟨hx, hb, hml, hown, hts⟩ (c_X8_has l (D := D) (ad := ad) (cy := cy) (sa := sa) (va := va) (I := I) (J := J) x2 x4 h2) ⟨va_cnB 2 hts gX2_knotOf_X8_has_n77 rfl rfl rfl (hK.2.1.2.1.2.2.1) (hts (.initialized RX8) (by decide +kernel)) (by decide +kernel) ⟨Nat.le_of_ble_eq_true rfl, Nat.le_of_ble_eq_true rfl⟩, (hts (.static yX8_has) (by decide +kernel)), trivial⟩ ⟨qPre_blind _, fun U hU hW => ⟨rfl, qPre_of hP hK hE hN va_S.rf U hU hW⟩⟩ rfl rfl hl.1 rfl (lv_room (Nat.le_of_ble_eq_true rfl)) dX2_knotOf_29 ⟨Nat.le_of_ble_eq_true rfl, Nat.le_of_ble_eq_true rfl⟩) ?_
      refine lv_if_eq (tgt := 45) hx hb dX2_knotOf_32 (by decide) (fun cc => ?_) (fun cc => ?_)
      · have hf := (if_ok hf).1 cc
        refine lv_iinc (v := (x4 + (1 : Int32))) (lv' := [(4, .int (x4 + (1 : Int32))), (0, .ref (ad b)), (2, .int x2), (3, .int x3)]) hx hb dX2_knotOf_45 hl (k := 3) rfl rfl (by decide) rfl (fun ls hl => ?_)
        refine lv_goto (tgt := 17) hx hb dX2_knotOf_48 (by decide) ?_
        exact ih x2 x3 (x4 + (1 : Int32)) _ hf (lv_sub hl [1, 2, 3, 0] rfl)
      · have hf := (if_ok hf).2 cc
        refine lv_iload_n hx hb dX2_knotOf_35 rfl (lv_at hl 1 rfl) ?_
        refine lv_aload_n hx hb dX2_knotOf_36 rfl (lv_at hl 0 rfl) ?_
        refine q_get (C := RX2) (T := TX2) (N := 13) (ci := 2) (v := .ref (ad (b + 5))) hx hb hts in_X2_knotOf_X2 hown hK hP (oX2 zb) rfl 4 (by decide) (hts (.fieldLink RX2 24 "RowsOnlyPrimes$Bank" "ties" "[I") (by decide +kernel)) (fun _ h9 => h9) rfl dX2_knotOf_37 ?_
        refine lv_iload hx hb dX2_knotOf_40 (lv_at hl 3 rfl) ?_
        obtain ⟨g3, hf⟩ := gd_ok hf
        refine q_iald hx hb hK hP (aX2_5 zb) g3 dX2_knotOf_42 ?_
        refine lv_ior hx hb dX2_knotOf_43 ?_
        refine lv_istore_n (lv' := [(2, .int (x2 ||| (I (b + 5) x4.toNatClampNeg))), (0, .ref (ad b)), (3, .int x3), (4, .int x4)]) hx hb dX2_knotOf_44 rfl hl (by decide) rfl (fun ls hl => ?_)
        refine lv_iinc (v := (x4 + (1 : Int32))) (lv' := [(4, .int (x4 + (1 : Int32))), (2, .int (x2 ||| (I (b + 5) x4.toNatClampNeg))), (0, .ref (ad b)), (3, .int x3)]) hx hb dX2_knotOf_45 hl (k := 3) rfl rfl (by decide) rfl (fun ls hl => ?_)
        refine lv_goto (tgt := 17) hx hb dX2_knotOf_48 (by decide) ?_
        exact ih (x2 ||| (I (b + 5) x4.toNatClampNeg)) x3 (x4 + (1 : Int32)) _ hf (lv_sub hl [2, 1, 3, 0] rfl)
set_option maxHeartbeats 4000000 in
set_option maxRecDepth 100000 in
theorem w_X2_knotOf_6 (C : qC p s m args meth c cX2_knotOf 5 RX2 wsX2_knotOf (some .int)) (hK : qK D cy sa s) (hE : qEnv sa va (qA xS ad) s s.heap) (hN : qN xS ad) (b : Nat) (zb : isB b) {I : qI} {J : qJ} (hP : qP D xS ad (eX ad cy) I J s.heap) {r : Int32} : ∀ (n : Nat) (x2 : Int32) (x3 : Int32)  (ls : Array Slot), f_X2_knotOf_6 b I n x2 x3 = some r → lv_has ls 5 [(0, .ref (ad b)), (2, .int x2), (3, .int x3)] → W p l e (headSpec wsX2_knotOf r_X2_knotOf).room s m args below meth c s.heap [] 0 0 (MQ below (vp_Si (fun x => x = r)) args s 0 0 (fun _ => False)) (F0 m 6 ls []) := by
  have C0 := C
  obtain ⟨⟨hx, hb, hml, hown, hts⟩, hr, hlocks⟩ := C0
  intro n
  induction n with
  | zero =>
    intro x2 x3 ls hf hl
    rw [f_X2_knotOf_6] at hf
    cases hf
  | succ n ih =>
    intro x2 x3 ls hf hl
    rw [f_X2_knotOf_6] at hf
    refine lv_iload_n hx hb dX2_knotOf_6 rfl (lv_at hl 2 rfl) ?_
    refine lv_aload_n hx hb dX2_knotOf_7 rfl (lv_at hl 0 rfl) ?_
    refine q_get (C := RX2) (T := TX2) (N := 13) (ci := 2) (v := .int (I b 7)) hx hb hts in_X2_knotOf_X2 hown hK hP (oX2 zb) rfl 7 (by decide) (hts (.fieldLink RX2 46 "RowsOnlyPrimes$Bank" "size" "I") (by decide +kernel)) (fun _ h9 => h9) rfl dX2_knotOf_8 ?_
    refine lv_icmp_ge (tgt := 57) hx hb dX2_knotOf_11 (by decide) (fun cc => ?_) (fun cc => ?_)
    · have hf := (if_ok hf).1 cc
      refine lv_iload_n hx hb dX2_knotOf_57 rfl (lv_at hl 1 rfl) ?_
      exact W.iret hx hb hr (fun t ht _ => ⟨_, rfl, Option.some.inj hf, ht⟩) (fun _ h => by cases h) dX2_knotOf_58
    · have hf := (if_ok hf).2 cc
      refine lv_iconst (v := 0) hx hb dX2_knotOf_14 (by decide) ?_
      refine lv_istore (lv' := [(4, .int (0 : Int32)), (0, .ref (ad b)), (2, .int x2), (3, .int x3)]) hx hb dX2_knotOf_15 hl (by decide) rfl (fun ls hl => ?_)
      exact w_X2_knotOf_17 C hK hE hN b zb hP (f_X2_knotOf_6 b I n) ih 1000 x2 x3 (0 : Int32) _ hf (lv_sub hl [1, 2, 3, 0] rfl)
set_option maxHeartbeats 4000000 in
set_option maxRecDepth 100000 in
theorem c_X2_knotOf (l : Launch) {D : va_G} {ad : Nat → Nat} {cy : Nat → ClassId} {sa va : Nat → Nat} {I : qI} {J : qJ} (b : Nat) (zb : isB b) (p0 : Int32) {r : Int32} (hf : f_X2_knotOf b p0 I = some r) : Met l yX2_knotOf wsX2_knotOf r_X2_knotOf (va_Pc [.ref (ad b), .int p0] (qPre D xS ad cy sa va (eX ad cy) I J)) (vp_Si (fun x => x = r)) 0 0 (fun _ => False) := by
  refine Met.ofW (cc := cX2_knotOf) (maxL := 5) (ret := (some .int)) (by decide) rfl ?_
  intro p e s m args below meth c s₁ B hml hv
  obtain ⟨rfl, hP, hK, hE, hN⟩ := hv
  have C : qC p s m _ meth c cX2_knotOf 5 RX2 wsX2_knotOf (some .int) := ⟨⟨B.exec, B.bytes, hml, findClass_of_methodNamed B.named, atoms_spec (ws := wsX2_knotOf) B.pre⟩, B.returns, B.notSynchronized⟩
  have C0 := C
  obtain ⟨⟨hx, hb, hml, hown, hts⟩, hr, hlocks⟩ := C0
  have hl := lv_entry ([.ref (ad b), .int p0]) (n := 5) (Nat.le_of_ble_eq_true rfl)
  rw [lg_entry_eq]
  generalize (lg_sl ([.ref (ad b), .int p0]) ++ List.replicate (5 - (lg_sl ([.ref (ad b), .int p0])).length) Slot.unset).toArray = ls at hl ⊢
  have hl : lv_has ls 5 [(0, .ref (ad b)), (1, .int p0)] := hl
  unfold f_X2_knotOf at hf
  refine lv_iconst (v := 1) hx hb dX2_knotOf_0 (by decide) ?_
  refine lv_iload_n hx hb dX2_knotOf_1 rfl (lv_at hl 1 rfl) ?_
  refine lv_ishl hx hb dX2_knotOf_2 ?_
  refine lv_istore_n (lv' := [(2, .int ((1 : Int32) <<< (p0 &&& (31 : Int32)))), (0, .ref (ad b)), (1, .int p0)]) hx hb dX2_knotOf_3 rfl hl (by decide) rfl (fun ls hl => ?_)
  refine lv_iconst (v := 1) hx hb dX2_knotOf_4 (by decide) ?_
  refine lv_istore_n (lv' := [(3, .int (1 : Int32)), (2, .int ((1 : Int32) <<< (p0 &&& (31 : Int32)))), (0, .ref (ad b)), (1, .int p0)]) hx hb dX2_knotOf_5 rfl hl (by decide) rfl (fun ls hl => ?_)
  exact w_X2_knotOf_6 C hK hE hN b zb hP  1000 ((1 : Int32) <<< (p0 &&& (31 : Int32))) (1 : Int32) _ hf (lv_sub hl [2, 1, 0] rfl)
abbrev r_X2_leastHermits : Room := { frames := 2, cells := 0, slots := 0, locals := 43 }
set_option maxHeartbeats 4000000 in
set_option maxRecDepth 100000 in
theorem w_X2_leastHermits_2 (C : qC p s m args meth c cX2_leastHermits 4 RX2 wsX2_leastHermits (some .int)) (hK : qK D cy sa s) (hE : qEnv sa va (qA xS ad) s s.heap) (hN : qN xS ad) (b : Nat) (zb : isB b) {I : qI} {J : qJ} (hP : qP D xS ad (eX ad cy) I J s.heap) {r : Int32} : ∀ (n : Nat) (x1 : Int32) (x2 : Int32) (x3 : Int32)  (ls : Array Slot), f_X2_leastHermits_2 b I n x1 x2 x3 = some r → lv_has ls 4 [(0, .ref (ad b)), (1, .int x1), (2, .int x2), (3, .int x3)] → W p l e (headSpec wsX2_leastHermits r_X2_leastHermits).room s m args below meth c s.heap [] 0 0 (MQ below (vp_Si (fun x => x = r)) args s 0 0 (fun _ => False)) (F0 m 2 ls []) := by
  have C0 := C
  obtain ⟨⟨hx, hb, hml, hown, hts⟩, hr, hlocks⟩ := C0
  intro n
  induction n with
  | zero =>
    intro x1 x2 x3 ls hf hl
    rw [f_X2_leastHermits_2] at hf
    cases hf
  | succ n ih =>
    intro x1 x2 x3 ls hf hl
    rw [f_X2_leastHermits_2] at hf
    refine lv_iload_n hx hb dX2_leastHermits_2 rfl (lv_at hl 3 rfl) ?_
    refine lv_iload_n hx hb dX2_leastHermits_3 rfl (lv_at hl 2 rfl) ?_
    refine lv_icmp_gt (tgt := 25) hx hb dX2_leastHermits_4 (by decide) (fun cc => ?_) (fun cc => ?_)
    · have hf := (if_ok hf).1 cc
      refine lv_iconst (v := -1) hx hb dX2_leastHermits_25 (by decide) ?_
      exact W.iret hx hb hr (fun t ht _ => ⟨_, rfl, Option.some.inj hf, ht⟩) (fun _ h => by cases h) dX2_leastHermits_26
    · have hf := (if_ok hf).2 cc
      refine lv_aload_n hx hb dX2_leastHermits_7 rfl (lv_at hl 0 rfl) ?_
      refine lv_iload_n hx hb dX2_leastHermits_8 rfl (lv_at hl 1 rfl) ?_
      refine lv_iload_n hx hb dX2_leastHermits_9 rfl (lv_at hl 3 rfl) ?_
      refine lv_iadd hx hb dX2_leastHermits_10 ?_
      obtain ⟨v1, h2, hf⟩ := bd_ok hf
      refine q_cSi (va_runV (As := [.int (x1 + x3)]) (rest := []) ⟨hx, hb, hml, hown, hts⟩ (c_X2_lets l (D := D) (ad := ad) (cy := cy) (sa := sa) (va := va) (I := I) (J := J) b zb (x1 + x3) h2) (cwV 1 hts gX2_leastHermits_X2_lets rfl rfl rfl (by decide +kernel) ⟨Nat.le_of_ble_eq_true rfl, Nat.le_of_ble_eq_true rfl⟩) ⟨qPre_blind _, q_recv hK hP (oX2 zb) rfl, fun U hU hW => ⟨rfl, qPre_of hP hK hE hN va_S.rf U hU hW⟩⟩ rfl rfl hl.1 rfl (lv_room (Nat.le_of_ble_eq_true rfl)) dX2_leastHermits_11 ⟨Nat.le_of_ble_eq_true rfl, Nat.le_of_ble_eq_true rfl⟩) ?_
      refine lv_if_eq (tgt := 19) hx hb dX2_leastHermits_14 (by decide) (fun cc => ?_) (fun cc => ?_)
      · have hf := (if_ok hf).1 cc
        refine lv_iinc (v := (x3 + (1 : Int32))) (lv' := [(3, .int (x3 + (1 : Int32))), (0, .ref (ad b)), (1, .int x1), (2, .int x2)]) hx hb dX2_leastHermits_19 hl (k := 3) rfl rfl (by decide) rfl (fun ls hl => ?_)
        refine lv_goto (tgt := 2) hx hb dX2_leastHermits_22 (by decide) ?_
        exact ih x1 x2 (x3 + (1 : Int32)) _ hf (lv_sub hl [1, 2, 3, 0] rfl)
      · have hf := (if_ok hf).2 cc
        refine lv_iload_n hx hb dX2_leastHermits_17 rfl (lv_at hl 3 rfl) ?_
        exact W.iret hx hb hr (fun t ht _ => ⟨_, rfl, Option.some.inj hf, ht⟩) (fun _ h => by cases h) dX2_leastHermits_18
set_option maxHeartbeats 4000000 in
set_option maxRecDepth 100000 in
theorem c_X2_leastHermits (l : Launch) {D : va_G} {ad : Nat → Nat} {cy : Nat → ClassId} {sa va : Nat → Nat} {I : qI} {J : qJ} (b : Nat) (zb : isB b) (p0 : Int32) (p1 : Int32) {r : Int32} (hf : f_X2_leastHermits b p0 p1 I = some r) : Met l yX2_leastHermits wsX2_leastHermits r_X2_leastHermits (va_Pc [.ref (ad b), .int p0, .int p1] (qPre D xS ad cy sa va (eX ad cy) I J)) (vp_Si (fun x => x = r)) 0 0 (fun _ => False) := by
  refine Met.ofW (cc := cX2_leastHermits) (maxL := 4) (ret := (some .int)) (by decide) rfl ?_
  intro p e s m args below meth c s₁ B hml hv
  obtain ⟨rfl, hP, hK, hE, hN⟩ := hv
  have C : qC p s m _ meth c cX2_leastHermits 4 RX2 wsX2_leastHermits (some .int) := ⟨⟨B.exec, B.bytes, hml, findClass_of_methodNamed B.named, atoms_spec (ws := wsX2_leastHermits) B.pre⟩, B.returns, B.notSynchronized⟩
  have C0 := C
  obtain ⟨⟨hx, hb, hml, hown, hts⟩, hr, hlocks⟩ := C0
  have hl := lv_entry ([.ref (ad b), .int p0, .int p1]) (n := 4) (Nat.le_of_ble_eq_true rfl)
  rw [lg_entry_eq]
  generalize (lg_sl ([.ref (ad b), .int p0, .int p1]) ++ List.replicate (4 - (lg_sl ([.ref (ad b), .int p0, .int p1])).length) Slot.unset).toArray = ls at hl ⊢
  have hl : lv_has ls 4 [(0, .ref (ad b)), (1, .int p0), (2, .int p1)] := hl
  unfold f_X2_leastHermits at hf
  refine lv_iconst (v := 0) hx hb dX2_leastHermits_0 (by decide) ?_
  refine lv_istore_n (lv' := [(3, .int (0 : Int32)), (0, .ref (ad b)), (1, .int p0), (2, .int p1)]) hx hb dX2_leastHermits_1 rfl hl (by decide) rfl (fun ls hl => ?_)
  exact w_X2_leastHermits_2 C hK hE hN b zb hP  1000 p0 p1 (0 : Int32) _ hf (lv_sub hl [1, 2, 3, 0] rfl)
abbrev r_X2_hireBy : Room := { frames := 3, cells := 0, slots := 0, locals := 69 }
theorem in_X2_hireBy_X2 : ∀ w ∈ u_ws RX2 TX2 13, w ∈ wsX2_hireBy := by decide +kernel
set_option maxHeartbeats 4000000 in
set_option maxRecDepth 100000 in
theorem c_X2_hireBy (l : Launch) {D : va_G} {ad : Nat → Nat} {cy : Nat → ClassId} {sa va : Nat → Nat} {I : qI} {J : qJ} (b : Nat) (zb : isB b) (p0 : Int32) (p1 : Int32) {r : Int32} (hf : f_X2_hireBy b p0 p1 I = some r) : Met l yX2_hireBy wsX2_hireBy r_X2_hireBy (va_Pc [.ref (ad b), .int p0, .int p1] (qPre D xS ad cy sa va (eX ad cy) I J)) (vp_Si (fun x => x = r)) 0 0 (fun _ => False) := by
  refine Met.ofW (cc := cX2_hireBy) (maxL := 3) (ret := (some .int)) (by decide) rfl ?_
  intro p e s m args below meth c s₁ B hml hv
  obtain ⟨rfl, hP, hK, hE, hN⟩ := hv
  have C : qC p s m _ meth c cX2_hireBy 3 RX2 wsX2_hireBy (some .int) := ⟨⟨B.exec, B.bytes, hml, findClass_of_methodNamed B.named, atoms_spec (ws := wsX2_hireBy) B.pre⟩, B.returns, B.notSynchronized⟩
  have C0 := C
  obtain ⟨⟨hx, hb, hml, hown, hts⟩, hr, hlocks⟩ := C0
  have hl := lv_entry ([.ref (ad b), .int p0, .int p1]) (n := 3) (Nat.le_of_ble_eq_true rfl)
  rw [lg_entry_eq]
  generalize (lg_sl ([.ref (ad b), .int p0, .int p1]) ++ List.replicate (3 - (lg_sl ([.ref (ad b), .int p0, .int p1])).length) Slot.unset).toArray = ls at hl ⊢
  have hl : lv_has ls 3 [(0, .ref (ad b)), (1, .int p0), (2, .int p1)] := hl
  unfold f_X2_hireBy at hf
  refine lv_aload_n hx hb dX2_hireBy_0 rfl (lv_at hl 0 rfl) ?_
  refine lv_iload_n hx hb dX2_hireBy_1 rfl (lv_at hl 1 rfl) ?_
  refine lv_iload_n hx hb dX2_hireBy_2 rfl (lv_at hl 2 rfl) ?_
  obtain ⟨v1, h2, hf⟩ := bd_ok hf
  refine q_cSi (va_runV (As := [.int p0, .int p1]) (rest := []) ⟨hx, hb, hml, hown, hts⟩ (c_X2_agrees l (D := D) (ad := ad) (cy := cy) (sa := sa) (va := va) (I := I) (J := J) b zb p0 p1 h2) (cwV 2 hts gX2_hireBy_X2_agrees rfl rfl rfl (by decide +kernel) ⟨Nat.le_of_ble_eq_true rfl, Nat.le_of_ble_eq_true rfl⟩) ⟨qPre_blind _, q_recv hK hP (oX2 zb) rfl, fun U hU hW => ⟨rfl, qPre_of hP hK hE hN va_S.rf U hU hW⟩⟩ rfl rfl hl.1 rfl (lv_room (Nat.le_of_ble_eq_true rfl)) dX2_hireBy_3 ⟨Nat.le_of_ble_eq_true rfl, Nat.le_of_ble_eq_true rfl⟩) ?_
  refine lv_if_eq (tgt := 27) hx hb dX2_hireBy_6 (by decide) (fun cc => ?_) (fun cc => ?_)
  · have hf := (if_ok hf).1 cc
    refine lv_iconst (v := -1) hx hb dX2_hireBy_27 (by decide) ?_
    exact W.iret hx hb hr (fun t ht _ => ⟨_, rfl, Option.some.inj hf, ht⟩) (fun _ h => by cases h) dX2_hireBy_28
  · have hf := (if_ok hf).2 cc
    refine lv_aload_n hx hb dX2_hireBy_9 rfl (lv_at hl 0 rfl) ?_
    refine lv_aload_n hx hb dX2_hireBy_10 rfl (lv_at hl 0 rfl) ?_
    refine lv_iload_n hx hb dX2_hireBy_11 rfl (lv_at hl 1 rfl) ?_
    obtain ⟨v3, h4, hf⟩ := bd_ok hf
    refine q_cSi (va_runV (As := [.int p0]) (rest := [.ref (ad b)]) ⟨hx, hb, hml, hown, hts⟩ (c_X2_headsTogether l (D := D) (ad := ad) (cy := cy) (sa := sa) (va := va) (I := I) (J := J) b zb p0 h4) (cwV 1 hts gX2_hireBy_X2_headsTogether rfl rfl rfl (by decide +kernel) ⟨Nat.le_of_ble_eq_true rfl, Nat.le_of_ble_eq_true rfl⟩) ⟨qPre_blind _, q_recv hK hP (oX2 zb) rfl, fun U hU hW => ⟨rfl, qPre_of hP hK hE hN va_S.rf U hU hW⟩⟩ rfl rfl hl.1 rfl (lv_room (Nat.le_of_ble_eq_true rfl)) dX2_hireBy_12 ⟨Nat.le_of_ble_eq_true rfl, Nat.le_of_ble_eq_true rfl⟩) ?_
    refine lv_aload_n hx hb dX2_hireBy_15 rfl (lv_at hl 0 rfl) ?_
    refine q_get (C := RX2) (T := TX2) (N := 13) (ci := 2) (v := .ref (ad (b + 7))) hx hb hts in_X2_hireBy_X2 hown hK hP (oX2 zb) rfl 6 (by decide) (hts (.fieldLink RX2 30 "RowsOnlyPrimes$Bank" "told" "[I") (by decide +kernel)) (fun _ h9 => h9) rfl dX2_hireBy_16 ?_
    refine lv_iconst (v := 3) hx hb dX2_hireBy_19 (by decide) ?_
    refine q_iald hx hb hK hP (aX2_7 zb) (by decide) dX2_hireBy_20 ?_
    refine q_top (y := (I (b + 7) 3)) rfl ?_
    obtain ⟨v5, h6, hf⟩ := bd_ok hf
    refine q_cSi (va_runV (As := [.int v3, .int (I (b + 7) 3)]) (rest := []) ⟨hx, hb, hml, hown, hts⟩ (c_X2_leastHermits l (D := D) (ad := ad) (cy := cy) (sa := sa) (va := va) (I := I) (J := J) b zb v3 (I (b + 7) 3) h6) (cwV 2 hts gX2_hireBy_X2_leastHermits rfl rfl rfl (by decide +kernel) ⟨Nat.le_of_ble_eq_true rfl, Nat.le_of_ble_eq_true rfl⟩) ⟨qPre_blind _, q_recv hK hP (oX2 zb) rfl, fun U hU hW => ⟨rfl, qPre_of hP hK hE hN va_S.rf U hU hW⟩⟩ rfl rfl hl.1 rfl (lv_room (Nat.le_of_ble_eq_true rfl)) dX2_hireBy_21 ⟨Nat.le_of_ble_eq_true rfl, Nat.le_of_ble_eq_true rfl⟩) ?_
    refine lv_goto (tgt := 28) hx hb dX2_hireBy_24 (by decide) ?_
    exact W.iret hx hb hr (fun t ht _ => ⟨_, rfl, Option.some.inj hf, ht⟩) (fun _ h => by cases h) dX2_hireBy_28
abbrev r_X2_hireNow : Room := { frames := 4, cells := 0, slots := 0, locals := 91 }
theorem in_X2_hireNow_X2 : ∀ w ∈ u_ws RX2 TX2 13, w ∈ wsX2_hireNow := by decide +kernel
set_option maxHeartbeats 4000000 in
set_option maxRecDepth 100000 in
theorem c_X2_hireNow (l : Launch) {D : va_G} {ad : Nat → Nat} {cy : Nat → ClassId} {sa va : Nat → Nat} {I : qI} {J : qJ} (b : Nat) (zb : isB b) (p0 : Int32) {r : Int32} (hf : f_X2_hireNow b p0 I = some r) : Met l yX2_hireNow wsX2_hireNow r_X2_hireNow (va_Pc [.ref (ad b), .int p0] (qPre D xS ad cy sa va (eX ad cy) I J)) (vp_Si (fun x => x = r)) 0 0 (fun _ => False) := by
  refine Met.ofW (cc := cX2_hireNow) (maxL := 2) (ret := (some .int)) (by decide) rfl ?_
  intro p e s m args below meth c s₁ B hml hv
  obtain ⟨rfl, hP, hK, hE, hN⟩ := hv
  have C : qC p s m _ meth c cX2_hireNow 2 RX2 wsX2_hireNow (some .int) := ⟨⟨B.exec, B.bytes, hml, findClass_of_methodNamed B.named, atoms_spec (ws := wsX2_hireNow) B.pre⟩, B.returns, B.notSynchronized⟩
  have C0 := C
  obtain ⟨⟨hx, hb, hml, hown, hts⟩, hr, hlocks⟩ := C0
  have hl := lv_entry ([.ref (ad b), .int p0]) (n := 2) (Nat.le_of_ble_eq_true rfl)
  rw [lg_entry_eq]
  generalize (lg_sl ([.ref (ad b), .int p0]) ++ List.replicate (2 - (lg_sl ([.ref (ad b), .int p0])).length) Slot.unset).toArray = ls at hl ⊢
  have hl : lv_has ls 2 [(0, .ref (ad b)), (1, .int p0)] := hl
  unfold f_X2_hireNow at hf
  refine lv_aload_n hx hb dX2_hireNow_0 rfl (lv_at hl 0 rfl) ?_
  refine lv_iload_n hx hb dX2_hireNow_1 rfl (lv_at hl 1 rfl) ?_
  refine lv_aload_n hx hb dX2_hireNow_2 rfl (lv_at hl 0 rfl) ?_
  refine q_get (C := RX2) (T := TX2) (N := 13) (ci := 2) (v := .int (I b 8)) hx hb hts in_X2_hireNow_X2 hown hK hP (oX2 zb) rfl 8 (by decide) (hts (.fieldLink RX2 49 "RowsOnlyPrimes$Bank" "over" "I") (by decide +kernel)) (fun _ h9 => h9) rfl dX2_hireNow_3 ?_
  obtain ⟨v1, h2, hf⟩ := bd_ok hf
  refine q_cSi (va_runV (As := [.int p0, .int (I b 8)]) (rest := []) ⟨hx, hb, hml, hown, hts⟩ (c_X2_hireBy l (D := D) (ad := ad) (cy := cy) (sa := sa) (va := va) (I := I) (J := J) b zb p0 (I b 8) h2) (cwV 2 hts gX2_hireNow_X2_hireBy rfl rfl rfl (by decide +kernel) ⟨Nat.le_of_ble_eq_true rfl, Nat.le_of_ble_eq_true rfl⟩) ⟨qPre_blind _, q_recv hK hP (oX2 zb) rfl, fun U hU hW => ⟨rfl, qPre_of hP hK hE hN va_S.rf U hU hW⟩⟩ rfl rfl hl.1 rfl (lv_room (Nat.le_of_ble_eq_true rfl)) dX2_hireNow_6 ⟨Nat.le_of_ble_eq_true rfl, Nat.le_of_ble_eq_true rfl⟩) ?_
  exact W.iret hx hb hr (fun t ht _ => ⟨_, rfl, Option.some.inj hf, ht⟩) (fun _ h => by cases h) dX2_hireNow_9
abbrev r_X2_rowOver : Room := { frames := 0, cells := 0, slots := 0, locals := 0 }
theorem in_X2_rowOver_X2 : ∀ w ∈ u_ws RX2 TX2 13, w ∈ wsX2_rowOver := by decide +kernel
set_option maxHeartbeats 4000000 in
set_option maxRecDepth 100000 in
theorem c_X2_rowOver (l : Launch) {D : va_G} {ad : Nat → Nat} {cy : Nat → ClassId} {sa va : Nat → Nat} {I : qI} {J : qJ} (b : Nat) (zb : isB b) (p0 : Int32) (p1 : Int32) {Ie : qI} (hf : f_X2_rowOver b p0 p1 I = some Ie) : Met l yX2_rowOver wsX2_rowOver r_X2_rowOver (va_Pc [.ref (ad b), .int p0, .int p1] (qPre D xS ad cy sa va (eX ad cy) I J)) (va_Qv (S := Unit) (fun _ => True) (fun _ t => qP D xS ad (eX ad cy) Ie J t.heap) (qA xS ad)) 0 0 (qA xS ad) := by
  refine Met.ofW (cc := cX2_rowOver) (maxL := 3) (ret := none) (by decide) rfl ?_
  intro p e s m args below meth c s₁ B hml hv
  obtain ⟨rfl, hP, hK, hE, hN⟩ := hv
  have C : qC p s m _ meth c cX2_rowOver 3 RX2 wsX2_rowOver none := ⟨⟨B.exec, B.bytes, hml, findClass_of_methodNamed B.named, atoms_spec (ws := wsX2_rowOver) B.pre⟩, B.returns, B.notSynchronized⟩
  have C0 := C
  obtain ⟨⟨hx, hb, hml, hown, hts⟩, hr, hlocks⟩ := C0
  have hS : va_S (qA xS ad) s.heap s.heap [] := va_S.rf
  have hl := lv_entry ([.ref (ad b), .int p0, .int p1]) (n := 3) (Nat.le_of_ble_eq_true rfl)
  rw [lg_entry_eq]
  generalize (lg_sl ([.ref (ad b), .int p0, .int p1]) ++ List.replicate (3 - (lg_sl ([.ref (ad b), .int p0, .int p1])).length) Slot.unset).toArray = ls at hl ⊢
  have hl : lv_has ls 3 [(0, .ref (ad b)), (1, .int p0), (2, .int p1)] := hl
  unfold f_X2_rowOver at hf
  refine lv_aload_n hx hb dX2_rowOver_0 rfl (lv_at hl 0 rfl) ?_
  refine lv_dup hx hb dX2_rowOver_1 rfl ?_
  refine q_get (C := RX2) (T := TX2) (N := 13) (ci := 2) (v := .int (I b 8)) hx hb hts in_X2_rowOver_X2 hown hK hP (oX2 zb) rfl 8 (by decide) (hts (.fieldLink RX2 49 "RowsOnlyPrimes$Bank" "over" "I") (by decide +kernel)) (fun _ h9 => h9) rfl dX2_rowOver_2 ?_
  refine lv_iload_n hx hb dX2_rowOver_5 rfl (lv_at hl 1 rfl) ?_
  refine lv_ior hx hb dX2_rowOver_6 ?_
  obtain ⟨I1, eI1, hf⟩ := lt_ok hf
  refine q_put (C := RX2) (T := TX2) (N := 13) (ci := 2) (v := .int ((I b 8) ||| p0)) (x := ((I b 8) ||| p0)) (ty := .int) hx hb hts in_X2_rowOver_X2 tyX2 tyX2_ok nmX2 hown hK hP hN hS (oX2 zb) rfl 8 (by decide) (hts (.fieldLink RX2 49 "RowsOnlyPrimes$Bank" "over" "I") (by decide +kernel)) (fun _ h9 => h9) rfl (by decide +kernel) rfl rfl (fun _ _ => rfl) (fun _ _ => Nat.le_of_ble_eq_true rfl) dX2_rowOver_7 (fun H locs hP hS => ?_)
  rw [← eI1] at hP
  refine lv_aload_n hx hb dX2_rowOver_10 rfl (lv_at hl 0 rfl) ?_
  refine lv_dup hx hb dX2_rowOver_11 rfl ?_
  refine q_get (C := RX2) (T := TX2) (N := 13) (ci := 2) (v := .int (I1 b 11)) hx hb hts in_X2_rowOver_X2 hown hK hP (oX2 zb) rfl 11 (by decide) (hts (.fieldLink RX2 58 "RowsOnlyPrimes$Bank" "crossings" "I") (by decide +kernel)) (fun _ h9 => h9) rfl dX2_rowOver_12 ?_
  refine lv_iconst (v := 1) hx hb dX2_rowOver_15 (by decide) ?_
  refine lv_iadd hx hb dX2_rowOver_16 ?_
  obtain ⟨I2, eI2, hf⟩ := lt_ok hf
  refine q_put (C := RX2) (T := TX2) (N := 13) (ci := 2) (v := .int ((I1 b 11) + (1 : Int32))) (x := ((I1 b 11) + (1 : Int32))) (ty := .int) hx hb hts in_X2_rowOver_X2 tyX2 tyX2_ok nmX2 hown hK hP hN hS (oX2 zb) rfl 11 (by decide) (hts (.fieldLink RX2 58 "RowsOnlyPrimes$Bank" "crossings" "I") (by decide +kernel)) (fun _ h9 => h9) rfl (by decide +kernel) rfl rfl (fun _ _ => rfl) (fun _ _ => Nat.le_of_ble_eq_true rfl) dX2_rowOver_17 (fun H locs hP hS => ?_)
  rw [← eI2] at hP
  refine lv_aload_n hx hb dX2_rowOver_20 rfl (lv_at hl 0 rfl) ?_
  refine lv_dup hx hb dX2_rowOver_21 rfl ?_
  refine q_get (C := RX2) (T := TX2) (N := 13) (ci := 2) (v := .int (I2 b 10)) hx hb hts in_X2_rowOver_X2 hown hK hP (oX2 zb) rfl 10 (by decide) (hts (.fieldLink RX2 55 "RowsOnlyPrimes$Bank" "paid" "I") (by decide +kernel)) (fun _ h9 => h9) rfl dX2_rowOver_22 ?_
  refine lv_iload_n hx hb dX2_rowOver_25 rfl (lv_at hl 2 rfl) ?_
  refine lv_aload_n hx hb dX2_rowOver_26 rfl (lv_at hl 0 rfl) ?_
  refine q_get (C := RX2) (T := TX2) (N := 13) (ci := 2) (v := .ref (ad (b + 7))) hx hb hts in_X2_rowOver_X2 hown hK hP (oX2 zb) rfl 6 (by decide) (hts (.fieldLink RX2 30 "RowsOnlyPrimes$Bank" "told" "[I") (by decide +kernel)) (fun _ h9 => h9) rfl dX2_rowOver_27 ?_
  refine lv_iconst (v := 4) hx hb dX2_rowOver_30 (by decide) ?_
  refine q_iald hx hb hK hP (aX2_7 zb) (by decide) dX2_rowOver_31 ?_
  refine q_top (y := (I2 (b + 7) 4)) rfl ?_
  refine lv_imul hx hb dX2_rowOver_32 ?_
  refine lv_iadd hx hb dX2_rowOver_33 ?_
  obtain ⟨I3, eI3, hf⟩ := lt_ok hf
  refine q_put (C := RX2) (T := TX2) (N := 13) (ci := 2) (v := .int ((I2 b 10) + (p1 * (I2 (b + 7) 4)))) (x := ((I2 b 10) + (p1 * (I2 (b + 7) 4)))) (ty := .int) hx hb hts in_X2_rowOver_X2 tyX2 tyX2_ok nmX2 hown hK hP hN hS (oX2 zb) rfl 10 (by decide) (hts (.fieldLink RX2 55 "RowsOnlyPrimes$Bank" "paid" "I") (by decide +kernel)) (fun _ h9 => h9) rfl (by decide +kernel) rfl rfl (fun _ _ => rfl) (fun _ _ => Nat.le_of_ble_eq_true rfl) dX2_rowOver_34 (fun H locs hP hS => ?_)
  rw [← eI3] at hP
  refine lv_aload_n hx hb dX2_rowOver_37 rfl (lv_at hl 0 rfl) ?_
  refine lv_dup hx hb dX2_rowOver_38 rfl ?_
  refine q_get (C := RX2) (T := TX2) (N := 13) (ci := 2) (v := .int (I3 b 9)) hx hb hts in_X2_rowOver_X2 hown hK hP (oX2 zb) rfl 9 (by decide) (hts (.fieldLink RX2 52 "RowsOnlyPrimes$Bank" "minutes" "I") (by decide +kernel)) (fun _ h9 => h9) rfl dX2_rowOver_39 ?_
  refine lv_bipush (v := 20) hx hb dX2_rowOver_42 (by decide) ?_
  refine lv_iadd hx hb dX2_rowOver_44 ?_
  obtain ⟨I4, eI4, hf⟩ := lt_ok hf
  refine q_put (C := RX2) (T := TX2) (N := 13) (ci := 2) (v := .int ((I3 b 9) + (20 : Int32))) (x := ((I3 b 9) + (20 : Int32))) (ty := .int) hx hb hts in_X2_rowOver_X2 tyX2 tyX2_ok nmX2 hown hK hP hN hS (oX2 zb) rfl 9 (by decide) (hts (.fieldLink RX2 52 "RowsOnlyPrimes$Bank" "minutes" "I") (by decide +kernel)) (fun _ h9 => h9) rfl (by decide +kernel) rfl rfl (fun _ _ => rfl) (fun _ _ => Nat.le_of_ble_eq_true rfl) dX2_rowOver_45 (fun H locs hP hS => ?_)
  rw [← eI4] at hP
  have e9 := Option.some.inj hf
  have eI9 : I4 = Ie := e9
  exact W.vret hx hb hr (fun t ht _ => ⟨⟨(), rfl, trivial, by show qP D _ ad _ _ _ t.heap; rw [ht, ← eI9]; exact hP⟩, hS.F ht⟩) hS.2.2 dX2_rowOver_48
abbrev r_X2_rowBack : Room := { frames := 0, cells := 0, slots := 0, locals := 0 }
theorem in_X2_rowBack_X2 : ∀ w ∈ u_ws RX2 TX2 13, w ∈ wsX2_rowBack := by decide +kernel
set_option maxHeartbeats 4000000 in
set_option maxRecDepth 100000 in
theorem c_X2_rowBack (l : Launch) {D : va_G} {ad : Nat → Nat} {cy : Nat → ClassId} {sa va : Nat → Nat} {I : qI} {J : qJ} (b : Nat) (zb : isB b) (p0 : Int32) {Ie : qI} (hf : f_X2_rowBack b p0 I = some Ie) : Met l yX2_rowBack wsX2_rowBack r_X2_rowBack (va_Pc [.ref (ad b), .int p0] (qPre D xS ad cy sa va (eX ad cy) I J)) (va_Qv (S := Unit) (fun _ => True) (fun _ t => qP D xS ad (eX ad cy) Ie J t.heap) (qA xS ad)) 0 0 (qA xS ad) := by
  refine Met.ofW (cc := cX2_rowBack) (maxL := 2) (ret := none) (by decide) rfl ?_
  intro p e s m args below meth c s₁ B hml hv
  obtain ⟨rfl, hP, hK, hE, hN⟩ := hv
  have C : qC p s m _ meth c cX2_rowBack 2 RX2 wsX2_rowBack none := ⟨⟨B.exec, B.bytes, hml, findClass_of_methodNamed B.named, atoms_spec (ws := wsX2_rowBack) B.pre⟩, B.returns, B.notSynchronized⟩
  have C0 := C
  obtain ⟨⟨hx, hb, hml, hown, hts⟩, hr, hlocks⟩ := C0
  have hS : va_S (qA xS ad) s.heap s.heap [] := va_S.rf
  have hl := lv_entry ([.ref (ad b), .int p0]) (n := 2) (Nat.le_of_ble_eq_true rfl)
  rw [lg_entry_eq]
  generalize (lg_sl ([.ref (ad b), .int p0]) ++ List.replicate (2 - (lg_sl ([.ref (ad b), .int p0])).length) Slot.unset).toArray = ls at hl ⊢
  have hl : lv_has ls 2 [(0, .ref (ad b)), (1, .int p0)] := hl
  unfold f_X2_rowBack at hf
  refine lv_aload_n hx hb dX2_rowBack_0 rfl (lv_at hl 0 rfl) ?_
  refine lv_dup hx hb dX2_rowBack_1 rfl ?_
  refine q_get (C := RX2) (T := TX2) (N := 13) (ci := 2) (v := .int (I b 8)) hx hb hts in_X2_rowBack_X2 hown hK hP (oX2 zb) rfl 8 (by decide) (hts (.fieldLink RX2 49 "RowsOnlyPrimes$Bank" "over" "I") (by decide +kernel)) (fun _ h9 => h9) rfl dX2_rowBack_2 ?_
  refine lv_iconst (v := 1) hx hb dX2_rowBack_5 (by decide) ?_
  refine lv_iload_n hx hb dX2_rowBack_6 rfl (lv_at hl 1 rfl) ?_
  refine lv_ishl hx hb dX2_rowBack_7 ?_
  refine lv_iconst (v := -1) hx hb dX2_rowBack_8 (by decide) ?_
  refine lv_ixor hx hb dX2_rowBack_9 ?_
  refine lv_iand hx hb dX2_rowBack_10 ?_
  obtain ⟨I1, eI1, hf⟩ := lt_ok hf
  refine q_put (C := RX2) (T := TX2) (N := 13) (ci := 2) (v := .int ((I b 8) &&& (((1 : Int32) <<< (p0 &&& (31 : Int32))) ^^^ (-1 : Int32)))) (x := ((I b 8) &&& (((1 : Int32) <<< (p0 &&& (31 : Int32))) ^^^ (-1 : Int32)))) (ty := .int) hx hb hts in_X2_rowBack_X2 tyX2 tyX2_ok nmX2 hown hK hP hN hS (oX2 zb) rfl 8 (by decide) (hts (.fieldLink RX2 49 "RowsOnlyPrimes$Bank" "over" "I") (by decide +kernel)) (fun _ h9 => h9) rfl (by decide +kernel) rfl rfl (fun _ _ => rfl) (fun _ _ => Nat.le_of_ble_eq_true rfl) dX2_rowBack_11 (fun H locs hP hS => ?_)
  rw [← eI1] at hP
  refine lv_aload_n hx hb dX2_rowBack_14 rfl (lv_at hl 0 rfl) ?_
  refine lv_dup hx hb dX2_rowBack_15 rfl ?_
  refine q_get (C := RX2) (T := TX2) (N := 13) (ci := 2) (v := .int (I1 b 9)) hx hb hts in_X2_rowBack_X2 hown hK hP (oX2 zb) rfl 9 (by decide) (hts (.fieldLink RX2 52 "RowsOnlyPrimes$Bank" "minutes" "I") (by decide +kernel)) (fun _ h9 => h9) rfl dX2_rowBack_16 ?_
  refine lv_bipush (v := 20) hx hb dX2_rowBack_19 (by decide) ?_
  refine lv_iadd hx hb dX2_rowBack_21 ?_
  obtain ⟨I2, eI2, hf⟩ := lt_ok hf
  refine q_put (C := RX2) (T := TX2) (N := 13) (ci := 2) (v := .int ((I1 b 9) + (20 : Int32))) (x := ((I1 b 9) + (20 : Int32))) (ty := .int) hx hb hts in_X2_rowBack_X2 tyX2 tyX2_ok nmX2 hown hK hP hN hS (oX2 zb) rfl 9 (by decide) (hts (.fieldLink RX2 52 "RowsOnlyPrimes$Bank" "minutes" "I") (by decide +kernel)) (fun _ h9 => h9) rfl (by decide +kernel) rfl rfl (fun _ _ => rfl) (fun _ _ => Nat.le_of_ble_eq_true rfl) dX2_rowBack_22 (fun H locs hP hS => ?_)
  rw [← eI2] at hP
  have e9 := Option.some.inj hf
  have eI9 : I2 = Ie := e9
  exact W.vret hx hb hr (fun t ht _ => ⟨⟨(), rfl, trivial, by show qP D _ ad _ _ _ t.heap; rw [ht, ← eI9]; exact hP⟩, hS.F ht⟩) hS.2.2 dX2_rowBack_25
abbrev r_X2_draw : Room := { frames := 0, cells := 0, slots := 0, locals := 0 }
theorem in_X2_draw_X2 : ∀ w ∈ u_ws RX2 TX2 13, w ∈ wsX2_draw := by decide +kernel
set_option maxHeartbeats 4000000 in
set_option maxRecDepth 100000 in
theorem c_X2_draw (l : Launch) {D : va_G} {ad : Nat → Nat} {cy : Nat → ClassId} {sa va : Nat → Nat} {I : qI} {J : qJ} (b : Nat) (zb : isB b) (p0 : Int32) {r : Int32} {Ie : qI} (hf : f_X2_draw b p0 I = some (r, Ie)) : Met l yX2_draw wsX2_draw r_X2_draw (va_Pc [.ref (ad b), .int p0] (qPre D xS ad cy sa va (eX ad cy) I J)) (va_Qi (S := Unit) (fun x _ => x = r) (fun _ t => qP D xS ad (eX ad cy) Ie J t.heap) (qA xS ad)) 0 0 (qA xS ad) := by
  refine Met.ofW (cc := cX2_draw) (maxL := 2) (ret := (some .int)) (by decide) rfl ?_
  intro p e s m args below meth c s₁ B hml hv
  obtain ⟨rfl, hP, hK, hE, hN⟩ := hv
  have C : qC p s m _ meth c cX2_draw 2 RX2 wsX2_draw (some .int) := ⟨⟨B.exec, B.bytes, hml, findClass_of_methodNamed B.named, atoms_spec (ws := wsX2_draw) B.pre⟩, B.returns, B.notSynchronized⟩
  have C0 := C
  obtain ⟨⟨hx, hb, hml, hown, hts⟩, hr, hlocks⟩ := C0
  have hS : va_S (qA xS ad) s.heap s.heap [] := va_S.rf
  have hl := lv_entry ([.ref (ad b), .int p0]) (n := 2) (Nat.le_of_ble_eq_true rfl)
  rw [lg_entry_eq]
  generalize (lg_sl ([.ref (ad b), .int p0]) ++ List.replicate (2 - (lg_sl ([.ref (ad b), .int p0])).length) Slot.unset).toArray = ls at hl ⊢
  have hl : lv_has ls 2 [(0, .ref (ad b)), (1, .int p0)] := hl
  unfold f_X2_draw at hf
  refine lv_aload_n hx hb dX2_draw_0 rfl (lv_at hl 0 rfl) ?_
  refine lv_aload_n hx hb dX2_draw_1 rfl (lv_at hl 0 rfl) ?_
  refine q_get (C := RX2) (T := TX2) (N := 13) (ci := 2) (v := .int (I b 12)) hx hb hts in_X2_draw_X2 hown hK hP (oX2 zb) rfl 12 (by decide) (hts (.fieldLink RX2 33 "RowsOnlyPrimes$Bank" "chance" "I") (by decide +kernel)) (fun _ h9 => h9) rfl dX2_draw_2 ?_
  refine lv_ldc (own := RX2) (v := 1103515245) hx hb hown (hts (.constant RX2 117 (1103515245)) (by decide +kernel)) dX2_draw_5 ?_
  refine lv_imul hx hb dX2_draw_7 ?_
  refine lv_sipush (v := 12345) hx hb dX2_draw_8 (by decide) ?_
  refine lv_iadd hx hb dX2_draw_11 ?_
  obtain ⟨I1, eI1, hf⟩ := lt_ok hf
  refine q_put (C := RX2) (T := TX2) (N := 13) (ci := 2) (v := .int (((I b 12) * (1103515245 : Int32)) + (12345 : Int32))) (x := (((I b 12) * (1103515245 : Int32)) + (12345 : Int32))) (ty := .int) hx hb hts in_X2_draw_X2 tyX2 tyX2_ok nmX2 hown hK hP hN hS (oX2 zb) rfl 12 (by decide) (hts (.fieldLink RX2 33 "RowsOnlyPrimes$Bank" "chance" "I") (by decide +kernel)) (fun _ h9 => h9) rfl (by decide +kernel) rfl rfl (fun _ _ => rfl) (fun _ _ => Nat.le_of_ble_eq_true rfl) dX2_draw_12 (fun H locs hP hS => ?_)
  rw [← eI1] at hP
  refine lv_iload_n hx hb dX2_draw_15 rfl (lv_at hl 1 rfl) ?_
  refine lv_if_le (tgt := 31) hx hb dX2_draw_16 (by decide) (fun cc => ?_) (fun cc => ?_)
  · have hf := (if_ok hf).1 cc
    refine lv_iconst (v := 0) hx hb dX2_draw_31 (by decide) ?_
    have e9 := Option.some.inj hf
    have eI9 : I1 = Ie := (congrArg Prod.snd e9)
    exact W.iret hx hb hr (fun t ht _ => ⟨⟨_, (), rfl, (congrArg Prod.fst e9), by show qP D _ ad _ _ _ t.heap; rw [ht, ← eI9]; exact hP⟩, hS.F ht⟩) hS.2.2 dX2_draw_32
  · have hf := (if_ok hf).2 cc
    refine lv_aload_n hx hb dX2_draw_19 rfl (lv_at hl 0 rfl) ?_
    refine q_get (C := RX2) (T := TX2) (N := 13) (ci := 2) (v := .int (I1 b 12)) hx hb hts in_X2_draw_X2 hown hK hP (oX2 zb) rfl 12 (by decide) (hts (.fieldLink RX2 33 "RowsOnlyPrimes$Bank" "chance" "I") (by decide +kernel)) (fun _ h9 => h9) rfl dX2_draw_20 ?_
    refine lv_bipush (v := 16) hx hb dX2_draw_23 (by decide) ?_
    refine lv_iushr hx hb dX2_draw_25 rfl ?_
    refine lv_iload_n hx hb dX2_draw_26 rfl (lv_at hl 1 rfl) ?_
    obtain ⟨g2, hf⟩ := gd_ok hf
    refine lv_irem hx hb dX2_draw_27 g2 ?_
    refine lv_goto (tgt := 32) hx hb dX2_draw_28 (by decide) ?_
    have e9 := Option.some.inj hf
    have eI9 : I1 = Ie := (congrArg Prod.snd e9)
    exact W.iret hx hb hr (fun t ht _ => ⟨⟨_, (), rfl, (congrArg Prod.fst e9), by show qP D _ ad _ _ _ t.heap; rw [ht, ← eI9]; exact hP⟩, hS.F ht⟩) hS.2.2 dX2_draw_32
abbrev r_X2_passDay : Room := { frames := 5, cells := 0, slots := 0, locals := 112 }
theorem in_X2_passDay_X2 : ∀ w ∈ u_ws RX2 TX2 13, w ∈ wsX2_passDay := by decide +kernel
set_option maxHeartbeats 4000000 in
set_option maxRecDepth 100000 in
theorem w_X2_passDay_83 (C : qC p s m args meth c cX2_passDay 4 RX2 wsX2_passDay (some .boolean)) (hK : qK D cy sa s) (hE : qEnv sa va (qA xS ad) s s.heap) (hN : qN xS ad) (b : Nat) (zb : isB b) {J : qJ} {r : Int32} {Ie : qI} : ∀ (x2 : Int32)  (I : qI) (ls : Array Slot) (H : Heap) (locs : List Loc), f_X2_passDay_83 b x2 I = some (r, Ie) → lv_has ls 4 [(0, .ref (ad b)), (2, .int x2)] → qP D xS ad (eX ad cy) I J H → va_S (qA xS ad) s.heap H locs → W p l e (headSpec wsX2_passDay r_X2_passDay).room s m args below meth c H locs 0 0 (MQ below (va_Qi (S := Unit) (fun x _ => x = r) (fun _ t => qP D xS ad (eX ad cy) Ie J t.heap) (qA xS ad)) args s 0 0 (qA xS ad)) (F0 m 83 ls []) := by
  have C0 := C
  obtain ⟨⟨hx, hb, hml, hown, hts⟩, hr, hlocks⟩ := C0
  intro x2 I ls H locs hf hl hP hS
  unfold f_X2_passDay_83 at hf
  refine lv_aload_n hx hb dX2_passDay_83 rfl (lv_at hl 0 rfl) ?_
  refine lv_dup hx hb dX2_passDay_84 rfl ?_
  refine q_get (C := RX2) (T := TX2) (N := 13) (ci := 2) (v := .int (I b 9)) hx hb hts in_X2_passDay_X2 hown hK hP (oX2 zb) rfl 9 (by decide) (hts (.fieldLink RX2 52 "RowsOnlyPrimes$Bank" "minutes" "I") (by decide +kernel)) (fun _ h9 => h9) rfl dX2_passDay_85 ?_
  refine lv_bipush (v := 60) hx hb dX2_passDay_88 (by decide) ?_
  refine lv_iadd hx hb dX2_passDay_90 ?_
  obtain ⟨I1, eI1, hf⟩ := lt_ok hf
  refine q_put (C := RX2) (T := TX2) (N := 13) (ci := 2) (v := .int ((I b 9) + (60 : Int32))) (x := ((I b 9) + (60 : Int32))) (ty := .int) hx hb hts in_X2_passDay_X2 tyX2 tyX2_ok nmX2 hown hK hP hN hS (oX2 zb) rfl 9 (by decide) (hts (.fieldLink RX2 52 "RowsOnlyPrimes$Bank" "minutes" "I") (by decide +kernel)) (fun _ h9 => h9) rfl (by decide +kernel) rfl rfl (fun _ _ => rfl) (fun _ _ => Nat.le_of_ble_eq_true rfl) dX2_passDay_91 (fun H locs hP hS => ?_)
  rw [← eI1] at hP
  refine lv_iload_n hx hb dX2_passDay_94 rfl (lv_at hl 1 rfl) ?_
  refine lv_iconst (v := -1) hx hb dX2_passDay_95 (by decide) ?_
  refine lv_icmp_eq (tgt := 103) hx hb dX2_passDay_96 (by decide) (fun cc => ?_) (fun cc => ?_)
  · have hf := (if_ok hf).1 cc
    refine lv_iconst (v := 0) hx hb dX2_passDay_103 (by decide) ?_
    have e9 := Option.some.inj hf
    have eI9 : I1 = Ie := (congrArg Prod.snd e9)
    exact W.zret (ty := .boolean) hx hb hr rfl (fun t ht _ => ⟨⟨_, (), rfl, (congrArg Prod.fst e9), by show qP D _ ad _ _ _ t.heap; rw [ht, ← eI9]; exact hP⟩, hS.F ht⟩) hS.2.2 dX2_passDay_104
  · have hf := (if_ok hf).2 cc
    refine lv_iconst (v := 1) hx hb dX2_passDay_99 (by decide) ?_
    refine lv_goto (tgt := 104) hx hb dX2_passDay_100 (by decide) ?_
    have e9 := Option.some.inj hf
    have eI9 : I1 = Ie := (congrArg Prod.snd e9)
    exact W.zret (ty := .boolean) hx hb hr rfl (fun t ht _ => ⟨⟨_, (), rfl, (congrArg Prod.fst e9), by show qP D _ ad _ _ _ t.heap; rw [ht, ← eI9]; exact hP⟩, hS.F ht⟩) hS.2.2 dX2_passDay_104
set_option maxHeartbeats 4000000 in
set_option maxRecDepth 100000 in
theorem w_X2_passDay_4 (C : qC p s m args meth c cX2_passDay 4 RX2 wsX2_passDay (some .boolean)) (hK : qK D cy sa s) (hE : qEnv sa va (qA xS ad) s s.heap) (hN : qN xS ad) (b : Nat) (zb : isB b) {J : qJ} {r : Int32} {Ie : qI} : ∀ (n : Nat) (x1 : Int32) (x2 : Int32)  (I : qI) (ls : Array Slot) (H : Heap) (locs : List Loc), f_X2_passDay_4 b n x1 x2 I = some (r, Ie) → lv_has ls 4 [(0, .ref (ad b)), (1, .int x1), (2, .int x2)] → qP D xS ad (eX ad cy) I J H → va_S (qA xS ad) s.heap H locs → W p l e (headSpec wsX2_passDay r_X2_passDay).room s m args below meth c H locs 0 0 (MQ below (va_Qi (S := Unit) (fun x _ => x = r) (fun _ t => qP D xS ad (eX ad cy) Ie J t.heap) (qA xS ad)) args s 0 0 (qA xS ad)) (F0 m 4 ls []) := by
  have C0 := C
  obtain ⟨⟨hx, hb, hml, hown, hts⟩, hr, hlocks⟩ := C0
  intro n
  induction n with
  | zero =>
    intro x1 x2 I ls H locs hf hl hP hS
    rw [f_X2_passDay_4] at hf
    cases hf
  | succ n ih =>
    intro x1 x2 I ls H locs hf hl hP hS
    rw [f_X2_passDay_4] at hf
    refine lv_iload_n hx hb dX2_passDay_4 rfl (lv_at hl 2 rfl) ?_
    refine lv_aload_n hx hb dX2_passDay_5 rfl (lv_at hl 0 rfl) ?_
    refine q_get (C := RX2) (T := TX2) (N := 13) (ci := 2) (v := .int (I b 7)) hx hb hts in_X2_passDay_X2 hown hK hP (oX2 zb) rfl 7 (by decide) (hts (.fieldLink RX2 46 "RowsOnlyPrimes$Bank" "size" "I") (by decide +kernel)) (fun _ h9 => h9) rfl dX2_passDay_6 ?_
    refine lv_icmp_ge (tgt := 41) hx hb dX2_passDay_9 (by decide) (fun cc => ?_) (fun cc => ?_)
    · have hf := (if_ok hf).1 cc
      refine lv_aload_n hx hb dX2_passDay_41 rfl (lv_at hl 0 rfl) ?_
      refine lv_iload_n hx hb dX2_passDay_42 rfl (lv_at hl 1 rfl) ?_
      obtain ⟨v1, h2, hf⟩ := bd_ok hf
      refine q_cSi (va_runV (As := [.int x1]) (rest := []) ⟨hx, hb, hml, hown, hts⟩ (c_X2_hireNow l (D := D) (ad := ad) (cy := cy) (sa := sa) (va := va) (I := I) (J := J) b zb x1 h2) (cwV 1 hts gX2_passDay_X2_hireNow rfl rfl rfl (by decide +kernel) ⟨Nat.le_of_ble_eq_true rfl, Nat.le_of_ble_eq_true rfl⟩) ⟨qPre_blind _, q_recv hK hP (oX2 zb) rfl, fun U hU hW => ⟨rfl, qPre_of hP hK hE hN hS U hU hW⟩⟩ rfl rfl hl.1 rfl (lv_room (Nat.le_of_ble_eq_true rfl)) dX2_passDay_43 ⟨Nat.le_of_ble_eq_true rfl, Nat.le_of_ble_eq_true rfl⟩) ?_
      refine lv_istore_n (lv' := [(2, .int v1), (0, .ref (ad b)), (1, .int x1)]) hx hb dX2_passDay_46 rfl hl (by decide) rfl (fun ls hl => ?_)
      refine lv_iload_n hx hb dX2_passDay_47 rfl (lv_at hl 0 rfl) ?_
      refine lv_iconst (v := -1) hx hb dX2_passDay_48 (by decide) ?_
      refine lv_icmp_eq (tgt := 61) hx hb dX2_passDay_49 (by decide) (fun cc => ?_) (fun cc => ?_)
      · have hf := (if_ok hf).1 cc
        refine lv_aload_n hx hb dX2_passDay_61 rfl (lv_at hl 1 rfl) ?_
        refine lv_aload_n hx hb dX2_passDay_62 rfl (lv_at hl 1 rfl) ?_
        refine q_get (C := RX2) (T := TX2) (N := 13) (ci := 2) (v := .int (I b 7)) hx hb hts in_X2_passDay_X2 hown hK hP (oX2 zb) rfl 7 (by decide) (hts (.fieldLink RX2 46 "RowsOnlyPrimes$Bank" "size" "I") (by decide +kernel)) (fun _ h9 => h9) rfl dX2_passDay_63 ?_
        obtain ⟨v3, I4, h5, hf⟩ := bd2_ok hf
        refine q_cEi (va_runV (As := [.int (I b 7)]) (rest := []) ⟨hx, hb, hml, hown, hts⟩ (c_X2_draw l (D := D) (ad := ad) (cy := cy) (sa := sa) (va := va) (I := I) (J := J) b zb (I b 7) h5) (cwV 1 hts gX2_passDay_X2_draw rfl rfl rfl (by decide +kernel) ⟨Nat.le_of_ble_eq_true rfl, Nat.le_of_ble_eq_true rfl⟩) ⟨qPre_blind _, q_recv hK hP (oX2 zb) rfl, fun U hU hW => ⟨rfl, qPre_of hP hK hE hN hS U hU hW⟩⟩ rfl rfl hl.1 rfl (lv_room (Nat.le_of_ble_eq_true rfl)) dX2_passDay_66 ⟨Nat.le_of_ble_eq_true rfl, Nat.le_of_ble_eq_true rfl⟩) hS (fun H locs hP hS => ?_)
        refine lv_istore_n (lv' := [(3, .int v3), (2, .int v1), (0, .ref (ad b)), (1, .int x1)]) hx hb dX2_passDay_69 rfl hl (by decide) rfl (fun ls hl => ?_)
        refine lv_aload_n hx hb dX2_passDay_70 rfl (lv_at hl 2 rfl) ?_
        refine lv_iload_n hx hb dX2_passDay_71 rfl (lv_at hl 0 rfl) ?_
        obtain ⟨v6, h7, hf⟩ := bd_ok hf
        refine q_cSi (va_runV (As := [.int v3]) (rest := []) ⟨hx, hb, hml, hown, hts⟩ (c_X2_isOver l (D := D) (ad := ad) (cy := cy) (sa := sa) (va := va) (I := I4) (J := J) b zb v3 h7) (cwV 1 hts gX2_passDay_X2_isOver rfl rfl rfl (by decide +kernel) ⟨Nat.le_of_ble_eq_true rfl, Nat.le_of_ble_eq_true rfl⟩) ⟨qPre_blind _, q_recv hK hP (oX2 zb) rfl, fun U hU hW => ⟨rfl, qPre_of hP hK hE hN hS U hU hW⟩⟩ rfl rfl hl.1 rfl (lv_room (Nat.le_of_ble_eq_true rfl)) dX2_passDay_72 ⟨Nat.le_of_ble_eq_true rfl, Nat.le_of_ble_eq_true rfl⟩) ?_
        refine lv_if_eq (tgt := 83) hx hb dX2_passDay_75 (by decide) (fun cc => ?_) (fun cc => ?_)
        · have hf := (if_ok hf).1 cc
          exact w_X2_passDay_83 C hK hE hN b zb   v1 I4 _ _ _ hf (lv_sub hl [2, 1] rfl) hP hS
        · have hf := (if_ok hf).2 cc
          refine lv_aload_n hx hb dX2_passDay_78 rfl (lv_at hl 2 rfl) ?_
          refine lv_iload_n hx hb dX2_passDay_79 rfl (lv_at hl 0 rfl) ?_
          obtain ⟨I8, h9, hf⟩ := bd_ok hf
          refine q_cEv (va_runV (As := [.int v3]) (rest := []) ⟨hx, hb, hml, hown, hts⟩ (c_X2_rowBack l (D := D) (ad := ad) (cy := cy) (sa := sa) (va := va) (I := I4) (J := J) b zb v3 h9) (cwV 1 hts gX2_passDay_X2_rowBack rfl rfl rfl (by decide +kernel) ⟨Nat.le_of_ble_eq_true rfl, Nat.le_of_ble_eq_true rfl⟩) ⟨qPre_blind _, q_recv hK hP (oX2 zb) rfl, fun U hU hW => ⟨rfl, qPre_of hP hK hE hN hS U hU hW⟩⟩ rfl rfl hl.1 rfl (lv_room (Nat.le_of_ble_eq_true rfl)) dX2_passDay_80 ⟨Nat.le_of_ble_eq_true rfl, Nat.le_of_ble_eq_true rfl⟩) hS (fun H locs hP hS => ?_)
          exact w_X2_passDay_83 C hK hE hN b zb   v1 I8 _ _ _ hf (lv_sub hl [2, 1] rfl) hP hS
      · have hf := (if_ok hf).2 cc
        refine lv_aload_n hx hb dX2_passDay_52 rfl (lv_at hl 1 rfl) ?_
        refine lv_iload_n hx hb dX2_passDay_53 rfl (lv_at hl 2 rfl) ?_
        refine lv_iload_n hx hb dX2_passDay_54 rfl (lv_at hl 0 rfl) ?_
        obtain ⟨I10, h11, hf⟩ := bd_ok hf
        refine q_cEv (va_runV (As := [.int x1, .int v1]) (rest := []) ⟨hx, hb, hml, hown, hts⟩ (c_X2_rowOver l (D := D) (ad := ad) (cy := cy) (sa := sa) (va := va) (I := I) (J := J) b zb x1 v1 h11) (cwV 2 hts gX2_passDay_X2_rowOver rfl rfl rfl (by decide +kernel) ⟨Nat.le_of_ble_eq_true rfl, Nat.le_of_ble_eq_true rfl⟩) ⟨qPre_blind _, q_recv hK hP (oX2 zb) rfl, fun U hU hW => ⟨rfl, qPre_of hP hK hE hN hS U hU hW⟩⟩ rfl rfl hl.1 rfl (lv_room (Nat.le_of_ble_eq_true rfl)) dX2_passDay_55 ⟨Nat.le_of_ble_eq_true rfl, Nat.le_of_ble_eq_true rfl⟩) hS (fun H locs hP hS => ?_)
        refine lv_goto (tgt := 83) hx hb dX2_passDay_58 (by decide) ?_
        exact w_X2_passDay_83 C hK hE hN b zb   v1 I10 _ _ _ hf (lv_sub hl [1, 0] rfl) hP hS
    · have hf := (if_ok hf).2 cc
      refine lv_aload_n hx hb dX2_passDay_12 rfl (lv_at hl 0 rfl) ?_
      refine lv_iload_n hx hb dX2_passDay_13 rfl (lv_at hl 2 rfl) ?_
      obtain ⟨v12, h13, hf⟩ := bd_ok hf
      refine q_cSi (va_runV (As := [.int x2]) (rest := []) ⟨hx, hb, hml, hown, hts⟩ (c_X2_isOver l (D := D) (ad := ad) (cy := cy) (sa := sa) (va := va) (I := I) (J := J) b zb x2 h13) (cwV 1 hts gX2_passDay_X2_isOver rfl rfl rfl (by decide +kernel) ⟨Nat.le_of_ble_eq_true rfl, Nat.le_of_ble_eq_true rfl⟩) ⟨qPre_blind _, q_recv hK hP (oX2 zb) rfl, fun U hU hW => ⟨rfl, qPre_of hP hK hE hN hS U hU hW⟩⟩ rfl rfl hl.1 rfl (lv_room (Nat.le_of_ble_eq_true rfl)) dX2_passDay_14 ⟨Nat.le_of_ble_eq_true rfl, Nat.le_of_ble_eq_true rfl⟩) ?_
      refine lv_if_ne (tgt := 35) hx hb dX2_passDay_17 (by decide) (fun cc => ?_) (fun cc => ?_)
      · have hf := (if_ok hf).2 cc
        refine lv_iinc (v := (x2 + (1 : Int32))) (lv' := [(2, .int (x2 + (1 : Int32))), (0, .ref (ad b)), (1, .int x1)]) hx hb dX2_passDay_35 hl (k := 2) rfl rfl (by decide) rfl (fun ls hl => ?_)
        refine lv_goto (tgt := 4) hx hb dX2_passDay_38 (by decide) ?_
        exact ih x1 (x2 + (1 : Int32)) I _ _ _ hf (lv_sub hl [1, 2, 0] rfl) hP hS
      · have hf := (if_ok hf).1 cc
        refine lv_aload_n hx hb dX2_passDay_20 rfl (lv_at hl 0 rfl) ?_
        refine lv_iconst (v := 2) hx hb dX2_passDay_21 (by decide) ?_
        obtain ⟨v14, I15, h16, hf⟩ := bd2_ok hf
        refine q_cEi (va_runV (As := [.int (2 : Int32)]) (rest := []) ⟨hx, hb, hml, hown, hts⟩ (c_X2_draw l (D := D) (ad := ad) (cy := cy) (sa := sa) (va := va) (I := I) (J := J) b zb (2 : Int32) h16) (cwV 1 hts gX2_passDay_X2_draw rfl rfl rfl (by decide +kernel) ⟨Nat.le_of_ble_eq_true rfl, Nat.le_of_ble_eq_true rfl⟩) ⟨qPre_blind _, q_recv hK hP (oX2 zb) rfl, fun U hU hW => ⟨rfl, qPre_of hP hK hE hN hS U hU hW⟩⟩ rfl rfl hl.1 rfl (lv_room (Nat.le_of_ble_eq_true rfl)) dX2_passDay_22 ⟨Nat.le_of_ble_eq_true rfl, Nat.le_of_ble_eq_true rfl⟩) hS (fun H locs hP hS => ?_)
        refine lv_iconst (v := 1) hx hb dX2_passDay_25 (by decide) ?_
        refine lv_icmp_ne (tgt := 35) hx hb dX2_passDay_26 (by decide) (fun cc => ?_) (fun cc => ?_)
        · have hf := (if_ok hf).2 cc
          refine lv_iinc (v := (x2 + (1 : Int32))) (lv' := [(2, .int (x2 + (1 : Int32))), (0, .ref (ad b)), (1, .int x1)]) hx hb dX2_passDay_35 hl (k := 2) rfl rfl (by decide) rfl (fun ls hl => ?_)
          refine lv_goto (tgt := 4) hx hb dX2_passDay_38 (by decide) ?_
          exact ih x1 (x2 + (1 : Int32)) I15 _ _ _ hf (lv_sub hl [1, 2, 0] rfl) hP hS
        · have hf := (if_ok hf).1 cc
          refine lv_iload_n hx hb dX2_passDay_29 rfl (lv_at hl 1 rfl) ?_
          refine lv_iconst (v := 1) hx hb dX2_passDay_30 (by decide) ?_
          refine lv_iload_n hx hb dX2_passDay_31 rfl (lv_at hl 2 rfl) ?_
          refine lv_ishl hx hb dX2_passDay_32 ?_
          refine lv_ior hx hb dX2_passDay_33 ?_
          obtain ⟨v17, ev17, hf⟩ := lt_ok hf
          refine q_top ev17 ?_
          refine lv_istore_n (lv' := [(1, .int v17), (0, .ref (ad b)), (2, .int x2)]) hx hb dX2_passDay_34 rfl hl (by decide) rfl (fun ls hl => ?_)
          refine lv_iinc (v := (x2 + (1 : Int32))) (lv' := [(2, .int (x2 + (1 : Int32))), (1, .int v17), (0, .ref (ad b))]) hx hb dX2_passDay_35 hl (k := 2) rfl rfl (by decide) rfl (fun ls hl => ?_)
          refine lv_goto (tgt := 4) hx hb dX2_passDay_38 (by decide) ?_
          exact ih v17 (x2 + (1 : Int32)) I15 _ _ _ hf (lv_sub hl [2, 1, 0] rfl) hP hS
set_option maxHeartbeats 4000000 in
set_option maxRecDepth 100000 in
theorem c_X2_passDay (l : Launch) {D : va_G} {ad : Nat → Nat} {cy : Nat → ClassId} {sa va : Nat → Nat} {I : qI} {J : qJ} (b : Nat) (zb : isB b)  {r : Int32} {Ie : qI} (hf : f_X2_passDay b I = some (r, Ie)) : Met l yX2_passDay wsX2_passDay r_X2_passDay (va_Pc [.ref (ad b)] (qPre D xS ad cy sa va (eX ad cy) I J)) (va_Qi (S := Unit) (fun x _ => x = r) (fun _ t => qP D xS ad (eX ad cy) Ie J t.heap) (qA xS ad)) 0 0 (qA xS ad) := by
  refine Met.ofW (cc := cX2_passDay) (maxL := 4) (ret := (some .boolean)) (by decide) rfl ?_
  intro p e s m args below meth c s₁ B hml hv
  obtain ⟨rfl, hP, hK, hE, hN⟩ := hv
  have C : qC p s m _ meth c cX2_passDay 4 RX2 wsX2_passDay (some .boolean) := ⟨⟨B.exec, B.bytes, hml, findClass_of_methodNamed B.named, atoms_spec (ws := wsX2_passDay) B.pre⟩, B.returns, B.notSynchronized⟩
  have C0 := C
  obtain ⟨⟨hx, hb, hml, hown, hts⟩, hr, hlocks⟩ := C0
  have hS : va_S (qA xS ad) s.heap s.heap [] := va_S.rf
  have hl := lv_entry ([.ref (ad b)]) (n := 4) (Nat.le_of_ble_eq_true rfl)
  rw [lg_entry_eq]
  generalize (lg_sl ([.ref (ad b)]) ++ List.replicate (4 - (lg_sl ([.ref (ad b)])).length) Slot.unset).toArray = ls at hl ⊢
  have hl : lv_has ls 4 [(0, .ref (ad b))] := hl
  unfold f_X2_passDay at hf
  refine lv_iconst (v := 0) hx hb dX2_passDay_0 (by decide) ?_
  refine lv_istore_n (lv' := [(1, .int (0 : Int32)), (0, .ref (ad b))]) hx hb dX2_passDay_1 rfl hl (by decide) rfl (fun ls hl => ?_)
  refine lv_iconst (v := 0) hx hb dX2_passDay_2 (by decide) ?_
  refine lv_istore_n (lv' := [(2, .int (0 : Int32)), (1, .int (0 : Int32)), (0, .ref (ad b))]) hx hb dX2_passDay_3 rfl hl (by decide) rfl (fun ls hl => ?_)
  exact w_X2_passDay_4 C hK hE hN b zb  1000 (0 : Int32) (0 : Int32) I _ _ _ hf (lv_sub hl [2, 1, 0] rfl) hP hS
abbrev r_X3_follow : Room := { frames := 4, cells := 0, slots := 0, locals := 91 }
theorem in_X3_follow_X2 : ∀ w ∈ u_ws RX2 TX2 13, w ∈ wsX3_follow := by decide +kernel
theorem in_X3_follow_X3 : ∀ w ∈ u_ws RX3 TX3 3, w ∈ wsX3_follow := by decide +kernel
set_option maxHeartbeats 4000000 in
set_option maxRecDepth 100000 in
theorem w_X3_follow_80 (C : qC p s m args meth c cX3_follow 9 RX3 wsX3_follow none) (hK : qK D cy sa s) (hE : qEnv sa va (qA xS ad) s s.heap) (hN : qN xS ad) (c0 : Nat) (c1 : Nat) (zc0 : isB c0) (zc1 : isSh c1) {Ie : qI} (k21 : Int32 → Int32 → qI → qJ → Option qI) (hk21 : ∀ (x3 : Int32) (x4 : Int32)  (I : qI) (J : qJ) (ls : Array Slot) (H : Heap) (locs : List Loc), k21 x3 x4 I J = some Ie → lv_has ls 9 [(0, .ref (ad 57)), (1, .ref (ad c0)), (2, .ref (ad c1)), (3, .int x3), (4, .int x4)] → qP D xS ad (eX ad cy) I J H → va_S (qA xS ad) s.heap H locs → W p l e (headSpec wsX3_follow r_X3_follow).room s m args below meth c H locs 0 0 (MQ below (va_Qv (S := Unit) (fun _ => True) (fun _ t => qP D xS ad (eX ad cy) Ie J t.heap) (qA xS ad)) args s 0 0 (qA xS ad)) (F0 m 21 ls [])) : ∀ (x3 : Int32) (x4 : Int32) (x5 : Int64) (xs0 : Int32)  (I : qI) (J : qJ) (ls : Array Slot) (H : Heap) (locs : List Loc), f_X3_follow_80 c0 c1 k21 x3 x4 x5 xs0 I J = some Ie → lv_has ls 9 [(0, .ref (ad 57)), (1, .ref (ad c0)), (2, .ref (ad c1)), (3, .int x3), (4, .int x4), (5, .long x5)] → qP D xS ad (eX ad cy) I J H → va_S (qA xS ad) s.heap H locs → W p l e (headSpec wsX3_follow r_X3_follow).room s m args below meth c H locs 0 0 (MQ below (va_Qv (S := Unit) (fun _ => True) (fun _ t => qP D xS ad (eX ad cy) Ie J t.heap) (qA xS ad)) args s 0 0 (qA xS ad)) (F0 m 80 ls [.int xs0]) := by
  have C0 := C
  obtain ⟨⟨hx, hb, hml, hown, hts⟩, hr, hlocks⟩ := C0
  intro x3 x4 x5 xs0 I J ls H locs hf hl hP hS
  unfold f_X3_follow_80 at hf
  refine lv_istore (lv' := [(8, .int xs0), (0, .ref (ad 57)), (1, .ref (ad c0)), (2, .ref (ad c1)), (3, .int x3), (4, .int x4), (5, .long x5)]) hx hb dX3_follow_80 hl (by decide) rfl (fun ls hl => ?_)
  refine lv_iload hx hb dX3_follow_82 (lv_at hl 0 rfl) ?_
  refine lv_iconst (v := -1) hx hb dX3_follow_84 (by decide) ?_
  refine lv_icmp_ne (tgt := 95) hx hb dX3_follow_85 (by decide) (fun cc => ?_) (fun cc => ?_)
  · have hf := (if_ok hf).2 cc
    refine lv_aload_n hx hb dX3_follow_95 rfl (lv_at hl 1 rfl) ?_
    refine lv_dup hx hb dX3_follow_96 rfl ?_
    refine q_get (C := RX3) (T := TX3) (N := 3) (ci := 3) (v := .int (I 57 1)) hx hb hts in_X3_follow_X3 hown hK hP oX3 rfl 1 (by decide) (hts (.fieldLink RX3 20 "RowsOnlyPrimes$Day" "over" "I") (by decide +kernel)) (fun _ h9 => h9) rfl dX3_follow_97 ?_
    refine lv_lload hx hb dX3_follow_100 (lv_at hl 6 rfl) ?_
    refine lv_l2i hx hb dX3_follow_102 rfl ?_
    refine lv_ior hx hb dX3_follow_103 ?_
    obtain ⟨I1, eI1, hf⟩ := lt_ok hf
    refine q_put (C := RX3) (T := TX3) (N := 3) (ci := 3) (v := .int ((I 57 1) ||| x5.toInt32)) (x := ((I 57 1) ||| x5.toInt32)) (ty := .int) hx hb hts in_X3_follow_X3 tyX3 tyX3_ok nmX3 hown hK hP hN hS oX3 rfl 1 (by decide) (hts (.fieldLink RX3 20 "RowsOnlyPrimes$Day" "over" "I") (by decide +kernel)) (fun _ h9 => h9) rfl (by decide +kernel) rfl rfl (fun _ _ => rfl) (fun _ _ => Nat.le_of_ble_eq_true rfl) dX3_follow_104 (fun H locs hP hS => ?_)
    rw [← eI1] at hP
    refine lv_aload_n hx hb dX3_follow_107 rfl (lv_at hl 1 rfl) ?_
    refine lv_dup hx hb dX3_follow_108 rfl ?_
    refine q_get (C := RX3) (T := TX3) (N := 3) (ci := 3) (v := .int (I1 57 2)) hx hb hts in_X3_follow_X3 hown hK hP oX3 rfl 2 (by decide) (hts (.fieldLink RX3 21 "RowsOnlyPrimes$Day" "hired" "I") (by decide +kernel)) (fun _ h9 => h9) rfl dX3_follow_109 ?_
    refine lv_iload hx hb dX3_follow_112 (lv_at hl 0 rfl) ?_
    refine lv_iadd hx hb dX3_follow_114 ?_
    obtain ⟨I2, eI2, hf⟩ := lt_ok hf
    refine q_put (C := RX3) (T := TX3) (N := 3) (ci := 3) (v := .int ((I1 57 2) + xs0)) (x := ((I1 57 2) + xs0)) (ty := .int) hx hb hts in_X3_follow_X3 tyX3 tyX3_ok nmX3 hown hK hP hN hS oX3 rfl 2 (by decide) (hts (.fieldLink RX3 21 "RowsOnlyPrimes$Day" "hired" "I") (by decide +kernel)) (fun _ h9 => h9) rfl (by decide +kernel) rfl rfl (fun _ _ => rfl) (fun _ _ => Nat.le_of_ble_eq_true rfl) dX3_follow_115 (fun H locs hP hS => ?_)
    rw [← eI2] at hP
    refine lv_iinc (v := (x4 + (1 : Int32))) (lv' := [(4, .int (x4 + (1 : Int32))), (8, .int xs0), (0, .ref (ad 57)), (1, .ref (ad c0)), (2, .ref (ad c1)), (3, .int x3), (5, .long x5)]) hx hb dX3_follow_118 hl (k := 5) rfl rfl (by decide) rfl (fun ls hl => ?_)
    refine lv_goto (tgt := 21) hx hb dX3_follow_121 (by decide) ?_
    exact hk21 x3 (x4 + (1 : Int32)) I2 J _ _ _ hf (lv_sub hl [2, 3, 4, 5, 0] rfl) hP hS
  · have hf := (if_ok hf).1 cc
    refine lv_aload_n hx hb dX3_follow_88 rfl (lv_at hl 1 rfl) ?_
    refine lv_iload hx hb dX3_follow_89 (lv_at hl 5 rfl) ?_
    obtain ⟨I3, eI3, hf⟩ := lt_ok hf
    refine q_put (C := RX3) (T := TX3) (N := 3) (ci := 3) (v := .int x4) (x := x4) (ty := .int) hx hb hts in_X3_follow_X3 tyX3 tyX3_ok nmX3 hown hK hP hN hS oX3 rfl 0 (by decide) (hts (.fieldLink RX3 9 "RowsOnlyPrimes$Day" "wrong" "I") (by decide +kernel)) (fun _ h9 => h9) rfl (by decide +kernel) rfl rfl (fun _ _ => rfl) (fun _ _ => Nat.le_of_ble_eq_true rfl) dX3_follow_91 (fun H locs hP hS => ?_)
    rw [← eI3] at hP
    have e9 := Option.some.inj hf
    have eI9 : I3 = Ie := e9
    exact W.vret hx hb hr (fun t ht _ => ⟨⟨(), rfl, trivial, by show qP D _ ad _ _ _ t.heap; rw [ht, ← eI9]; exact hP⟩, hS.F ht⟩) hS.2.2 dX3_follow_94
set_option maxHeartbeats 4000000 in
set_option maxRecDepth 100000 in
theorem w_X3_follow_58 (C : qC p s m args meth c cX3_follow 9 RX3 wsX3_follow none) (hK : qK D cy sa s) (hE : qEnv sa va (qA xS ad) s s.heap) (hN : qN xS ad) (c0 : Nat) (c1 : Nat) (zc0 : isB c0) (zc1 : isSh c1) {Ie : qI} (k21 : Int32 → Int32 → qI → qJ → Option qI) (hk21 : ∀ (x3 : Int32) (x4 : Int32)  (I : qI) (J : qJ) (ls : Array Slot) (H : Heap) (locs : List Loc), k21 x3 x4 I J = some Ie → lv_has ls 9 [(0, .ref (ad 57)), (1, .ref (ad c0)), (2, .ref (ad c1)), (3, .int x3), (4, .int x4)] → qP D xS ad (eX ad cy) I J H → va_S (qA xS ad) s.heap H locs → W p l e (headSpec wsX3_follow r_X3_follow).room s m args below meth c H locs 0 0 (MQ below (va_Qv (S := Unit) (fun _ => True) (fun _ t => qP D xS ad (eX ad cy) Ie J t.heap) (qA xS ad)) args s 0 0 (qA xS ad)) (F0 m 21 ls [])) : ∀ (x3 : Int32) (x4 : Int32) (x5 : Int64) (xs0 : Int32)  (I : qI) (J : qJ) (ls : Array Slot) (H : Heap) (locs : List Loc), f_X3_follow_58 c0 c1 k21 x3 x4 x5 xs0 I J = some Ie → lv_has ls 9 [(0, .ref (ad 57)), (1, .ref (ad c0)), (2, .ref (ad c1)), (3, .int x3), (4, .int x4), (5, .long x5)] → qP D xS ad (eX ad cy) I J H → va_S (qA xS ad) s.heap H locs → W p l e (headSpec wsX3_follow r_X3_follow).room s m args below meth c H locs 0 0 (MQ below (va_Qv (S := Unit) (fun _ => True) (fun _ t => qP D xS ad (eX ad cy) Ie J t.heap) (qA xS ad)) args s 0 0 (qA xS ad)) (F0 m 58 ls [.int xs0]) := by
  have C0 := C
  obtain ⟨⟨hx, hb, hml, hown, hts⟩, hr, hlocks⟩ := C0
  intro x3 x4 x5 xs0 I J ls H locs hf hl hP hS
  unfold f_X3_follow_58 at hf
  refine lv_istore (lv' := [(7, .int xs0), (0, .ref (ad 57)), (1, .ref (ad c0)), (2, .ref (ad c1)), (3, .int x3), (4, .int x4), (5, .long x5)]) hx hb dX3_follow_58 hl (by decide) rfl (fun ls hl => ?_)
  refine lv_iload hx hb dX3_follow_60 (lv_at hl 0 rfl) ?_
  refine lv_if_eq (tgt := 79) hx hb dX3_follow_62 (by decide) (fun cc => ?_) (fun cc => ?_)
  · have hf := (if_ok hf).1 cc
    refine lv_iconst (v := -1) hx hb dX3_follow_79 (by decide) ?_
    exact w_X3_follow_80 C hK hE hN c0 c1 zc0 zc1 k21 hk21  x3 x4 x5 (-1 : Int32) I J _ _ _ hf (lv_sub hl [1, 2, 3, 4, 5, 6] rfl) hP hS
  · have hf := (if_ok hf).2 cc
    refine lv_aload_n hx hb dX3_follow_65 rfl (lv_at hl 2 rfl) ?_
    refine lv_lload hx hb dX3_follow_66 (lv_at hl 6 rfl) ?_
    refine lv_l2i hx hb dX3_follow_68 rfl ?_
    refine lv_aload_n hx hb dX3_follow_69 rfl (lv_at hl 1 rfl) ?_
    refine q_get (C := RX3) (T := TX3) (N := 3) (ci := 3) (v := .int (I 57 1)) hx hb hts in_X3_follow_X3 hown hK hP oX3 rfl 1 (by decide) (hts (.fieldLink RX3 20 "RowsOnlyPrimes$Day" "over" "I") (by decide +kernel)) (fun _ h9 => h9) rfl dX3_follow_70 ?_
    obtain ⟨v1, h2, hf⟩ := bd_ok hf
    refine q_cSi (va_runV (As := [.int x5.toInt32, .int (I 57 1)]) (rest := []) ⟨hx, hb, hml, hown, hts⟩ (c_X2_hireBy l (D := D) (ad := ad) (cy := cy) (sa := sa) (va := va) (I := I) (J := J) c0 zc0 x5.toInt32 (I 57 1) h2) (cwV 2 hts gX3_follow_X2_hireBy rfl rfl rfl (by decide +kernel) ⟨Nat.le_of_ble_eq_true rfl, Nat.le_of_ble_eq_true rfl⟩) ⟨qPre_blind _, q_recv hK hP (oX2 zc0) rfl, fun U hU hW => ⟨rfl, qPre_of hP hK hE hN hS U hU hW⟩⟩ rfl rfl hl.1 rfl (lv_room (Nat.le_of_ble_eq_true rfl)) dX3_follow_73 ⟨Nat.le_of_ble_eq_true rfl, Nat.le_of_ble_eq_true rfl⟩) ?_
    refine lv_goto (tgt := 80) hx hb dX3_follow_76 (by decide) ?_
    exact w_X3_follow_80 C hK hE hN c0 c1 zc0 zc1 k21 hk21  x3 x4 x5 v1 I J _ _ _ hf (lv_sub hl [1, 2, 3, 4, 5, 6] rfl) hP hS
set_option maxHeartbeats 4000000 in
set_option maxRecDepth 100000 in
theorem w_X3_follow_57 (C : qC p s m args meth c cX3_follow 9 RX3 wsX3_follow none) (hK : qK D cy sa s) (hE : qEnv sa va (qA xS ad) s s.heap) (hN : qN xS ad) (c0 : Nat) (c1 : Nat) (zc0 : isB c0) (zc1 : isSh c1) {Ie : qI} (k21 : Int32 → Int32 → qI → qJ → Option qI) (hk21 : ∀ (x3 : Int32) (x4 : Int32)  (I : qI) (J : qJ) (ls : Array Slot) (H : Heap) (locs : List Loc), k21 x3 x4 I J = some Ie → lv_has ls 9 [(0, .ref (ad 57)), (1, .ref (ad c0)), (2, .ref (ad c1)), (3, .int x3), (4, .int x4)] → qP D xS ad (eX ad cy) I J H → va_S (qA xS ad) s.heap H locs → W p l e (headSpec wsX3_follow r_X3_follow).room s m args below meth c H locs 0 0 (MQ below (va_Qv (S := Unit) (fun _ => True) (fun _ t => qP D xS ad (eX ad cy) Ie J t.heap) (qA xS ad)) args s 0 0 (qA xS ad)) (F0 m 21 ls [])) : ∀ (x3 : Int32) (x4 : Int32) (x5 : Int64)  (I : qI) (J : qJ) (ls : Array Slot) (H : Heap) (locs : List Loc), f_X3_follow_57 c0 c1 k21 x3 x4 x5 I J = some Ie → lv_has ls 9 [(0, .ref (ad 57)), (1, .ref (ad c0)), (2, .ref (ad c1)), (3, .int x3), (4, .int x4), (5, .long x5)] → qP D xS ad (eX ad cy) I J H → va_S (qA xS ad) s.heap H locs → W p l e (headSpec wsX3_follow r_X3_follow).room s m args below meth c H locs 0 0 (MQ below (va_Qv (S := Unit) (fun _ => True) (fun _ t => qP D xS ad (eX ad cy) Ie J t.heap) (qA xS ad)) args s 0 0 (qA xS ad)) (F0 m 57 ls []) := by
  have C0 := C
  obtain ⟨⟨hx, hb, hml, hown, hts⟩, hr, hlocks⟩ := C0
  intro x3 x4 x5 I J ls H locs hf hl hP hS
  unfold f_X3_follow_57 at hf
  refine lv_iconst (v := 0) hx hb dX3_follow_57 (by decide) ?_
  exact w_X3_follow_58 C hK hE hN c0 c1 zc0 zc1 k21 hk21  x3 x4 x5 (0 : Int32) I J _ _ _ hf (lv_sub hl [0, 1, 2, 3, 4, 5] rfl) hP hS
set_option maxHeartbeats 4000000 in
set_option maxRecDepth 100000 in
theorem w_X3_follow_21 (C : qC p s m args meth c cX3_follow 9 RX3 wsX3_follow none) (hK : qK D cy sa s) (hE : qEnv sa va (qA xS ad) s s.heap) (hN : qN xS ad) (c0 : Nat) (c1 : Nat) (zc0 : isB c0) (zc1 : isSh c1) {Ie : qI} : ∀ (n : Nat) (x3 : Int32) (x4 : Int32)  (I : qI) (J : qJ) (ls : Array Slot) (H : Heap) (locs : List Loc), f_X3_follow_21 c0 c1 n x3 x4 I J = some Ie → lv_has ls 9 [(0, .ref (ad 57)), (1, .ref (ad c0)), (2, .ref (ad c1)), (3, .int x3), (4, .int x4)] → qP D xS ad (eX ad cy) I J H → va_S (qA xS ad) s.heap H locs → W p l e (headSpec wsX3_follow r_X3_follow).room s m args below meth c H locs 0 0 (MQ below (va_Qv (S := Unit) (fun _ => True) (fun _ t => qP D xS ad (eX ad cy) Ie J t.heap) (qA xS ad)) args s 0 0 (qA xS ad)) (F0 m 21 ls []) := by
  have C0 := C
  obtain ⟨⟨hx, hb, hml, hown, hts⟩, hr, hlocks⟩ := C0
  intro n
  induction n with
  | zero =>
    intro x3 x4 I J ls H locs hf hl hP hS
    rw [f_X3_follow_21] at hf
    cases hf
  | succ n ih =>
    intro x3 x4 I J ls H locs hf hl hP hS
    rw [f_X3_follow_21] at hf
    refine lv_iload hx hb dX3_follow_21 (lv_at hl 4 rfl) ?_
    refine lv_iload_n hx hb dX3_follow_23 rfl (lv_at hl 3 rfl) ?_
    refine lv_icmp_ge (tgt := 124) hx hb dX3_follow_24 (by decide) (fun cc => ?_) (fun cc => ?_)
    · have hf := (if_ok hf).1 cc
      have e9 := Option.some.inj hf
      have eI9 : I = Ie := e9
      exact W.vret hx hb hr (fun t ht _ => ⟨⟨(), rfl, trivial, by show qP D _ ad _ _ _ t.heap; rw [ht, ← eI9]; exact hP⟩, hS.F ht⟩) hS.2.2 dX3_follow_124
    · have hf := (if_ok hf).2 cc
      refine lv_aload_n hx hb dX3_follow_27 rfl (lv_at hl 2 rfl) ?_
      refine lv_iload hx hb dX3_follow_28 (lv_at hl 4 rfl) ?_
      obtain ⟨v1, h2, hf⟩ := bd_ok hf
      refine q_cSl (va_runV (As := [.int x4]) (rest := []) ⟨hx, hb, hml, hown, hts⟩ (c_X6_at l (D := D) (ad := ad) (cy := cy) (sa := sa) (va := va) (I := I) (J := J) c1 zc1 x4 h2) (cwV 1 hts gX3_follow_X6_at rfl rfl rfl (by decide +kernel) ⟨Nat.le_of_ble_eq_true rfl, Nat.le_of_ble_eq_true rfl⟩) ⟨qPre_blind _, q_recv hK hP (oX6 zc1) rfl, fun U hU hW => ⟨rfl, qPre_of hP hK hE hN hS U hU hW⟩⟩ rfl rfl hl.1 rfl (lv_room (Nat.le_of_ble_eq_true rfl)) dX3_follow_30 ⟨Nat.le_of_ble_eq_true rfl, Nat.le_of_ble_eq_true rfl⟩) ?_
      refine lv_lstore (lv' := [(5, .long v1), (0, .ref (ad 57)), (1, .ref (ad c0)), (2, .ref (ad c1)), (3, .int x3), (4, .int x4)]) hx hb dX3_follow_33 hl (by decide) rfl (fun ls hl => ?_)
      refine lv_lload hx hb dX3_follow_35 (lv_at hl 0 rfl) ?_
      refine lv_lconst (v := 0) hx hb dX3_follow_37 (by decide) ?_
      refine W.lcmp hx hb dX3_follow_38 ?_
      refine lv_if_lt (tgt := 57) hx hb dX3_follow_39 (by decide) (fun cc => ?_) (fun cc => ?_)
      · have hf := (if_ok hf).1 cc
        exact w_X3_follow_57 C hK hE hN c0 c1 zc0 zc1 (f_X3_follow_21 c0 c1 n) ih  x3 x4 v1 I J _ _ _ hf (lv_sub hl [1, 2, 3, 4, 5, 0] rfl) hP hS
      · have hf := (if_ok hf).2 cc
        refine lv_lload hx hb dX3_follow_42 (lv_at hl 0 rfl) ?_
        refine lv_aload_n hx hb dX3_follow_44 rfl (lv_at hl 2 rfl) ?_
        obtain ⟨v3, h4, hf⟩ := bd_ok hf
        refine q_cSi (va_runV (As := []) (rest := [.long v1]) ⟨hx, hb, hml, hown, hts⟩ (c_X2_everybody l (D := D) (ad := ad) (cy := cy) (sa := sa) (va := va) (I := I) (J := J) c0 zc0 h4) (cwV 0 hts gX3_follow_X2_everybody rfl rfl rfl (by decide +kernel) ⟨Nat.le_of_ble_eq_true rfl, Nat.le_of_ble_eq_true rfl⟩) ⟨qPre_blind _, q_recv hK hP (oX2 zc0) rfl, fun U hU hW => ⟨rfl, qPre_of hP hK hE hN hS U hU hW⟩⟩ rfl rfl hl.1 rfl (lv_room (Nat.le_of_ble_eq_true rfl)) dX3_follow_45 ⟨Nat.le_of_ble_eq_true rfl, Nat.le_of_ble_eq_true rfl⟩) ?_
        refine lv_i2l hx hb dX3_follow_48 rfl ?_
        refine W.lcmp hx hb dX3_follow_49 ?_
        refine lv_if_gt (tgt := 57) hx hb dX3_follow_50 (by decide) (fun cc => ?_) (fun cc => ?_)
        · have hf := (if_ok hf).1 cc
          exact w_X3_follow_57 C hK hE hN c0 c1 zc0 zc1 (f_X3_follow_21 c0 c1 n) ih  x3 x4 v1 I J _ _ _ hf (lv_sub hl [1, 2, 3, 4, 5, 0] rfl) hP hS
        · have hf := (if_ok hf).2 cc
          refine lv_iconst (v := 1) hx hb dX3_follow_53 (by decide) ?_
          refine lv_goto (tgt := 58) hx hb dX3_follow_54 (by decide) ?_
          exact w_X3_follow_58 C hK hE hN c0 c1 zc0 zc1 (f_X3_follow_21 c0 c1 n) ih  x3 x4 v1 (1 : Int32) I J _ _ _ hf (lv_sub hl [1, 2, 3, 4, 5, 0] rfl) hP hS
set_option maxHeartbeats 4000000 in
set_option maxRecDepth 100000 in
theorem c_X3_follow (l : Launch) {D : va_G} {ad : Nat → Nat} {cy : Nat → ClassId} {sa va : Nat → Nat} {I : qI} {J : qJ} (c0 : Nat) (c1 : Nat) (zc0 : isB c0) (zc1 : isSh c1) (p2 : Int32) {Ie : qI} (hf : f_X3_follow c0 c1 p2 I J = some Ie) : Met l yX3_follow wsX3_follow r_X3_follow (va_Pc [.ref (ad 57), .ref (ad c0), .ref (ad c1), .int p2] (qPre D xS ad cy sa va (eX ad cy) I J)) (va_Qv (S := Unit) (fun _ => True) (fun _ t => qP D xS ad (eX ad cy) Ie J t.heap) (qA xS ad)) 0 0 (qA xS ad) := by
  refine Met.ofW (cc := cX3_follow) (maxL := 9) (ret := none) (by decide) rfl ?_
  intro p e s m args below meth c s₁ B hml hv
  obtain ⟨rfl, hP, hK, hE, hN⟩ := hv
  have C : qC p s m _ meth c cX3_follow 9 RX3 wsX3_follow none := ⟨⟨B.exec, B.bytes, hml, findClass_of_methodNamed B.named, atoms_spec (ws := wsX3_follow) B.pre⟩, B.returns, B.notSynchronized⟩
  have C0 := C
  obtain ⟨⟨hx, hb, hml, hown, hts⟩, hr, hlocks⟩ := C0
  have hS : va_S (qA xS ad) s.heap s.heap [] := va_S.rf
  have hl := lv_entry ([.ref (ad 57), .ref (ad c0), .ref (ad c1), .int p2]) (n := 9) (Nat.le_of_ble_eq_true rfl)
  rw [lg_entry_eq]
  generalize (lg_sl ([.ref (ad 57), .ref (ad c0), .ref (ad c1), .int p2]) ++ List.replicate (9 - (lg_sl ([.ref (ad 57), .ref (ad c0), .ref (ad c1), .int p2])).length) Slot.unset).toArray = ls at hl ⊢
  have hl : lv_has ls 9 [(0, .ref (ad 57)), (1, .ref (ad c0)), (2, .ref (ad c1)), (3, .int p2)] := hl
  unfold f_X3_follow at hf
  refine lv_aload_n hx hb dX3_follow_0 rfl (lv_at hl 0 rfl) ?_
  refine lv_iconst (v := -1) hx hb dX3_follow_1 (by decide) ?_
  obtain ⟨I1, eI1, hf⟩ := lt_ok hf
  refine q_put (C := RX3) (T := TX3) (N := 3) (ci := 3) (v := .int (-1 : Int32)) (x := (-1 : Int32)) (ty := .int) hx hb hts in_X3_follow_X3 tyX3 tyX3_ok nmX3 hown hK hP hN hS oX3 rfl 0 (by decide) (hts (.fieldLink RX3 9 "RowsOnlyPrimes$Day" "wrong" "I") (by decide +kernel)) (fun _ h9 => h9) rfl (by decide +kernel) rfl rfl (fun _ _ => rfl) (fun _ _ => Nat.le_of_ble_eq_true rfl) dX3_follow_2 (fun H locs hP hS => ?_)
  rw [← eI1] at hP
  refine lv_aload_n hx hb dX3_follow_5 rfl (lv_at hl 0 rfl) ?_
  refine lv_aload_n hx hb dX3_follow_6 rfl (lv_at hl 1 rfl) ?_
  refine q_get (C := RX2) (T := TX2) (N := 13) (ci := 2) (v := .int (I1 c0 8)) hx hb hts in_X3_follow_X2 hown hK hP (oX2 zc0) rfl 8 (by decide) (hts (.fieldLink RX3 15 "RowsOnlyPrimes$Bank" "over" "I") (by decide +kernel)) (fun _ h9 => h9) rfl dX3_follow_7 ?_
  obtain ⟨I2, eI2, hf⟩ := lt_ok hf
  refine q_put (C := RX3) (T := TX3) (N := 3) (ci := 3) (v := .int (I1 c0 8)) (x := (I1 c0 8)) (ty := .int) hx hb hts in_X3_follow_X3 tyX3 tyX3_ok nmX3 hown hK hP hN hS oX3 rfl 1 (by decide) (hts (.fieldLink RX3 20 "RowsOnlyPrimes$Day" "over" "I") (by decide +kernel)) (fun _ h9 => h9) rfl (by decide +kernel) rfl rfl (fun _ _ => rfl) (fun _ _ => Nat.le_of_ble_eq_true rfl) dX3_follow_10 (fun H locs hP hS => ?_)
  rw [← eI2] at hP
  refine lv_aload_n hx hb dX3_follow_13 rfl (lv_at hl 0 rfl) ?_
  refine lv_iconst (v := 0) hx hb dX3_follow_14 (by decide) ?_
  obtain ⟨I3, eI3, hf⟩ := lt_ok hf
  refine q_put (C := RX3) (T := TX3) (N := 3) (ci := 3) (v := .int (0 : Int32)) (x := (0 : Int32)) (ty := .int) hx hb hts in_X3_follow_X3 tyX3 tyX3_ok nmX3 hown hK hP hN hS oX3 rfl 2 (by decide) (hts (.fieldLink RX3 21 "RowsOnlyPrimes$Day" "hired" "I") (by decide +kernel)) (fun _ h9 => h9) rfl (by decide +kernel) rfl rfl (fun _ _ => rfl) (fun _ _ => Nat.le_of_ble_eq_true rfl) dX3_follow_15 (fun H locs hP hS => ?_)
  rw [← eI3] at hP
  refine lv_iconst (v := 0) hx hb dX3_follow_18 (by decide) ?_
  refine lv_istore (lv' := [(4, .int (0 : Int32)), (0, .ref (ad 57)), (1, .ref (ad c0)), (2, .ref (ad c1)), (3, .int p2)]) hx hb dX3_follow_19 hl (by decide) rfl (fun ls hl => ?_)
  exact w_X3_follow_21 C hK hE hN c0 c1 zc0 zc1  1000 p2 (0 : Int32) I3 J _ _ _ hf (lv_sub hl [1, 2, 3, 4, 0] rfl) hP hS
abbrev r_X4_collect : Room := { frames := 2, cells := 0, slots := 0, locals := 43 }
theorem in_X4_collect_X4 : ∀ w ∈ u_ws RX4 TX4 3, w ∈ wsX4_collect := by decide +kernel
set_option maxHeartbeats 4000000 in
set_option maxRecDepth 100000 in
theorem w_X4_collect_7 (C : qC p s m args meth c cX4_collect 3 RX4 wsX4_collect none) (hK : qK D cy sa s) (hE : qEnv sa va (qA xS ad) s s.heap) (hN : qN xS ad) (c0 : Nat) (zc0 : isB c0) {J : qJ} {Ie : qI} : ∀ (n : Nat) (x2 : Int32)  (I : qI) (ls : Array Slot) (H : Heap) (locs : List Loc), f_X4_collect_7 c0 n x2 I = some Ie → lv_has ls 3 [(0, .ref (ad 48)), (1, .ref (ad c0)), (2, .int x2)] → qP D xS ad (eX ad cy) I J H → va_S (qA xS ad) s.heap H locs → W p l e (headSpec wsX4_collect r_X4_collect).room s m args below meth c H locs 0 0 (MQ below (va_Qv (S := Unit) (fun _ => True) (fun _ t => qP D xS ad (eX ad cy) Ie J t.heap) (qA xS ad)) args s 0 0 (qA xS ad)) (F0 m 7 ls []) := by
  have C0 := C
  obtain ⟨⟨hx, hb, hml, hown, hts⟩, hr, hlocks⟩ := C0
  intro n
  induction n with
  | zero =>
    intro x2 I ls H locs hf hl hP hS
    rw [f_X4_collect_7] at hf
    cases hf
  | succ n ih =>
    intro x2 I ls H locs hf hl hP hS
    rw [f_X4_collect_7] at hf
    refine lv_iload_n hx hb dX4_collect_7 rfl (lv_at hl 2 rfl) ?_
    refine lv_bipush (v := 99) hx hb dX4_collect_8 (by decide) ?_
    refine lv_icmp_gt (tgt := 47) hx hb dX4_collect_10 (by decide) (fun cc => ?_) (fun cc => ?_)
    · have hf := (if_ok hf).1 cc
      have e9 := Option.some.inj hf
      have eI9 : I = Ie := e9
      exact W.vret hx hb hr (fun t ht _ => ⟨⟨(), rfl, trivial, by show qP D _ ad _ _ _ t.heap; rw [ht, ← eI9]; exact hP⟩, hS.F ht⟩) hS.2.2 dX4_collect_47
    · have hf := (if_ok hf).2 cc
      refine lv_aload_n hx hb dX4_collect_13 rfl (lv_at hl 1 rfl) ?_
      refine lv_iload_n hx hb dX4_collect_14 rfl (lv_at hl 2 rfl) ?_
      obtain ⟨v1, h2, hf⟩ := bd_ok hf
      refine q_cSi (va_runV (As := [.int x2]) (rest := []) ⟨hx, hb, hml, hown, hts⟩ (c_X2_lets l (D := D) (ad := ad) (cy := cy) (sa := sa) (va := va) (I := I) (J := J) c0 zc0 x2 h2) (cwV 1 hts gX4_collect_X2_lets rfl rfl rfl (by decide +kernel) ⟨Nat.le_of_ble_eq_true rfl, Nat.le_of_ble_eq_true rfl⟩) ⟨qPre_blind _, q_recv hK hP (oX2 zc0) rfl, fun U hU hW => ⟨rfl, qPre_of hP hK hE hN hS U hU hW⟩⟩ rfl rfl hl.1 rfl (lv_room (Nat.le_of_ble_eq_true rfl)) dX4_collect_15 ⟨Nat.le_of_ble_eq_true rfl, Nat.le_of_ble_eq_true rfl⟩) ?_
      refine lv_if_eq (tgt := 41) hx hb dX4_collect_18 (by decide) (fun cc => ?_) (fun cc => ?_)
      · have hf := (if_ok hf).1 cc
        refine lv_iinc (v := (x2 + (1 : Int32))) (lv' := [(2, .int (x2 + (1 : Int32))), (0, .ref (ad 48)), (1, .ref (ad c0))]) hx hb dX4_collect_41 hl (k := 2) rfl rfl (by decide) rfl (fun ls hl => ?_)
        refine lv_goto (tgt := 7) hx hb dX4_collect_44 (by decide) ?_
        exact ih (x2 + (1 : Int32)) I _ _ _ hf (lv_sub hl [1, 2, 0] rfl) hP hS
      · have hf := (if_ok hf).2 cc
        refine lv_aload_n hx hb dX4_collect_21 rfl (lv_at hl 0 rfl) ?_
        refine q_get (C := RX4) (T := TX4) (N := 3) (ci := 4) (v := .ref (ad 49)) hx hb hts in_X4_collect_X4 hown hK hP oX4 rfl 0 (by decide) (hts (.fieldLink RX4 9 "RowsOnlyPrimes$Numbers" "going" "[I") (by decide +kernel)) (fun _ h9 => h9) rfl dX4_collect_22 ?_
        refine lv_aload_n hx hb dX4_collect_25 rfl (lv_at hl 0 rfl) ?_
        refine q_get (C := RX4) (T := TX4) (N := 3) (ci := 4) (v := .int (I 48 2)) hx hb hts in_X4_collect_X4 hown hK hP oX4 rfl 2 (by decide) (hts (.fieldLink RX4 18 "RowsOnlyPrimes$Numbers" "found" "I") (by decide +kernel)) (fun _ h9 => h9) rfl dX4_collect_26 ?_
        refine lv_iload_n hx hb dX4_collect_29 rfl (lv_at hl 2 rfl) ?_
        obtain ⟨g3, hf⟩ := gd_ok hf
        obtain ⟨I4, eI4, hf⟩ := lt_ok hf
        refine q_iast hx hb hK hP hN hS aX4_1 g3 dX4_collect_30 (fun H locs hP hS => ?_)
        have hP : qP D xS ad (eX ad cy) I4 J H := by rw [eI4]; exact hP
        refine lv_aload_n hx hb dX4_collect_31 rfl (lv_at hl 0 rfl) ?_
        refine lv_dup hx hb dX4_collect_32 rfl ?_
        refine q_get (C := RX4) (T := TX4) (N := 3) (ci := 4) (v := .int (I4 48 2)) hx hb hts in_X4_collect_X4 hown hK hP oX4 rfl 2 (by decide) (hts (.fieldLink RX4 18 "RowsOnlyPrimes$Numbers" "found" "I") (by decide +kernel)) (fun _ h9 => h9) rfl dX4_collect_33 ?_
        refine lv_iconst (v := 1) hx hb dX4_collect_36 (by decide) ?_
        refine lv_iadd hx hb dX4_collect_37 ?_
        obtain ⟨I5, eI5, hf⟩ := lt_ok hf
        refine q_put (C := RX4) (T := TX4) (N := 3) (ci := 4) (v := .int ((I4 48 2) + (1 : Int32))) (x := ((I4 48 2) + (1 : Int32))) (ty := .int) hx hb hts in_X4_collect_X4 tyX4 tyX4_ok nmX4 hown hK hP hN hS oX4 rfl 2 (by decide) (hts (.fieldLink RX4 18 "RowsOnlyPrimes$Numbers" "found" "I") (by decide +kernel)) (fun _ h9 => h9) rfl (by decide +kernel) rfl rfl (fun _ _ => rfl) (fun _ _ => Nat.le_of_ble_eq_true rfl) dX4_collect_38 (fun H locs hP hS => ?_)
        rw [← eI5] at hP
        refine lv_iinc (v := (x2 + (1 : Int32))) (lv' := [(2, .int (x2 + (1 : Int32))), (0, .ref (ad 48)), (1, .ref (ad c0))]) hx hb dX4_collect_41 hl (k := 2) rfl rfl (by decide) rfl (fun ls hl => ?_)
        refine lv_goto (tgt := 7) hx hb dX4_collect_44 (by decide) ?_
        exact ih (x2 + (1 : Int32)) I5 _ _ _ hf (lv_sub hl [1, 2, 0] rfl) hP hS
set_option maxHeartbeats 4000000 in
set_option maxRecDepth 100000 in
theorem c_X4_collect (l : Launch) {D : va_G} {ad : Nat → Nat} {cy : Nat → ClassId} {sa va : Nat → Nat} {I : qI} {J : qJ} (c0 : Nat) (zc0 : isB c0)  {Ie : qI} (hf : f_X4_collect c0 I = some Ie) : Met l yX4_collect wsX4_collect r_X4_collect (va_Pc [.ref (ad 48), .ref (ad c0)] (qPre D xS ad cy sa va (eX ad cy) I J)) (va_Qv (S := Unit) (fun _ => True) (fun _ t => qP D xS ad (eX ad cy) Ie J t.heap) (qA xS ad)) 0 0 (qA xS ad) := by
  refine Met.ofW (cc := cX4_collect) (maxL := 3) (ret := none) (by decide) rfl ?_
  intro p e s m args below meth c s₁ B hml hv
  obtain ⟨rfl, hP, hK, hE, hN⟩ := hv
  have C : qC p s m _ meth c cX4_collect 3 RX4 wsX4_collect none := ⟨⟨B.exec, B.bytes, hml, findClass_of_methodNamed B.named, atoms_spec (ws := wsX4_collect) B.pre⟩, B.returns, B.notSynchronized⟩
  have C0 := C
  obtain ⟨⟨hx, hb, hml, hown, hts⟩, hr, hlocks⟩ := C0
  have hS : va_S (qA xS ad) s.heap s.heap [] := va_S.rf
  have hl := lv_entry ([.ref (ad 48), .ref (ad c0)]) (n := 3) (Nat.le_of_ble_eq_true rfl)
  rw [lg_entry_eq]
  generalize (lg_sl ([.ref (ad 48), .ref (ad c0)]) ++ List.replicate (3 - (lg_sl ([.ref (ad 48), .ref (ad c0)])).length) Slot.unset).toArray = ls at hl ⊢
  have hl : lv_has ls 3 [(0, .ref (ad 48)), (1, .ref (ad c0))] := hl
  unfold f_X4_collect at hf
  refine lv_aload_n hx hb dX4_collect_0 rfl (lv_at hl 0 rfl) ?_
  refine lv_iconst (v := 0) hx hb dX4_collect_1 (by decide) ?_
  obtain ⟨I1, eI1, hf⟩ := lt_ok hf
  refine q_put (C := RX4) (T := TX4) (N := 3) (ci := 4) (v := .int (0 : Int32)) (x := (0 : Int32)) (ty := .int) hx hb hts in_X4_collect_X4 tyX4 tyX4_ok nmX4 hown hK hP hN hS oX4 rfl 2 (by decide) (hts (.fieldLink RX4 18 "RowsOnlyPrimes$Numbers" "found" "I") (by decide +kernel)) (fun _ h9 => h9) rfl (by decide +kernel) rfl rfl (fun _ _ => rfl) (fun _ _ => Nat.le_of_ble_eq_true rfl) dX4_collect_2 (fun H locs hP hS => ?_)
  rw [← eI1] at hP
  refine lv_iconst (v := 1) hx hb dX4_collect_5 (by decide) ?_
  refine lv_istore_n (lv' := [(2, .int (1 : Int32)), (0, .ref (ad 48)), (1, .ref (ad c0))]) hx hb dX4_collect_6 rfl hl (by decide) rfl (fun ls hl => ?_)
  exact w_X4_collect_7 C hK hE hN c0 zc0  1000 (1 : Int32) I1 _ _ _ hf (lv_sub hl [1, 2, 0] rfl) hP hS
abbrev r_X4_leastStaying : Room := { frames := 3, cells := 0, slots := 0, locals := 65 }
theorem in_X4_leastStaying_X4 : ∀ w ∈ u_ws RX4 TX4 3, w ∈ wsX4_leastStaying := by decide +kernel
set_option maxHeartbeats 4000000 in
set_option maxRecDepth 100000 in
theorem w_X4_leastStaying_65 (C : qC p s m args meth c cX4_leastStaying 6 RX4 wsX4_leastStaying (some .int)) (hK : qK D cy sa s) (hE : qEnv sa va (qA xS ad) s s.heap) (hN : qN xS ad) (c0 : Nat) (zc0 : isB c0) {J : qJ} {r : Int32} {Ie : qI} (k7 : Int32 → Int32 → qI → Option (Int32 × qI)) (hk7 : ∀ (x2 : Int32) (x3 : Int32)  (I : qI) (ls : Array Slot) (H : Heap) (locs : List Loc), k7 x2 x3 I = some (r, Ie) → lv_has ls 6 [(0, .ref (ad 48)), (2, .int x2), (3, .int x3)] → qP D xS ad (eX ad cy) I J H → va_S (qA xS ad) s.heap H locs → W p l e (headSpec wsX4_leastStaying r_X4_leastStaying).room s m args below meth c H locs 0 0 (MQ below (va_Qi (S := Unit) (fun x _ => x = r) (fun _ t => qP D xS ad (eX ad cy) Ie J t.heap) (qA xS ad)) args s 0 0 (qA xS ad)) (F0 m 7 ls [])) : ∀ (x2 : Int32) (x3 : Int32) (x4 : Int32)  (I : qI) (ls : Array Slot) (H : Heap) (locs : List Loc), f_X4_leastStaying_65 c0 k7 x2 x3 x4 I = some (r, Ie) → lv_has ls 6 [(0, .ref (ad 48)), (2, .int x2), (3, .int x3), (4, .int x4)] → qP D xS ad (eX ad cy) I J H → va_S (qA xS ad) s.heap H locs → W p l e (headSpec wsX4_leastStaying r_X4_leastStaying).room s m args below meth c H locs 0 0 (MQ below (va_Qi (S := Unit) (fun x _ => x = r) (fun _ t => qP D xS ad (eX ad cy) Ie J t.heap) (qA xS ad)) args s 0 0 (qA xS ad)) (F0 m 65 ls []) := by
  have C0 := C
  obtain ⟨⟨hx, hb, hml, hown, hts⟩, hr, hlocks⟩ := C0
  intro x2 x3 x4 I ls H locs hf hl hP hS
  unfold f_X4_leastStaying_65 at hf
  refine lv_aload_n hx hb dX4_leastStaying_65 rfl (lv_at hl 0 rfl) ?_
  refine q_get (C := RX4) (T := TX4) (N := 3) (ci := 4) (v := .ref (ad 50)) hx hb hts in_X4_leastStaying_X4 hown hK hP oX4 rfl 1 (by decide) (hts (.fieldLink RX4 15 "RowsOnlyPrimes$Numbers" "answers" "[I") (by decide +kernel)) (fun _ h9 => h9) rfl dX4_leastStaying_66 ?_
  refine lv_iload_n hx hb dX4_leastStaying_69 rfl (lv_at hl 2 rfl) ?_
  refine lv_iload hx hb dX4_leastStaying_70 (lv_at hl 3 rfl) ?_
  obtain ⟨g1, hf⟩ := gd_ok hf
  obtain ⟨I2, eI2, hf⟩ := lt_ok hf
  refine q_iast hx hb hK hP hN hS aX4_2 g1 dX4_leastStaying_72 (fun H locs hP hS => ?_)
  have hP : qP D xS ad (eX ad cy) I2 J H := by rw [eI2]; exact hP
  refine lv_iinc (v := (x3 + (1 : Int32))) (lv' := [(3, .int (x3 + (1 : Int32))), (0, .ref (ad 48)), (2, .int x2), (4, .int x4)]) hx hb dX4_leastStaying_73 hl (k := 2) rfl rfl (by decide) rfl (fun ls hl => ?_)
  refine lv_goto (tgt := 7) hx hb dX4_leastStaying_76 (by decide) ?_
  exact hk7 x2 (x3 + (1 : Int32)) I2 _ _ _ hf (lv_sub hl [1, 2, 0] rfl) hP hS
set_option maxHeartbeats 4000000 in
set_option maxRecDepth 100000 in
theorem w_X4_leastStaying_18 (C : qC p s m args meth c cX4_leastStaying 6 RX4 wsX4_leastStaying (some .int)) (hK : qK D cy sa s) (hE : qEnv sa va (qA xS ad) s s.heap) (hN : qN xS ad) (c0 : Nat) (zc0 : isB c0) {J : qJ} {r : Int32} {Ie : qI} (k7 : Int32 → Int32 → qI → Option (Int32 × qI)) (hk7 : ∀ (x2 : Int32) (x3 : Int32)  (I : qI) (ls : Array Slot) (H : Heap) (locs : List Loc), k7 x2 x3 I = some (r, Ie) → lv_has ls 6 [(0, .ref (ad 48)), (2, .int x2), (3, .int x3)] → qP D xS ad (eX ad cy) I J H → va_S (qA xS ad) s.heap H locs → W p l e (headSpec wsX4_leastStaying r_X4_leastStaying).room s m args below meth c H locs 0 0 (MQ below (va_Qi (S := Unit) (fun x _ => x = r) (fun _ t => qP D xS ad (eX ad cy) Ie J t.heap) (qA xS ad)) args s 0 0 (qA xS ad)) (F0 m 7 ls [])) : ∀ (n : Nat) (x2 : Int32) (x3 : Int32) (x4 : Int32) (x5 : Int32)  (I : qI) (ls : Array Slot) (H : Heap) (locs : List Loc), f_X4_leastStaying_18 c0 k7 n x2 x3 x4 x5 I = some (r, Ie) → lv_has ls 6 [(0, .ref (ad 48)), (2, .int x2), (3, .int x3), (4, .int x4), (5, .int x5)] → qP D xS ad (eX ad cy) I J H → va_S (qA xS ad) s.heap H locs → W p l e (headSpec wsX4_leastStaying r_X4_leastStaying).room s m args below meth c H locs 0 0 (MQ below (va_Qi (S := Unit) (fun x _ => x = r) (fun _ t => qP D xS ad (eX ad cy) Ie J t.heap) (qA xS ad)) args s 0 0 (qA xS ad)) (F0 m 18 ls []) := by
  have C0 := C
  obtain ⟨⟨hx, hb, hml, hown, hts⟩, hr, hlocks⟩ := C0
  intro n
  induction n with
  | zero =>
    intro x2 x3 x4 x5 I ls H locs hf hl hP hS
    rw [f_X4_leastStaying_18] at hf
    cases hf
  | succ n ih =>
    intro x2 x3 x4 x5 I ls H locs hf hl hP hS
    rw [f_X4_leastStaying_18] at hf
    refine lv_iload hx hb dX4_leastStaying_18 (lv_at hl 4 rfl) ?_
    refine lv_aload_n hx hb dX4_leastStaying_20 rfl (lv_at hl 0 rfl) ?_
    refine q_get (C := RX4) (T := TX4) (N := 3) (ci := 4) (v := .int (I 48 2)) hx hb hts in_X4_leastStaying_X4 hown hK hP oX4 rfl 2 (by decide) (hts (.fieldLink RX4 18 "RowsOnlyPrimes$Numbers" "found" "I") (by decide +kernel)) (fun _ h9 => h9) rfl dX4_leastStaying_21 ?_
    refine lv_icmp_ge (tgt := 65) hx hb dX4_leastStaying_24 (by decide) (fun cc => ?_) (fun cc => ?_)
    · have hf := (if_ok hf).1 cc
      exact w_X4_leastStaying_65 C hK hE hN c0 zc0 k7 hk7  x2 x3 x4 I _ _ _ hf (lv_sub hl [0, 1, 2, 3] rfl) hP hS
    · have hf := (if_ok hf).2 cc
      refine lv_aload_n hx hb dX4_leastStaying_27 rfl (lv_at hl 0 rfl) ?_
      refine q_get (C := RX4) (T := TX4) (N := 3) (ci := 4) (v := .ref (ad 49)) hx hb hts in_X4_leastStaying_X4 hown hK hP oX4 rfl 0 (by decide) (hts (.fieldLink RX4 9 "RowsOnlyPrimes$Numbers" "going" "[I") (by decide +kernel)) (fun _ h9 => h9) rfl dX4_leastStaying_28 ?_
      refine lv_iload hx hb dX4_leastStaying_31 (lv_at hl 4 rfl) ?_
      obtain ⟨g1, hf⟩ := gd_ok hf
      refine q_iald hx hb hK hP aX4_1 g1 dX4_leastStaying_33 ?_
      refine lv_iload_n hx hb dX4_leastStaying_34 rfl (lv_at hl 2 rfl) ?_
      refine lv_icmp_gt (tgt := 65) hx hb dX4_leastStaying_35 (by decide) (fun cc => ?_) (fun cc => ?_)
      · have hf := (if_ok hf).1 cc
        exact w_X4_leastStaying_65 C hK hE hN c0 zc0 k7 hk7  x2 x3 x4 I _ _ _ hf (lv_sub hl [0, 1, 2, 3] rfl) hP hS
      · have hf := (if_ok hf).2 cc
        refine lv_iload hx hb dX4_leastStaying_38 (lv_at hl 3 rfl) ?_
        refine lv_aload_n hx hb dX4_leastStaying_40 rfl (lv_at hl 0 rfl) ?_
        refine q_get (C := RX4) (T := TX4) (N := 3) (ci := 4) (v := .ref (ad 50)) hx hb hts in_X4_leastStaying_X4 hown hK hP oX4 rfl 1 (by decide) (hts (.fieldLink RX4 15 "RowsOnlyPrimes$Numbers" "answers" "[I") (by decide +kernel)) (fun _ h9 => h9) rfl dX4_leastStaying_41 ?_
        refine lv_iload_n hx hb dX4_leastStaying_44 rfl (lv_at hl 2 rfl) ?_
        refine lv_aload_n hx hb dX4_leastStaying_45 rfl (lv_at hl 0 rfl) ?_
        refine q_get (C := RX4) (T := TX4) (N := 3) (ci := 4) (v := .ref (ad 49)) hx hb hts in_X4_leastStaying_X4 hown hK hP oX4 rfl 0 (by decide) (hts (.fieldLink RX4 9 "RowsOnlyPrimes$Numbers" "going" "[I") (by decide +kernel)) (fun _ h9 => h9) rfl dX4_leastStaying_46 ?_
        refine lv_iload hx hb dX4_leastStaying_49 (lv_at hl 4 rfl) ?_
        obtain ⟨g2, hf⟩ := gd_ok hf
        refine q_iald hx hb hK hP aX4_1 g2 dX4_leastStaying_51 ?_
        refine lv_isub hx hb dX4_leastStaying_52 ?_
        obtain ⟨g3, hf⟩ := gd_ok hf
        refine q_iald hx hb hK hP aX4_2 g3 dX4_leastStaying_53 ?_
        refine va_mmin (own := RX4) hx hb (hml.trans hl.1.symm) hown (hts (.methodLink RX4 32 Lib.Math.min.name) (by decide +kernel)) (hts (.static Lib.Math.min.name) (by decide +kernel)) (hts (.initialized "java/lang/Math") (by decide +kernel)) (hts (.code Lib.Math.min.name Lib.Math.min.code 2 (some .int)) (by decide +kernel)) (Nat.le_of_ble_eq_true rfl) (Nat.le_of_ble_eq_true rfl) (Nat.zero_le _) (Nat.zero_le _) dX4_leastStaying_54 ?_
        obtain ⟨v4, ev4, hf⟩ := lt_ok hf
        refine q_top ev4 ?_
        refine lv_istore (lv' := [(4, .int v4), (0, .ref (ad 48)), (2, .int x2), (3, .int x3), (5, .int x5)]) hx hb dX4_leastStaying_57 hl (by decide) rfl (fun ls hl => ?_)
        refine lv_iinc (v := (x5 + (1 : Int32))) (lv' := [(5, .int (x5 + (1 : Int32))), (4, .int v4), (0, .ref (ad 48)), (2, .int x2), (3, .int x3)]) hx hb dX4_leastStaying_59 hl (k := 4) rfl rfl (by decide) rfl (fun ls hl => ?_)
        refine lv_goto (tgt := 18) hx hb dX4_leastStaying_62 (by decide) ?_
        exact ih x2 x3 v4 (x5 + (1 : Int32)) I _ _ _ hf (lv_sub hl [2, 3, 4, 1, 0] rfl) hP hS
set_option maxHeartbeats 4000000 in
set_option maxRecDepth 100000 in
theorem w_X4_leastStaying_7 (C : qC p s m args meth c cX4_leastStaying 6 RX4 wsX4_leastStaying (some .int)) (hK : qK D cy sa s) (hE : qEnv sa va (qA xS ad) s s.heap) (hN : qN xS ad) (c0 : Nat) (zc0 : isB c0) {J : qJ} {r : Int32} {Ie : qI} : ∀ (n : Nat) (x2 : Int32) (x3 : Int32)  (I : qI) (ls : Array Slot) (H : Heap) (locs : List Loc), f_X4_leastStaying_7 c0 n x2 x3 I = some (r, Ie) → lv_has ls 6 [(0, .ref (ad 48)), (2, .int x2), (3, .int x3)] → qP D xS ad (eX ad cy) I J H → va_S (qA xS ad) s.heap H locs → W p l e (headSpec wsX4_leastStaying r_X4_leastStaying).room s m args below meth c H locs 0 0 (MQ below (va_Qi (S := Unit) (fun x _ => x = r) (fun _ t => qP D xS ad (eX ad cy) Ie J t.heap) (qA xS ad)) args s 0 0 (qA xS ad)) (F0 m 7 ls []) := by
  have C0 := C
  obtain ⟨⟨hx, hb, hml, hown, hts⟩, hr, hlocks⟩ := C0
  intro n
  induction n with
  | zero =>
    intro x2 x3 I ls H locs hf hl hP hS
    rw [f_X4_leastStaying_7] at hf
    cases hf
  | succ n ih =>
    intro x2 x3 I ls H locs hf hl hP hS
    rw [f_X4_leastStaying_7] at hf
    refine lv_iload_n hx hb dX4_leastStaying_7 rfl (lv_at hl 2 rfl) ?_
    refine lv_iload_n hx hb dX4_leastStaying_8 rfl (lv_at hl 1 rfl) ?_
    refine lv_icmp_gt (tgt := 79) hx hb dX4_leastStaying_9 (by decide) (fun cc => ?_) (fun cc => ?_)
    · have hf := (if_ok hf).1 cc
      refine lv_aload_n hx hb dX4_leastStaying_79 rfl (lv_at hl 0 rfl) ?_
      refine q_get (C := RX4) (T := TX4) (N := 3) (ci := 4) (v := .ref (ad 50)) hx hb hts in_X4_leastStaying_X4 hown hK hP oX4 rfl 1 (by decide) (hts (.fieldLink RX4 15 "RowsOnlyPrimes$Numbers" "answers" "[I") (by decide +kernel)) (fun _ h9 => h9) rfl dX4_leastStaying_80 ?_
      refine lv_iload_n hx hb dX4_leastStaying_83 rfl (lv_at hl 1 rfl) ?_
      obtain ⟨g1, hf⟩ := gd_ok hf
      refine q_iald hx hb hK hP aX4_2 g1 dX4_leastStaying_84 ?_
      have e9 := Option.some.inj hf
      have eI9 : I = Ie := (congrArg Prod.snd e9)
      exact W.iret hx hb hr (fun t ht _ => ⟨⟨_, (), rfl, (congrArg Prod.fst e9), by show qP D _ ad _ _ _ t.heap; rw [ht, ← eI9]; exact hP⟩, hS.F ht⟩) hS.2.2 dX4_leastStaying_85
    · have hf := (if_ok hf).2 cc
      refine lv_iload_n hx hb dX4_leastStaying_12 rfl (lv_at hl 2 rfl) ?_
      refine lv_istore (lv' := [(4, .int x3), (0, .ref (ad 48)), (2, .int x2), (3, .int x3)]) hx hb dX4_leastStaying_13 hl (by decide) rfl (fun ls hl => ?_)
      refine lv_iconst (v := 0) hx hb dX4_leastStaying_15 (by decide) ?_
      refine lv_istore (lv' := [(5, .int (0 : Int32)), (4, .int x3), (0, .ref (ad 48)), (2, .int x2), (3, .int x3)]) hx hb dX4_leastStaying_16 hl (by decide) rfl (fun ls hl => ?_)
      exact w_X4_leastStaying_18 C hK hE hN c0 zc0 (f_X4_leastStaying_7 c0 n) ih 1000 x2 x3 x3 (0 : Int32) I _ _ _ hf (lv_sub hl [2, 3, 4, 1, 0] rfl) hP hS
set_option maxHeartbeats 4000000 in
set_option maxRecDepth 100000 in
theorem c_X4_leastStaying (l : Launch) {D : va_G} {ad : Nat → Nat} {cy : Nat → ClassId} {sa va : Nat → Nat} {I : qI} {J : qJ} (c0 : Nat) (zc0 : isB c0) (p1 : Int32) {r : Int32} {Ie : qI} (hf : f_X4_leastStaying c0 p1 I = some (r, Ie)) : Met l yX4_leastStaying wsX4_leastStaying r_X4_leastStaying (va_Pc [.ref (ad 48), .ref (ad c0), .int p1] (qPre D xS ad cy sa va (eX ad cy) I J)) (va_Qi (S := Unit) (fun x _ => x = r) (fun _ t => qP D xS ad (eX ad cy) Ie J t.heap) (qA xS ad)) 0 0 (qA xS ad) := by
  refine Met.ofW (cc := cX4_leastStaying) (maxL := 6) (ret := (some .int)) (by decide) rfl ?_
  intro p e s m args below meth c s₁ B hml hv
  obtain ⟨rfl, hP, hK, hE, hN⟩ := hv
  have C : qC p s m _ meth c cX4_leastStaying 6 RX4 wsX4_leastStaying (some .int) := ⟨⟨B.exec, B.bytes, hml, findClass_of_methodNamed B.named, atoms_spec (ws := wsX4_leastStaying) B.pre⟩, B.returns, B.notSynchronized⟩
  have C0 := C
  obtain ⟨⟨hx, hb, hml, hown, hts⟩, hr, hlocks⟩ := C0
  have hS : va_S (qA xS ad) s.heap s.heap [] := va_S.rf
  have hl := lv_entry ([.ref (ad 48), .ref (ad c0), .int p1]) (n := 6) (Nat.le_of_ble_eq_true rfl)
  rw [lg_entry_eq]
  generalize (lg_sl ([.ref (ad 48), .ref (ad c0), .int p1]) ++ List.replicate (6 - (lg_sl ([.ref (ad 48), .ref (ad c0), .int p1])).length) Slot.unset).toArray = ls at hl ⊢
  have hl : lv_has ls 6 [(0, .ref (ad 48)), (1, .ref (ad c0)), (2, .int p1)] := hl
  unfold f_X4_leastStaying at hf
  refine lv_aload_n hx hb dX4_leastStaying_0 rfl (lv_at hl 0 rfl) ?_
  refine lv_aload_n hx hb dX4_leastStaying_1 rfl (lv_at hl 1 rfl) ?_
  obtain ⟨I1, h2, hf⟩ := bd_ok hf
  refine q_cEv (va_runV (As := [.ref (ad c0)]) (rest := []) ⟨hx, hb, hml, hown, hts⟩ (c_X4_collect l (D := D) (ad := ad) (cy := cy) (sa := sa) (va := va) (I := I) (J := J) c0 zc0 h2) (cwV 1 hts gX4_leastStaying_X4_collect rfl rfl rfl (by decide +kernel) ⟨Nat.le_of_ble_eq_true rfl, Nat.le_of_ble_eq_true rfl⟩) ⟨qPre_blind _, q_recv hK hP oX4 rfl, fun U hU hW => ⟨rfl, qPre_of hP hK hE hN hS U hU hW⟩⟩ rfl rfl hl.1 rfl (lv_room (Nat.le_of_ble_eq_true rfl)) dX4_leastStaying_2 ⟨Nat.le_of_ble_eq_true rfl, Nat.le_of_ble_eq_true rfl⟩) hS (fun H locs hP hS => ?_)
  refine lv_iconst (v := 0) hx hb dX4_leastStaying_5 (by decide) ?_
  refine lv_istore_n (lv' := [(3, .int (0 : Int32)), (0, .ref (ad 48)), (1, .ref (ad c0)), (2, .int p1)]) hx hb dX4_leastStaying_6 rfl hl (by decide) rfl (fun ls hl => ?_)
  exact w_X4_leastStaying_7 C hK hE hN c0 zc0  1000 p1 (0 : Int32) I1 _ _ _ hf (lv_sub hl [1, 3, 0] rfl) hP hS
abbrev r_X4_waysToSum : Room := { frames := 3, cells := 0, slots := 0, locals := 65 }
theorem in_X4_waysToSum_X4 : ∀ w ∈ u_ws RX4 TX4 3, w ∈ wsX4_waysToSum := by decide +kernel
set_option maxHeartbeats 4000000 in
set_option maxRecDepth 100000 in
theorem w_X4_waysToSum_38 (C : qC p s m args meth c cX4_waysToSum 5 RX4 wsX4_waysToSum (some .int)) (hK : qK D cy sa s) (hE : qEnv sa va (qA xS ad) s s.heap) (hN : qN xS ad) (c0 : Nat) (zc0 : isB c0) {J : qJ} {r : Int32} {Ie : qI} (k22 : Int32 → Int32 → qI → Option (Int32 × qI)) (hk22 : ∀ (x2 : Int32) (x3 : Int32)  (I : qI) (ls : Array Slot) (H : Heap) (locs : List Loc), k22 x2 x3 I = some (r, Ie) → lv_has ls 5 [(0, .ref (ad 48)), (2, .int x2), (3, .int x3)] → qP D xS ad (eX ad cy) I J H → va_S (qA xS ad) s.heap H locs → W p l e (headSpec wsX4_waysToSum r_X4_waysToSum).room s m args below meth c H locs 0 0 (MQ below (va_Qi (S := Unit) (fun x _ => x = r) (fun _ t => qP D xS ad (eX ad cy) Ie J t.heap) (qA xS ad)) args s 0 0 (qA xS ad)) (F0 m 22 ls [])) : ∀ (n : Nat) (x2 : Int32) (x3 : Int32) (x4 : Int32)  (I : qI) (ls : Array Slot) (H : Heap) (locs : List Loc), f_X4_waysToSum_38 c0 k22 n x2 x3 x4 I = some (r, Ie) → lv_has ls 5 [(0, .ref (ad 48)), (2, .int x2), (3, .int x3), (4, .int x4)] → qP D xS ad (eX ad cy) I J H → va_S (qA xS ad) s.heap H locs → W p l e (headSpec wsX4_waysToSum r_X4_waysToSum).room s m args below meth c H locs 0 0 (MQ below (va_Qi (S := Unit) (fun x _ => x = r) (fun _ t => qP D xS ad (eX ad cy) Ie J t.heap) (qA xS ad)) args s 0 0 (qA xS ad)) (F0 m 38 ls []) := by
  have C0 := C
  obtain ⟨⟨hx, hb, hml, hown, hts⟩, hr, hlocks⟩ := C0
  intro n
  induction n with
  | zero =>
    intro x2 x3 x4 I ls H locs hf hl hP hS
    rw [f_X4_waysToSum_38] at hf
    cases hf
  | succ n ih =>
    intro x2 x3 x4 I ls H locs hf hl hP hS
    rw [f_X4_waysToSum_38] at hf
    refine lv_iload hx hb dX4_waysToSum_38 (lv_at hl 3 rfl) ?_
    refine lv_iload_n hx hb dX4_waysToSum_40 rfl (lv_at hl 1 rfl) ?_
    refine lv_icmp_gt (tgt := 74) hx hb dX4_waysToSum_41 (by decide) (fun cc => ?_) (fun cc => ?_)
    · have hf := (if_ok hf).1 cc
      refine lv_iinc (v := (x3 + (1 : Int32))) (lv' := [(3, .int (x3 + (1 : Int32))), (0, .ref (ad 48)), (2, .int x2), (4, .int x4)]) hx hb dX4_waysToSum_74 hl (k := 2) rfl rfl (by decide) rfl (fun ls hl => ?_)
      refine lv_goto (tgt := 22) hx hb dX4_waysToSum_77 (by decide) ?_
      exact hk22 x2 (x3 + (1 : Int32)) I _ _ _ hf (lv_sub hl [1, 2, 0] rfl) hP hS
    · have hf := (if_ok hf).2 cc
      refine lv_aload_n hx hb dX4_waysToSum_44 rfl (lv_at hl 0 rfl) ?_
      refine q_get (C := RX4) (T := TX4) (N := 3) (ci := 4) (v := .ref (ad 50)) hx hb hts in_X4_waysToSum_X4 hown hK hP oX4 rfl 1 (by decide) (hts (.fieldLink RX4 15 "RowsOnlyPrimes$Numbers" "answers" "[I") (by decide +kernel)) (fun _ h9 => h9) rfl dX4_waysToSum_45 ?_
      refine lv_iload hx hb dX4_waysToSum_48 (lv_at hl 3 rfl) ?_
      refine lv_dup2_11 hx hb dX4_waysToSum_50 rfl rfl ?_
      obtain ⟨g1, hf⟩ := gd_ok hf
      refine q_iald hx hb hK hP aX4_2 g1 dX4_waysToSum_51 ?_
      refine lv_aload_n hx hb dX4_waysToSum_52 rfl (lv_at hl 0 rfl) ?_
      refine q_get (C := RX4) (T := TX4) (N := 3) (ci := 4) (v := .ref (ad 50)) hx hb hts in_X4_waysToSum_X4 hown hK hP oX4 rfl 1 (by decide) (hts (.fieldLink RX4 15 "RowsOnlyPrimes$Numbers" "answers" "[I") (by decide +kernel)) (fun _ h9 => h9) rfl dX4_waysToSum_53 ?_
      refine lv_iload hx hb dX4_waysToSum_56 (lv_at hl 3 rfl) ?_
      refine lv_aload_n hx hb dX4_waysToSum_58 rfl (lv_at hl 0 rfl) ?_
      refine q_get (C := RX4) (T := TX4) (N := 3) (ci := 4) (v := .ref (ad 49)) hx hb hts in_X4_waysToSum_X4 hown hK hP oX4 rfl 0 (by decide) (hts (.fieldLink RX4 9 "RowsOnlyPrimes$Numbers" "going" "[I") (by decide +kernel)) (fun _ h9 => h9) rfl dX4_waysToSum_59 ?_
      refine lv_iload_n hx hb dX4_waysToSum_62 rfl (lv_at hl 2 rfl) ?_
      obtain ⟨g2, hf⟩ := gd_ok hf
      refine q_iald hx hb hK hP aX4_1 g2 dX4_waysToSum_63 ?_
      refine lv_isub hx hb dX4_waysToSum_64 ?_
      obtain ⟨g3, hf⟩ := gd_ok hf
      refine q_iald hx hb hK hP aX4_2 g3 dX4_waysToSum_65 ?_
      refine lv_iadd hx hb dX4_waysToSum_66 ?_
      obtain ⟨g4, hf⟩ := gd_ok hf
      obtain ⟨I5, eI5, hf⟩ := lt_ok hf
      refine q_iast hx hb hK hP hN hS aX4_2 g4 dX4_waysToSum_67 (fun H locs hP hS => ?_)
      have hP : qP D xS ad (eX ad cy) I5 J H := by rw [eI5]; exact hP
      refine lv_iinc (v := (x4 + (1 : Int32))) (lv' := [(4, .int (x4 + (1 : Int32))), (0, .ref (ad 48)), (2, .int x2), (3, .int x3)]) hx hb dX4_waysToSum_68 hl (k := 3) rfl rfl (by decide) rfl (fun ls hl => ?_)
      refine lv_goto (tgt := 38) hx hb dX4_waysToSum_71 (by decide) ?_
      exact ih x2 x3 (x4 + (1 : Int32)) I5 _ _ _ hf (lv_sub hl [1, 2, 3, 0] rfl) hP hS
set_option maxHeartbeats 4000000 in
set_option maxRecDepth 100000 in
theorem w_X4_waysToSum_22 (C : qC p s m args meth c cX4_waysToSum 5 RX4 wsX4_waysToSum (some .int)) (hK : qK D cy sa s) (hE : qEnv sa va (qA xS ad) s s.heap) (hN : qN xS ad) (c0 : Nat) (zc0 : isB c0) {J : qJ} {r : Int32} {Ie : qI} : ∀ (n : Nat) (x2 : Int32) (x3 : Int32)  (I : qI) (ls : Array Slot) (H : Heap) (locs : List Loc), f_X4_waysToSum_22 c0 n x2 x3 I = some (r, Ie) → lv_has ls 5 [(0, .ref (ad 48)), (2, .int x2), (3, .int x3)] → qP D xS ad (eX ad cy) I J H → va_S (qA xS ad) s.heap H locs → W p l e (headSpec wsX4_waysToSum r_X4_waysToSum).room s m args below meth c H locs 0 0 (MQ below (va_Qi (S := Unit) (fun x _ => x = r) (fun _ t => qP D xS ad (eX ad cy) Ie J t.heap) (qA xS ad)) args s 0 0 (qA xS ad)) (F0 m 22 ls []) := by
  have C0 := C
  obtain ⟨⟨hx, hb, hml, hown, hts⟩, hr, hlocks⟩ := C0
  intro n
  induction n with
  | zero =>
    intro x2 x3 I ls H locs hf hl hP hS
    rw [f_X4_waysToSum_22] at hf
    cases hf
  | succ n ih =>
    intro x2 x3 I ls H locs hf hl hP hS
    rw [f_X4_waysToSum_22] at hf
    refine lv_iload_n hx hb dX4_waysToSum_22 rfl (lv_at hl 2 rfl) ?_
    refine lv_aload_n hx hb dX4_waysToSum_23 rfl (lv_at hl 0 rfl) ?_
    refine q_get (C := RX4) (T := TX4) (N := 3) (ci := 4) (v := .int (I 48 2)) hx hb hts in_X4_waysToSum_X4 hown hK hP oX4 rfl 2 (by decide) (hts (.fieldLink RX4 18 "RowsOnlyPrimes$Numbers" "found" "I") (by decide +kernel)) (fun _ h9 => h9) rfl dX4_waysToSum_24 ?_
    refine lv_icmp_ge (tgt := 80) hx hb dX4_waysToSum_27 (by decide) (fun cc => ?_) (fun cc => ?_)
    · have hf := (if_ok hf).1 cc
      refine lv_aload_n hx hb dX4_waysToSum_80 rfl (lv_at hl 0 rfl) ?_
      refine q_get (C := RX4) (T := TX4) (N := 3) (ci := 4) (v := .ref (ad 50)) hx hb hts in_X4_waysToSum_X4 hown hK hP oX4 rfl 1 (by decide) (hts (.fieldLink RX4 15 "RowsOnlyPrimes$Numbers" "answers" "[I") (by decide +kernel)) (fun _ h9 => h9) rfl dX4_waysToSum_81 ?_
      refine lv_iload_n hx hb dX4_waysToSum_84 rfl (lv_at hl 1 rfl) ?_
      obtain ⟨g1, hf⟩ := gd_ok hf
      refine q_iald hx hb hK hP aX4_2 g1 dX4_waysToSum_85 ?_
      have e9 := Option.some.inj hf
      have eI9 : I = Ie := (congrArg Prod.snd e9)
      exact W.iret hx hb hr (fun t ht _ => ⟨⟨_, (), rfl, (congrArg Prod.fst e9), by show qP D _ ad _ _ _ t.heap; rw [ht, ← eI9]; exact hP⟩, hS.F ht⟩) hS.2.2 dX4_waysToSum_86
    · have hf := (if_ok hf).2 cc
      refine lv_aload_n hx hb dX4_waysToSum_30 rfl (lv_at hl 0 rfl) ?_
      refine q_get (C := RX4) (T := TX4) (N := 3) (ci := 4) (v := .ref (ad 49)) hx hb hts in_X4_waysToSum_X4 hown hK hP oX4 rfl 0 (by decide) (hts (.fieldLink RX4 9 "RowsOnlyPrimes$Numbers" "going" "[I") (by decide +kernel)) (fun _ h9 => h9) rfl dX4_waysToSum_31 ?_
      refine lv_iload_n hx hb dX4_waysToSum_34 rfl (lv_at hl 2 rfl) ?_
      obtain ⟨g2, hf⟩ := gd_ok hf
      refine q_iald hx hb hK hP aX4_1 g2 dX4_waysToSum_35 ?_
      refine lv_istore (lv' := [(4, .int (I 49 x3.toNatClampNeg)), (0, .ref (ad 48)), (2, .int x2), (3, .int x3)]) hx hb dX4_waysToSum_36 hl (by decide) rfl (fun ls hl => ?_)
      exact w_X4_waysToSum_38 C hK hE hN c0 zc0 (f_X4_waysToSum_22 c0 n) ih 1000 x2 x3 (I 49 x3.toNatClampNeg) I _ _ _ hf (lv_sub hl [1, 2, 3, 0] rfl) hP hS
set_option maxHeartbeats 4000000 in
set_option maxRecDepth 100000 in
theorem c_X4_waysToSum (l : Launch) {D : va_G} {ad : Nat → Nat} {cy : Nat → ClassId} {sa va : Nat → Nat} {I : qI} {J : qJ} (c0 : Nat) (zc0 : isB c0) (p1 : Int32) {r : Int32} {Ie : qI} (hf : f_X4_waysToSum c0 p1 I = some (r, Ie)) : Met l yX4_waysToSum wsX4_waysToSum r_X4_waysToSum (va_Pc [.ref (ad 48), .ref (ad c0), .int p1] (qPre D xS ad cy sa va (eX ad cy) I J)) (va_Qi (S := Unit) (fun x _ => x = r) (fun _ t => qP D xS ad (eX ad cy) Ie J t.heap) (qA xS ad)) 0 0 (qA xS ad) := by
  refine Met.ofW (cc := cX4_waysToSum) (maxL := 5) (ret := (some .int)) (by decide) rfl ?_
  intro p e s m args below meth c s₁ B hml hv
  obtain ⟨rfl, hP, hK, hE, hN⟩ := hv
  have C : qC p s m _ meth c cX4_waysToSum 5 RX4 wsX4_waysToSum (some .int) := ⟨⟨B.exec, B.bytes, hml, findClass_of_methodNamed B.named, atoms_spec (ws := wsX4_waysToSum) B.pre⟩, B.returns, B.notSynchronized⟩
  have C0 := C
  obtain ⟨⟨hx, hb, hml, hown, hts⟩, hr, hlocks⟩ := C0
  have hS : va_S (qA xS ad) s.heap s.heap [] := va_S.rf
  have hl := lv_entry ([.ref (ad 48), .ref (ad c0), .int p1]) (n := 5) (Nat.le_of_ble_eq_true rfl)
  rw [lg_entry_eq]
  generalize (lg_sl ([.ref (ad 48), .ref (ad c0), .int p1]) ++ List.replicate (5 - (lg_sl ([.ref (ad 48), .ref (ad c0), .int p1])).length) Slot.unset).toArray = ls at hl ⊢
  have hl : lv_has ls 5 [(0, .ref (ad 48)), (1, .ref (ad c0)), (2, .int p1)] := hl
  unfold f_X4_waysToSum at hf
  refine lv_aload_n hx hb dX4_waysToSum_0 rfl (lv_at hl 0 rfl) ?_
  refine lv_aload_n hx hb dX4_waysToSum_1 rfl (lv_at hl 1 rfl) ?_
  obtain ⟨I1, h2, hf⟩ := bd_ok hf
  refine q_cEv (va_runV (As := [.ref (ad c0)]) (rest := []) ⟨hx, hb, hml, hown, hts⟩ (c_X4_collect l (D := D) (ad := ad) (cy := cy) (sa := sa) (va := va) (I := I) (J := J) c0 zc0 h2) (cwV 1 hts gX4_waysToSum_X4_collect rfl rfl rfl (by decide +kernel) ⟨Nat.le_of_ble_eq_true rfl, Nat.le_of_ble_eq_true rfl⟩) ⟨qPre_blind _, q_recv hK hP oX4 rfl, fun U hU hW => ⟨rfl, qPre_of hP hK hE hN hS U hU hW⟩⟩ rfl rfl hl.1 rfl (lv_room (Nat.le_of_ble_eq_true rfl)) dX4_waysToSum_2 ⟨Nat.le_of_ble_eq_true rfl, Nat.le_of_ble_eq_true rfl⟩) hS (fun H locs hP hS => ?_)
  refine lv_aload_n hx hb dX4_waysToSum_5 rfl (lv_at hl 0 rfl) ?_
  refine q_get (C := RX4) (T := TX4) (N := 3) (ci := 4) (v := .ref (ad 50)) hx hb hts in_X4_waysToSum_X4 hown hK hP oX4 rfl 1 (by decide) (hts (.fieldLink RX4 15 "RowsOnlyPrimes$Numbers" "answers" "[I") (by decide +kernel)) (fun _ h9 => h9) rfl dX4_waysToSum_6 ?_
  refine lv_iconst (v := 0) hx hb dX4_waysToSum_9 (by decide) ?_
  obtain ⟨I3, h4, hf⟩ := bd_ok hf
  refine q_cEv (va_runS (As := [.ref (ad 50), .int (0 : Int32)]) (rest := []) ⟨hx, hb, hml, hown, hts⟩ (c_J7_fill_53178 l (S := xS) (ee := (eX ad cy)) (D := D) (ad := ad) (cy := cy) (sa := sa) (va := va) (I := I1) (J := J) 50 401 aX4_2 (0 : Int32) h4) (va_cwS 2 hts gX4_waysToSum_J7_fill_53178 rfl rfl rfl (by decide +kernel) ⟨Nat.le_of_ble_eq_true rfl, Nat.le_of_ble_eq_true rfl⟩) ⟨qPre_blind _, fun U hU hW => ⟨rfl, qPre_of hP hK hE hN hS U hU hW⟩⟩ rfl rfl hl.1 rfl (lv_room (Nat.le_of_ble_eq_true rfl)) dX4_waysToSum_10 ⟨Nat.le_of_ble_eq_true rfl, Nat.le_of_ble_eq_true rfl⟩) hS (fun H locs hP hS => ?_)
  refine lv_aload_n hx hb dX4_waysToSum_13 rfl (lv_at hl 0 rfl) ?_
  refine q_get (C := RX4) (T := TX4) (N := 3) (ci := 4) (v := .ref (ad 50)) hx hb hts in_X4_waysToSum_X4 hown hK hP oX4 rfl 1 (by decide) (hts (.fieldLink RX4 15 "RowsOnlyPrimes$Numbers" "answers" "[I") (by decide +kernel)) (fun _ h9 => h9) rfl dX4_waysToSum_14 ?_
  refine lv_iconst (v := 0) hx hb dX4_waysToSum_17 (by decide) ?_
  refine lv_iconst (v := 1) hx hb dX4_waysToSum_18 (by decide) ?_
  obtain ⟨I5, eI5, hf⟩ := lt_ok hf
  refine q_iast hx hb hK hP hN hS aX4_2 (by decide) dX4_waysToSum_19 (fun H locs hP hS => ?_)
  have eI5 : I5 = _ := eI5
  have hP : qP D xS ad (eX ad cy) I5 J H := by rw [eI5]; exact hP
  refine lv_iconst (v := 0) hx hb dX4_waysToSum_20 (by decide) ?_
  refine lv_istore_n (lv' := [(3, .int (0 : Int32)), (0, .ref (ad 48)), (1, .ref (ad c0)), (2, .int p1)]) hx hb dX4_waysToSum_21 rfl hl (by decide) rfl (fun ls hl => ?_)
  exact w_X4_waysToSum_22 C hK hE hN c0 zc0  1000 p1 (0 : Int32) I5 _ _ _ hf (lv_sub hl [1, 3, 0] rfl) hP hS
abbrev r_J6_bitCount_0f7a4 : Room := { frames := 0, cells := 0, slots := 0, locals := 0 }
set_option maxHeartbeats 4000000 in
set_option maxRecDepth 100000 in
theorem c_J6_bitCount_0f7a4 (l : Launch) {D : va_G} {ad : Nat → Nat} {cy : Nat → ClassId} {sa va : Nat → Nat} {I : qI} {J : qJ} {S : Nat → Prop} {ee : qE}   (p0 : Int32) {r : Int32} (hf : f_J6_bitCount_0f7a4 p0 = some r) : Met l yJ6_bitCount_0f7a4 wsJ6_bitCount_0f7a4 r_J6_bitCount_0f7a4 (va_Pc [.int p0] (qPre D S ad cy sa va ee I J)) (vp_Si (fun x => x = r)) 0 0 (fun _ => False) := by
  refine Met.ofW (cc := cJ6_bitCount_0f7a4) (maxL := 1) (ret := (some .int)) (by decide) rfl ?_
  intro p e s m args below meth c s₁ B hml hv
  obtain ⟨rfl, hP, hK, hE, hN⟩ := hv
  have C : qC p s m _ meth c cJ6_bitCount_0f7a4 1 RJ6 wsJ6_bitCount_0f7a4 (some .int) := ⟨⟨B.exec, B.bytes, hml, findClass_of_methodNamed B.named, atoms_spec (ws := wsJ6_bitCount_0f7a4) B.pre⟩, B.returns, B.notSynchronized⟩
  have C0 := C
  obtain ⟨⟨hx, hb, hml, hown, hts⟩, hr, hlocks⟩ := C0
  have hl := lv_entry ([.int p0]) (n := 1) (Nat.le_of_ble_eq_true rfl)
  rw [lg_entry_eq]
  generalize (lg_sl ([.int p0]) ++ List.replicate (1 - (lg_sl ([.int p0])).length) Slot.unset).toArray = ls at hl ⊢
  have hl : lv_has ls 1 [(0, .int p0)] := hl
  unfold f_J6_bitCount_0f7a4 at hf
  refine lv_iload_n hx hb dJ6_bitCount_0f7a4_0 rfl (lv_at hl 0 rfl) ?_
  refine lv_iload_n hx hb dJ6_bitCount_0f7a4_1 rfl (lv_at hl 0 rfl) ?_
  refine lv_iconst (v := 1) hx hb dJ6_bitCount_0f7a4_2 (by decide) ?_
  refine lv_iushr hx hb dJ6_bitCount_0f7a4_3 rfl ?_
  refine lv_ldcw (own := RJ6) (v := 1431655765) hx hb hown (hts (.constant RJ6 265 (1431655765)) (by decide +kernel)) dJ6_bitCount_0f7a4_4 ?_
  refine lv_iand hx hb dJ6_bitCount_0f7a4_7 ?_
  refine lv_isub hx hb dJ6_bitCount_0f7a4_8 ?_
  obtain ⟨v1, ev1, hf⟩ := lt_ok hf
  refine q_top ev1 ?_
  refine lv_istore_n (lv' := [(0, .int v1)]) hx hb dJ6_bitCount_0f7a4_9 rfl hl (by decide) rfl (fun ls hl => ?_)
  refine lv_iload_n hx hb dJ6_bitCount_0f7a4_10 rfl (lv_at hl 0 rfl) ?_
  refine lv_ldcw (own := RJ6) (v := 858993459) hx hb hown (hts (.constant RJ6 266 (858993459)) (by decide +kernel)) dJ6_bitCount_0f7a4_11 ?_
  refine lv_iand hx hb dJ6_bitCount_0f7a4_14 ?_
  refine lv_iload_n hx hb dJ6_bitCount_0f7a4_15 rfl (lv_at hl 0 rfl) ?_
  refine lv_iconst (v := 2) hx hb dJ6_bitCount_0f7a4_16 (by decide) ?_
  refine lv_iushr hx hb dJ6_bitCount_0f7a4_17 rfl ?_
  refine lv_ldcw (own := RJ6) (v := 858993459) hx hb hown (hts (.constant RJ6 266 (858993459)) (by decide +kernel)) dJ6_bitCount_0f7a4_18 ?_
  refine lv_iand hx hb dJ6_bitCount_0f7a4_21 ?_
  refine lv_iadd hx hb dJ6_bitCount_0f7a4_22 ?_
  obtain ⟨v2, ev2, hf⟩ := lt_ok hf
  refine q_top ev2 ?_
  refine lv_istore_n (lv' := [(0, .int v2)]) hx hb dJ6_bitCount_0f7a4_23 rfl hl (by decide) rfl (fun ls hl => ?_)
  refine lv_iload_n hx hb dJ6_bitCount_0f7a4_24 rfl (lv_at hl 0 rfl) ?_
  refine lv_iload_n hx hb dJ6_bitCount_0f7a4_25 rfl (lv_at hl 0 rfl) ?_
  refine lv_iconst (v := 4) hx hb dJ6_bitCount_0f7a4_26 (by decide) ?_
  refine lv_iushr hx hb dJ6_bitCount_0f7a4_27 rfl ?_
  refine lv_iadd hx hb dJ6_bitCount_0f7a4_28 ?_
  refine lv_ldcw (own := RJ6) (v := 252645135) hx hb hown (hts (.constant RJ6 267 (252645135)) (by decide +kernel)) dJ6_bitCount_0f7a4_29 ?_
  refine lv_iand hx hb dJ6_bitCount_0f7a4_32 ?_
  obtain ⟨v3, ev3, hf⟩ := lt_ok hf
  refine q_top ev3 ?_
  refine lv_istore_n (lv' := [(0, .int v3)]) hx hb dJ6_bitCount_0f7a4_33 rfl hl (by decide) rfl (fun ls hl => ?_)
  refine lv_iload_n hx hb dJ6_bitCount_0f7a4_34 rfl (lv_at hl 0 rfl) ?_
  refine lv_iload_n hx hb dJ6_bitCount_0f7a4_35 rfl (lv_at hl 0 rfl) ?_
  refine lv_bipush (v := 8) hx hb dJ6_bitCount_0f7a4_36 (by decide) ?_
  refine lv_iushr hx hb dJ6_bitCount_0f7a4_38 rfl ?_
  refine lv_iadd hx hb dJ6_bitCount_0f7a4_39 ?_
  obtain ⟨v4, ev4, hf⟩ := lt_ok hf
  refine q_top ev4 ?_
  refine lv_istore_n (lv' := [(0, .int v4)]) hx hb dJ6_bitCount_0f7a4_40 rfl hl (by decide) rfl (fun ls hl => ?_)
  refine lv_iload_n hx hb dJ6_bitCount_0f7a4_41 rfl (lv_at hl 0 rfl) ?_
  refine lv_iload_n hx hb dJ6_bitCount_0f7a4_42 rfl (lv_at hl 0 rfl) ?_
  refine lv_bipush (v := 16) hx hb dJ6_bitCount_0f7a4_43 (by decide) ?_
  refine lv_iushr hx hb dJ6_bitCount_0f7a4_45 rfl ?_
  refine lv_iadd hx hb dJ6_bitCount_0f7a4_46 ?_
  obtain ⟨v5, ev5, hf⟩ := lt_ok hf
  refine q_top ev5 ?_
  refine lv_istore_n (lv' := [(0, .int v5)]) hx hb dJ6_bitCount_0f7a4_47 rfl hl (by decide) rfl (fun ls hl => ?_)
  refine lv_iload_n hx hb dJ6_bitCount_0f7a4_48 rfl (lv_at hl 0 rfl) ?_
  refine lv_bipush (v := 63) hx hb dJ6_bitCount_0f7a4_49 (by decide) ?_
  refine lv_iand hx hb dJ6_bitCount_0f7a4_51 ?_
  exact W.iret hx hb hr (fun t ht _ => ⟨_, rfl, Option.some.inj hf, ht⟩) (fun _ h => by cases h) dJ6_bitCount_0f7a4_52
end
