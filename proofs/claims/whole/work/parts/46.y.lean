/-! machine: X8_left X8_ways X8_bids X8_numbers X8_before X8_lacks X8_fullest X8_cheapest X8_knot X8_torn X8_fit X8_fare X8_waiting X8_alone X8_together X8_spare X8_purses X8_ofKind X8_toldTrouble X8_crossed (written by wip/gen/gen.py) -/
section
variable {p : Program} {l : Launch} {e : Env} {s : State} {m : MethodId} {args : Array Value} {below : List Frame} {meth : Method} {c : Code} {D : va_G} {ad : Nat → Nat} {cy : Nat → ClassId} {sa va : Nat → Nat}
abbrev r_X8_left : Room := { frames := 4, cells := 0, slots := 0, locals := 90 }
theorem in_X8_left_X8 : ∀ w ∈ u_ws RX8 TX8 12, w ∈ wsX8_left := by decide +kernel
set_option maxHeartbeats 4000000 in
set_option maxRecDepth 100000 in
theorem c_X8_left (l : Launch) {D : va_G} {ad : Nat → Nat} {cy : Nat → ClassId} {sa va : Nat → Nat} {I : qI} {J : qJ}   (p0 : Int32) {r : Int32} {Ie : qI} (hf : f_X8_left p0 I = some (r, Ie)) : Met l yX8_left wsX8_left r_X8_left (va_Pc [.ref (ad 0), .int p0] (qPre D xS ad cy sa va (eX ad cy) I J)) (va_Qi (S := Unit) (fun x _ => x = r) (fun _ t => qP D xS ad (eX ad cy) Ie J t.heap) (qA xS ad)) 0 0 (qA xS ad) := by
  refine Met.ofW (cc := cX8_left) (maxL := 2) (ret := (some .int)) (by decide) rfl ?_
  intro p e s m args below meth c s₁ B hml hv
  obtain ⟨rfl, hP, hK, hE, hN⟩ := hv
  have C : qC p s m _ meth c cX8_left 2 RX8 wsX8_left (some .int) := ⟨⟨B.exec, B.bytes, hml, findClass_of_methodNamed B.named, atoms_spec (ws := wsX8_left) B.pre⟩, B.returns, B.notSynchronized⟩
  have C0 := C
  obtain ⟨⟨hx, hb, hml, hown, hts⟩, hr, hlocks⟩ := C0
  have hS : va_S (qA xS ad) s.heap s.heap [] := va_S.rf
  have hl := lv_entry ([.ref (ad 0), .int p0]) (n := 2) (Nat.le_of_ble_eq_true rfl)
  rw [lg_entry_eq]
  generalize (lg_sl ([.ref (ad 0), .int p0]) ++ List.replicate (2 - (lg_sl ([.ref (ad 0), .int p0])).length) Slot.unset).toArray = ls at hl ⊢
  have hl : lv_has ls 2 [(0, .ref (ad 0)), (1, .int p0)] := hl
  unfold f_X8_left at hf
  refine lv_iload_n hx hb dX8_left_0 rfl (lv_at hl 1 rfl) ?_
  refine lv_iconst (v := 0) hx hb dX8_left_1 (by decide) ?_
  refine lv_sipush (v := 400) hx hb dX8_left_2 (by decide) ?_
  obtain ⟨v1, h2, hf⟩ := bd_ok hf
  refine q_cSi (va_runS (As := [.int p0, .int (0 : Int32), .int (400 : Int32)]) (rest := []) ⟨hx, hb, hml, hown, hts⟩ (c_X8_within l (D := D) (ad := ad) (cy := cy) (sa := sa) (va := va) (I := I) (J := J) p0 (0 : Int32) (400 : Int32) h2) (va_cwS 3 hts gX8_left_X8_within rfl rfl rfl (by decide +kernel) ⟨Nat.le_of_ble_eq_true rfl, Nat.le_of_ble_eq_true rfl⟩) ⟨qPre_blind _, fun U hU hW => ⟨rfl, qPre_of hP hK hE hN hS U hU hW⟩⟩ rfl rfl hl.1 rfl (lv_room (Nat.le_of_ble_eq_true rfl)) dX8_left_5 ⟨Nat.le_of_ble_eq_true rfl, Nat.le_of_ble_eq_true rfl⟩) ?_
  refine lv_if_eq (tgt := 26) hx hb dX8_left_8 (by decide) (fun cc => ?_) (fun cc => ?_)
  · have hf := (if_ok hf).1 cc
    refine lv_aload_n hx hb dX8_left_26 rfl (lv_at hl 0 rfl) ?_
    refine lv_sipush (v := -1002) hx hb dX8_left_27 (by decide) ?_
    obtain ⟨v3, I4, h5, hf⟩ := bd2_ok hf
    refine q_cEi (va_runV (As := [.int (-1002 : Int32)]) (rest := []) ⟨hx, hb, hml, hown, hts⟩ (c_X8_refuse l (D := D) (ad := ad) (cy := cy) (sa := sa) (va := va) (I := I) (J := J) (-1002 : Int32) h5) (cwV 1 hts gX8_left_X8_refuse rfl rfl rfl (by decide +kernel) ⟨Nat.le_of_ble_eq_true rfl, Nat.le_of_ble_eq_true rfl⟩) ⟨qPre_blind _, q_recv hK hP oX8 rfl, fun U hU hW => ⟨rfl, qPre_of hP hK hE hN hS U hU hW⟩⟩ rfl rfl hl.1 rfl (lv_room (Nat.le_of_ble_eq_true rfl)) dX8_left_30 ⟨Nat.le_of_ble_eq_true rfl, Nat.le_of_ble_eq_true rfl⟩) hS (fun H locs hP hS => ?_)
    have e9 := Option.some.inj hf
    have eI9 : I4 = Ie := (congrArg Prod.snd e9)
    exact W.iret hx hb hr (fun t ht _ => ⟨⟨_, (), rfl, (congrArg Prod.fst e9), by show qP D _ ad _ _ _ t.heap; rw [ht, ← eI9]; exact hP⟩, hS.F ht⟩) hS.2.2 dX8_left_33
  · have hf := (if_ok hf).2 cc
    refine lv_aload_n hx hb dX8_left_11 rfl (lv_at hl 0 rfl) ?_
    refine q_get (C := RX8) (T := TX8) (N := 12) (ci := 8) (v := .ref (ad 48)) hx hb hts in_X8_left_X8 hown hK hP oX8 rfl 7 (by decide) (hts (.fieldLink RX8 49 "RowsOnlyPrimes" "sums" "LRowsOnlyPrimes$Numbers;") (by decide +kernel)) (fun _ h9 => h9) rfl dX8_left_12 ?_
    refine lv_aload_n hx hb dX8_left_15 rfl (lv_at hl 0 rfl) ?_
    refine q_get (C := RX8) (T := TX8) (N := 12) (ci := 8) (v := .ref (ad 1)) hx hb hts in_X8_left_X8 hown hK hP oX8 rfl 0 (by decide) (hts (.fieldLink RX8 12 "RowsOnlyPrimes" "now" "LRowsOnlyPrimes$Bank;") (by decide +kernel)) (fun _ h9 => h9) rfl dX8_left_16 ?_
    refine lv_iload_n hx hb dX8_left_19 rfl (lv_at hl 1 rfl) ?_
    obtain ⟨v6, I7, h8, hf⟩ := bd2_ok hf
    refine q_cEi (va_runV (As := [.ref (ad 1), .int p0]) (rest := []) ⟨hx, hb, hml, hown, hts⟩ (c_X4_leastStaying l (D := D) (ad := ad) (cy := cy) (sa := sa) (va := va) (I := I) (J := J) 1 isB_1 p0 h8) (cwV 2 hts gX8_left_X4_leastStaying rfl rfl rfl (by decide +kernel) ⟨Nat.le_of_ble_eq_true rfl, Nat.le_of_ble_eq_true rfl⟩) ⟨qPre_blind _, q_recv hK hP oX4 rfl, fun U hU hW => ⟨rfl, qPre_of hP hK hE hN hS U hU hW⟩⟩ rfl rfl hl.1 rfl (lv_room (Nat.le_of_ble_eq_true rfl)) dX8_left_20 ⟨Nat.le_of_ble_eq_true rfl, Nat.le_of_ble_eq_true rfl⟩) hS (fun H locs hP hS => ?_)
    refine lv_goto (tgt := 33) hx hb dX8_left_23 (by decide) ?_
    have e9 := Option.some.inj hf
    have eI9 : I7 = Ie := (congrArg Prod.snd e9)
    exact W.iret hx hb hr (fun t ht _ => ⟨⟨_, (), rfl, (congrArg Prod.fst e9), by show qP D _ ad _ _ _ t.heap; rw [ht, ← eI9]; exact hP⟩, hS.F ht⟩) hS.2.2 dX8_left_33
abbrev r_X8_ways : Room := { frames := 4, cells := 0, slots := 0, locals := 89 }
theorem in_X8_ways_X8 : ∀ w ∈ u_ws RX8 TX8 12, w ∈ wsX8_ways := by decide +kernel
set_option maxHeartbeats 4000000 in
set_option maxRecDepth 100000 in
theorem c_X8_ways (l : Launch) {D : va_G} {ad : Nat → Nat} {cy : Nat → ClassId} {sa va : Nat → Nat} {I : qI} {J : qJ}   (p0 : Int32) {r : Int32} {Ie : qI} (hf : f_X8_ways p0 I = some (r, Ie)) : Met l yX8_ways wsX8_ways r_X8_ways (va_Pc [.ref (ad 0), .int p0] (qPre D xS ad cy sa va (eX ad cy) I J)) (va_Qi (S := Unit) (fun x _ => x = r) (fun _ t => qP D xS ad (eX ad cy) Ie J t.heap) (qA xS ad)) 0 0 (qA xS ad) := by
  refine Met.ofW (cc := cX8_ways) (maxL := 2) (ret := (some .int)) (by decide) rfl ?_
  intro p e s m args below meth c s₁ B hml hv
  obtain ⟨rfl, hP, hK, hE, hN⟩ := hv
  have C : qC p s m _ meth c cX8_ways 2 RX8 wsX8_ways (some .int) := ⟨⟨B.exec, B.bytes, hml, findClass_of_methodNamed B.named, atoms_spec (ws := wsX8_ways) B.pre⟩, B.returns, B.notSynchronized⟩
  have C0 := C
  obtain ⟨⟨hx, hb, hml, hown, hts⟩, hr, hlocks⟩ := C0
  have hS : va_S (qA xS ad) s.heap s.heap [] := va_S.rf
  have hl := lv_entry ([.ref (ad 0), .int p0]) (n := 2) (Nat.le_of_ble_eq_true rfl)
  rw [lg_entry_eq]
  generalize (lg_sl ([.ref (ad 0), .int p0]) ++ List.replicate (2 - (lg_sl ([.ref (ad 0), .int p0])).length) Slot.unset).toArray = ls at hl ⊢
  have hl : lv_has ls 2 [(0, .ref (ad 0)), (1, .int p0)] := hl
  unfold f_X8_ways at hf
  refine lv_iload_n hx hb dX8_ways_0 rfl (lv_at hl 1 rfl) ?_
  refine lv_iconst (v := 0) hx hb dX8_ways_1 (by decide) ?_
  refine lv_bipush (v := 60) hx hb dX8_ways_2 (by decide) ?_
  obtain ⟨v1, h2, hf⟩ := bd_ok hf
  refine q_cSi (va_runS (As := [.int p0, .int (0 : Int32), .int (60 : Int32)]) (rest := []) ⟨hx, hb, hml, hown, hts⟩ (c_X8_within l (D := D) (ad := ad) (cy := cy) (sa := sa) (va := va) (I := I) (J := J) p0 (0 : Int32) (60 : Int32) h2) (va_cwS 3 hts gX8_ways_X8_within rfl rfl rfl (by decide +kernel) ⟨Nat.le_of_ble_eq_true rfl, Nat.le_of_ble_eq_true rfl⟩) ⟨qPre_blind _, fun U hU hW => ⟨rfl, qPre_of hP hK hE hN hS U hU hW⟩⟩ rfl rfl hl.1 rfl (lv_room (Nat.le_of_ble_eq_true rfl)) dX8_ways_4 ⟨Nat.le_of_ble_eq_true rfl, Nat.le_of_ble_eq_true rfl⟩) ?_
  refine lv_if_eq (tgt := 25) hx hb dX8_ways_7 (by decide) (fun cc => ?_) (fun cc => ?_)
  · have hf := (if_ok hf).1 cc
    refine lv_aload_n hx hb dX8_ways_25 rfl (lv_at hl 0 rfl) ?_
    refine lv_sipush (v := -1002) hx hb dX8_ways_26 (by decide) ?_
    obtain ⟨v3, I4, h5, hf⟩ := bd2_ok hf
    refine q_cEi (va_runV (As := [.int (-1002 : Int32)]) (rest := []) ⟨hx, hb, hml, hown, hts⟩ (c_X8_refuse l (D := D) (ad := ad) (cy := cy) (sa := sa) (va := va) (I := I) (J := J) (-1002 : Int32) h5) (cwV 1 hts gX8_ways_X8_refuse rfl rfl rfl (by decide +kernel) ⟨Nat.le_of_ble_eq_true rfl, Nat.le_of_ble_eq_true rfl⟩) ⟨qPre_blind _, q_recv hK hP oX8 rfl, fun U hU hW => ⟨rfl, qPre_of hP hK hE hN hS U hU hW⟩⟩ rfl rfl hl.1 rfl (lv_room (Nat.le_of_ble_eq_true rfl)) dX8_ways_29 ⟨Nat.le_of_ble_eq_true rfl, Nat.le_of_ble_eq_true rfl⟩) hS (fun H locs hP hS => ?_)
    have e9 := Option.some.inj hf
    have eI9 : I4 = Ie := (congrArg Prod.snd e9)
    exact W.iret hx hb hr (fun t ht _ => ⟨⟨_, (), rfl, (congrArg Prod.fst e9), by show qP D _ ad _ _ _ t.heap; rw [ht, ← eI9]; exact hP⟩, hS.F ht⟩) hS.2.2 dX8_ways_32
  · have hf := (if_ok hf).2 cc
    refine lv_aload_n hx hb dX8_ways_10 rfl (lv_at hl 0 rfl) ?_
    refine q_get (C := RX8) (T := TX8) (N := 12) (ci := 8) (v := .ref (ad 48)) hx hb hts in_X8_ways_X8 hown hK hP oX8 rfl 7 (by decide) (hts (.fieldLink RX8 49 "RowsOnlyPrimes" "sums" "LRowsOnlyPrimes$Numbers;") (by decide +kernel)) (fun _ h9 => h9) rfl dX8_ways_11 ?_
    refine lv_aload_n hx hb dX8_ways_14 rfl (lv_at hl 0 rfl) ?_
    refine q_get (C := RX8) (T := TX8) (N := 12) (ci := 8) (v := .ref (ad 1)) hx hb hts in_X8_ways_X8 hown hK hP oX8 rfl 0 (by decide) (hts (.fieldLink RX8 12 "RowsOnlyPrimes" "now" "LRowsOnlyPrimes$Bank;") (by decide +kernel)) (fun _ h9 => h9) rfl dX8_ways_15 ?_
    refine lv_iload_n hx hb dX8_ways_18 rfl (lv_at hl 1 rfl) ?_
    obtain ⟨v6, I7, h8, hf⟩ := bd2_ok hf
    refine q_cEi (va_runV (As := [.ref (ad 1), .int p0]) (rest := []) ⟨hx, hb, hml, hown, hts⟩ (c_X4_waysToSum l (D := D) (ad := ad) (cy := cy) (sa := sa) (va := va) (I := I) (J := J) 1 isB_1 p0 h8) (cwV 2 hts gX8_ways_X4_waysToSum rfl rfl rfl (by decide +kernel) ⟨Nat.le_of_ble_eq_true rfl, Nat.le_of_ble_eq_true rfl⟩) ⟨qPre_blind _, q_recv hK hP oX4 rfl, fun U hU hW => ⟨rfl, qPre_of hP hK hE hN hS U hU hW⟩⟩ rfl rfl hl.1 rfl (lv_room (Nat.le_of_ble_eq_true rfl)) dX8_ways_19 ⟨Nat.le_of_ble_eq_true rfl, Nat.le_of_ble_eq_true rfl⟩) hS (fun H locs hP hS => ?_)
    refine lv_goto (tgt := 32) hx hb dX8_ways_22 (by decide) ?_
    have e9 := Option.some.inj hf
    have eI9 : I7 = Ie := (congrArg Prod.snd e9)
    exact W.iret hx hb hr (fun t ht _ => ⟨⟨_, (), rfl, (congrArg Prod.fst e9), by show qP D _ ad _ _ _ t.heap; rw [ht, ← eI9]; exact hP⟩, hS.F ht⟩) hS.2.2 dX8_ways_32
abbrev r_X8_bids : Room := { frames := 3, cells := 0, slots := 0, locals := 71 }
theorem in_X8_bids_X2 : ∀ w ∈ u_ws RX2 TX2 13, w ∈ wsX8_bids := by decide +kernel
theorem in_X8_bids_X8 : ∀ w ∈ u_ws RX8 TX8 12, w ∈ wsX8_bids := by decide +kernel
set_option maxHeartbeats 4000000 in
set_option maxRecDepth 100000 in
theorem w_X8_bids_21 (C : qC p s m args meth c cX8_bids 5 RX8 wsX8_bids (some .int)) (hK : qK D cy sa s) (hE : qEnv sa va (qA xS ad) s s.heap) (hN : qN xS ad)   {J : qJ} {r : Int32} {Ie : qI} : ∀   (I : qI) (ls : Array Slot) (H : Heap) (locs : List Loc), f_X8_bids_21 I = some (r, Ie) → lv_has ls 5 [(0, .ref (ad 0))] → qP D xS ad (eX ad cy) I J H → va_S (qA xS ad) s.heap H locs → W p l e (headSpec wsX8_bids r_X8_bids).room s m args below meth c H locs 0 0 (MQ below (va_Qi (S := Unit) (fun x _ => x = r) (fun _ t => qP D xS ad (eX ad cy) Ie J t.heap) (qA xS ad)) args s 0 0 (qA xS ad)) (F0 m 21 ls []) := by
  have C0 := C
  obtain ⟨⟨hx, hb, hml, hown, hts⟩, hr, hlocks⟩ := C0
  intro I ls H locs hf hl hP hS
  unfold f_X8_bids_21 at hf
  refine lv_aload_n hx hb dX8_bids_21 rfl (lv_at hl 0 rfl) ?_
  refine lv_sipush (v := -1002) hx hb dX8_bids_22 (by decide) ?_
  obtain ⟨v1, I2, h3, hf⟩ := bd2_ok hf
  refine q_cEi (va_runV (As := [.int (-1002 : Int32)]) (rest := []) ⟨hx, hb, hml, hown, hts⟩ (c_X8_refuse l (D := D) (ad := ad) (cy := cy) (sa := sa) (va := va) (I := I) (J := J) (-1002 : Int32) h3) (cwV 1 hts gX8_bids_X8_refuse rfl rfl rfl (by decide +kernel) ⟨Nat.le_of_ble_eq_true rfl, Nat.le_of_ble_eq_true rfl⟩) ⟨qPre_blind _, q_recv hK hP oX8 rfl, fun U hU hW => ⟨rfl, qPre_of hP hK hE hN hS U hU hW⟩⟩ rfl rfl hl.1 rfl (lv_room (Nat.le_of_ble_eq_true rfl)) dX8_bids_25 ⟨Nat.le_of_ble_eq_true rfl, Nat.le_of_ble_eq_true rfl⟩) hS (fun H locs hP hS => ?_)
  have e9 := Option.some.inj hf
  have eI9 : I2 = Ie := (congrArg Prod.snd e9)
  exact W.iret hx hb hr (fun t ht _ => ⟨⟨_, (), rfl, (congrArg Prod.fst e9), by show qP D _ ad _ _ _ t.heap; rw [ht, ← eI9]; exact hP⟩, hS.F ht⟩) hS.2.2 dX8_bids_28
set_option maxHeartbeats 4000000 in
set_option maxRecDepth 100000 in
theorem c_X8_bids (l : Launch) {D : va_G} {ad : Nat → Nat} {cy : Nat → ClassId} {sa va : Nat → Nat} {I : qI} {J : qJ}   (p0 : Int32) (p1 : Int32) (p2 : Int32) {r : Int32} {Ie : qI} (hf : f_X8_bids p0 p1 p2 I = some (r, Ie)) : Met l yX8_bids wsX8_bids r_X8_bids (va_Pc [.ref (ad 0), .int p0, .int p1, .int p2] (qPre D xS ad cy sa va (eX ad cy) I J)) (va_Qi (S := Unit) (fun x _ => x = r) (fun _ t => qP D xS ad (eX ad cy) Ie J t.heap) (qA xS ad)) 0 0 (qA xS ad) := by
  refine Met.ofW (cc := cX8_bids) (maxL := 5) (ret := (some .int)) (by decide) rfl ?_
  intro p e s m args below meth c s₁ B hml hv
  obtain ⟨rfl, hP, hK, hE, hN⟩ := hv
  have C : qC p s m _ meth c cX8_bids 5 RX8 wsX8_bids (some .int) := ⟨⟨B.exec, B.bytes, hml, findClass_of_methodNamed B.named, atoms_spec (ws := wsX8_bids) B.pre⟩, B.returns, B.notSynchronized⟩
  have C0 := C
  obtain ⟨⟨hx, hb, hml, hown, hts⟩, hr, hlocks⟩ := C0
  have hS : va_S (qA xS ad) s.heap s.heap [] := va_S.rf
  have hl := lv_entry ([.ref (ad 0), .int p0, .int p1, .int p2]) (n := 5) (Nat.le_of_ble_eq_true rfl)
  rw [lg_entry_eq]
  generalize (lg_sl ([.ref (ad 0), .int p0, .int p1, .int p2]) ++ List.replicate (5 - (lg_sl ([.ref (ad 0), .int p0, .int p1, .int p2])).length) Slot.unset).toArray = ls at hl ⊢
  have hl : lv_has ls 5 [(0, .ref (ad 0)), (1, .int p0), (2, .int p1), (3, .int p2)] := hl
  unfold f_X8_bids at hf
  refine lv_aload_n hx hb dX8_bids_0 rfl (lv_at hl 0 rfl) ?_
  refine q_get (C := RX8) (T := TX8) (N := 12) (ci := 8) (v := .ref (ad 1)) hx hb hts in_X8_bids_X8 hown hK hP oX8 rfl 0 (by decide) (hts (.fieldLink RX8 12 "RowsOnlyPrimes" "now" "LRowsOnlyPrimes$Bank;") (by decide +kernel)) (fun _ h9 => h9) rfl dX8_bids_1 ?_
  refine lv_iload_n hx hb dX8_bids_4 rfl (lv_at hl 1 rfl) ?_
  refine lv_iload_n hx hb dX8_bids_5 rfl (lv_at hl 2 rfl) ?_
  obtain ⟨v1, h2, hf⟩ := bd_ok hf
  refine q_cSi (va_runV (As := [.int p0, .int p1]) (rest := []) ⟨hx, hb, hml, hown, hts⟩ (c_X2_hasTwo l (D := D) (ad := ad) (cy := cy) (sa := sa) (va := va) (I := I) (J := J) 1 isB_1 p0 p1 h2) (cwV 2 hts gX8_bids_X2_hasTwo rfl rfl rfl (by decide +kernel) ⟨Nat.le_of_ble_eq_true rfl, Nat.le_of_ble_eq_true rfl⟩) ⟨qPre_blind _, q_recv hK hP (oX2 isB_1) rfl, fun U hU hW => ⟨rfl, qPre_of hP hK hE hN hS U hU hW⟩⟩ rfl rfl hl.1 rfl (lv_room (Nat.le_of_ble_eq_true rfl)) dX8_bids_6 ⟨Nat.le_of_ble_eq_true rfl, Nat.le_of_ble_eq_true rfl⟩) ?_
  refine lv_if_eq (tgt := 21) hx hb dX8_bids_9 (by decide) (fun cc => ?_) (fun cc => ?_)
  · have hf := (if_ok hf).1 cc
    exact w_X8_bids_21 C hK hE hN    I _ _ _ hf (lv_sub hl [0] rfl) hP hS
  · have hf := (if_ok hf).2 cc
    refine lv_iload_n hx hb dX8_bids_12 rfl (lv_at hl 3 rfl) ?_
    refine lv_iconst (v := 0) hx hb dX8_bids_13 (by decide) ?_
    refine lv_iconst (v := 1) hx hb dX8_bids_14 (by decide) ?_
    obtain ⟨v3, h4, hf⟩ := bd_ok hf
    refine q_cSi (va_runS (As := [.int p2, .int (0 : Int32), .int (1 : Int32)]) (rest := []) ⟨hx, hb, hml, hown, hts⟩ (c_X8_within l (D := D) (ad := ad) (cy := cy) (sa := sa) (va := va) (I := I) (J := J) p2 (0 : Int32) (1 : Int32) h4) (va_cwS 3 hts gX8_bids_X8_within rfl rfl rfl (by decide +kernel) ⟨Nat.le_of_ble_eq_true rfl, Nat.le_of_ble_eq_true rfl⟩) ⟨qPre_blind _, fun U hU hW => ⟨rfl, qPre_of hP hK hE hN hS U hU hW⟩⟩ rfl rfl hl.1 rfl (lv_room (Nat.le_of_ble_eq_true rfl)) dX8_bids_15 ⟨Nat.le_of_ble_eq_true rfl, Nat.le_of_ble_eq_true rfl⟩) ?_
    refine lv_if_ne (tgt := 29) hx hb dX8_bids_18 (by decide) (fun cc => ?_) (fun cc => ?_)
    · have hf := (if_ok hf).2 cc
      refine lv_aload_n hx hb dX8_bids_29 rfl (lv_at hl 0 rfl) ?_
      refine q_get (C := RX8) (T := TX8) (N := 12) (ci := 8) (v := .ref (ad 51)) hx hb hts in_X8_bids_X8 hown hK hP oX8 rfl 8 (by decide) (hts (.fieldLink RX8 56 "RowsOnlyPrimes" "auction" "LRowsOnlyPrimes$Auction;") (by decide +kernel)) (fun _ h9 => h9) rfl dX8_bids_30 ?_
      refine lv_aload_n hx hb dX8_bids_33 rfl (lv_at hl 0 rfl) ?_
      refine q_get (C := RX8) (T := TX8) (N := 12) (ci := 8) (v := .ref (ad 1)) hx hb hts in_X8_bids_X8 hown hK hP oX8 rfl 0 (by decide) (hts (.fieldLink RX8 12 "RowsOnlyPrimes" "now" "LRowsOnlyPrimes$Bank;") (by decide +kernel)) (fun _ h9 => h9) rfl dX8_bids_34 ?_
      refine q_get (C := RX2) (T := TX2) (N := 13) (ci := 2) (v := .ref (ad (1 + 4))) hx hb hts in_X8_bids_X2 hown hK hP (oX2 isB_1) rfl 3 (by decide) (hts (.fieldLink RX8 146 "RowsOnlyPrimes$Bank" "wallets" "[I") (by decide +kernel)) (fun _ h9 => h9) rfl dX8_bids_37 ?_
      refine lv_iload_n hx hb dX8_bids_40 rfl (lv_at hl 1 rfl) ?_
      obtain ⟨g5, hf⟩ := gd_ok hf
      refine q_iald hx hb hK hP (aX2_4 isB_1) g5 dX8_bids_41 ?_
      refine lv_aload_n hx hb dX8_bids_42 rfl (lv_at hl 0 rfl) ?_
      refine q_get (C := RX8) (T := TX8) (N := 12) (ci := 8) (v := .ref (ad 1)) hx hb hts in_X8_bids_X8 hown hK hP oX8 rfl 0 (by decide) (hts (.fieldLink RX8 12 "RowsOnlyPrimes" "now" "LRowsOnlyPrimes$Bank;") (by decide +kernel)) (fun _ h9 => h9) rfl dX8_bids_43 ?_
      refine q_get (C := RX2) (T := TX2) (N := 13) (ci := 2) (v := .ref (ad (1 + 4))) hx hb hts in_X8_bids_X2 hown hK hP (oX2 isB_1) rfl 3 (by decide) (hts (.fieldLink RX8 146 "RowsOnlyPrimes$Bank" "wallets" "[I") (by decide +kernel)) (fun _ h9 => h9) rfl dX8_bids_46 ?_
      refine lv_iload_n hx hb dX8_bids_49 rfl (lv_at hl 2 rfl) ?_
      obtain ⟨g6, hf⟩ := gd_ok hf
      refine q_iald hx hb hK hP (aX2_4 isB_1) g6 dX8_bids_50 ?_
      obtain ⟨v7, I8, h9, hf⟩ := bd2_ok hf
      refine q_cEi (va_runV (As := [.int (I (1 + 4) p0.toNatClampNeg), .int (I (1 + 4) p1.toNatClampNeg)]) (rest := []) ⟨hx, hb, hml, hown, hts⟩ (c_X1_firstBid l (D := D) (ad := ad) (cy := cy) (sa := sa) (va := va) (I := I) (J := J) (I (1 + 4) p0.toNatClampNeg) (I (1 + 4) p1.toNatClampNeg) h9) (cwV 2 hts gX8_bids_X1_firstBid rfl rfl rfl (by decide +kernel) ⟨Nat.le_of_ble_eq_true rfl, Nat.le_of_ble_eq_true rfl⟩) ⟨qPre_blind _, q_recv hK hP oX1 rfl, fun U hU hW => ⟨rfl, qPre_of hP hK hE hN hS U hU hW⟩⟩ rfl rfl hl.1 rfl (lv_room (Nat.le_of_ble_eq_true rfl)) dX8_bids_51 ⟨Nat.le_of_ble_eq_true rfl, Nat.le_of_ble_eq_true rfl⟩) hS (fun H locs hP hS => ?_)
      refine lv_istore (lv' := [(4, .int v7), (0, .ref (ad 0)), (1, .int p0), (2, .int p1), (3, .int p2)]) hx hb dX8_bids_54 hl (by decide) rfl (fun ls hl => ?_)
      refine lv_iload_n hx hb dX8_bids_56 rfl (lv_at hl 4 rfl) ?_
      refine lv_iconst (v := 1) hx hb dX8_bids_57 (by decide) ?_
      refine lv_icmp_ne (tgt := 66) hx hb dX8_bids_58 (by decide) (fun cc => ?_) (fun cc => ?_)
      · have hf := (if_ok hf).2 cc
        refine lv_iload hx hb dX8_bids_66 (lv_at hl 0 rfl) ?_
        refine lv_iconst (v := 1) hx hb dX8_bids_68 (by decide) ?_
        refine va_mmin (own := RX8) hx hb (hml.trans hl.1.symm) hown (hts (.methodLink RX8 273 Lib.Math.min.name) (by decide +kernel)) (hts (.static Lib.Math.min.name) (by decide +kernel)) (hts (.initialized "java/lang/Math") (by decide +kernel)) (hts (.code Lib.Math.min.name Lib.Math.min.code 2 (some .int)) (by decide +kernel)) (Nat.le_of_ble_eq_true rfl) (Nat.le_of_ble_eq_true rfl) (Nat.zero_le _) (Nat.zero_le _) dX8_bids_69 ?_
        obtain ⟨v10, ev10, hf⟩ := lt_ok hf
        refine q_top ev10 ?_
        have e9 := Option.some.inj hf
        have eI9 : I8 = Ie := (congrArg Prod.snd e9)
        exact W.iret hx hb hr (fun t ht _ => ⟨⟨_, (), rfl, (congrArg Prod.fst e9), by show qP D _ ad _ _ _ t.heap; rw [ht, ← eI9]; exact hP⟩, hS.F ht⟩) hS.2.2 dX8_bids_72
      · have hf := (if_ok hf).1 cc
        refine lv_iload hx hb dX8_bids_61 (lv_at hl 0 rfl) ?_
        refine lv_goto (tgt := 72) hx hb dX8_bids_63 (by decide) ?_
        have e9 := Option.some.inj hf
        have eI9 : I8 = Ie := (congrArg Prod.snd e9)
        exact W.iret hx hb hr (fun t ht _ => ⟨⟨_, (), rfl, (congrArg Prod.fst e9), by show qP D _ ad _ _ _ t.heap; rw [ht, ← eI9]; exact hP⟩, hS.F ht⟩) hS.2.2 dX8_bids_72
    · have hf := (if_ok hf).1 cc
      exact w_X8_bids_21 C hK hE hN    I _ _ _ hf (lv_sub hl [0] rfl) hP hS
abbrev r_X8_numbers : Room := { frames := 2, cells := 0, slots := 0, locals := 43 }
theorem in_X8_numbers_X8 : ∀ w ∈ u_ws RX8 TX8 12, w ∈ wsX8_numbers := by decide +kernel
set_option maxHeartbeats 4000000 in
set_option maxRecDepth 100000 in
theorem w_X8_numbers_4 (C : qC p s m args meth c cX8_numbers 3 RX8 wsX8_numbers (some .int)) (hK : qK D cy sa s) (hE : qEnv sa va (qA xS ad) s s.heap) (hN : qN xS ad)   {I : qI} {J : qJ} (hP : qP D xS ad (eX ad cy) I J s.heap) {r : Int32} : ∀ (n : Nat) (x1 : Int32) (x2 : Int32)  (ls : Array Slot), f_X8_numbers_4 I n x1 x2 = some r → lv_has ls 3 [(0, .ref (ad 0)), (1, .int x1), (2, .int x2)] → W p l e (headSpec wsX8_numbers r_X8_numbers).room s m args below meth c s.heap [] 0 0 (MQ below (vp_Si (fun x => x = r)) args s 0 0 (fun _ => False)) (F0 m 4 ls []) := by
  have C0 := C
  obtain ⟨⟨hx, hb, hml, hown, hts⟩, hr, hlocks⟩ := C0
  intro n
  induction n with
  | zero =>
    intro x1 x2 ls hf hl
    rw [f_X8_numbers_4] at hf
    cases hf
  | succ n ih =>
    intro x1 x2 ls hf hl
    rw [f_X8_numbers_4] at hf
    refine lv_iload_n hx hb dX8_numbers_4 rfl (lv_at hl 2 rfl) ?_
    refine lv_bipush (v := 99) hx hb dX8_numbers_5 (by decide) ?_
    refine lv_icmp_gt (tgt := 30) hx hb dX8_numbers_7 (by decide) (fun cc => ?_) (fun cc => ?_)
    · have hf := (if_ok hf).1 cc
      refine lv_iload_n hx hb dX8_numbers_30 rfl (lv_at hl 1 rfl) ?_
      exact W.iret hx hb hr (fun t ht _ => ⟨_, rfl, Option.some.inj hf, ht⟩) (fun _ h => by cases h) dX8_numbers_31
    · have hf := (if_ok hf).2 cc
      refine lv_aload_n hx hb dX8_numbers_10 rfl (lv_at hl 0 rfl) ?_
      refine q_get (C := RX8) (T := TX8) (N := 12) (ci := 8) (v := .ref (ad 1)) hx hb hts in_X8_numbers_X8 hown hK hP oX8 rfl 0 (by decide) (hts (.fieldLink RX8 12 "RowsOnlyPrimes" "now" "LRowsOnlyPrimes$Bank;") (by decide +kernel)) (fun _ h9 => h9) rfl dX8_numbers_11 ?_
      refine lv_iload_n hx hb dX8_numbers_14 rfl (lv_at hl 2 rfl) ?_
      obtain ⟨v1, h2, hf⟩ := bd_ok hf
      refine q_cSi (va_runV (As := [.int x2]) (rest := []) ⟨hx, hb, hml, hown, hts⟩ (c_X2_lets l (D := D) (ad := ad) (cy := cy) (sa := sa) (va := va) (I := I) (J := J) 1 isB_1 x2 h2) (cwV 1 hts gX8_numbers_X2_lets rfl rfl rfl (by decide +kernel) ⟨Nat.le_of_ble_eq_true rfl, Nat.le_of_ble_eq_true rfl⟩) ⟨qPre_blind _, q_recv hK hP (oX2 isB_1) rfl, fun U hU hW => ⟨rfl, qPre_of hP hK hE hN va_S.rf U hU hW⟩⟩ rfl rfl hl.1 rfl (lv_room (Nat.le_of_ble_eq_true rfl)) dX8_numbers_15 ⟨Nat.le_of_ble_eq_true rfl, Nat.le_of_ble_eq_true rfl⟩) ?_
      refine lv_if_eq (tgt := 24) hx hb dX8_numbers_18 (by decide) (fun cc => ?_) (fun cc => ?_)
      · have hf := (if_ok hf).1 cc
        refine lv_iinc (v := (x2 + (1 : Int32))) (lv' := [(2, .int (x2 + (1 : Int32))), (0, .ref (ad 0)), (1, .int x1)]) hx hb dX8_numbers_24 hl (k := 2) rfl rfl (by decide) rfl (fun ls hl => ?_)
        refine lv_goto (tgt := 4) hx hb dX8_numbers_27 (by decide) ?_
        exact ih x1 (x2 + (1 : Int32)) _ hf (lv_sub hl [1, 2, 0] rfl)
      · have hf := (if_ok hf).2 cc
        refine lv_iinc (v := (x1 + (1 : Int32))) (lv' := [(1, .int (x1 + (1 : Int32))), (0, .ref (ad 0)), (2, .int x2)]) hx hb dX8_numbers_21 hl (k := 1) rfl rfl (by decide) rfl (fun ls hl => ?_)
        refine lv_iinc (v := (x2 + (1 : Int32))) (lv' := [(2, .int (x2 + (1 : Int32))), (1, .int (x1 + (1 : Int32))), (0, .ref (ad 0))]) hx hb dX8_numbers_24 hl (k := 2) rfl rfl (by decide) rfl (fun ls hl => ?_)
        refine lv_goto (tgt := 4) hx hb dX8_numbers_27 (by decide) ?_
        exact ih (x1 + (1 : Int32)) (x2 + (1 : Int32)) _ hf (lv_sub hl [2, 1, 0] rfl)
set_option maxHeartbeats 4000000 in
set_option maxRecDepth 100000 in
theorem c_X8_numbers (l : Launch) {D : va_G} {ad : Nat → Nat} {cy : Nat → ClassId} {sa va : Nat → Nat} {I : qI} {J : qJ}    {r : Int32} (hf : f_X8_numbers I = some r) : Met l yX8_numbers wsX8_numbers r_X8_numbers (va_Pc [.ref (ad 0)] (qPre D xS ad cy sa va (eX ad cy) I J)) (vp_Si (fun x => x = r)) 0 0 (fun _ => False) := by
  refine Met.ofW (cc := cX8_numbers) (maxL := 3) (ret := (some .int)) (by decide) rfl ?_
  intro p e s m args below meth c s₁ B hml hv
  obtain ⟨rfl, hP, hK, hE, hN⟩ := hv
  have C : qC p s m _ meth c cX8_numbers 3 RX8 wsX8_numbers (some .int) := ⟨⟨B.exec, B.bytes, hml, findClass_of_methodNamed B.named, atoms_spec (ws := wsX8_numbers) B.pre⟩, B.returns, B.notSynchronized⟩
  have C0 := C
  obtain ⟨⟨hx, hb, hml, hown, hts⟩, hr, hlocks⟩ := C0
  have hl := lv_entry ([.ref (ad 0)]) (n := 3) (Nat.le_of_ble_eq_true rfl)
  rw [lg_entry_eq]
  generalize (lg_sl ([.ref (ad 0)]) ++ List.replicate (3 - (lg_sl ([.ref (ad 0)])).length) Slot.unset).toArray = ls at hl ⊢
  have hl : lv_has ls 3 [(0, .ref (ad 0))] := hl
  unfold f_X8_numbers at hf
  refine lv_iconst (v := 0) hx hb dX8_numbers_0 (by decide) ?_
  refine lv_istore_n (lv' := [(1, .int (0 : Int32)), (0, .ref (ad 0))]) hx hb dX8_numbers_1 rfl hl (by decide) rfl (fun ls hl => ?_)
  refine lv_iconst (v := 1) hx hb dX8_numbers_2 (by decide) ?_
  refine lv_istore_n (lv' := [(2, .int (1 : Int32)), (1, .int (0 : Int32)), (0, .ref (ad 0))]) hx hb dX8_numbers_3 rfl hl (by decide) rfl (fun ls hl => ?_)
  exact w_X8_numbers_4 C hK hE hN hP  1000 (0 : Int32) (1 : Int32) _ hf (lv_sub hl [2, 1, 0] rfl)
abbrev r_X8_before : Room := { frames := 2, cells := 0, slots := 0, locals := 44 }
theorem in_X8_before_X8 : ∀ w ∈ u_ws RX8 TX8 12, w ∈ wsX8_before := by decide +kernel
set_option maxHeartbeats 4000000 in
set_option maxRecDepth 100000 in
theorem w_X8_before_20 (C : qC p s m args meth c cX8_before 3 RX8 wsX8_before (some .int)) (hK : qK D cy sa s) (hE : qEnv sa va (qA xS ad) s s.heap) (hN : qN xS ad)   {J : qJ} {r : Int32} {Ie : qI} : ∀ (n : Nat) (x2 : Int32)  (I : qI) (ls : Array Slot) (H : Heap) (locs : List Loc), f_X8_before_20 n x2 I = some (r, Ie) → lv_has ls 3 [(0, .ref (ad 0)), (2, .int x2)] → qP D xS ad (eX ad cy) I J H → va_S (qA xS ad) s.heap H locs → W p l e (headSpec wsX8_before r_X8_before).room s m args below meth c H locs 0 0 (MQ below (va_Qi (S := Unit) (fun x _ => x = r) (fun _ t => qP D xS ad (eX ad cy) Ie J t.heap) (qA xS ad)) args s 0 0 (qA xS ad)) (F0 m 20 ls []) := by
  have C0 := C
  obtain ⟨⟨hx, hb, hml, hown, hts⟩, hr, hlocks⟩ := C0
  intro n
  induction n with
  | zero =>
    intro x2 I ls H locs hf hl hP hS
    rw [f_X8_before_20] at hf
    cases hf
  | succ n ih =>
    intro x2 I ls H locs hf hl hP hS
    rw [f_X8_before_20] at hf
    refine lv_iload_n hx hb dX8_before_20 rfl (lv_at hl 1 rfl) ?_
    refine lv_iconst (v := 1) hx hb dX8_before_21 (by decide) ?_
    refine lv_icmp_lt (tgt := 44) hx hb dX8_before_22 (by decide) (fun cc => ?_) (fun cc => ?_)
    · have hf := (if_ok hf).1 cc
      refine lv_iconst (v := -1) hx hb dX8_before_44 (by decide) ?_
      have e9 := Option.some.inj hf
      have eI9 : I = Ie := (congrArg Prod.snd e9)
      exact W.iret hx hb hr (fun t ht _ => ⟨⟨_, (), rfl, (congrArg Prod.fst e9), by show qP D _ ad _ _ _ t.heap; rw [ht, ← eI9]; exact hP⟩, hS.F ht⟩) hS.2.2 dX8_before_45
    · have hf := (if_ok hf).2 cc
      refine lv_aload_n hx hb dX8_before_25 rfl (lv_at hl 0 rfl) ?_
      refine q_get (C := RX8) (T := TX8) (N := 12) (ci := 8) (v := .ref (ad 1)) hx hb hts in_X8_before_X8 hown hK hP oX8 rfl 0 (by decide) (hts (.fieldLink RX8 12 "RowsOnlyPrimes" "now" "LRowsOnlyPrimes$Bank;") (by decide +kernel)) (fun _ h9 => h9) rfl dX8_before_26 ?_
      refine lv_iload_n hx hb dX8_before_29 rfl (lv_at hl 1 rfl) ?_
      obtain ⟨v1, h2, hf⟩ := bd_ok hf
      refine q_cSi (va_runV (As := [.int x2]) (rest := []) ⟨hx, hb, hml, hown, hts⟩ (c_X2_lets l (D := D) (ad := ad) (cy := cy) (sa := sa) (va := va) (I := I) (J := J) 1 isB_1 x2 h2) (cwV 1 hts gX8_before_X2_lets rfl rfl rfl (by decide +kernel) ⟨Nat.le_of_ble_eq_true rfl, Nat.le_of_ble_eq_true rfl⟩) ⟨qPre_blind _, q_recv hK hP (oX2 isB_1) rfl, fun U hU hW => ⟨rfl, qPre_of hP hK hE hN hS U hU hW⟩⟩ rfl rfl hl.1 rfl (lv_room (Nat.le_of_ble_eq_true rfl)) dX8_before_30 ⟨Nat.le_of_ble_eq_true rfl, Nat.le_of_ble_eq_true rfl⟩) ?_
      refine lv_if_eq (tgt := 38) hx hb dX8_before_33 (by decide) (fun cc => ?_) (fun cc => ?_)
      · have hf := (if_ok hf).1 cc
        refine lv_iinc (v := (x2 + (-1 : Int32))) (lv' := [(2, .int (x2 + (-1 : Int32))), (0, .ref (ad 0))]) hx hb dX8_before_38 hl (k := 1) rfl rfl (by decide) rfl (fun ls hl => ?_)
        refine lv_goto (tgt := 20) hx hb dX8_before_41 (by decide) ?_
        exact ih (x2 + (-1 : Int32)) I _ _ _ hf (lv_sub hl [1, 0] rfl) hP hS
      · have hf := (if_ok hf).2 cc
        refine lv_iload_n hx hb dX8_before_36 rfl (lv_at hl 1 rfl) ?_
        have e9 := Option.some.inj hf
        have eI9 : I = Ie := (congrArg Prod.snd e9)
        exact W.iret hx hb hr (fun t ht _ => ⟨⟨_, (), rfl, (congrArg Prod.fst e9), by show qP D _ ad _ _ _ t.heap; rw [ht, ← eI9]; exact hP⟩, hS.F ht⟩) hS.2.2 dX8_before_37
set_option maxHeartbeats 4000000 in
set_option maxRecDepth 100000 in
theorem c_X8_before (l : Launch) {D : va_G} {ad : Nat → Nat} {cy : Nat → ClassId} {sa va : Nat → Nat} {I : qI} {J : qJ}   (p0 : Int32) {r : Int32} {Ie : qI} (hf : f_X8_before p0 I = some (r, Ie)) : Met l yX8_before wsX8_before r_X8_before (va_Pc [.ref (ad 0), .int p0] (qPre D xS ad cy sa va (eX ad cy) I J)) (va_Qi (S := Unit) (fun x _ => x = r) (fun _ t => qP D xS ad (eX ad cy) Ie J t.heap) (qA xS ad)) 0 0 (qA xS ad) := by
  refine Met.ofW (cc := cX8_before) (maxL := 3) (ret := (some .int)) (by decide) rfl ?_
  intro p e s m args below meth c s₁ B hml hv
  obtain ⟨rfl, hP, hK, hE, hN⟩ := hv
  have C : qC p s m _ meth c cX8_before 3 RX8 wsX8_before (some .int) := ⟨⟨B.exec, B.bytes, hml, findClass_of_methodNamed B.named, atoms_spec (ws := wsX8_before) B.pre⟩, B.returns, B.notSynchronized⟩
  have C0 := C
  obtain ⟨⟨hx, hb, hml, hown, hts⟩, hr, hlocks⟩ := C0
  have hS : va_S (qA xS ad) s.heap s.heap [] := va_S.rf
  have hl := lv_entry ([.ref (ad 0), .int p0]) (n := 3) (Nat.le_of_ble_eq_true rfl)
  rw [lg_entry_eq]
  generalize (lg_sl ([.ref (ad 0), .int p0]) ++ List.replicate (3 - (lg_sl ([.ref (ad 0), .int p0])).length) Slot.unset).toArray = ls at hl ⊢
  have hl : lv_has ls 3 [(0, .ref (ad 0)), (1, .int p0)] := hl
  unfold f_X8_before at hf
  refine lv_iload_n hx hb dX8_before_0 rfl (lv_at hl 1 rfl) ?_
  refine lv_iconst (v := 0) hx hb dX8_before_1 (by decide) ?_
  refine lv_bipush (v := 99) hx hb dX8_before_2 (by decide) ?_
  obtain ⟨v1, h2, hf⟩ := bd_ok hf
  refine q_cSi (va_runS (As := [.int p0, .int (0 : Int32), .int (99 : Int32)]) (rest := []) ⟨hx, hb, hml, hown, hts⟩ (c_X8_within l (D := D) (ad := ad) (cy := cy) (sa := sa) (va := va) (I := I) (J := J) p0 (0 : Int32) (99 : Int32) h2) (va_cwS 3 hts gX8_before_X8_within rfl rfl rfl (by decide +kernel) ⟨Nat.le_of_ble_eq_true rfl, Nat.le_of_ble_eq_true rfl⟩) ⟨qPre_blind _, fun U hU hW => ⟨rfl, qPre_of hP hK hE hN hS U hU hW⟩⟩ rfl rfl hl.1 rfl (lv_room (Nat.le_of_ble_eq_true rfl)) dX8_before_4 ⟨Nat.le_of_ble_eq_true rfl, Nat.le_of_ble_eq_true rfl⟩) ?_
  refine lv_if_ne (tgt := 18) hx hb dX8_before_7 (by decide) (fun cc => ?_) (fun cc => ?_)
  · have hf := (if_ok hf).2 cc
    refine lv_iload_n hx hb dX8_before_18 rfl (lv_at hl 1 rfl) ?_
    refine lv_istore_n (lv' := [(2, .int p0), (0, .ref (ad 0)), (1, .int p0)]) hx hb dX8_before_19 rfl hl (by decide) rfl (fun ls hl => ?_)
    exact w_X8_before_20 C hK hE hN   1000 p0 I _ _ _ hf (lv_sub hl [1, 0] rfl) hP hS
  · have hf := (if_ok hf).1 cc
    refine lv_aload_n hx hb dX8_before_10 rfl (lv_at hl 0 rfl) ?_
    refine lv_sipush (v := -1002) hx hb dX8_before_11 (by decide) ?_
    obtain ⟨v3, I4, h5, hf⟩ := bd2_ok hf
    refine q_cEi (va_runV (As := [.int (-1002 : Int32)]) (rest := []) ⟨hx, hb, hml, hown, hts⟩ (c_X8_refuse l (D := D) (ad := ad) (cy := cy) (sa := sa) (va := va) (I := I) (J := J) (-1002 : Int32) h5) (cwV 1 hts gX8_before_X8_refuse rfl rfl rfl (by decide +kernel) ⟨Nat.le_of_ble_eq_true rfl, Nat.le_of_ble_eq_true rfl⟩) ⟨qPre_blind _, q_recv hK hP oX8 rfl, fun U hU hW => ⟨rfl, qPre_of hP hK hE hN hS U hU hW⟩⟩ rfl rfl hl.1 rfl (lv_room (Nat.le_of_ble_eq_true rfl)) dX8_before_14 ⟨Nat.le_of_ble_eq_true rfl, Nat.le_of_ble_eq_true rfl⟩) hS (fun H locs hP hS => ?_)
    have e9 := Option.some.inj hf
    have eI9 : I4 = Ie := (congrArg Prod.snd e9)
    exact W.iret hx hb hr (fun t ht _ => ⟨⟨_, (), rfl, (congrArg Prod.fst e9), by show qP D _ ad _ _ _ t.heap; rw [ht, ← eI9]; exact hP⟩, hS.F ht⟩) hS.2.2 dX8_before_17
abbrev r_X8_lacks : Room := { frames := 3, cells := 0, slots := 0, locals := 69 }
theorem in_X8_lacks_X2 : ∀ w ∈ u_ws RX2 TX2 13, w ∈ wsX8_lacks := by decide +kernel
theorem in_X8_lacks_X8 : ∀ w ∈ u_ws RX8 TX8 12, w ∈ wsX8_lacks := by decide +kernel
set_option maxHeartbeats 4000000 in
set_option maxRecDepth 100000 in
theorem c_X8_lacks (l : Launch) {D : va_G} {ad : Nat → Nat} {cy : Nat → ClassId} {sa va : Nat → Nat} {I : qI} {J : qJ}   (p0 : Int32) {r : Int32} {Ie : qI} (hf : f_X8_lacks p0 I = some (r, Ie)) : Met l yX8_lacks wsX8_lacks r_X8_lacks (va_Pc [.ref (ad 0), .int p0] (qPre D xS ad cy sa va (eX ad cy) I J)) (va_Qi (S := Unit) (fun x _ => x = r) (fun _ t => qP D xS ad (eX ad cy) Ie J t.heap) (qA xS ad)) 0 0 (qA xS ad) := by
  refine Met.ofW (cc := cX8_lacks) (maxL := 2) (ret := (some .int)) (by decide) rfl ?_
  intro p e s m args below meth c s₁ B hml hv
  obtain ⟨rfl, hP, hK, hE, hN⟩ := hv
  have C : qC p s m _ meth c cX8_lacks 2 RX8 wsX8_lacks (some .int) := ⟨⟨B.exec, B.bytes, hml, findClass_of_methodNamed B.named, atoms_spec (ws := wsX8_lacks) B.pre⟩, B.returns, B.notSynchronized⟩
  have C0 := C
  obtain ⟨⟨hx, hb, hml, hown, hts⟩, hr, hlocks⟩ := C0
  have hS : va_S (qA xS ad) s.heap s.heap [] := va_S.rf
  have hl := lv_entry ([.ref (ad 0), .int p0]) (n := 2) (Nat.le_of_ble_eq_true rfl)
  rw [lg_entry_eq]
  generalize (lg_sl ([.ref (ad 0), .int p0]) ++ List.replicate (2 - (lg_sl ([.ref (ad 0), .int p0])).length) Slot.unset).toArray = ls at hl ⊢
  have hl : lv_has ls 2 [(0, .ref (ad 0)), (1, .int p0)] := hl
  unfold f_X8_lacks at hf
  refine lv_aload_n hx hb dX8_lacks_0 rfl (lv_at hl 0 rfl) ?_
  refine q_get (C := RX8) (T := TX8) (N := 12) (ci := 8) (v := .ref (ad 1)) hx hb hts in_X8_lacks_X8 hown hK hP oX8 rfl 0 (by decide) (hts (.fieldLink RX8 12 "RowsOnlyPrimes" "now" "LRowsOnlyPrimes$Bank;") (by decide +kernel)) (fun _ h9 => h9) rfl dX8_lacks_1 ?_
  refine lv_iload_n hx hb dX8_lacks_4 rfl (lv_at hl 1 rfl) ?_
  obtain ⟨v1, h2, hf⟩ := bd_ok hf
  refine q_cSi (va_runV (As := [.int p0]) (rest := []) ⟨hx, hb, hml, hown, hts⟩ (c_X2_hasGroup l (D := D) (ad := ad) (cy := cy) (sa := sa) (va := va) (I := I) (J := J) 1 isB_1 p0 h2) (cwV 1 hts gX8_lacks_X2_hasGroup rfl rfl rfl (by decide +kernel) ⟨Nat.le_of_ble_eq_true rfl, Nat.le_of_ble_eq_true rfl⟩) ⟨qPre_blind _, q_recv hK hP (oX2 isB_1) rfl, fun U hU hW => ⟨rfl, qPre_of hP hK hE hN hS U hU hW⟩⟩ rfl rfl hl.1 rfl (lv_room (Nat.le_of_ble_eq_true rfl)) dX8_lacks_5 ⟨Nat.le_of_ble_eq_true rfl, Nat.le_of_ble_eq_true rfl⟩) ?_
  refine lv_if_ne (tgt := 19) hx hb dX8_lacks_8 (by decide) (fun cc => ?_) (fun cc => ?_)
  · have hf := (if_ok hf).2 cc
    refine lv_aload_n hx hb dX8_lacks_19 rfl (lv_at hl 0 rfl) ?_
    refine q_get (C := RX8) (T := TX8) (N := 12) (ci := 8) (v := .ref (ad 1)) hx hb hts in_X8_lacks_X8 hown hK hP oX8 rfl 0 (by decide) (hts (.fieldLink RX8 12 "RowsOnlyPrimes" "now" "LRowsOnlyPrimes$Bank;") (by decide +kernel)) (fun _ h9 => h9) rfl dX8_lacks_20 ?_
    refine lv_iload_n hx hb dX8_lacks_23 rfl (lv_at hl 1 rfl) ?_
    refine lv_aload_n hx hb dX8_lacks_24 rfl (lv_at hl 0 rfl) ?_
    refine q_get (C := RX8) (T := TX8) (N := 12) (ci := 8) (v := .ref (ad 1)) hx hb hts in_X8_lacks_X8 hown hK hP oX8 rfl 0 (by decide) (hts (.fieldLink RX8 12 "RowsOnlyPrimes" "now" "LRowsOnlyPrimes$Bank;") (by decide +kernel)) (fun _ h9 => h9) rfl dX8_lacks_25 ?_
    refine q_get (C := RX2) (T := TX2) (N := 13) (ci := 2) (v := .int (I 1 8)) hx hb hts in_X8_lacks_X2 hown hK hP (oX2 isB_1) rfl 8 (by decide) (hts (.fieldLink RX8 250 "RowsOnlyPrimes$Bank" "over" "I") (by decide +kernel)) (fun _ h9 => h9) rfl dX8_lacks_28 ?_
    obtain ⟨v3, h4, hf⟩ := bd_ok hf
    refine q_cSi (va_runV (As := [.int p0, .int (I 1 8)]) (rest := []) ⟨hx, hb, hml, hown, hts⟩ (c_X2_agrees l (D := D) (ad := ad) (cy := cy) (sa := sa) (va := va) (I := I) (J := J) 1 isB_1 p0 (I 1 8) h4) (cwV 2 hts gX8_lacks_X2_agrees rfl rfl rfl (by decide +kernel) ⟨Nat.le_of_ble_eq_true rfl, Nat.le_of_ble_eq_true rfl⟩) ⟨qPre_blind _, q_recv hK hP (oX2 isB_1) rfl, fun U hU hW => ⟨rfl, qPre_of hP hK hE hN hS U hU hW⟩⟩ rfl rfl hl.1 rfl (lv_room (Nat.le_of_ble_eq_true rfl)) dX8_lacks_31 ⟨Nat.le_of_ble_eq_true rfl, Nat.le_of_ble_eq_true rfl⟩) ?_
    refine lv_if_eq (tgt := 57) hx hb dX8_lacks_34 (by decide) (fun cc => ?_) (fun cc => ?_)
    · have hf := (if_ok hf).1 cc
      refine lv_iconst (v := -1) hx hb dX8_lacks_57 (by decide) ?_
      have e9 := Option.some.inj hf
      have eI9 : I = Ie := (congrArg Prod.snd e9)
      exact W.iret hx hb hr (fun t ht _ => ⟨⟨_, (), rfl, (congrArg Prod.fst e9), by show qP D _ ad _ _ _ t.heap; rw [ht, ← eI9]; exact hP⟩, hS.F ht⟩) hS.2.2 dX8_lacks_58
    · have hf := (if_ok hf).2 cc
      refine lv_aload_n hx hb dX8_lacks_37 rfl (lv_at hl 0 rfl) ?_
      refine q_get (C := RX8) (T := TX8) (N := 12) (ci := 8) (v := .ref (ad 1)) hx hb hts in_X8_lacks_X8 hown hK hP oX8 rfl 0 (by decide) (hts (.fieldLink RX8 12 "RowsOnlyPrimes" "now" "LRowsOnlyPrimes$Bank;") (by decide +kernel)) (fun _ h9 => h9) rfl dX8_lacks_38 ?_
      refine lv_aload_n hx hb dX8_lacks_41 rfl (lv_at hl 0 rfl) ?_
      refine q_get (C := RX8) (T := TX8) (N := 12) (ci := 8) (v := .ref (ad 1)) hx hb hts in_X8_lacks_X8 hown hK hP oX8 rfl 0 (by decide) (hts (.fieldLink RX8 12 "RowsOnlyPrimes" "now" "LRowsOnlyPrimes$Bank;") (by decide +kernel)) (fun _ h9 => h9) rfl dX8_lacks_42 ?_
      refine lv_iload_n hx hb dX8_lacks_45 rfl (lv_at hl 1 rfl) ?_
      obtain ⟨v5, h6, hf⟩ := bd_ok hf
      refine q_cSi (va_runV (As := [.int p0]) (rest := [.ref (ad 1)]) ⟨hx, hb, hml, hown, hts⟩ (c_X2_headsTogether l (D := D) (ad := ad) (cy := cy) (sa := sa) (va := va) (I := I) (J := J) 1 isB_1 p0 h6) (cwV 1 hts gX8_lacks_X2_headsTogether rfl rfl rfl (by decide +kernel) ⟨Nat.le_of_ble_eq_true rfl, Nat.le_of_ble_eq_true rfl⟩) ⟨qPre_blind _, q_recv hK hP (oX2 isB_1) rfl, fun U hU hW => ⟨rfl, qPre_of hP hK hE hN hS U hU hW⟩⟩ rfl rfl hl.1 rfl (lv_room (Nat.le_of_ble_eq_true rfl)) dX8_lacks_46 ⟨Nat.le_of_ble_eq_true rfl, Nat.le_of_ble_eq_true rfl⟩) ?_
      refine lv_bipush (v := 99) hx hb dX8_lacks_49 (by decide) ?_
      obtain ⟨v7, h8, hf⟩ := bd_ok hf
      refine q_cSi (va_runV (As := [.int v5, .int (99 : Int32)]) (rest := []) ⟨hx, hb, hml, hown, hts⟩ (c_X2_leastHermits l (D := D) (ad := ad) (cy := cy) (sa := sa) (va := va) (I := I) (J := J) 1 isB_1 v5 (99 : Int32) h8) (cwV 2 hts gX8_lacks_X2_leastHermits rfl rfl rfl (by decide +kernel) ⟨Nat.le_of_ble_eq_true rfl, Nat.le_of_ble_eq_true rfl⟩) ⟨qPre_blind _, q_recv hK hP (oX2 isB_1) rfl, fun U hU hW => ⟨rfl, qPre_of hP hK hE hN hS U hU hW⟩⟩ rfl rfl hl.1 rfl (lv_room (Nat.le_of_ble_eq_true rfl)) dX8_lacks_51 ⟨Nat.le_of_ble_eq_true rfl, Nat.le_of_ble_eq_true rfl⟩) ?_
      refine lv_goto (tgt := 58) hx hb dX8_lacks_54 (by decide) ?_
      have e9 := Option.some.inj hf
      have eI9 : I = Ie := (congrArg Prod.snd e9)
      exact W.iret hx hb hr (fun t ht _ => ⟨⟨_, (), rfl, (congrArg Prod.fst e9), by show qP D _ ad _ _ _ t.heap; rw [ht, ← eI9]; exact hP⟩, hS.F ht⟩) hS.2.2 dX8_lacks_58
  · have hf := (if_ok hf).1 cc
    refine lv_aload_n hx hb dX8_lacks_11 rfl (lv_at hl 0 rfl) ?_
    refine lv_sipush (v := -1002) hx hb dX8_lacks_12 (by decide) ?_
    obtain ⟨v9, I10, h11, hf⟩ := bd2_ok hf
    refine q_cEi (va_runV (As := [.int (-1002 : Int32)]) (rest := []) ⟨hx, hb, hml, hown, hts⟩ (c_X8_refuse l (D := D) (ad := ad) (cy := cy) (sa := sa) (va := va) (I := I) (J := J) (-1002 : Int32) h11) (cwV 1 hts gX8_lacks_X8_refuse rfl rfl rfl (by decide +kernel) ⟨Nat.le_of_ble_eq_true rfl, Nat.le_of_ble_eq_true rfl⟩) ⟨qPre_blind _, q_recv hK hP oX8 rfl, fun U hU hW => ⟨rfl, qPre_of hP hK hE hN hS U hU hW⟩⟩ rfl rfl hl.1 rfl (lv_room (Nat.le_of_ble_eq_true rfl)) dX8_lacks_15 ⟨Nat.le_of_ble_eq_true rfl, Nat.le_of_ble_eq_true rfl⟩) hS (fun H locs hP hS => ?_)
    have e9 := Option.some.inj hf
    have eI9 : I10 = Ie := (congrArg Prod.snd e9)
    exact W.iret hx hb hr (fun t ht _ => ⟨⟨_, (), rfl, (congrArg Prod.fst e9), by show qP D _ ad _ _ _ t.heap; rw [ht, ← eI9]; exact hP⟩, hS.F ht⟩) hS.2.2 dX8_lacks_18
abbrev r_X8_fullest : Room := { frames := 5, cells := 0, slots := 0, locals := 112 }
theorem in_X8_fullest_X8 : ∀ w ∈ u_ws RX8 TX8 12, w ∈ wsX8_fullest := by decide +kernel
set_option maxHeartbeats 4000000 in
set_option maxRecDepth 100000 in
theorem w_X8_fullest_24 (C : qC p s m args meth c cX8_fullest 5 RX8 wsX8_fullest (some .int)) (hK : qK D cy sa s) (hE : qEnv sa va (qA xS ad) s s.heap) (hN : qN xS ad)   {J : qJ} {r : Int32} {Ie : qI} : ∀ (n : Nat) (x1 : Int32) (x2 : Int32) (x3 : Int32) (x4 : Int32)  (I : qI) (ls : Array Slot) (H : Heap) (locs : List Loc), f_X8_fullest_24 n x1 x2 x3 x4 I = some (r, Ie) → lv_has ls 5 [(0, .ref (ad 0)), (1, .int x1), (2, .int x2), (3, .int x3), (4, .int x4)] → qP D xS ad (eX ad cy) I J H → va_S (qA xS ad) s.heap H locs → W p l e (headSpec wsX8_fullest r_X8_fullest).room s m args below meth c H locs 0 0 (MQ below (va_Qi (S := Unit) (fun x _ => x = r) (fun _ t => qP D xS ad (eX ad cy) Ie J t.heap) (qA xS ad)) args s 0 0 (qA xS ad)) (F0 m 24 ls []) := by
  have C0 := C
  obtain ⟨⟨hx, hb, hml, hown, hts⟩, hr, hlocks⟩ := C0
  intro n
  induction n with
  | zero =>
    intro x1 x2 x3 x4 I ls H locs hf hl hP hS
    rw [f_X8_fullest_24] at hf
    cases hf
  | succ n ih =>
    intro x1 x2 x3 x4 I ls H locs hf hl hP hS
    rw [f_X8_fullest_24] at hf
    refine lv_iload hx hb dX8_fullest_24 (lv_at hl 4 rfl) ?_
    refine lv_aload_n hx hb dX8_fullest_26 rfl (lv_at hl 0 rfl) ?_
    refine q_get (C := RX8) (T := TX8) (N := 12) (ci := 8) (v := .ref (ad 1)) hx hb hts in_X8_fullest_X8 hown hK hP oX8 rfl 0 (by decide) (hts (.fieldLink RX8 12 "RowsOnlyPrimes" "now" "LRowsOnlyPrimes$Bank;") (by decide +kernel)) (fun _ h9 => h9) rfl dX8_fullest_27 ?_
    obtain ⟨v1, h2, hf⟩ := bd_ok hf
    refine q_cSi (va_runV (As := []) (rest := [.int x4]) ⟨hx, hb, hml, hown, hts⟩ (c_X2_everybody l (D := D) (ad := ad) (cy := cy) (sa := sa) (va := va) (I := I) (J := J) 1 isB_1 h2) (cwV 0 hts gX8_fullest_X2_everybody rfl rfl rfl (by decide +kernel) ⟨Nat.le_of_ble_eq_true rfl, Nat.le_of_ble_eq_true rfl⟩) ⟨qPre_blind _, q_recv hK hP (oX2 isB_1) rfl, fun U hU hW => ⟨rfl, qPre_of hP hK hE hN hS U hU hW⟩⟩ rfl rfl hl.1 rfl (lv_room (Nat.le_of_ble_eq_true rfl)) dX8_fullest_30 ⟨Nat.le_of_ble_eq_true rfl, Nat.le_of_ble_eq_true rfl⟩) ?_
    refine lv_icmp_gt (tgt := 81) hx hb dX8_fullest_33 (by decide) (fun cc => ?_) (fun cc => ?_)
    · have hf := (if_ok hf).1 cc
      refine lv_iload_n hx hb dX8_fullest_81 rfl (lv_at hl 1 rfl) ?_
      refine lv_if_ne (tgt := 89) hx hb dX8_fullest_82 (by decide) (fun cc => ?_) (fun cc => ?_)
      · have hf := (if_ok hf).2 cc
        refine lv_iload_n hx hb dX8_fullest_89 rfl (lv_at hl 3 rfl) ?_
        have e9 := Option.some.inj hf
        have eI9 : I = Ie := (congrArg Prod.snd e9)
        exact W.iret hx hb hr (fun t ht _ => ⟨⟨_, (), rfl, (congrArg Prod.fst e9), by show qP D _ ad _ _ _ t.heap; rw [ht, ← eI9]; exact hP⟩, hS.F ht⟩) hS.2.2 dX8_fullest_90
      · have hf := (if_ok hf).1 cc
        refine lv_iload_n hx hb dX8_fullest_85 rfl (lv_at hl 2 rfl) ?_
        refine lv_goto (tgt := 90) hx hb dX8_fullest_86 (by decide) ?_
        have e9 := Option.some.inj hf
        have eI9 : I = Ie := (congrArg Prod.snd e9)
        exact W.iret hx hb hr (fun t ht _ => ⟨⟨_, (), rfl, (congrArg Prod.fst e9), by show qP D _ ad _ _ _ t.heap; rw [ht, ← eI9]; exact hP⟩, hS.F ht⟩) hS.2.2 dX8_fullest_90
    · have hf := (if_ok hf).2 cc
      refine lv_aload_n hx hb dX8_fullest_36 rfl (lv_at hl 0 rfl) ?_
      refine q_get (C := RX8) (T := TX8) (N := 12) (ci := 8) (v := .ref (ad 1)) hx hb hts in_X8_fullest_X8 hown hK hP oX8 rfl 0 (by decide) (hts (.fieldLink RX8 12 "RowsOnlyPrimes" "now" "LRowsOnlyPrimes$Bank;") (by decide +kernel)) (fun _ h9 => h9) rfl dX8_fullest_37 ?_
      refine lv_iload hx hb dX8_fullest_40 (lv_at hl 4 rfl) ?_
      obtain ⟨v3, h4, hf⟩ := bd_ok hf
      refine q_cSi (va_runV (As := [.int x4]) (rest := []) ⟨hx, hb, hml, hown, hts⟩ (c_X2_hireNow l (D := D) (ad := ad) (cy := cy) (sa := sa) (va := va) (I := I) (J := J) 1 isB_1 x4 h4) (cwV 1 hts gX8_fullest_X2_hireNow rfl rfl rfl (by decide +kernel) ⟨Nat.le_of_ble_eq_true rfl, Nat.le_of_ble_eq_true rfl⟩) ⟨qPre_blind _, q_recv hK hP (oX2 isB_1) rfl, fun U hU hW => ⟨rfl, qPre_of hP hK hE hN hS U hU hW⟩⟩ rfl rfl hl.1 rfl (lv_room (Nat.le_of_ble_eq_true rfl)) dX8_fullest_42 ⟨Nat.le_of_ble_eq_true rfl, Nat.le_of_ble_eq_true rfl⟩) ?_
      refine lv_iconst (v := -1) hx hb dX8_fullest_45 (by decide) ?_
      refine lv_icmp_eq (tgt := 75) hx hb dX8_fullest_46 (by decide) (fun cc => ?_) (fun cc => ?_)
      · have hf := (if_ok hf).1 cc
        refine lv_iinc (v := (x4 + (1 : Int32))) (lv' := [(4, .int (x4 + (1 : Int32))), (0, .ref (ad 0)), (1, .int x1), (2, .int x2), (3, .int x3)]) hx hb dX8_fullest_75 hl (k := 4) rfl rfl (by decide) rfl (fun ls hl => ?_)
        refine lv_goto (tgt := 24) hx hb dX8_fullest_78 (by decide) ?_
        exact ih x1 x2 x3 (x4 + (1 : Int32)) I _ _ _ hf (lv_sub hl [1, 2, 3, 4, 0] rfl) hP hS
      · have hf := (if_ok hf).2 cc
        refine lv_aload_n hx hb dX8_fullest_49 rfl (lv_at hl 0 rfl) ?_
        refine q_get (C := RX8) (T := TX8) (N := 12) (ci := 8) (v := .ref (ad 1)) hx hb hts in_X8_fullest_X8 hown hK hP oX8 rfl 0 (by decide) (hts (.fieldLink RX8 12 "RowsOnlyPrimes" "now" "LRowsOnlyPrimes$Bank;") (by decide +kernel)) (fun _ h9 => h9) rfl dX8_fullest_50 ?_
        refine lv_iload hx hb dX8_fullest_53 (lv_at hl 4 rfl) ?_
        obtain ⟨v5, h6, hf⟩ := bd_ok hf
        refine q_cSi (va_runV (As := [.int x4]) (rest := []) ⟨hx, hb, hml, hown, hts⟩ (c_X2_headsTogether l (D := D) (ad := ad) (cy := cy) (sa := sa) (va := va) (I := I) (J := J) 1 isB_1 x4 h6) (cwV 1 hts gX8_fullest_X2_headsTogether rfl rfl rfl (by decide +kernel) ⟨Nat.le_of_ble_eq_true rfl, Nat.le_of_ble_eq_true rfl⟩) ⟨qPre_blind _, q_recv hK hP (oX2 isB_1) rfl, fun U hU hW => ⟨rfl, qPre_of hP hK hE hN hS U hU hW⟩⟩ rfl rfl hl.1 rfl (lv_room (Nat.le_of_ble_eq_true rfl)) dX8_fullest_55 ⟨Nat.le_of_ble_eq_true rfl, Nat.le_of_ble_eq_true rfl⟩) ?_
        refine lv_iload_n hx hb dX8_fullest_58 rfl (lv_at hl 3 rfl) ?_
        refine lv_icmp_le (tgt := 75) hx hb dX8_fullest_59 (by decide) (fun cc => ?_) (fun cc => ?_)
        · have hf := (if_ok hf).1 cc
          refine lv_iinc (v := (x4 + (1 : Int32))) (lv' := [(4, .int (x4 + (1 : Int32))), (0, .ref (ad 0)), (1, .int x1), (2, .int x2), (3, .int x3)]) hx hb dX8_fullest_75 hl (k := 4) rfl rfl (by decide) rfl (fun ls hl => ?_)
          refine lv_goto (tgt := 24) hx hb dX8_fullest_78 (by decide) ?_
          exact ih x1 x2 x3 (x4 + (1 : Int32)) I _ _ _ hf (lv_sub hl [1, 2, 3, 4, 0] rfl) hP hS
        · have hf := (if_ok hf).2 cc
          refine lv_iload hx hb dX8_fullest_62 (lv_at hl 4 rfl) ?_
          refine lv_istore_n (lv' := [(2, .int x4), (0, .ref (ad 0)), (1, .int x1), (3, .int x3), (4, .int x4)]) hx hb dX8_fullest_64 rfl hl (by decide) rfl (fun ls hl => ?_)
          refine lv_aload_n hx hb dX8_fullest_65 rfl (lv_at hl 1 rfl) ?_
          refine q_get (C := RX8) (T := TX8) (N := 12) (ci := 8) (v := .ref (ad 1)) hx hb hts in_X8_fullest_X8 hown hK hP oX8 rfl 0 (by decide) (hts (.fieldLink RX8 12 "RowsOnlyPrimes" "now" "LRowsOnlyPrimes$Bank;") (by decide +kernel)) (fun _ h9 => h9) rfl dX8_fullest_66 ?_
          refine lv_iload hx hb dX8_fullest_69 (lv_at hl 4 rfl) ?_
          obtain ⟨v7, h8, hf⟩ := bd_ok hf
          refine q_cSi (va_runV (As := [.int x4]) (rest := []) ⟨hx, hb, hml, hown, hts⟩ (c_X2_headsTogether l (D := D) (ad := ad) (cy := cy) (sa := sa) (va := va) (I := I) (J := J) 1 isB_1 x4 h8) (cwV 1 hts gX8_fullest_X2_headsTogether rfl rfl rfl (by decide +kernel) ⟨Nat.le_of_ble_eq_true rfl, Nat.le_of_ble_eq_true rfl⟩) ⟨qPre_blind _, q_recv hK hP (oX2 isB_1) rfl, fun U hU hW => ⟨rfl, qPre_of hP hK hE hN hS U hU hW⟩⟩ rfl rfl hl.1 rfl (lv_room (Nat.le_of_ble_eq_true rfl)) dX8_fullest_71 ⟨Nat.le_of_ble_eq_true rfl, Nat.le_of_ble_eq_true rfl⟩) ?_
          refine lv_istore_n (lv' := [(3, .int v7), (2, .int x4), (0, .ref (ad 0)), (1, .int x1), (4, .int x4)]) hx hb dX8_fullest_74 rfl hl (by decide) rfl (fun ls hl => ?_)
          refine lv_iinc (v := (x4 + (1 : Int32))) (lv' := [(4, .int (x4 + (1 : Int32))), (3, .int v7), (2, .int x4), (0, .ref (ad 0)), (1, .int x1)]) hx hb dX8_fullest_75 hl (k := 4) rfl rfl (by decide) rfl (fun ls hl => ?_)
          refine lv_goto (tgt := 24) hx hb dX8_fullest_78 (by decide) ?_
          exact ih x1 x4 v7 (x4 + (1 : Int32)) I _ _ _ hf (lv_sub hl [3, 4, 2, 1, 0] rfl) hP hS
set_option maxHeartbeats 4000000 in
set_option maxRecDepth 100000 in
theorem c_X8_fullest (l : Launch) {D : va_G} {ad : Nat → Nat} {cy : Nat → ClassId} {sa va : Nat → Nat} {I : qI} {J : qJ}   (p0 : Int32) {r : Int32} {Ie : qI} (hf : f_X8_fullest p0 I = some (r, Ie)) : Met l yX8_fullest wsX8_fullest r_X8_fullest (va_Pc [.ref (ad 0), .int p0] (qPre D xS ad cy sa va (eX ad cy) I J)) (va_Qi (S := Unit) (fun x _ => x = r) (fun _ t => qP D xS ad (eX ad cy) Ie J t.heap) (qA xS ad)) 0 0 (qA xS ad) := by
  refine Met.ofW (cc := cX8_fullest) (maxL := 5) (ret := (some .int)) (by decide) rfl ?_
  intro p e s m args below meth c s₁ B hml hv
  obtain ⟨rfl, hP, hK, hE, hN⟩ := hv
  have C : qC p s m _ meth c cX8_fullest 5 RX8 wsX8_fullest (some .int) := ⟨⟨B.exec, B.bytes, hml, findClass_of_methodNamed B.named, atoms_spec (ws := wsX8_fullest) B.pre⟩, B.returns, B.notSynchronized⟩
  have C0 := C
  obtain ⟨⟨hx, hb, hml, hown, hts⟩, hr, hlocks⟩ := C0
  have hS : va_S (qA xS ad) s.heap s.heap [] := va_S.rf
  have hl := lv_entry ([.ref (ad 0), .int p0]) (n := 5) (Nat.le_of_ble_eq_true rfl)
  rw [lg_entry_eq]
  generalize (lg_sl ([.ref (ad 0), .int p0]) ++ List.replicate (5 - (lg_sl ([.ref (ad 0), .int p0])).length) Slot.unset).toArray = ls at hl ⊢
  have hl : lv_has ls 5 [(0, .ref (ad 0)), (1, .int p0)] := hl
  unfold f_X8_fullest at hf
  refine lv_iload_n hx hb dX8_fullest_0 rfl (lv_at hl 1 rfl) ?_
  refine lv_iconst (v := 0) hx hb dX8_fullest_1 (by decide) ?_
  refine lv_iconst (v := 1) hx hb dX8_fullest_2 (by decide) ?_
  obtain ⟨v1, h2, hf⟩ := bd_ok hf
  refine q_cSi (va_runS (As := [.int p0, .int (0 : Int32), .int (1 : Int32)]) (rest := []) ⟨hx, hb, hml, hown, hts⟩ (c_X8_within l (D := D) (ad := ad) (cy := cy) (sa := sa) (va := va) (I := I) (J := J) p0 (0 : Int32) (1 : Int32) h2) (va_cwS 3 hts gX8_fullest_X8_within rfl rfl rfl (by decide +kernel) ⟨Nat.le_of_ble_eq_true rfl, Nat.le_of_ble_eq_true rfl⟩) ⟨qPre_blind _, fun U hU hW => ⟨rfl, qPre_of hP hK hE hN hS U hU hW⟩⟩ rfl rfl hl.1 rfl (lv_room (Nat.le_of_ble_eq_true rfl)) dX8_fullest_3 ⟨Nat.le_of_ble_eq_true rfl, Nat.le_of_ble_eq_true rfl⟩) ?_
  refine lv_if_ne (tgt := 17) hx hb dX8_fullest_6 (by decide) (fun cc => ?_) (fun cc => ?_)
  · have hf := (if_ok hf).2 cc
    refine lv_iconst (v := -1) hx hb dX8_fullest_17 (by decide) ?_
    refine lv_istore_n (lv' := [(2, .int (-1 : Int32)), (0, .ref (ad 0)), (1, .int p0)]) hx hb dX8_fullest_18 rfl hl (by decide) rfl (fun ls hl => ?_)
    refine lv_iconst (v := -1) hx hb dX8_fullest_19 (by decide) ?_
    refine lv_istore_n (lv' := [(3, .int (-1 : Int32)), (2, .int (-1 : Int32)), (0, .ref (ad 0)), (1, .int p0)]) hx hb dX8_fullest_20 rfl hl (by decide) rfl (fun ls hl => ?_)
    refine lv_iconst (v := 1) hx hb dX8_fullest_21 (by decide) ?_
    refine lv_istore (lv' := [(4, .int (1 : Int32)), (3, .int (-1 : Int32)), (2, .int (-1 : Int32)), (0, .ref (ad 0)), (1, .int p0)]) hx hb dX8_fullest_22 hl (by decide) rfl (fun ls hl => ?_)
    exact w_X8_fullest_24 C hK hE hN   1000 p0 (-1 : Int32) (-1 : Int32) (1 : Int32) I _ _ _ hf (lv_sub hl [3, 4, 2, 1, 0] rfl) hP hS
  · have hf := (if_ok hf).1 cc
    refine lv_aload_n hx hb dX8_fullest_9 rfl (lv_at hl 0 rfl) ?_
    refine lv_sipush (v := -1002) hx hb dX8_fullest_10 (by decide) ?_
    obtain ⟨v3, I4, h5, hf⟩ := bd2_ok hf
    refine q_cEi (va_runV (As := [.int (-1002 : Int32)]) (rest := []) ⟨hx, hb, hml, hown, hts⟩ (c_X8_refuse l (D := D) (ad := ad) (cy := cy) (sa := sa) (va := va) (I := I) (J := J) (-1002 : Int32) h5) (cwV 1 hts gX8_fullest_X8_refuse rfl rfl rfl (by decide +kernel) ⟨Nat.le_of_ble_eq_true rfl, Nat.le_of_ble_eq_true rfl⟩) ⟨qPre_blind _, q_recv hK hP oX8 rfl, fun U hU hW => ⟨rfl, qPre_of hP hK hE hN hS U hU hW⟩⟩ rfl rfl hl.1 rfl (lv_room (Nat.le_of_ble_eq_true rfl)) dX8_fullest_13 ⟨Nat.le_of_ble_eq_true rfl, Nat.le_of_ble_eq_true rfl⟩) hS (fun H locs hP hS => ?_)
    have e9 := Option.some.inj hf
    have eI9 : I4 = Ie := (congrArg Prod.snd e9)
    exact W.iret hx hb hr (fun t ht _ => ⟨⟨_, (), rfl, (congrArg Prod.fst e9), by show qP D _ ad _ _ _ t.heap; rw [ht, ← eI9]; exact hP⟩, hS.F ht⟩) hS.2.2 dX8_fullest_16
abbrev r_X8_cheapest : Room := { frames := 5, cells := 0, slots := 0, locals := 112 }
theorem in_X8_cheapest_X8 : ∀ w ∈ u_ws RX8 TX8 12, w ∈ wsX8_cheapest := by decide +kernel
set_option maxHeartbeats 4000000 in
set_option maxRecDepth 100000 in
theorem w_X8_cheapest_78 (C : qC p s m args meth c cX8_cheapest 7 RX8 wsX8_cheapest (some .int)) (hK : qK D cy sa s) (hE : qEnv sa va (qA xS ad) s s.heap) (hN : qN xS ad)   {J : qJ} {r : Int32} {Ie : qI} (k24 : Int32 → Int32 → Int32 → Int32 → qI → Option (Int32 × qI)) (hk24 : ∀ (x1 : Int32) (x3 : Int32) (x4 : Int32) (x5 : Int32)  (I : qI) (ls : Array Slot) (H : Heap) (locs : List Loc), k24 x1 x3 x4 x5 I = some (r, Ie) → lv_has ls 7 [(0, .ref (ad 0)), (1, .int x1), (3, .int x3), (4, .int x4), (5, .int x5)] → qP D xS ad (eX ad cy) I J H → va_S (qA xS ad) s.heap H locs → W p l e (headSpec wsX8_cheapest r_X8_cheapest).room s m args below meth c H locs 0 0 (MQ below (va_Qi (S := Unit) (fun x _ => x = r) (fun _ t => qP D xS ad (eX ad cy) Ie J t.heap) (qA xS ad)) args s 0 0 (qA xS ad)) (F0 m 24 ls [])) : ∀ (x1 : Int32) (x5 : Int32) (x6 : Int32)  (I : qI) (ls : Array Slot) (H : Heap) (locs : List Loc), f_X8_cheapest_78 k24 x1 x5 x6 I = some (r, Ie) → lv_has ls 7 [(0, .ref (ad 0)), (1, .int x1), (5, .int x5), (6, .int x6)] → qP D xS ad (eX ad cy) I J H → va_S (qA xS ad) s.heap H locs → W p l e (headSpec wsX8_cheapest r_X8_cheapest).room s m args below meth c H locs 0 0 (MQ below (va_Qi (S := Unit) (fun x _ => x = r) (fun _ t => qP D xS ad (eX ad cy) Ie J t.heap) (qA xS ad)) args s 0 0 (qA xS ad)) (F0 m 78 ls []) := by
  have C0 := C
  obtain ⟨⟨hx, hb, hml, hown, hts⟩, hr, hlocks⟩ := C0
  intro x1 x5 x6 I ls H locs hf hl hP hS
  unfold f_X8_cheapest_78 at hf
  refine lv_iload hx hb dX8_cheapest_78 (lv_at hl 2 rfl) ?_
  refine lv_istore_n (lv' := [(3, .int x5), (0, .ref (ad 0)), (1, .int x1), (5, .int x5), (6, .int x6)]) hx hb dX8_cheapest_80 rfl hl (by decide) rfl (fun ls hl => ?_)
  refine lv_iload hx hb dX8_cheapest_81 (lv_at hl 4 rfl) ?_
  refine lv_istore (lv' := [(4, .int x6), (3, .int x5), (0, .ref (ad 0)), (1, .int x1), (5, .int x5), (6, .int x6)]) hx hb dX8_cheapest_83 hl (by decide) rfl (fun ls hl => ?_)
  refine lv_iinc (v := (x5 + (1 : Int32))) (lv' := [(5, .int (x5 + (1 : Int32))), (4, .int x6), (3, .int x5), (0, .ref (ad 0)), (1, .int x1), (6, .int x6)]) hx hb dX8_cheapest_85 hl (k := 4) rfl rfl (by decide) rfl (fun ls hl => ?_)
  refine lv_goto (tgt := 24) hx hb dX8_cheapest_88 (by decide) ?_
  exact hk24 x1 x5 x6 (x5 + (1 : Int32)) I _ _ _ hf (lv_sub hl [3, 4, 2, 1, 0] rfl) hP hS
set_option maxHeartbeats 4000000 in
set_option maxRecDepth 100000 in
theorem w_X8_cheapest_58 (C : qC p s m args meth c cX8_cheapest 7 RX8 wsX8_cheapest (some .int)) (hK : qK D cy sa s) (hE : qEnv sa va (qA xS ad) s s.heap) (hN : qN xS ad)   {J : qJ} {r : Int32} {Ie : qI} (k24 : Int32 → Int32 → Int32 → Int32 → qI → Option (Int32 × qI)) (hk24 : ∀ (x1 : Int32) (x3 : Int32) (x4 : Int32) (x5 : Int32)  (I : qI) (ls : Array Slot) (H : Heap) (locs : List Loc), k24 x1 x3 x4 x5 I = some (r, Ie) → lv_has ls 7 [(0, .ref (ad 0)), (1, .int x1), (3, .int x3), (4, .int x4), (5, .int x5)] → qP D xS ad (eX ad cy) I J H → va_S (qA xS ad) s.heap H locs → W p l e (headSpec wsX8_cheapest r_X8_cheapest).room s m args below meth c H locs 0 0 (MQ below (va_Qi (S := Unit) (fun x _ => x = r) (fun _ t => qP D xS ad (eX ad cy) Ie J t.heap) (qA xS ad)) args s 0 0 (qA xS ad)) (F0 m 24 ls [])) : ∀ (x1 : Int32) (x3 : Int32) (x4 : Int32) (x5 : Int32) (xs0 : Int32)  (I : qI) (ls : Array Slot) (H : Heap) (locs : List Loc), f_X8_cheapest_58 k24 x1 x3 x4 x5 xs0 I = some (r, Ie) → lv_has ls 7 [(0, .ref (ad 0)), (1, .int x1), (3, .int x3), (4, .int x4), (5, .int x5)] → qP D xS ad (eX ad cy) I J H → va_S (qA xS ad) s.heap H locs → W p l e (headSpec wsX8_cheapest r_X8_cheapest).room s m args below meth c H locs 0 0 (MQ below (va_Qi (S := Unit) (fun x _ => x = r) (fun _ t => qP D xS ad (eX ad cy) Ie J t.heap) (qA xS ad)) args s 0 0 (qA xS ad)) (F0 m 58 ls [.int xs0]) := by
  have C0 := C
  obtain ⟨⟨hx, hb, hml, hown, hts⟩, hr, hlocks⟩ := C0
  intro x1 x3 x4 x5 xs0 I ls H locs hf hl hP hS
  unfold f_X8_cheapest_58 at hf
  refine lv_istore (lv' := [(6, .int xs0), (0, .ref (ad 0)), (1, .int x1), (3, .int x3), (4, .int x4), (5, .int x5)]) hx hb dX8_cheapest_58 hl (by decide) rfl (fun ls hl => ?_)
  refine lv_iload hx hb dX8_cheapest_60 (lv_at hl 0 rfl) ?_
  refine lv_iconst (v := -1) hx hb dX8_cheapest_62 (by decide) ?_
  refine lv_icmp_eq (tgt := 85) hx hb dX8_cheapest_63 (by decide) (fun cc => ?_) (fun cc => ?_)
  · have hf := (if_ok hf).1 cc
    refine lv_iinc (v := (x5 + (1 : Int32))) (lv' := [(5, .int (x5 + (1 : Int32))), (6, .int xs0), (0, .ref (ad 0)), (1, .int x1), (3, .int x3), (4, .int x4)]) hx hb dX8_cheapest_85 hl (k := 5) rfl rfl (by decide) rfl (fun ls hl => ?_)
    refine lv_goto (tgt := 24) hx hb dX8_cheapest_88 (by decide) ?_
    exact hk24 x1 x3 x4 (x5 + (1 : Int32)) I _ _ _ hf (lv_sub hl [2, 3, 4, 5, 0] rfl) hP hS
  · have hf := (if_ok hf).2 cc
    refine lv_iload_n hx hb dX8_cheapest_66 rfl (lv_at hl 3 rfl) ?_
    refine lv_iconst (v := -1) hx hb dX8_cheapest_67 (by decide) ?_
    refine lv_icmp_eq (tgt := 78) hx hb dX8_cheapest_68 (by decide) (fun cc => ?_) (fun cc => ?_)
    · have hf := (if_ok hf).1 cc
      exact w_X8_cheapest_78 C hK hE hN  k24 hk24  x1 x5 xs0 I _ _ _ hf (lv_sub hl [1, 2, 5, 0] rfl) hP hS
    · have hf := (if_ok hf).2 cc
      refine lv_iload hx hb dX8_cheapest_71 (lv_at hl 0 rfl) ?_
      refine lv_iload hx hb dX8_cheapest_73 (lv_at hl 4 rfl) ?_
      refine lv_icmp_ge (tgt := 85) hx hb dX8_cheapest_75 (by decide) (fun cc => ?_) (fun cc => ?_)
      · have hf := (if_ok hf).1 cc
        refine lv_iinc (v := (x5 + (1 : Int32))) (lv' := [(5, .int (x5 + (1 : Int32))), (6, .int xs0), (0, .ref (ad 0)), (1, .int x1), (3, .int x3), (4, .int x4)]) hx hb dX8_cheapest_85 hl (k := 5) rfl rfl (by decide) rfl (fun ls hl => ?_)
        refine lv_goto (tgt := 24) hx hb dX8_cheapest_88 (by decide) ?_
        exact hk24 x1 x3 x4 (x5 + (1 : Int32)) I _ _ _ hf (lv_sub hl [2, 3, 4, 5, 0] rfl) hP hS
      · have hf := (if_ok hf).2 cc
        exact w_X8_cheapest_78 C hK hE hN  k24 hk24  x1 x5 xs0 I _ _ _ hf (lv_sub hl [1, 2, 5, 0] rfl) hP hS
set_option maxHeartbeats 4000000 in
set_option maxRecDepth 100000 in
theorem w_X8_cheapest_24 (C : qC p s m args meth c cX8_cheapest 7 RX8 wsX8_cheapest (some .int)) (hK : qK D cy sa s) (hE : qEnv sa va (qA xS ad) s s.heap) (hN : qN xS ad)   {J : qJ} {r : Int32} {Ie : qI} : ∀ (n : Nat) (x1 : Int32) (x3 : Int32) (x4 : Int32) (x5 : Int32)  (I : qI) (ls : Array Slot) (H : Heap) (locs : List Loc), f_X8_cheapest_24 n x1 x3 x4 x5 I = some (r, Ie) → lv_has ls 7 [(0, .ref (ad 0)), (1, .int x1), (3, .int x3), (4, .int x4), (5, .int x5)] → qP D xS ad (eX ad cy) I J H → va_S (qA xS ad) s.heap H locs → W p l e (headSpec wsX8_cheapest r_X8_cheapest).room s m args below meth c H locs 0 0 (MQ below (va_Qi (S := Unit) (fun x _ => x = r) (fun _ t => qP D xS ad (eX ad cy) Ie J t.heap) (qA xS ad)) args s 0 0 (qA xS ad)) (F0 m 24 ls []) := by
  have C0 := C
  obtain ⟨⟨hx, hb, hml, hown, hts⟩, hr, hlocks⟩ := C0
  intro n
  induction n with
  | zero =>
    intro x1 x3 x4 x5 I ls H locs hf hl hP hS
    rw [f_X8_cheapest_24] at hf
    cases hf
  | succ n ih =>
    intro x1 x3 x4 x5 I ls H locs hf hl hP hS
    rw [f_X8_cheapest_24] at hf
    refine lv_iload hx hb dX8_cheapest_24 (lv_at hl 4 rfl) ?_
    refine lv_aload_n hx hb dX8_cheapest_26 rfl (lv_at hl 0 rfl) ?_
    refine q_get (C := RX8) (T := TX8) (N := 12) (ci := 8) (v := .ref (ad 1)) hx hb hts in_X8_cheapest_X8 hown hK hP oX8 rfl 0 (by decide) (hts (.fieldLink RX8 12 "RowsOnlyPrimes" "now" "LRowsOnlyPrimes$Bank;") (by decide +kernel)) (fun _ h9 => h9) rfl dX8_cheapest_27 ?_
    obtain ⟨v1, h2, hf⟩ := bd_ok hf
    refine q_cSi (va_runV (As := []) (rest := [.int x5]) ⟨hx, hb, hml, hown, hts⟩ (c_X2_everybody l (D := D) (ad := ad) (cy := cy) (sa := sa) (va := va) (I := I) (J := J) 1 isB_1 h2) (cwV 0 hts gX8_cheapest_X2_everybody rfl rfl rfl (by decide +kernel) ⟨Nat.le_of_ble_eq_true rfl, Nat.le_of_ble_eq_true rfl⟩) ⟨qPre_blind _, q_recv hK hP (oX2 isB_1) rfl, fun U hU hW => ⟨rfl, qPre_of hP hK hE hN hS U hU hW⟩⟩ rfl rfl hl.1 rfl (lv_room (Nat.le_of_ble_eq_true rfl)) dX8_cheapest_30 ⟨Nat.le_of_ble_eq_true rfl, Nat.le_of_ble_eq_true rfl⟩) ?_
    refine lv_icmp_gt (tgt := 91) hx hb dX8_cheapest_33 (by decide) (fun cc => ?_) (fun cc => ?_)
    · have hf := (if_ok hf).1 cc
      refine lv_iload_n hx hb dX8_cheapest_91 rfl (lv_at hl 2 rfl) ?_
      have e9 := Option.some.inj hf
      have eI9 : I = Ie := (congrArg Prod.snd e9)
      exact W.iret hx hb hr (fun t ht _ => ⟨⟨_, (), rfl, (congrArg Prod.fst e9), by show qP D _ ad _ _ _ t.heap; rw [ht, ← eI9]; exact hP⟩, hS.F ht⟩) hS.2.2 dX8_cheapest_92
    · have hf := (if_ok hf).2 cc
      refine lv_iload hx hb dX8_cheapest_36 (lv_at hl 4 rfl) ?_
      refine lv_iload_n hx hb dX8_cheapest_38 rfl (lv_at hl 1 rfl) ?_
      obtain ⟨v3, h4, hf⟩ := bd_ok hf
      refine q_cSi (va_runS (As := [.int x5, .int x1]) (rest := []) ⟨hx, hb, hml, hown, hts⟩ (c_X8_has l (D := D) (ad := ad) (cy := cy) (sa := sa) (va := va) (I := I) (J := J) x5 x1 h4) (va_cwS 2 hts gX8_cheapest_X8_has rfl rfl rfl (by decide +kernel) ⟨Nat.le_of_ble_eq_true rfl, Nat.le_of_ble_eq_true rfl⟩) ⟨qPre_blind _, fun U hU hW => ⟨rfl, qPre_of hP hK hE hN hS U hU hW⟩⟩ rfl rfl hl.1 rfl (lv_room (Nat.le_of_ble_eq_true rfl)) dX8_cheapest_39 ⟨Nat.le_of_ble_eq_true rfl, Nat.le_of_ble_eq_true rfl⟩) ?_
      refine lv_if_eq (tgt := 57) hx hb dX8_cheapest_42 (by decide) (fun cc => ?_) (fun cc => ?_)
      · have hf := (if_ok hf).1 cc
        refine lv_iconst (v := -1) hx hb dX8_cheapest_57 (by decide) ?_
        exact w_X8_cheapest_58 C hK hE hN  (f_X8_cheapest_24 n) ih  x1 x3 x4 x5 (-1 : Int32) I _ _ _ hf (lv_sub hl [0, 1, 2, 3, 4] rfl) hP hS
      · have hf := (if_ok hf).2 cc
        refine lv_aload_n hx hb dX8_cheapest_45 rfl (lv_at hl 0 rfl) ?_
        refine q_get (C := RX8) (T := TX8) (N := 12) (ci := 8) (v := .ref (ad 1)) hx hb hts in_X8_cheapest_X8 hown hK hP oX8 rfl 0 (by decide) (hts (.fieldLink RX8 12 "RowsOnlyPrimes" "now" "LRowsOnlyPrimes$Bank;") (by decide +kernel)) (fun _ h9 => h9) rfl dX8_cheapest_46 ?_
        refine lv_iload hx hb dX8_cheapest_49 (lv_at hl 4 rfl) ?_
        obtain ⟨v5, h6, hf⟩ := bd_ok hf
        refine q_cSi (va_runV (As := [.int x5]) (rest := []) ⟨hx, hb, hml, hown, hts⟩ (c_X2_hireNow l (D := D) (ad := ad) (cy := cy) (sa := sa) (va := va) (I := I) (J := J) 1 isB_1 x5 h6) (cwV 1 hts gX8_cheapest_X2_hireNow rfl rfl rfl (by decide +kernel) ⟨Nat.le_of_ble_eq_true rfl, Nat.le_of_ble_eq_true rfl⟩) ⟨qPre_blind _, q_recv hK hP (oX2 isB_1) rfl, fun U hU hW => ⟨rfl, qPre_of hP hK hE hN hS U hU hW⟩⟩ rfl rfl hl.1 rfl (lv_room (Nat.le_of_ble_eq_true rfl)) dX8_cheapest_51 ⟨Nat.le_of_ble_eq_true rfl, Nat.le_of_ble_eq_true rfl⟩) ?_
        refine lv_goto (tgt := 58) hx hb dX8_cheapest_54 (by decide) ?_
        exact w_X8_cheapest_58 C hK hE hN  (f_X8_cheapest_24 n) ih  x1 x3 x4 x5 v5 I _ _ _ hf (lv_sub hl [0, 1, 2, 3, 4] rfl) hP hS
set_option maxHeartbeats 4000000 in
set_option maxRecDepth 100000 in
theorem c_X8_cheapest (l : Launch) {D : va_G} {ad : Nat → Nat} {cy : Nat → ClassId} {sa va : Nat → Nat} {I : qI} {J : qJ}   (p0 : Int32) {r : Int32} {Ie : qI} (hf : f_X8_cheapest p0 I = some (r, Ie)) : Met l yX8_cheapest wsX8_cheapest r_X8_cheapest (va_Pc [.ref (ad 0), .int p0] (qPre D xS ad cy sa va (eX ad cy) I J)) (va_Qi (S := Unit) (fun x _ => x = r) (fun _ t => qP D xS ad (eX ad cy) Ie J t.heap) (qA xS ad)) 0 0 (qA xS ad) := by
  refine Met.ofW (cc := cX8_cheapest) (maxL := 7) (ret := (some .int)) (by decide) rfl ?_
  intro p e s m args below meth c s₁ B hml hv
  obtain ⟨rfl, hP, hK, hE, hN⟩ := hv
  have C : qC p s m _ meth c cX8_cheapest 7 RX8 wsX8_cheapest (some .int) := ⟨⟨B.exec, B.bytes, hml, findClass_of_methodNamed B.named, atoms_spec (ws := wsX8_cheapest) B.pre⟩, B.returns, B.notSynchronized⟩
  have C0 := C
  obtain ⟨⟨hx, hb, hml, hown, hts⟩, hr, hlocks⟩ := C0
  have hS : va_S (qA xS ad) s.heap s.heap [] := va_S.rf
  have hl := lv_entry ([.ref (ad 0), .int p0]) (n := 7) (Nat.le_of_ble_eq_true rfl)
  rw [lg_entry_eq]
  generalize (lg_sl ([.ref (ad 0), .int p0]) ++ List.replicate (7 - (lg_sl ([.ref (ad 0), .int p0])).length) Slot.unset).toArray = ls at hl ⊢
  have hl : lv_has ls 7 [(0, .ref (ad 0)), (1, .int p0)] := hl
  unfold f_X8_cheapest at hf
  refine lv_aload_n hx hb dX8_cheapest_0 rfl (lv_at hl 0 rfl) ?_
  refine lv_iload_n hx hb dX8_cheapest_1 rfl (lv_at hl 1 rfl) ?_
  obtain ⟨v1, h2, hf⟩ := bd_ok hf
  refine q_cSi (va_runV (As := [.int p0]) (rest := []) ⟨hx, hb, hml, hown, hts⟩ (c_X8_waiterTrouble l (D := D) (ad := ad) (cy := cy) (sa := sa) (va := va) (I := I) (J := J) p0 h2) (cwV 1 hts gX8_cheapest_X8_waiterTrouble rfl rfl rfl (by decide +kernel) ⟨Nat.le_of_ble_eq_true rfl, Nat.le_of_ble_eq_true rfl⟩) ⟨qPre_blind _, q_recv hK hP oX8 rfl, fun U hU hW => ⟨rfl, qPre_of hP hK hE hN hS U hU hW⟩⟩ rfl rfl hl.1 rfl (lv_room (Nat.le_of_ble_eq_true rfl)) dX8_cheapest_2 ⟨Nat.le_of_ble_eq_true rfl, Nat.le_of_ble_eq_true rfl⟩) ?_
  refine lv_istore_n (lv' := [(2, .int v1), (0, .ref (ad 0)), (1, .int p0)]) hx hb dX8_cheapest_5 rfl hl (by decide) rfl (fun ls hl => ?_)
  refine lv_iload_n hx hb dX8_cheapest_6 rfl (lv_at hl 0 rfl) ?_
  refine lv_if_eq (tgt := 16) hx hb dX8_cheapest_7 (by decide) (fun cc => ?_) (fun cc => ?_)
  · have hf := (if_ok hf).1 cc
    refine lv_iconst (v := -1) hx hb dX8_cheapest_16 (by decide) ?_
    refine lv_istore_n (lv' := [(3, .int (-1 : Int32)), (2, .int v1), (0, .ref (ad 0)), (1, .int p0)]) hx hb dX8_cheapest_17 rfl hl (by decide) rfl (fun ls hl => ?_)
    refine lv_iconst (v := -1) hx hb dX8_cheapest_18 (by decide) ?_
    refine lv_istore (lv' := [(4, .int (-1 : Int32)), (3, .int (-1 : Int32)), (2, .int v1), (0, .ref (ad 0)), (1, .int p0)]) hx hb dX8_cheapest_19 hl (by decide) rfl (fun ls hl => ?_)
    refine lv_iconst (v := 1) hx hb dX8_cheapest_21 (by decide) ?_
    refine lv_istore (lv' := [(5, .int (1 : Int32)), (4, .int (-1 : Int32)), (3, .int (-1 : Int32)), (2, .int v1), (0, .ref (ad 0)), (1, .int p0)]) hx hb dX8_cheapest_22 hl (by decide) rfl (fun ls hl => ?_)
    exact w_X8_cheapest_24 C hK hE hN   1000 p0 (-1 : Int32) (-1 : Int32) (1 : Int32) I _ _ _ hf (lv_sub hl [4, 5, 2, 1, 0] rfl) hP hS
  · have hf := (if_ok hf).2 cc
    refine lv_aload_n hx hb dX8_cheapest_10 rfl (lv_at hl 1 rfl) ?_
    refine lv_iload_n hx hb dX8_cheapest_11 rfl (lv_at hl 0 rfl) ?_
    obtain ⟨v3, I4, h5, hf⟩ := bd2_ok hf
    refine q_cEi (va_runV (As := [.int v1]) (rest := []) ⟨hx, hb, hml, hown, hts⟩ (c_X8_refuse l (D := D) (ad := ad) (cy := cy) (sa := sa) (va := va) (I := I) (J := J) v1 h5) (cwV 1 hts gX8_cheapest_X8_refuse rfl rfl rfl (by decide +kernel) ⟨Nat.le_of_ble_eq_true rfl, Nat.le_of_ble_eq_true rfl⟩) ⟨qPre_blind _, q_recv hK hP oX8 rfl, fun U hU hW => ⟨rfl, qPre_of hP hK hE hN hS U hU hW⟩⟩ rfl rfl hl.1 rfl (lv_room (Nat.le_of_ble_eq_true rfl)) dX8_cheapest_12 ⟨Nat.le_of_ble_eq_true rfl, Nat.le_of_ble_eq_true rfl⟩) hS (fun H locs hP hS => ?_)
    have e9 := Option.some.inj hf
    have eI9 : I4 = Ie := (congrArg Prod.snd e9)
    exact W.iret hx hb hr (fun t ht _ => ⟨⟨_, (), rfl, (congrArg Prod.fst e9), by show qP D _ ad _ _ _ t.heap; rw [ht, ← eI9]; exact hP⟩, hS.F ht⟩) hS.2.2 dX8_cheapest_15
abbrev r_X8_knot : Room := { frames := 2, cells := 0, slots := 0, locals := 45 }
theorem in_X8_knot_X8 : ∀ w ∈ u_ws RX8 TX8 12, w ∈ wsX8_knot := by decide +kernel
set_option maxHeartbeats 4000000 in
set_option maxRecDepth 100000 in
theorem c_X8_knot (l : Launch) {D : va_G} {ad : Nat → Nat} {cy : Nat → ClassId} {sa va : Nat → Nat} {I : qI} {J : qJ}   (p0 : Int32) {r : Int32} {Ie : qI} (hf : f_X8_knot p0 I = some (r, Ie)) : Met l yX8_knot wsX8_knot r_X8_knot (va_Pc [.ref (ad 0), .int p0] (qPre D xS ad cy sa va (eX ad cy) I J)) (va_Qi (S := Unit) (fun x _ => x = r) (fun _ t => qP D xS ad (eX ad cy) Ie J t.heap) (qA xS ad)) 0 0 (qA xS ad) := by
  refine Met.ofW (cc := cX8_knot) (maxL := 2) (ret := (some .int)) (by decide) rfl ?_
  intro p e s m args below meth c s₁ B hml hv
  obtain ⟨rfl, hP, hK, hE, hN⟩ := hv
  have C : qC p s m _ meth c cX8_knot 2 RX8 wsX8_knot (some .int) := ⟨⟨B.exec, B.bytes, hml, findClass_of_methodNamed B.named, atoms_spec (ws := wsX8_knot) B.pre⟩, B.returns, B.notSynchronized⟩
  have C0 := C
  obtain ⟨⟨hx, hb, hml, hown, hts⟩, hr, hlocks⟩ := C0
  have hS : va_S (qA xS ad) s.heap s.heap [] := va_S.rf
  have hl := lv_entry ([.ref (ad 0), .int p0]) (n := 2) (Nat.le_of_ble_eq_true rfl)
  rw [lg_entry_eq]
  generalize (lg_sl ([.ref (ad 0), .int p0]) ++ List.replicate (2 - (lg_sl ([.ref (ad 0), .int p0])).length) Slot.unset).toArray = ls at hl ⊢
  have hl : lv_has ls 2 [(0, .ref (ad 0)), (1, .int p0)] := hl
  unfold f_X8_knot at hf
  refine lv_aload_n hx hb dX8_knot_0 rfl (lv_at hl 0 rfl) ?_
  refine q_get (C := RX8) (T := TX8) (N := 12) (ci := 8) (v := .ref (ad 1)) hx hb hts in_X8_knot_X8 hown hK hP oX8 rfl 0 (by decide) (hts (.fieldLink RX8 12 "RowsOnlyPrimes" "now" "LRowsOnlyPrimes$Bank;") (by decide +kernel)) (fun _ h9 => h9) rfl dX8_knot_1 ?_
  refine lv_iload_n hx hb dX8_knot_4 rfl (lv_at hl 1 rfl) ?_
  obtain ⟨v1, h2, hf⟩ := bd_ok hf
  refine q_cSi (va_runV (As := [.int p0]) (rest := []) ⟨hx, hb, hml, hown, hts⟩ (c_X2_hasParty l (D := D) (ad := ad) (cy := cy) (sa := sa) (va := va) (I := I) (J := J) 1 isB_1 p0 h2) (cwV 1 hts gX8_knot_X2_hasParty rfl rfl rfl (by decide +kernel) ⟨Nat.le_of_ble_eq_true rfl, Nat.le_of_ble_eq_true rfl⟩) ⟨qPre_blind _, q_recv hK hP (oX2 isB_1) rfl, fun U hU hW => ⟨rfl, qPre_of hP hK hE hN hS U hU hW⟩⟩ rfl rfl hl.1 rfl (lv_room (Nat.le_of_ble_eq_true rfl)) dX8_knot_5 ⟨Nat.le_of_ble_eq_true rfl, Nat.le_of_ble_eq_true rfl⟩) ?_
  refine lv_if_eq (tgt := 22) hx hb dX8_knot_8 (by decide) (fun cc => ?_) (fun cc => ?_)
  · have hf := (if_ok hf).1 cc
    refine lv_aload_n hx hb dX8_knot_22 rfl (lv_at hl 0 rfl) ?_
    refine lv_sipush (v := -1002) hx hb dX8_knot_23 (by decide) ?_
    obtain ⟨v3, I4, h5, hf⟩ := bd2_ok hf
    refine q_cEi (va_runV (As := [.int (-1002 : Int32)]) (rest := []) ⟨hx, hb, hml, hown, hts⟩ (c_X8_refuse l (D := D) (ad := ad) (cy := cy) (sa := sa) (va := va) (I := I) (J := J) (-1002 : Int32) h5) (cwV 1 hts gX8_knot_X8_refuse rfl rfl rfl (by decide +kernel) ⟨Nat.le_of_ble_eq_true rfl, Nat.le_of_ble_eq_true rfl⟩) ⟨qPre_blind _, q_recv hK hP oX8 rfl, fun U hU hW => ⟨rfl, qPre_of hP hK hE hN hS U hU hW⟩⟩ rfl rfl hl.1 rfl (lv_room (Nat.le_of_ble_eq_true rfl)) dX8_knot_26 ⟨Nat.le_of_ble_eq_true rfl, Nat.le_of_ble_eq_true rfl⟩) hS (fun H locs hP hS => ?_)
    have e9 := Option.some.inj hf
    have eI9 : I4 = Ie := (congrArg Prod.snd e9)
    exact W.iret hx hb hr (fun t ht _ => ⟨⟨_, (), rfl, (congrArg Prod.fst e9), by show qP D _ ad _ _ _ t.heap; rw [ht, ← eI9]; exact hP⟩, hS.F ht⟩) hS.2.2 dX8_knot_29
  · have hf := (if_ok hf).2 cc
    refine lv_aload_n hx hb dX8_knot_11 rfl (lv_at hl 0 rfl) ?_
    refine q_get (C := RX8) (T := TX8) (N := 12) (ci := 8) (v := .ref (ad 1)) hx hb hts in_X8_knot_X8 hown hK hP oX8 rfl 0 (by decide) (hts (.fieldLink RX8 12 "RowsOnlyPrimes" "now" "LRowsOnlyPrimes$Bank;") (by decide +kernel)) (fun _ h9 => h9) rfl dX8_knot_12 ?_
    refine lv_iload_n hx hb dX8_knot_15 rfl (lv_at hl 1 rfl) ?_
    obtain ⟨v6, h7, hf⟩ := bd_ok hf
    refine q_cSi (va_runV (As := [.int p0]) (rest := []) ⟨hx, hb, hml, hown, hts⟩ (c_X2_knotOf l (D := D) (ad := ad) (cy := cy) (sa := sa) (va := va) (I := I) (J := J) 1 isB_1 p0 h7) (cwV 1 hts gX8_knot_X2_knotOf rfl rfl rfl (by decide +kernel) ⟨Nat.le_of_ble_eq_true rfl, Nat.le_of_ble_eq_true rfl⟩) ⟨qPre_blind _, q_recv hK hP (oX2 isB_1) rfl, fun U hU hW => ⟨rfl, qPre_of hP hK hE hN hS U hU hW⟩⟩ rfl rfl hl.1 rfl (lv_room (Nat.le_of_ble_eq_true rfl)) dX8_knot_16 ⟨Nat.le_of_ble_eq_true rfl, Nat.le_of_ble_eq_true rfl⟩) ?_
    refine lv_goto (tgt := 29) hx hb dX8_knot_19 (by decide) ?_
    have e9 := Option.some.inj hf
    have eI9 : I = Ie := (congrArg Prod.snd e9)
    exact W.iret hx hb hr (fun t ht _ => ⟨⟨_, (), rfl, (congrArg Prod.fst e9), by show qP D _ ad _ _ _ t.heap; rw [ht, ← eI9]; exact hP⟩, hS.F ht⟩) hS.2.2 dX8_knot_29
abbrev r_X8_torn : Room := { frames := 2, cells := 0, slots := 0, locals := 45 }
theorem in_X8_torn_X2 : ∀ w ∈ u_ws RX2 TX2 13, w ∈ wsX8_torn := by decide +kernel
theorem in_X8_torn_X8 : ∀ w ∈ u_ws RX8 TX8 12, w ∈ wsX8_torn := by decide +kernel
set_option maxHeartbeats 4000000 in
set_option maxRecDepth 100000 in
theorem w_X8_torn_2 (C : qC p s m args meth c cX8_torn 2 RX8 wsX8_torn (some .int)) (hK : qK D cy sa s) (hE : qEnv sa va (qA xS ad) s s.heap) (hN : qN xS ad)   {I : qI} {J : qJ} (hP : qP D xS ad (eX ad cy) I J s.heap) {r : Int32} : ∀ (n : Nat) (x1 : Int32)  (ls : Array Slot), f_X8_torn_2 I n x1 = some r → lv_has ls 2 [(0, .ref (ad 0)), (1, .int x1)] → W p l e (headSpec wsX8_torn r_X8_torn).room s m args below meth c s.heap [] 0 0 (MQ below (vp_Si (fun x => x = r)) args s 0 0 (fun _ => False)) (F0 m 2 ls []) := by
  have C0 := C
  obtain ⟨⟨hx, hb, hml, hown, hts⟩, hr, hlocks⟩ := C0
  intro n
  induction n with
  | zero =>
    intro x1 ls hf hl
    rw [f_X8_torn_2] at hf
    cases hf
  | succ n ih =>
    intro x1 ls hf hl
    rw [f_X8_torn_2] at hf
    refine lv_iload_n hx hb dX8_torn_2 rfl (lv_at hl 1 rfl) ?_
    refine lv_aload_n hx hb dX8_torn_3 rfl (lv_at hl 0 rfl) ?_
    refine q_get (C := RX8) (T := TX8) (N := 12) (ci := 8) (v := .ref (ad 1)) hx hb hts in_X8_torn_X8 hown hK hP oX8 rfl 0 (by decide) (hts (.fieldLink RX8 12 "RowsOnlyPrimes" "now" "LRowsOnlyPrimes$Bank;") (by decide +kernel)) (fun _ h9 => h9) rfl dX8_torn_4 ?_
    refine q_get (C := RX2) (T := TX2) (N := 13) (ci := 2) (v := .int (I 1 7)) hx hb hts in_X8_torn_X2 hown hK hP (oX2 isB_1) rfl 7 (by decide) (hts (.fieldLink RX8 232 "RowsOnlyPrimes$Bank" "size" "I") (by decide +kernel)) (fun _ h9 => h9) rfl dX8_torn_7 ?_
    refine lv_icmp_ge (tgt := 42) hx hb dX8_torn_10 (by decide) (fun cc => ?_) (fun cc => ?_)
    · have hf := (if_ok hf).1 cc
      refine lv_iconst (v := 0) hx hb dX8_torn_42 (by decide) ?_
      exact W.iret hx hb hr (fun t ht _ => ⟨_, rfl, Option.some.inj hf, ht⟩) (fun _ h => by cases h) dX8_torn_43
    · have hf := (if_ok hf).2 cc
      refine lv_aload_n hx hb dX8_torn_13 rfl (lv_at hl 0 rfl) ?_
      refine q_get (C := RX8) (T := TX8) (N := 12) (ci := 8) (v := .ref (ad 1)) hx hb hts in_X8_torn_X8 hown hK hP oX8 rfl 0 (by decide) (hts (.fieldLink RX8 12 "RowsOnlyPrimes" "now" "LRowsOnlyPrimes$Bank;") (by decide +kernel)) (fun _ h9 => h9) rfl dX8_torn_14 ?_
      refine q_get (C := RX2) (T := TX2) (N := 13) (ci := 2) (v := .ref (ad (1 + 6))) hx hb hts in_X8_torn_X2 hown hK hP (oX2 isB_1) rfl 5 (by decide) (hts (.fieldLink RX8 208 "RowsOnlyPrimes$Bank" "shuns" "[I") (by decide +kernel)) (fun _ h9 => h9) rfl dX8_torn_17 ?_
      refine lv_iload_n hx hb dX8_torn_20 rfl (lv_at hl 1 rfl) ?_
      obtain ⟨g1, hf⟩ := gd_ok hf
      refine q_iald hx hb hK hP (aX2_6 isB_1) g1 dX8_torn_21 ?_
      refine lv_aload_n hx hb dX8_torn_22 rfl (lv_at hl 0 rfl) ?_
      refine q_get (C := RX8) (T := TX8) (N := 12) (ci := 8) (v := .ref (ad 1)) hx hb hts in_X8_torn_X8 hown hK hP oX8 rfl 0 (by decide) (hts (.fieldLink RX8 12 "RowsOnlyPrimes" "now" "LRowsOnlyPrimes$Bank;") (by decide +kernel)) (fun _ h9 => h9) rfl dX8_torn_23 ?_
      refine lv_iload_n hx hb dX8_torn_26 rfl (lv_at hl 1 rfl) ?_
      obtain ⟨v2, h3, hf⟩ := bd_ok hf
      refine q_cSi (va_runV (As := [.int x1]) (rest := [.int (I (1 + 6) x1.toNatClampNeg)]) ⟨hx, hb, hml, hown, hts⟩ (c_X2_knotOf l (D := D) (ad := ad) (cy := cy) (sa := sa) (va := va) (I := I) (J := J) 1 isB_1 x1 h3) (cwV 1 hts gX8_torn_X2_knotOf rfl rfl rfl (by decide +kernel) ⟨Nat.le_of_ble_eq_true rfl, Nat.le_of_ble_eq_true rfl⟩) ⟨qPre_blind _, q_recv hK hP (oX2 isB_1) rfl, fun U hU hW => ⟨rfl, qPre_of hP hK hE hN va_S.rf U hU hW⟩⟩ rfl rfl hl.1 rfl (lv_room (Nat.le_of_ble_eq_true rfl)) dX8_torn_27 ⟨Nat.le_of_ble_eq_true rfl, Nat.le_of_ble_eq_true rfl⟩) ?_
      refine lv_iand hx hb dX8_torn_30 ?_
      refine lv_if_eq (tgt := 36) hx hb dX8_torn_31 (by decide) (fun cc => ?_) (fun cc => ?_)
      · have hf := (if_ok hf).1 cc
        refine lv_iinc (v := (x1 + (1 : Int32))) (lv' := [(1, .int (x1 + (1 : Int32))), (0, .ref (ad 0))]) hx hb dX8_torn_36 hl (k := 1) rfl rfl (by decide) rfl (fun ls hl => ?_)
        refine lv_goto (tgt := 2) hx hb dX8_torn_39 (by decide) ?_
        exact ih (x1 + (1 : Int32)) _ hf (lv_sub hl [1, 0] rfl)
      · have hf := (if_ok hf).2 cc
        refine lv_iconst (v := 1) hx hb dX8_torn_34 (by decide) ?_
        exact W.iret hx hb hr (fun t ht _ => ⟨_, rfl, Option.some.inj hf, ht⟩) (fun _ h => by cases h) dX8_torn_35
set_option maxHeartbeats 4000000 in
set_option maxRecDepth 100000 in
theorem c_X8_torn (l : Launch) {D : va_G} {ad : Nat → Nat} {cy : Nat → ClassId} {sa va : Nat → Nat} {I : qI} {J : qJ}    {r : Int32} (hf : f_X8_torn I = some r) : Met l yX8_torn wsX8_torn r_X8_torn (va_Pc [.ref (ad 0)] (qPre D xS ad cy sa va (eX ad cy) I J)) (vp_Si (fun x => x = r)) 0 0 (fun _ => False) := by
  refine Met.ofW (cc := cX8_torn) (maxL := 2) (ret := (some .int)) (by decide) rfl ?_
  intro p e s m args below meth c s₁ B hml hv
  obtain ⟨rfl, hP, hK, hE, hN⟩ := hv
  have C : qC p s m _ meth c cX8_torn 2 RX8 wsX8_torn (some .int) := ⟨⟨B.exec, B.bytes, hml, findClass_of_methodNamed B.named, atoms_spec (ws := wsX8_torn) B.pre⟩, B.returns, B.notSynchronized⟩
  have C0 := C
  obtain ⟨⟨hx, hb, hml, hown, hts⟩, hr, hlocks⟩ := C0
  have hl := lv_entry ([.ref (ad 0)]) (n := 2) (Nat.le_of_ble_eq_true rfl)
  rw [lg_entry_eq]
  generalize (lg_sl ([.ref (ad 0)]) ++ List.replicate (2 - (lg_sl ([.ref (ad 0)])).length) Slot.unset).toArray = ls at hl ⊢
  have hl : lv_has ls 2 [(0, .ref (ad 0))] := hl
  unfold f_X8_torn at hf
  refine lv_iconst (v := 0) hx hb dX8_torn_0 (by decide) ?_
  refine lv_istore_n (lv' := [(1, .int (0 : Int32)), (0, .ref (ad 0))]) hx hb dX8_torn_1 rfl hl (by decide) rfl (fun ls hl => ?_)
  exact w_X8_torn_2 C hK hE hN hP  1000 (0 : Int32) _ hf (lv_sub hl [1, 0] rfl)
abbrev r_X8_fit : Room := { frames := 3, cells := 0, slots := 0, locals := 64 }
theorem in_X8_fit_X2 : ∀ w ∈ u_ws RX2 TX2 13, w ∈ wsX8_fit := by decide +kernel
theorem in_X8_fit_X8 : ∀ w ∈ u_ws RX8 TX8 12, w ∈ wsX8_fit := by decide +kernel
set_option maxHeartbeats 4000000 in
set_option maxRecDepth 100000 in
theorem w_X8_fit_40 (C : qC p s m args meth c cX8_fit 4 RX8 wsX8_fit (some .int)) (hK : qK D cy sa s) (hE : qEnv sa va (qA xS ad) s s.heap) (hN : qN xS ad)   {J : qJ} {r : Int32} {Ie : qI} : ∀ (n : Nat) (x1 : Int32) (x3 : Int32)  (I : qI) (ls : Array Slot) (H : Heap) (locs : List Loc), f_X8_fit_40 n x1 x3 I = some (r, Ie) → lv_has ls 4 [(0, .ref (ad 0)), (1, .int x1), (3, .int x3)] → qP D xS ad (eX ad cy) I J H → va_S (qA xS ad) s.heap H locs → W p l e (headSpec wsX8_fit r_X8_fit).room s m args below meth c H locs 0 0 (MQ below (va_Qi (S := Unit) (fun x _ => x = r) (fun _ t => qP D xS ad (eX ad cy) Ie J t.heap) (qA xS ad)) args s 0 0 (qA xS ad)) (F0 m 40 ls []) := by
  have C0 := C
  obtain ⟨⟨hx, hb, hml, hown, hts⟩, hr, hlocks⟩ := C0
  intro n
  induction n with
  | zero =>
    intro x1 x3 I ls H locs hf hl hP hS
    rw [f_X8_fit_40] at hf
    cases hf
  | succ n ih =>
    intro x1 x3 I ls H locs hf hl hP hS
    rw [f_X8_fit_40] at hf
    refine lv_iload_n hx hb dX8_fit_40 rfl (lv_at hl 2 rfl) ?_
    refine lv_bipush (v := 40) hx hb dX8_fit_41 (by decide) ?_
    refine lv_icmp_gt (tgt := 73) hx hb dX8_fit_43 (by decide) (fun cc => ?_) (fun cc => ?_)
    · have hf := (if_ok hf).1 cc
      refine lv_iconst (v := -1) hx hb dX8_fit_73 (by decide) ?_
      have e9 := Option.some.inj hf
      have eI9 : I = Ie := (congrArg Prod.snd e9)
      exact W.iret hx hb hr (fun t ht _ => ⟨⟨_, (), rfl, (congrArg Prod.fst e9), by show qP D _ ad _ _ _ t.heap; rw [ht, ← eI9]; exact hP⟩, hS.F ht⟩) hS.2.2 dX8_fit_74
    · have hf := (if_ok hf).2 cc
      refine lv_aload_n hx hb dX8_fit_46 rfl (lv_at hl 0 rfl) ?_
      refine q_get (C := RX8) (T := TX8) (N := 12) (ci := 8) (v := .ref (ad 1)) hx hb hts in_X8_fit_X8 hown hK hP oX8 rfl 0 (by decide) (hts (.fieldLink RX8 12 "RowsOnlyPrimes" "now" "LRowsOnlyPrimes$Bank;") (by decide +kernel)) (fun _ h9 => h9) rfl dX8_fit_47 ?_
      refine lv_aload_n hx hb dX8_fit_50 rfl (lv_at hl 0 rfl) ?_
      refine q_get (C := RX8) (T := TX8) (N := 12) (ci := 8) (v := .ref (ad 1)) hx hb hts in_X8_fit_X8 hown hK hP oX8 rfl 0 (by decide) (hts (.fieldLink RX8 12 "RowsOnlyPrimes" "now" "LRowsOnlyPrimes$Bank;") (by decide +kernel)) (fun _ h9 => h9) rfl dX8_fit_51 ?_
      refine lv_iload_n hx hb dX8_fit_54 rfl (lv_at hl 1 rfl) ?_
      refine lv_iload_n hx hb dX8_fit_55 rfl (lv_at hl 2 rfl) ?_
      obtain ⟨v1, h2, hf⟩ := bd_ok hf
      refine q_cSi (va_runV (As := [.int x1, .int x3]) (rest := [.ref (ad 1)]) ⟨hx, hb, hml, hown, hts⟩ (c_X2_headsIf l (D := D) (ad := ad) (cy := cy) (sa := sa) (va := va) (I := I) (J := J) 1 isB_1 x1 x3 h2) (cwV 2 hts gX8_fit_X2_headsIf rfl rfl rfl (by decide +kernel) ⟨Nat.le_of_ble_eq_true rfl, Nat.le_of_ble_eq_true rfl⟩) ⟨qPre_blind _, q_recv hK hP (oX2 isB_1) rfl, fun U hU hW => ⟨rfl, qPre_of hP hK hE hN hS U hU hW⟩⟩ rfl rfl hl.1 rfl (lv_room (Nat.le_of_ble_eq_true rfl)) dX8_fit_56 ⟨Nat.le_of_ble_eq_true rfl, Nat.le_of_ble_eq_true rfl⟩) ?_
      obtain ⟨v3, h4, hf⟩ := bd_ok hf
      refine q_cSi (va_runV (As := [.int v1]) (rest := []) ⟨hx, hb, hml, hown, hts⟩ (c_X2_lets l (D := D) (ad := ad) (cy := cy) (sa := sa) (va := va) (I := I) (J := J) 1 isB_1 v1 h4) (cwV 1 hts gX8_fit_X2_lets rfl rfl rfl (by decide +kernel) ⟨Nat.le_of_ble_eq_true rfl, Nat.le_of_ble_eq_true rfl⟩) ⟨qPre_blind _, q_recv hK hP (oX2 isB_1) rfl, fun U hU hW => ⟨rfl, qPre_of hP hK hE hN hS U hU hW⟩⟩ rfl rfl hl.1 rfl (lv_room (Nat.le_of_ble_eq_true rfl)) dX8_fit_59 ⟨Nat.le_of_ble_eq_true rfl, Nat.le_of_ble_eq_true rfl⟩) ?_
      refine lv_if_eq (tgt := 67) hx hb dX8_fit_62 (by decide) (fun cc => ?_) (fun cc => ?_)
      · have hf := (if_ok hf).1 cc
        refine lv_iinc (v := (x3 + (1 : Int32))) (lv' := [(3, .int (x3 + (1 : Int32))), (0, .ref (ad 0)), (1, .int x1)]) hx hb dX8_fit_67 hl (k := 2) rfl rfl (by decide) rfl (fun ls hl => ?_)
        refine lv_goto (tgt := 40) hx hb dX8_fit_70 (by decide) ?_
        exact ih x1 (x3 + (1 : Int32)) I _ _ _ hf (lv_sub hl [1, 2, 0] rfl) hP hS
      · have hf := (if_ok hf).2 cc
        refine lv_iload_n hx hb dX8_fit_65 rfl (lv_at hl 2 rfl) ?_
        have e9 := Option.some.inj hf
        have eI9 : I = Ie := (congrArg Prod.snd e9)
        exact W.iret hx hb hr (fun t ht _ => ⟨⟨_, (), rfl, (congrArg Prod.fst e9), by show qP D _ ad _ _ _ t.heap; rw [ht, ← eI9]; exact hP⟩, hS.F ht⟩) hS.2.2 dX8_fit_66
set_option maxHeartbeats 4000000 in
set_option maxRecDepth 100000 in
theorem c_X8_fit (l : Launch) {D : va_G} {ad : Nat → Nat} {cy : Nat → ClassId} {sa va : Nat → Nat} {I : qI} {J : qJ}   (p0 : Int32) {r : Int32} {Ie : qI} (hf : f_X8_fit p0 I = some (r, Ie)) : Met l yX8_fit wsX8_fit r_X8_fit (va_Pc [.ref (ad 0), .int p0] (qPre D xS ad cy sa va (eX ad cy) I J)) (va_Qi (S := Unit) (fun x _ => x = r) (fun _ t => qP D xS ad (eX ad cy) Ie J t.heap) (qA xS ad)) 0 0 (qA xS ad) := by
  refine Met.ofW (cc := cX8_fit) (maxL := 4) (ret := (some .int)) (by decide) rfl ?_
  intro p e s m args below meth c s₁ B hml hv
  obtain ⟨rfl, hP, hK, hE, hN⟩ := hv
  have C : qC p s m _ meth c cX8_fit 4 RX8 wsX8_fit (some .int) := ⟨⟨B.exec, B.bytes, hml, findClass_of_methodNamed B.named, atoms_spec (ws := wsX8_fit) B.pre⟩, B.returns, B.notSynchronized⟩
  have C0 := C
  obtain ⟨⟨hx, hb, hml, hown, hts⟩, hr, hlocks⟩ := C0
  have hS : va_S (qA xS ad) s.heap s.heap [] := va_S.rf
  have hl := lv_entry ([.ref (ad 0), .int p0]) (n := 4) (Nat.le_of_ble_eq_true rfl)
  rw [lg_entry_eq]
  generalize (lg_sl ([.ref (ad 0), .int p0]) ++ List.replicate (4 - (lg_sl ([.ref (ad 0), .int p0])).length) Slot.unset).toArray = ls at hl ⊢
  have hl : lv_has ls 4 [(0, .ref (ad 0)), (1, .int p0)] := hl
  unfold f_X8_fit at hf
  refine lv_aload_n hx hb dX8_fit_0 rfl (lv_at hl 0 rfl) ?_
  refine lv_iload_n hx hb dX8_fit_1 rfl (lv_at hl 1 rfl) ?_
  obtain ⟨v1, h2, hf⟩ := bd_ok hf
  refine q_cSi (va_runV (As := [.int p0]) (rest := []) ⟨hx, hb, hml, hown, hts⟩ (c_X8_waiterTrouble l (D := D) (ad := ad) (cy := cy) (sa := sa) (va := va) (I := I) (J := J) p0 h2) (cwV 1 hts gX8_fit_X8_waiterTrouble rfl rfl rfl (by decide +kernel) ⟨Nat.le_of_ble_eq_true rfl, Nat.le_of_ble_eq_true rfl⟩) ⟨qPre_blind _, q_recv hK hP oX8 rfl, fun U hU hW => ⟨rfl, qPre_of hP hK hE hN hS U hU hW⟩⟩ rfl rfl hl.1 rfl (lv_room (Nat.le_of_ble_eq_true rfl)) dX8_fit_2 ⟨Nat.le_of_ble_eq_true rfl, Nat.le_of_ble_eq_true rfl⟩) ?_
  refine lv_istore_n (lv' := [(2, .int v1), (0, .ref (ad 0)), (1, .int p0)]) hx hb dX8_fit_5 rfl hl (by decide) rfl (fun ls hl => ?_)
  refine lv_iload_n hx hb dX8_fit_6 rfl (lv_at hl 0 rfl) ?_
  refine lv_if_eq (tgt := 16) hx hb dX8_fit_7 (by decide) (fun cc => ?_) (fun cc => ?_)
  · have hf := (if_ok hf).1 cc
    refine lv_aload_n hx hb dX8_fit_16 rfl (lv_at hl 1 rfl) ?_
    refine q_get (C := RX8) (T := TX8) (N := 12) (ci := 8) (v := .ref (ad 1)) hx hb hts in_X8_fit_X8 hown hK hP oX8 rfl 0 (by decide) (hts (.fieldLink RX8 12 "RowsOnlyPrimes" "now" "LRowsOnlyPrimes$Bank;") (by decide +kernel)) (fun _ h9 => h9) rfl dX8_fit_17 ?_
    refine lv_iconst (v := 1) hx hb dX8_fit_20 (by decide) ?_
    refine lv_iload_n hx hb dX8_fit_21 rfl (lv_at hl 2 rfl) ?_
    refine lv_ishl hx hb dX8_fit_22 ?_
    refine lv_aload_n hx hb dX8_fit_23 rfl (lv_at hl 1 rfl) ?_
    refine q_get (C := RX8) (T := TX8) (N := 12) (ci := 8) (v := .ref (ad 1)) hx hb hts in_X8_fit_X8 hown hK hP oX8 rfl 0 (by decide) (hts (.fieldLink RX8 12 "RowsOnlyPrimes" "now" "LRowsOnlyPrimes$Bank;") (by decide +kernel)) (fun _ h9 => h9) rfl dX8_fit_24 ?_
    refine q_get (C := RX2) (T := TX2) (N := 13) (ci := 2) (v := .int (I 1 8)) hx hb hts in_X8_fit_X2 hown hK hP (oX2 isB_1) rfl 8 (by decide) (hts (.fieldLink RX8 250 "RowsOnlyPrimes$Bank" "over" "I") (by decide +kernel)) (fun _ h9 => h9) rfl dX8_fit_27 ?_
    obtain ⟨v3, h4, hf⟩ := bd_ok hf
    refine q_cSi (va_runV (As := [.int ((1 : Int32) <<< (p0 &&& (31 : Int32))), .int (I 1 8)]) (rest := []) ⟨hx, hb, hml, hown, hts⟩ (c_X2_agrees l (D := D) (ad := ad) (cy := cy) (sa := sa) (va := va) (I := I) (J := J) 1 isB_1 ((1 : Int32) <<< (p0 &&& (31 : Int32))) (I 1 8) h4) (cwV 2 hts gX8_fit_X2_agrees rfl rfl rfl (by decide +kernel) ⟨Nat.le_of_ble_eq_true rfl, Nat.le_of_ble_eq_true rfl⟩) ⟨qPre_blind _, q_recv hK hP (oX2 isB_1) rfl, fun U hU hW => ⟨rfl, qPre_of hP hK hE hN hS U hU hW⟩⟩ rfl rfl hl.1 rfl (lv_room (Nat.le_of_ble_eq_true rfl)) dX8_fit_30 ⟨Nat.le_of_ble_eq_true rfl, Nat.le_of_ble_eq_true rfl⟩) ?_
    refine lv_if_ne (tgt := 38) hx hb dX8_fit_33 (by decide) (fun cc => ?_) (fun cc => ?_)
    · have hf := (if_ok hf).2 cc
      refine lv_iconst (v := 1) hx hb dX8_fit_38 (by decide) ?_
      refine lv_istore_n (lv' := [(3, .int (1 : Int32)), (2, .int v1), (0, .ref (ad 0)), (1, .int p0)]) hx hb dX8_fit_39 rfl hl (by decide) rfl (fun ls hl => ?_)
      exact w_X8_fit_40 C hK hE hN   1000 p0 (1 : Int32) I _ _ _ hf (lv_sub hl [2, 3, 0] rfl) hP hS
    · have hf := (if_ok hf).1 cc
      refine lv_iconst (v := -1) hx hb dX8_fit_36 (by decide) ?_
      have e9 := Option.some.inj hf
      have eI9 : I = Ie := (congrArg Prod.snd e9)
      exact W.iret hx hb hr (fun t ht _ => ⟨⟨_, (), rfl, (congrArg Prod.fst e9), by show qP D _ ad _ _ _ t.heap; rw [ht, ← eI9]; exact hP⟩, hS.F ht⟩) hS.2.2 dX8_fit_37
  · have hf := (if_ok hf).2 cc
    refine lv_aload_n hx hb dX8_fit_10 rfl (lv_at hl 1 rfl) ?_
    refine lv_iload_n hx hb dX8_fit_11 rfl (lv_at hl 0 rfl) ?_
    obtain ⟨v5, I6, h7, hf⟩ := bd2_ok hf
    refine q_cEi (va_runV (As := [.int v1]) (rest := []) ⟨hx, hb, hml, hown, hts⟩ (c_X8_refuse l (D := D) (ad := ad) (cy := cy) (sa := sa) (va := va) (I := I) (J := J) v1 h7) (cwV 1 hts gX8_fit_X8_refuse rfl rfl rfl (by decide +kernel) ⟨Nat.le_of_ble_eq_true rfl, Nat.le_of_ble_eq_true rfl⟩) ⟨qPre_blind _, q_recv hK hP oX8 rfl, fun U hU hW => ⟨rfl, qPre_of hP hK hE hN hS U hU hW⟩⟩ rfl rfl hl.1 rfl (lv_room (Nat.le_of_ble_eq_true rfl)) dX8_fit_12 ⟨Nat.le_of_ble_eq_true rfl, Nat.le_of_ble_eq_true rfl⟩) hS (fun H locs hP hS => ?_)
    have e9 := Option.some.inj hf
    have eI9 : I6 = Ie := (congrArg Prod.snd e9)
    exact W.iret hx hb hr (fun t ht _ => ⟨⟨_, (), rfl, (congrArg Prod.fst e9), by show qP D _ ad _ _ _ t.heap; rw [ht, ← eI9]; exact hP⟩, hS.F ht⟩) hS.2.2 dX8_fit_15
abbrev r_X8_fare : Room := { frames := 5, cells := 0, slots := 0, locals := 112 }
theorem in_X8_fare_X2 : ∀ w ∈ u_ws RX2 TX2 13, w ∈ wsX8_fare := by decide +kernel
theorem in_X8_fare_X8 : ∀ w ∈ u_ws RX8 TX8 12, w ∈ wsX8_fare := by decide +kernel
set_option maxHeartbeats 4000000 in
set_option maxRecDepth 100000 in
theorem c_X8_fare (l : Launch) {D : va_G} {ad : Nat → Nat} {cy : Nat → ClassId} {sa va : Nat → Nat} {I : qI} {J : qJ}   (p0 : Int32) {r : Int32} {Ie : qI} (hf : f_X8_fare p0 I = some (r, Ie)) : Met l yX8_fare wsX8_fare r_X8_fare (va_Pc [.ref (ad 0), .int p0] (qPre D xS ad cy sa va (eX ad cy) I J)) (va_Qi (S := Unit) (fun x _ => x = r) (fun _ t => qP D xS ad (eX ad cy) Ie J t.heap) (qA xS ad)) 0 0 (qA xS ad) := by
  refine Met.ofW (cc := cX8_fare) (maxL := 3) (ret := (some .int)) (by decide) rfl ?_
  intro p e s m args below meth c s₁ B hml hv
  obtain ⟨rfl, hP, hK, hE, hN⟩ := hv
  have C : qC p s m _ meth c cX8_fare 3 RX8 wsX8_fare (some .int) := ⟨⟨B.exec, B.bytes, hml, findClass_of_methodNamed B.named, atoms_spec (ws := wsX8_fare) B.pre⟩, B.returns, B.notSynchronized⟩
  have C0 := C
  obtain ⟨⟨hx, hb, hml, hown, hts⟩, hr, hlocks⟩ := C0
  have hS : va_S (qA xS ad) s.heap s.heap [] := va_S.rf
  have hl := lv_entry ([.ref (ad 0), .int p0]) (n := 3) (Nat.le_of_ble_eq_true rfl)
  rw [lg_entry_eq]
  generalize (lg_sl ([.ref (ad 0), .int p0]) ++ List.replicate (3 - (lg_sl ([.ref (ad 0), .int p0])).length) Slot.unset).toArray = ls at hl ⊢
  have hl : lv_has ls 3 [(0, .ref (ad 0)), (1, .int p0)] := hl
  unfold f_X8_fare at hf
  refine lv_aload_n hx hb dX8_fare_0 rfl (lv_at hl 0 rfl) ?_
  refine q_get (C := RX8) (T := TX8) (N := 12) (ci := 8) (v := .ref (ad 1)) hx hb hts in_X8_fare_X8 hown hK hP oX8 rfl 0 (by decide) (hts (.fieldLink RX8 12 "RowsOnlyPrimes" "now" "LRowsOnlyPrimes$Bank;") (by decide +kernel)) (fun _ h9 => h9) rfl dX8_fare_1 ?_
  refine lv_iload_n hx hb dX8_fare_4 rfl (lv_at hl 1 rfl) ?_
  obtain ⟨v1, h2, hf⟩ := bd_ok hf
  refine q_cSi (va_runV (As := [.int p0]) (rest := []) ⟨hx, hb, hml, hown, hts⟩ (c_X2_hasGroup l (D := D) (ad := ad) (cy := cy) (sa := sa) (va := va) (I := I) (J := J) 1 isB_1 p0 h2) (cwV 1 hts gX8_fare_X2_hasGroup rfl rfl rfl (by decide +kernel) ⟨Nat.le_of_ble_eq_true rfl, Nat.le_of_ble_eq_true rfl⟩) ⟨qPre_blind _, q_recv hK hP (oX2 isB_1) rfl, fun U hU hW => ⟨rfl, qPre_of hP hK hE hN hS U hU hW⟩⟩ rfl rfl hl.1 rfl (lv_room (Nat.le_of_ble_eq_true rfl)) dX8_fare_5 ⟨Nat.le_of_ble_eq_true rfl, Nat.le_of_ble_eq_true rfl⟩) ?_
  refine lv_if_ne (tgt := 19) hx hb dX8_fare_8 (by decide) (fun cc => ?_) (fun cc => ?_)
  · have hf := (if_ok hf).2 cc
    refine lv_aload_n hx hb dX8_fare_19 rfl (lv_at hl 0 rfl) ?_
    refine q_get (C := RX8) (T := TX8) (N := 12) (ci := 8) (v := .ref (ad 1)) hx hb hts in_X8_fare_X8 hown hK hP oX8 rfl 0 (by decide) (hts (.fieldLink RX8 12 "RowsOnlyPrimes" "now" "LRowsOnlyPrimes$Bank;") (by decide +kernel)) (fun _ h9 => h9) rfl dX8_fare_20 ?_
    refine lv_iload_n hx hb dX8_fare_23 rfl (lv_at hl 1 rfl) ?_
    obtain ⟨v3, h4, hf⟩ := bd_ok hf
    refine q_cSi (va_runV (As := [.int p0]) (rest := []) ⟨hx, hb, hml, hown, hts⟩ (c_X2_hireNow l (D := D) (ad := ad) (cy := cy) (sa := sa) (va := va) (I := I) (J := J) 1 isB_1 p0 h4) (cwV 1 hts gX8_fare_X2_hireNow rfl rfl rfl (by decide +kernel) ⟨Nat.le_of_ble_eq_true rfl, Nat.le_of_ble_eq_true rfl⟩) ⟨qPre_blind _, q_recv hK hP (oX2 isB_1) rfl, fun U hU hW => ⟨rfl, qPre_of hP hK hE hN hS U hU hW⟩⟩ rfl rfl hl.1 rfl (lv_room (Nat.le_of_ble_eq_true rfl)) dX8_fare_24 ⟨Nat.le_of_ble_eq_true rfl, Nat.le_of_ble_eq_true rfl⟩) ?_
    refine lv_istore_n (lv' := [(2, .int v3), (0, .ref (ad 0)), (1, .int p0)]) hx hb dX8_fare_27 rfl hl (by decide) rfl (fun ls hl => ?_)
    refine lv_iload_n hx hb dX8_fare_28 rfl (lv_at hl 0 rfl) ?_
    refine lv_iconst (v := -1) hx hb dX8_fare_29 (by decide) ?_
    refine lv_icmp_ne (tgt := 37) hx hb dX8_fare_30 (by decide) (fun cc => ?_) (fun cc => ?_)
    · have hf := (if_ok hf).2 cc
      refine lv_iload_n hx hb dX8_fare_37 rfl (lv_at hl 0 rfl) ?_
      refine lv_aload_n hx hb dX8_fare_38 rfl (lv_at hl 1 rfl) ?_
      refine q_get (C := RX8) (T := TX8) (N := 12) (ci := 8) (v := .ref (ad 1)) hx hb hts in_X8_fare_X8 hown hK hP oX8 rfl 0 (by decide) (hts (.fieldLink RX8 12 "RowsOnlyPrimes" "now" "LRowsOnlyPrimes$Bank;") (by decide +kernel)) (fun _ h9 => h9) rfl dX8_fare_39 ?_
      refine q_get (C := RX2) (T := TX2) (N := 13) (ci := 2) (v := .ref (ad (1 + 7))) hx hb hts in_X8_fare_X2 hown hK hP (oX2 isB_1) rfl 6 (by decide) (hts (.fieldLink RX8 179 "RowsOnlyPrimes$Bank" "told" "[I") (by decide +kernel)) (fun _ h9 => h9) rfl dX8_fare_42 ?_
      refine lv_iconst (v := 4) hx hb dX8_fare_45 (by decide) ?_
      refine q_iald hx hb hK hP (aX2_7 isB_1) (by decide) dX8_fare_46 ?_
      refine q_top (y := (I (1 + 7) 4)) rfl ?_
      refine lv_imul hx hb dX8_fare_47 ?_
      have e9 := Option.some.inj hf
      have eI9 : I = Ie := (congrArg Prod.snd e9)
      exact W.iret hx hb hr (fun t ht _ => ⟨⟨_, (), rfl, (congrArg Prod.fst e9), by show qP D _ ad _ _ _ t.heap; rw [ht, ← eI9]; exact hP⟩, hS.F ht⟩) hS.2.2 dX8_fare_48
    · have hf := (if_ok hf).1 cc
      refine lv_iconst (v := -1) hx hb dX8_fare_33 (by decide) ?_
      refine lv_goto (tgt := 48) hx hb dX8_fare_34 (by decide) ?_
      have e9 := Option.some.inj hf
      have eI9 : I = Ie := (congrArg Prod.snd e9)
      exact W.iret hx hb hr (fun t ht _ => ⟨⟨_, (), rfl, (congrArg Prod.fst e9), by show qP D _ ad _ _ _ t.heap; rw [ht, ← eI9]; exact hP⟩, hS.F ht⟩) hS.2.2 dX8_fare_48
  · have hf := (if_ok hf).1 cc
    refine lv_aload_n hx hb dX8_fare_11 rfl (lv_at hl 0 rfl) ?_
    refine lv_sipush (v := -1002) hx hb dX8_fare_12 (by decide) ?_
    obtain ⟨v5, I6, h7, hf⟩ := bd2_ok hf
    refine q_cEi (va_runV (As := [.int (-1002 : Int32)]) (rest := []) ⟨hx, hb, hml, hown, hts⟩ (c_X8_refuse l (D := D) (ad := ad) (cy := cy) (sa := sa) (va := va) (I := I) (J := J) (-1002 : Int32) h7) (cwV 1 hts gX8_fare_X8_refuse rfl rfl rfl (by decide +kernel) ⟨Nat.le_of_ble_eq_true rfl, Nat.le_of_ble_eq_true rfl⟩) ⟨qPre_blind _, q_recv hK hP oX8 rfl, fun U hU hW => ⟨rfl, qPre_of hP hK hE hN hS U hU hW⟩⟩ rfl rfl hl.1 rfl (lv_room (Nat.le_of_ble_eq_true rfl)) dX8_fare_15 ⟨Nat.le_of_ble_eq_true rfl, Nat.le_of_ble_eq_true rfl⟩) hS (fun H locs hP hS => ?_)
    have e9 := Option.some.inj hf
    have eI9 : I6 = Ie := (congrArg Prod.snd e9)
    exact W.iret hx hb hr (fun t ht _ => ⟨⟨_, (), rfl, (congrArg Prod.fst e9), by show qP D _ ad _ _ _ t.heap; rw [ht, ← eI9]; exact hP⟩, hS.F ht⟩) hS.2.2 dX8_fare_18
abbrev r_X8_waiting : Room := { frames := 3, cells := 0, slots := 0, locals := 69 }
theorem in_X8_waiting_X8 : ∀ w ∈ u_ws RX8 TX8 12, w ∈ wsX8_waiting := by decide +kernel
set_option maxHeartbeats 4000000 in
set_option maxRecDepth 100000 in
theorem c_X8_waiting (l : Launch) {D : va_G} {ad : Nat → Nat} {cy : Nat → ClassId} {sa va : Nat → Nat} {I : qI} {J : qJ}    {r : Int32} (hf : f_X8_waiting I = some r) : Met l yX8_waiting wsX8_waiting r_X8_waiting (va_Pc [.ref (ad 0)] (qPre D xS ad cy sa va (eX ad cy) I J)) (vp_Si (fun x => x = r)) 0 0 (fun _ => False) := by
  refine Met.ofW (cc := cX8_waiting) (maxL := 1) (ret := (some .int)) (by decide) rfl ?_
  intro p e s m args below meth c s₁ B hml hv
  obtain ⟨rfl, hP, hK, hE, hN⟩ := hv
  have C : qC p s m _ meth c cX8_waiting 1 RX8 wsX8_waiting (some .int) := ⟨⟨B.exec, B.bytes, hml, findClass_of_methodNamed B.named, atoms_spec (ws := wsX8_waiting) B.pre⟩, B.returns, B.notSynchronized⟩
  have C0 := C
  obtain ⟨⟨hx, hb, hml, hown, hts⟩, hr, hlocks⟩ := C0
  have hl := lv_entry ([.ref (ad 0)]) (n := 1) (Nat.le_of_ble_eq_true rfl)
  rw [lg_entry_eq]
  generalize (lg_sl ([.ref (ad 0)]) ++ List.replicate (1 - (lg_sl ([.ref (ad 0)])).length) Slot.unset).toArray = ls at hl ⊢
  have hl : lv_has ls 1 [(0, .ref (ad 0))] := hl
  unfold f_X8_waiting at hf
  refine lv_aload_n hx hb dX8_waiting_0 rfl (lv_at hl 0 rfl) ?_
  refine q_get (C := RX8) (T := TX8) (N := 12) (ci := 8) (v := .ref (ad 1)) hx hb hts in_X8_waiting_X8 hown hK hP oX8 rfl 0 (by decide) (hts (.fieldLink RX8 12 "RowsOnlyPrimes" "now" "LRowsOnlyPrimes$Bank;") (by decide +kernel)) (fun _ h9 => h9) rfl dX8_waiting_1 ?_
  refine lv_aload_n hx hb dX8_waiting_4 rfl (lv_at hl 0 rfl) ?_
  refine q_get (C := RX8) (T := TX8) (N := 12) (ci := 8) (v := .ref (ad 1)) hx hb hts in_X8_waiting_X8 hown hK hP oX8 rfl 0 (by decide) (hts (.fieldLink RX8 12 "RowsOnlyPrimes" "now" "LRowsOnlyPrimes$Bank;") (by decide +kernel)) (fun _ h9 => h9) rfl dX8_waiting_5 ?_
  obtain ⟨v1, h2, hf⟩ := bd_ok hf
  refine q_cSi (va_runV (As := []) (rest := [.ref (ad 1)]) ⟨hx, hb, hml, hown, hts⟩ (c_X2_here l (D := D) (ad := ad) (cy := cy) (sa := sa) (va := va) (I := I) (J := J) 1 isB_1 h2) (cwV 0 hts gX8_waiting_X2_here rfl rfl rfl (by decide +kernel) ⟨Nat.le_of_ble_eq_true rfl, Nat.le_of_ble_eq_true rfl⟩) ⟨qPre_blind _, q_recv hK hP (oX2 isB_1) rfl, fun U hU hW => ⟨rfl, qPre_of hP hK hE hN va_S.rf U hU hW⟩⟩ rfl rfl hl.1 rfl (lv_room (Nat.le_of_ble_eq_true rfl)) dX8_waiting_8 ⟨Nat.le_of_ble_eq_true rfl, Nat.le_of_ble_eq_true rfl⟩) ?_
  obtain ⟨v3, h4, hf⟩ := bd_ok hf
  refine q_cSi (va_runV (As := [.int v1]) (rest := []) ⟨hx, hb, hml, hown, hts⟩ (c_X2_headsTogether l (D := D) (ad := ad) (cy := cy) (sa := sa) (va := va) (I := I) (J := J) 1 isB_1 v1 h4) (cwV 1 hts gX8_waiting_X2_headsTogether rfl rfl rfl (by decide +kernel) ⟨Nat.le_of_ble_eq_true rfl, Nat.le_of_ble_eq_true rfl⟩) ⟨qPre_blind _, q_recv hK hP (oX2 isB_1) rfl, fun U hU hW => ⟨rfl, qPre_of hP hK hE hN va_S.rf U hU hW⟩⟩ rfl rfl hl.1 rfl (lv_room (Nat.le_of_ble_eq_true rfl)) dX8_waiting_11 ⟨Nat.le_of_ble_eq_true rfl, Nat.le_of_ble_eq_true rfl⟩) ?_
  exact W.iret hx hb hr (fun t ht _ => ⟨_, rfl, Option.some.inj hf, ht⟩) (fun _ h => by cases h) dX8_waiting_14
abbrev r_X8_alone : Room := { frames := 5, cells := 0, slots := 0, locals := 112 }
theorem in_X8_alone_X2 : ∀ w ∈ u_ws RX2 TX2 13, w ∈ wsX8_alone := by decide +kernel
theorem in_X8_alone_X8 : ∀ w ∈ u_ws RX8 TX8 12, w ∈ wsX8_alone := by decide +kernel
set_option maxHeartbeats 4000000 in
set_option maxRecDepth 100000 in
theorem w_X8_alone_4 (C : qC p s m args meth c cX8_alone 3 RX8 wsX8_alone (some .int)) (hK : qK D cy sa s) (hE : qEnv sa va (qA xS ad) s s.heap) (hN : qN xS ad)   {I : qI} {J : qJ} (hP : qP D xS ad (eX ad cy) I J s.heap) {r : Int32} : ∀ (n : Nat) (x1 : Int32) (x2 : Int32)  (ls : Array Slot), f_X8_alone_4 I n x1 x2 = some r → lv_has ls 3 [(0, .ref (ad 0)), (1, .int x1), (2, .int x2)] → W p l e (headSpec wsX8_alone r_X8_alone).room s m args below meth c s.heap [] 0 0 (MQ below (vp_Si (fun x => x = r)) args s 0 0 (fun _ => False)) (F0 m 4 ls []) := by
  have C0 := C
  obtain ⟨⟨hx, hb, hml, hown, hts⟩, hr, hlocks⟩ := C0
  intro n
  induction n with
  | zero =>
    intro x1 x2 ls hf hl
    rw [f_X8_alone_4] at hf
    cases hf
  | succ n ih =>
    intro x1 x2 ls hf hl
    rw [f_X8_alone_4] at hf
    refine lv_iload_n hx hb dX8_alone_4 rfl (lv_at hl 2 rfl) ?_
    refine lv_aload_n hx hb dX8_alone_5 rfl (lv_at hl 0 rfl) ?_
    refine q_get (C := RX8) (T := TX8) (N := 12) (ci := 8) (v := .ref (ad 1)) hx hb hts in_X8_alone_X8 hown hK hP oX8 rfl 0 (by decide) (hts (.fieldLink RX8 12 "RowsOnlyPrimes" "now" "LRowsOnlyPrimes$Bank;") (by decide +kernel)) (fun _ h9 => h9) rfl dX8_alone_6 ?_
    refine q_get (C := RX2) (T := TX2) (N := 13) (ci := 2) (v := .int (I 1 7)) hx hb hts in_X8_alone_X2 hown hK hP (oX2 isB_1) rfl 7 (by decide) (hts (.fieldLink RX8 232 "RowsOnlyPrimes$Bank" "size" "I") (by decide +kernel)) (fun _ h9 => h9) rfl dX8_alone_9 ?_
    refine lv_icmp_ge (tgt := 40) hx hb dX8_alone_12 (by decide) (fun cc => ?_) (fun cc => ?_)
    · have hf := (if_ok hf).1 cc
      refine lv_iload_n hx hb dX8_alone_40 rfl (lv_at hl 1 rfl) ?_
      exact W.iret hx hb hr (fun t ht _ => ⟨_, rfl, Option.some.inj hf, ht⟩) (fun _ h => by cases h) dX8_alone_41
    · have hf := (if_ok hf).2 cc
      refine lv_aload_n hx hb dX8_alone_15 rfl (lv_at hl 0 rfl) ?_
      refine q_get (C := RX8) (T := TX8) (N := 12) (ci := 8) (v := .ref (ad 1)) hx hb hts in_X8_alone_X8 hown hK hP oX8 rfl 0 (by decide) (hts (.fieldLink RX8 12 "RowsOnlyPrimes" "now" "LRowsOnlyPrimes$Bank;") (by decide +kernel)) (fun _ h9 => h9) rfl dX8_alone_16 ?_
      refine lv_iconst (v := 1) hx hb dX8_alone_19 (by decide) ?_
      refine lv_iload_n hx hb dX8_alone_20 rfl (lv_at hl 2 rfl) ?_
      refine lv_ishl hx hb dX8_alone_21 ?_
      obtain ⟨v1, h2, hf⟩ := bd_ok hf
      refine q_cSi (va_runV (As := [.int ((1 : Int32) <<< (x2 &&& (31 : Int32)))]) (rest := []) ⟨hx, hb, hml, hown, hts⟩ (c_X2_hireNow l (D := D) (ad := ad) (cy := cy) (sa := sa) (va := va) (I := I) (J := J) 1 isB_1 ((1 : Int32) <<< (x2 &&& (31 : Int32))) h2) (cwV 1 hts gX8_alone_X2_hireNow rfl rfl rfl (by decide +kernel) ⟨Nat.le_of_ble_eq_true rfl, Nat.le_of_ble_eq_true rfl⟩) ⟨qPre_blind _, q_recv hK hP (oX2 isB_1) rfl, fun U hU hW => ⟨rfl, qPre_of hP hK hE hN va_S.rf U hU hW⟩⟩ rfl rfl hl.1 rfl (lv_room (Nat.le_of_ble_eq_true rfl)) dX8_alone_22 ⟨Nat.le_of_ble_eq_true rfl, Nat.le_of_ble_eq_true rfl⟩) ?_
      refine lv_if_ne (tgt := 34) hx hb dX8_alone_25 (by decide) (fun cc => ?_) (fun cc => ?_)
      · have hf := (if_ok hf).2 cc
        refine lv_iinc (v := (x2 + (1 : Int32))) (lv' := [(2, .int (x2 + (1 : Int32))), (0, .ref (ad 0)), (1, .int x1)]) hx hb dX8_alone_34 hl (k := 2) rfl rfl (by decide) rfl (fun ls hl => ?_)
        refine lv_goto (tgt := 4) hx hb dX8_alone_37 (by decide) ?_
        exact ih x1 (x2 + (1 : Int32)) _ hf (lv_sub hl [1, 2, 0] rfl)
      · have hf := (if_ok hf).1 cc
        refine lv_iload_n hx hb dX8_alone_28 rfl (lv_at hl 1 rfl) ?_
        refine lv_iconst (v := 1) hx hb dX8_alone_29 (by decide) ?_
        refine lv_iload_n hx hb dX8_alone_30 rfl (lv_at hl 2 rfl) ?_
        refine lv_ishl hx hb dX8_alone_31 ?_
        refine lv_ior hx hb dX8_alone_32 ?_
        obtain ⟨v3, ev3, hf⟩ := lt_ok hf
        refine q_top ev3 ?_
        refine lv_istore_n (lv' := [(1, .int v3), (0, .ref (ad 0)), (2, .int x2)]) hx hb dX8_alone_33 rfl hl (by decide) rfl (fun ls hl => ?_)
        refine lv_iinc (v := (x2 + (1 : Int32))) (lv' := [(2, .int (x2 + (1 : Int32))), (1, .int v3), (0, .ref (ad 0))]) hx hb dX8_alone_34 hl (k := 2) rfl rfl (by decide) rfl (fun ls hl => ?_)
        refine lv_goto (tgt := 4) hx hb dX8_alone_37 (by decide) ?_
        exact ih v3 (x2 + (1 : Int32)) _ hf (lv_sub hl [2, 1, 0] rfl)
set_option maxHeartbeats 4000000 in
set_option maxRecDepth 100000 in
theorem c_X8_alone (l : Launch) {D : va_G} {ad : Nat → Nat} {cy : Nat → ClassId} {sa va : Nat → Nat} {I : qI} {J : qJ}    {r : Int32} (hf : f_X8_alone I = some r) : Met l yX8_alone wsX8_alone r_X8_alone (va_Pc [.ref (ad 0)] (qPre D xS ad cy sa va (eX ad cy) I J)) (vp_Si (fun x => x = r)) 0 0 (fun _ => False) := by
  refine Met.ofW (cc := cX8_alone) (maxL := 3) (ret := (some .int)) (by decide) rfl ?_
  intro p e s m args below meth c s₁ B hml hv
  obtain ⟨rfl, hP, hK, hE, hN⟩ := hv
  have C : qC p s m _ meth c cX8_alone 3 RX8 wsX8_alone (some .int) := ⟨⟨B.exec, B.bytes, hml, findClass_of_methodNamed B.named, atoms_spec (ws := wsX8_alone) B.pre⟩, B.returns, B.notSynchronized⟩
  have C0 := C
  obtain ⟨⟨hx, hb, hml, hown, hts⟩, hr, hlocks⟩ := C0
  have hl := lv_entry ([.ref (ad 0)]) (n := 3) (Nat.le_of_ble_eq_true rfl)
  rw [lg_entry_eq]
  generalize (lg_sl ([.ref (ad 0)]) ++ List.replicate (3 - (lg_sl ([.ref (ad 0)])).length) Slot.unset).toArray = ls at hl ⊢
  have hl : lv_has ls 3 [(0, .ref (ad 0))] := hl
  unfold f_X8_alone at hf
  refine lv_iconst (v := 0) hx hb dX8_alone_0 (by decide) ?_
  refine lv_istore_n (lv' := [(1, .int (0 : Int32)), (0, .ref (ad 0))]) hx hb dX8_alone_1 rfl hl (by decide) rfl (fun ls hl => ?_)
  refine lv_iconst (v := 0) hx hb dX8_alone_2 (by decide) ?_
  refine lv_istore_n (lv' := [(2, .int (0 : Int32)), (1, .int (0 : Int32)), (0, .ref (ad 0))]) hx hb dX8_alone_3 rfl hl (by decide) rfl (fun ls hl => ?_)
  exact w_X8_alone_4 C hK hE hN hP  1000 (0 : Int32) (0 : Int32) _ hf (lv_sub hl [2, 1, 0] rfl)
abbrev r_X8_together : Room := { frames := 5, cells := 0, slots := 0, locals := 112 }
theorem in_X8_together_X8 : ∀ w ∈ u_ws RX8 TX8 12, w ∈ wsX8_together := by decide +kernel
set_option maxHeartbeats 4000000 in
set_option maxRecDepth 100000 in
theorem w_X8_together_25 (C : qC p s m args meth c cX8_together 5 RX8 wsX8_together (some .int)) (hK : qK D cy sa s) (hE : qEnv sa va (qA xS ad) s s.heap) (hN : qN xS ad)   {J : qJ} {r : Int32} {Ie : qI} : ∀ (n : Nat) (x1 : Int32) (x2 : Int32) (x3 : Int32) (x4 : Int32)  (I : qI) (ls : Array Slot) (H : Heap) (locs : List Loc), f_X8_together_25 n x1 x2 x3 x4 I = some (r, Ie) → lv_has ls 5 [(0, .ref (ad 0)), (1, .int x1), (2, .int x2), (3, .int x3), (4, .int x4)] → qP D xS ad (eX ad cy) I J H → va_S (qA xS ad) s.heap H locs → W p l e (headSpec wsX8_together r_X8_together).room s m args below meth c H locs 0 0 (MQ below (va_Qi (S := Unit) (fun x _ => x = r) (fun _ t => qP D xS ad (eX ad cy) Ie J t.heap) (qA xS ad)) args s 0 0 (qA xS ad)) (F0 m 25 ls []) := by
  have C0 := C
  obtain ⟨⟨hx, hb, hml, hown, hts⟩, hr, hlocks⟩ := C0
  intro n
  induction n with
  | zero =>
    intro x1 x2 x3 x4 I ls H locs hf hl hP hS
    rw [f_X8_together_25] at hf
    cases hf
  | succ n ih =>
    intro x1 x2 x3 x4 I ls H locs hf hl hP hS
    rw [f_X8_together_25] at hf
    refine lv_iload hx hb dX8_together_25 (lv_at hl 4 rfl) ?_
    refine lv_aload_n hx hb dX8_together_27 rfl (lv_at hl 0 rfl) ?_
    refine q_get (C := RX8) (T := TX8) (N := 12) (ci := 8) (v := .ref (ad 1)) hx hb hts in_X8_together_X8 hown hK hP oX8 rfl 0 (by decide) (hts (.fieldLink RX8 12 "RowsOnlyPrimes" "now" "LRowsOnlyPrimes$Bank;") (by decide +kernel)) (fun _ h9 => h9) rfl dX8_together_28 ?_
    obtain ⟨v1, h2, hf⟩ := bd_ok hf
    refine q_cSi (va_runV (As := []) (rest := [.int x4]) ⟨hx, hb, hml, hown, hts⟩ (c_X2_everybody l (D := D) (ad := ad) (cy := cy) (sa := sa) (va := va) (I := I) (J := J) 1 isB_1 h2) (cwV 0 hts gX8_together_X2_everybody rfl rfl rfl (by decide +kernel) ⟨Nat.le_of_ble_eq_true rfl, Nat.le_of_ble_eq_true rfl⟩) ⟨qPre_blind _, q_recv hK hP (oX2 isB_1) rfl, fun U hU hW => ⟨rfl, qPre_of hP hK hE hN hS U hU hW⟩⟩ rfl rfl hl.1 rfl (lv_room (Nat.le_of_ble_eq_true rfl)) dX8_together_31 ⟨Nat.le_of_ble_eq_true rfl, Nat.le_of_ble_eq_true rfl⟩) ?_
    refine lv_icmp_gt (tgt := 77) hx hb dX8_together_34 (by decide) (fun cc => ?_) (fun cc => ?_)
    · have hf := (if_ok hf).1 cc
      refine lv_iload_n hx hb dX8_together_77 rfl (lv_at hl 3 rfl) ?_
      have e9 := Option.some.inj hf
      have eI9 : I = Ie := (congrArg Prod.snd e9)
      exact W.iret hx hb hr (fun t ht _ => ⟨⟨_, (), rfl, (congrArg Prod.fst e9), by show qP D _ ad _ _ _ t.heap; rw [ht, ← eI9]; exact hP⟩, hS.F ht⟩) hS.2.2 dX8_together_78
    · have hf := (if_ok hf).2 cc
      refine lv_iload hx hb dX8_together_37 (lv_at hl 4 rfl) ?_
      refine lv_iload_n hx hb dX8_together_39 rfl (lv_at hl 1 rfl) ?_
      obtain ⟨v3, h4, hf⟩ := bd_ok hf
      refine q_cSi (va_runS (As := [.int x4, .int x1]) (rest := []) ⟨hx, hb, hml, hown, hts⟩ (c_X8_has l (D := D) (ad := ad) (cy := cy) (sa := sa) (va := va) (I := I) (J := J) x4 x1 h4) (va_cwS 2 hts gX8_together_X8_has rfl rfl rfl (by decide +kernel) ⟨Nat.le_of_ble_eq_true rfl, Nat.le_of_ble_eq_true rfl⟩) ⟨qPre_blind _, fun U hU hW => ⟨rfl, qPre_of hP hK hE hN hS U hU hW⟩⟩ rfl rfl hl.1 rfl (lv_room (Nat.le_of_ble_eq_true rfl)) dX8_together_40 ⟨Nat.le_of_ble_eq_true rfl, Nat.le_of_ble_eq_true rfl⟩) ?_
      refine lv_if_eq (tgt := 71) hx hb dX8_together_43 (by decide) (fun cc => ?_) (fun cc => ?_)
      · have hf := (if_ok hf).1 cc
        refine lv_iinc (v := (x4 + (1 : Int32))) (lv' := [(4, .int (x4 + (1 : Int32))), (0, .ref (ad 0)), (1, .int x1), (2, .int x2), (3, .int x3)]) hx hb dX8_together_71 hl (k := 4) rfl rfl (by decide) rfl (fun ls hl => ?_)
        refine lv_goto (tgt := 25) hx hb dX8_together_74 (by decide) ?_
        exact ih x1 x2 x3 (x4 + (1 : Int32)) I _ _ _ hf (lv_sub hl [1, 2, 3, 4, 0] rfl) hP hS
      · have hf := (if_ok hf).2 cc
        refine lv_iload hx hb dX8_together_46 (lv_at hl 4 rfl) ?_
        refine lv_iload_n hx hb dX8_together_48 rfl (lv_at hl 2 rfl) ?_
        obtain ⟨v5, h6, hf⟩ := bd_ok hf
        refine q_cSi (va_runS (As := [.int x4, .int x2]) (rest := []) ⟨hx, hb, hml, hown, hts⟩ (c_X8_has l (D := D) (ad := ad) (cy := cy) (sa := sa) (va := va) (I := I) (J := J) x4 x2 h6) (va_cwS 2 hts gX8_together_X8_has rfl rfl rfl (by decide +kernel) ⟨Nat.le_of_ble_eq_true rfl, Nat.le_of_ble_eq_true rfl⟩) ⟨qPre_blind _, fun U hU hW => ⟨rfl, qPre_of hP hK hE hN hS U hU hW⟩⟩ rfl rfl hl.1 rfl (lv_room (Nat.le_of_ble_eq_true rfl)) dX8_together_49 ⟨Nat.le_of_ble_eq_true rfl, Nat.le_of_ble_eq_true rfl⟩) ?_
        refine lv_if_eq (tgt := 71) hx hb dX8_together_52 (by decide) (fun cc => ?_) (fun cc => ?_)
        · have hf := (if_ok hf).1 cc
          refine lv_iinc (v := (x4 + (1 : Int32))) (lv' := [(4, .int (x4 + (1 : Int32))), (0, .ref (ad 0)), (1, .int x1), (2, .int x2), (3, .int x3)]) hx hb dX8_together_71 hl (k := 4) rfl rfl (by decide) rfl (fun ls hl => ?_)
          refine lv_goto (tgt := 25) hx hb dX8_together_74 (by decide) ?_
          exact ih x1 x2 x3 (x4 + (1 : Int32)) I _ _ _ hf (lv_sub hl [1, 2, 3, 4, 0] rfl) hP hS
        · have hf := (if_ok hf).2 cc
          refine lv_aload_n hx hb dX8_together_55 rfl (lv_at hl 0 rfl) ?_
          refine q_get (C := RX8) (T := TX8) (N := 12) (ci := 8) (v := .ref (ad 1)) hx hb hts in_X8_together_X8 hown hK hP oX8 rfl 0 (by decide) (hts (.fieldLink RX8 12 "RowsOnlyPrimes" "now" "LRowsOnlyPrimes$Bank;") (by decide +kernel)) (fun _ h9 => h9) rfl dX8_together_56 ?_
          refine lv_iload hx hb dX8_together_59 (lv_at hl 4 rfl) ?_
          obtain ⟨v7, h8, hf⟩ := bd_ok hf
          refine q_cSi (va_runV (As := [.int x4]) (rest := []) ⟨hx, hb, hml, hown, hts⟩ (c_X2_hireNow l (D := D) (ad := ad) (cy := cy) (sa := sa) (va := va) (I := I) (J := J) 1 isB_1 x4 h8) (cwV 1 hts gX8_together_X2_hireNow rfl rfl rfl (by decide +kernel) ⟨Nat.le_of_ble_eq_true rfl, Nat.le_of_ble_eq_true rfl⟩) ⟨qPre_blind _, q_recv hK hP (oX2 isB_1) rfl, fun U hU hW => ⟨rfl, qPre_of hP hK hE hN hS U hU hW⟩⟩ rfl rfl hl.1 rfl (lv_room (Nat.le_of_ble_eq_true rfl)) dX8_together_61 ⟨Nat.le_of_ble_eq_true rfl, Nat.le_of_ble_eq_true rfl⟩) ?_
          refine lv_iconst (v := -1) hx hb dX8_together_64 (by decide) ?_
          refine lv_icmp_eq (tgt := 71) hx hb dX8_together_65 (by decide) (fun cc => ?_) (fun cc => ?_)
          · have hf := (if_ok hf).1 cc
            refine lv_iinc (v := (x4 + (1 : Int32))) (lv' := [(4, .int (x4 + (1 : Int32))), (0, .ref (ad 0)), (1, .int x1), (2, .int x2), (3, .int x3)]) hx hb dX8_together_71 hl (k := 4) rfl rfl (by decide) rfl (fun ls hl => ?_)
            refine lv_goto (tgt := 25) hx hb dX8_together_74 (by decide) ?_
            exact ih x1 x2 x3 (x4 + (1 : Int32)) I _ _ _ hf (lv_sub hl [1, 2, 3, 4, 0] rfl) hP hS
          · have hf := (if_ok hf).2 cc
            refine lv_iinc (v := (x3 + (1 : Int32))) (lv' := [(3, .int (x3 + (1 : Int32))), (0, .ref (ad 0)), (1, .int x1), (2, .int x2), (4, .int x4)]) hx hb dX8_together_68 hl (k := 3) rfl rfl (by decide) rfl (fun ls hl => ?_)
            refine lv_iinc (v := (x4 + (1 : Int32))) (lv' := [(4, .int (x4 + (1 : Int32))), (3, .int (x3 + (1 : Int32))), (0, .ref (ad 0)), (1, .int x1), (2, .int x2)]) hx hb dX8_together_71 hl (k := 4) rfl rfl (by decide) rfl (fun ls hl => ?_)
            refine lv_goto (tgt := 25) hx hb dX8_together_74 (by decide) ?_
            exact ih x1 x2 (x3 + (1 : Int32)) (x4 + (1 : Int32)) I _ _ _ hf (lv_sub hl [2, 3, 4, 1, 0] rfl) hP hS
set_option maxHeartbeats 4000000 in
set_option maxRecDepth 100000 in
theorem c_X8_together (l : Launch) {D : va_G} {ad : Nat → Nat} {cy : Nat → ClassId} {sa va : Nat → Nat} {I : qI} {J : qJ}   (p0 : Int32) (p1 : Int32) {r : Int32} {Ie : qI} (hf : f_X8_together p0 p1 I = some (r, Ie)) : Met l yX8_together wsX8_together r_X8_together (va_Pc [.ref (ad 0), .int p0, .int p1] (qPre D xS ad cy sa va (eX ad cy) I J)) (va_Qi (S := Unit) (fun x _ => x = r) (fun _ t => qP D xS ad (eX ad cy) Ie J t.heap) (qA xS ad)) 0 0 (qA xS ad) := by
  refine Met.ofW (cc := cX8_together) (maxL := 5) (ret := (some .int)) (by decide) rfl ?_
  intro p e s m args below meth c s₁ B hml hv
  obtain ⟨rfl, hP, hK, hE, hN⟩ := hv
  have C : qC p s m _ meth c cX8_together 5 RX8 wsX8_together (some .int) := ⟨⟨B.exec, B.bytes, hml, findClass_of_methodNamed B.named, atoms_spec (ws := wsX8_together) B.pre⟩, B.returns, B.notSynchronized⟩
  have C0 := C
  obtain ⟨⟨hx, hb, hml, hown, hts⟩, hr, hlocks⟩ := C0
  have hS : va_S (qA xS ad) s.heap s.heap [] := va_S.rf
  have hl := lv_entry ([.ref (ad 0), .int p0, .int p1]) (n := 5) (Nat.le_of_ble_eq_true rfl)
  rw [lg_entry_eq]
  generalize (lg_sl ([.ref (ad 0), .int p0, .int p1]) ++ List.replicate (5 - (lg_sl ([.ref (ad 0), .int p0, .int p1])).length) Slot.unset).toArray = ls at hl ⊢
  have hl : lv_has ls 5 [(0, .ref (ad 0)), (1, .int p0), (2, .int p1)] := hl
  unfold f_X8_together at hf
  refine lv_aload_n hx hb dX8_together_0 rfl (lv_at hl 0 rfl) ?_
  refine q_get (C := RX8) (T := TX8) (N := 12) (ci := 8) (v := .ref (ad 1)) hx hb hts in_X8_together_X8 hown hK hP oX8 rfl 0 (by decide) (hts (.fieldLink RX8 12 "RowsOnlyPrimes" "now" "LRowsOnlyPrimes$Bank;") (by decide +kernel)) (fun _ h9 => h9) rfl dX8_together_1 ?_
  refine lv_iload_n hx hb dX8_together_4 rfl (lv_at hl 1 rfl) ?_
  refine lv_iload_n hx hb dX8_together_5 rfl (lv_at hl 2 rfl) ?_
  obtain ⟨v1, h2, hf⟩ := bd_ok hf
  refine q_cSi (va_runV (As := [.int p0, .int p1]) (rest := []) ⟨hx, hb, hml, hown, hts⟩ (c_X2_hasTwo l (D := D) (ad := ad) (cy := cy) (sa := sa) (va := va) (I := I) (J := J) 1 isB_1 p0 p1 h2) (cwV 2 hts gX8_together_X2_hasTwo rfl rfl rfl (by decide +kernel) ⟨Nat.le_of_ble_eq_true rfl, Nat.le_of_ble_eq_true rfl⟩) ⟨qPre_blind _, q_recv hK hP (oX2 isB_1) rfl, fun U hU hW => ⟨rfl, qPre_of hP hK hE hN hS U hU hW⟩⟩ rfl rfl hl.1 rfl (lv_room (Nat.le_of_ble_eq_true rfl)) dX8_together_6 ⟨Nat.le_of_ble_eq_true rfl, Nat.le_of_ble_eq_true rfl⟩) ?_
  refine lv_if_ne (tgt := 20) hx hb dX8_together_9 (by decide) (fun cc => ?_) (fun cc => ?_)
  · have hf := (if_ok hf).2 cc
    refine lv_iconst (v := 0) hx hb dX8_together_20 (by decide) ?_
    refine lv_istore_n (lv' := [(3, .int (0 : Int32)), (0, .ref (ad 0)), (1, .int p0), (2, .int p1)]) hx hb dX8_together_21 rfl hl (by decide) rfl (fun ls hl => ?_)
    refine lv_iconst (v := 1) hx hb dX8_together_22 (by decide) ?_
    refine lv_istore (lv' := [(4, .int (1 : Int32)), (3, .int (0 : Int32)), (0, .ref (ad 0)), (1, .int p0), (2, .int p1)]) hx hb dX8_together_23 hl (by decide) rfl (fun ls hl => ?_)
    exact w_X8_together_25 C hK hE hN   1000 p0 p1 (0 : Int32) (1 : Int32) I _ _ _ hf (lv_sub hl [2, 3, 4, 1, 0] rfl) hP hS
  · have hf := (if_ok hf).1 cc
    refine lv_aload_n hx hb dX8_together_12 rfl (lv_at hl 0 rfl) ?_
    refine lv_sipush (v := -1002) hx hb dX8_together_13 (by decide) ?_
    obtain ⟨v3, I4, h5, hf⟩ := bd2_ok hf
    refine q_cEi (va_runV (As := [.int (-1002 : Int32)]) (rest := []) ⟨hx, hb, hml, hown, hts⟩ (c_X8_refuse l (D := D) (ad := ad) (cy := cy) (sa := sa) (va := va) (I := I) (J := J) (-1002 : Int32) h5) (cwV 1 hts gX8_together_X8_refuse rfl rfl rfl (by decide +kernel) ⟨Nat.le_of_ble_eq_true rfl, Nat.le_of_ble_eq_true rfl⟩) ⟨qPre_blind _, q_recv hK hP oX8 rfl, fun U hU hW => ⟨rfl, qPre_of hP hK hE hN hS U hU hW⟩⟩ rfl rfl hl.1 rfl (lv_room (Nat.le_of_ble_eq_true rfl)) dX8_together_16 ⟨Nat.le_of_ble_eq_true rfl, Nat.le_of_ble_eq_true rfl⟩) hS (fun H locs hP hS => ?_)
    have e9 := Option.some.inj hf
    have eI9 : I4 = Ie := (congrArg Prod.snd e9)
    exact W.iret hx hb hr (fun t ht _ => ⟨⟨_, (), rfl, (congrArg Prod.fst e9), by show qP D _ ad _ _ _ t.heap; rw [ht, ← eI9]; exact hP⟩, hS.F ht⟩) hS.2.2 dX8_together_19
abbrev r_X8_spare : Room := { frames := 5, cells := 0, slots := 0, locals := 112 }
theorem in_X8_spare_X2 : ∀ w ∈ u_ws RX2 TX2 13, w ∈ wsX8_spare := by decide +kernel
theorem in_X8_spare_X8 : ∀ w ∈ u_ws RX8 TX8 12, w ∈ wsX8_spare := by decide +kernel
set_option maxHeartbeats 4000000 in
set_option maxRecDepth 100000 in
theorem c_X8_spare (l : Launch) {D : va_G} {ad : Nat → Nat} {cy : Nat → ClassId} {sa va : Nat → Nat} {I : qI} {J : qJ}   (p0 : Int32) {r : Int32} {Ie : qI} (hf : f_X8_spare p0 I = some (r, Ie)) : Met l yX8_spare wsX8_spare r_X8_spare (va_Pc [.ref (ad 0), .int p0] (qPre D xS ad cy sa va (eX ad cy) I J)) (va_Qi (S := Unit) (fun x _ => x = r) (fun _ t => qP D xS ad (eX ad cy) Ie J t.heap) (qA xS ad)) 0 0 (qA xS ad) := by
  refine Met.ofW (cc := cX8_spare) (maxL := 3) (ret := (some .int)) (by decide) rfl ?_
  intro p e s m args below meth c s₁ B hml hv
  obtain ⟨rfl, hP, hK, hE, hN⟩ := hv
  have C : qC p s m _ meth c cX8_spare 3 RX8 wsX8_spare (some .int) := ⟨⟨B.exec, B.bytes, hml, findClass_of_methodNamed B.named, atoms_spec (ws := wsX8_spare) B.pre⟩, B.returns, B.notSynchronized⟩
  have C0 := C
  obtain ⟨⟨hx, hb, hml, hown, hts⟩, hr, hlocks⟩ := C0
  have hS : va_S (qA xS ad) s.heap s.heap [] := va_S.rf
  have hl := lv_entry ([.ref (ad 0), .int p0]) (n := 3) (Nat.le_of_ble_eq_true rfl)
  rw [lg_entry_eq]
  generalize (lg_sl ([.ref (ad 0), .int p0]) ++ List.replicate (3 - (lg_sl ([.ref (ad 0), .int p0])).length) Slot.unset).toArray = ls at hl ⊢
  have hl : lv_has ls 3 [(0, .ref (ad 0)), (1, .int p0)] := hl
  unfold f_X8_spare at hf
  refine lv_aload_n hx hb dX8_spare_0 rfl (lv_at hl 0 rfl) ?_
  refine q_get (C := RX8) (T := TX8) (N := 12) (ci := 8) (v := .ref (ad 1)) hx hb hts in_X8_spare_X8 hown hK hP oX8 rfl 0 (by decide) (hts (.fieldLink RX8 12 "RowsOnlyPrimes" "now" "LRowsOnlyPrimes$Bank;") (by decide +kernel)) (fun _ h9 => h9) rfl dX8_spare_1 ?_
  refine lv_iload_n hx hb dX8_spare_4 rfl (lv_at hl 1 rfl) ?_
  obtain ⟨v1, h2, hf⟩ := bd_ok hf
  refine q_cSi (va_runV (As := [.int p0]) (rest := []) ⟨hx, hb, hml, hown, hts⟩ (c_X2_hasGroup l (D := D) (ad := ad) (cy := cy) (sa := sa) (va := va) (I := I) (J := J) 1 isB_1 p0 h2) (cwV 1 hts gX8_spare_X2_hasGroup rfl rfl rfl (by decide +kernel) ⟨Nat.le_of_ble_eq_true rfl, Nat.le_of_ble_eq_true rfl⟩) ⟨qPre_blind _, q_recv hK hP (oX2 isB_1) rfl, fun U hU hW => ⟨rfl, qPre_of hP hK hE hN hS U hU hW⟩⟩ rfl rfl hl.1 rfl (lv_room (Nat.le_of_ble_eq_true rfl)) dX8_spare_5 ⟨Nat.le_of_ble_eq_true rfl, Nat.le_of_ble_eq_true rfl⟩) ?_
  refine lv_if_ne (tgt := 19) hx hb dX8_spare_8 (by decide) (fun cc => ?_) (fun cc => ?_)
  · have hf := (if_ok hf).2 cc
    refine lv_aload_n hx hb dX8_spare_19 rfl (lv_at hl 0 rfl) ?_
    refine q_get (C := RX8) (T := TX8) (N := 12) (ci := 8) (v := .ref (ad 1)) hx hb hts in_X8_spare_X8 hown hK hP oX8 rfl 0 (by decide) (hts (.fieldLink RX8 12 "RowsOnlyPrimes" "now" "LRowsOnlyPrimes$Bank;") (by decide +kernel)) (fun _ h9 => h9) rfl dX8_spare_20 ?_
    refine lv_iload_n hx hb dX8_spare_23 rfl (lv_at hl 1 rfl) ?_
    obtain ⟨v3, h4, hf⟩ := bd_ok hf
    refine q_cSi (va_runV (As := [.int p0]) (rest := []) ⟨hx, hb, hml, hown, hts⟩ (c_X2_hireNow l (D := D) (ad := ad) (cy := cy) (sa := sa) (va := va) (I := I) (J := J) 1 isB_1 p0 h4) (cwV 1 hts gX8_spare_X2_hireNow rfl rfl rfl (by decide +kernel) ⟨Nat.le_of_ble_eq_true rfl, Nat.le_of_ble_eq_true rfl⟩) ⟨qPre_blind _, q_recv hK hP (oX2 isB_1) rfl, fun U hU hW => ⟨rfl, qPre_of hP hK hE hN hS U hU hW⟩⟩ rfl rfl hl.1 rfl (lv_room (Nat.le_of_ble_eq_true rfl)) dX8_spare_24 ⟨Nat.le_of_ble_eq_true rfl, Nat.le_of_ble_eq_true rfl⟩) ?_
    refine lv_istore_n (lv' := [(2, .int v3), (0, .ref (ad 0)), (1, .int p0)]) hx hb dX8_spare_27 rfl hl (by decide) rfl (fun ls hl => ?_)
    refine lv_iload_n hx hb dX8_spare_28 rfl (lv_at hl 0 rfl) ?_
    refine lv_iconst (v := -1) hx hb dX8_spare_29 (by decide) ?_
    refine lv_icmp_ne (tgt := 37) hx hb dX8_spare_30 (by decide) (fun cc => ?_) (fun cc => ?_)
    · have hf := (if_ok hf).2 cc
      refine lv_aload_n hx hb dX8_spare_37 rfl (lv_at hl 1 rfl) ?_
      refine q_get (C := RX8) (T := TX8) (N := 12) (ci := 8) (v := .ref (ad 1)) hx hb hts in_X8_spare_X8 hown hK hP oX8 rfl 0 (by decide) (hts (.fieldLink RX8 12 "RowsOnlyPrimes" "now" "LRowsOnlyPrimes$Bank;") (by decide +kernel)) (fun _ h9 => h9) rfl dX8_spare_38 ?_
      refine q_get (C := RX2) (T := TX2) (N := 13) (ci := 2) (v := .ref (ad (1 + 7))) hx hb hts in_X8_spare_X2 hown hK hP (oX2 isB_1) rfl 6 (by decide) (hts (.fieldLink RX8 179 "RowsOnlyPrimes$Bank" "told" "[I") (by decide +kernel)) (fun _ h9 => h9) rfl dX8_spare_41 ?_
      refine lv_iconst (v := 0) hx hb dX8_spare_44 (by decide) ?_
      refine q_iald hx hb hK hP (aX2_7 isB_1) (by decide) dX8_spare_45 ?_
      refine q_top (y := (I (1 + 7) 0)) rfl ?_
      refine lv_aload_n hx hb dX8_spare_46 rfl (lv_at hl 1 rfl) ?_
      refine q_get (C := RX8) (T := TX8) (N := 12) (ci := 8) (v := .ref (ad 1)) hx hb hts in_X8_spare_X8 hown hK hP oX8 rfl 0 (by decide) (hts (.fieldLink RX8 12 "RowsOnlyPrimes" "now" "LRowsOnlyPrimes$Bank;") (by decide +kernel)) (fun _ h9 => h9) rfl dX8_spare_47 ?_
      refine lv_iload_n hx hb dX8_spare_50 rfl (lv_at hl 2 rfl) ?_
      obtain ⟨v5, h6, hf⟩ := bd_ok hf
      refine q_cSi (va_runV (As := [.int p0]) (rest := [.int (I (1 + 7) 0)]) ⟨hx, hb, hml, hown, hts⟩ (c_X2_headsTogether l (D := D) (ad := ad) (cy := cy) (sa := sa) (va := va) (I := I) (J := J) 1 isB_1 p0 h6) (cwV 1 hts gX8_spare_X2_headsTogether rfl rfl rfl (by decide +kernel) ⟨Nat.le_of_ble_eq_true rfl, Nat.le_of_ble_eq_true rfl⟩) ⟨qPre_blind _, q_recv hK hP (oX2 isB_1) rfl, fun U hU hW => ⟨rfl, qPre_of hP hK hE hN hS U hU hW⟩⟩ rfl rfl hl.1 rfl (lv_room (Nat.le_of_ble_eq_true rfl)) dX8_spare_51 ⟨Nat.le_of_ble_eq_true rfl, Nat.le_of_ble_eq_true rfl⟩) ?_
      refine lv_isub hx hb dX8_spare_54 ?_
      refine lv_iload_n hx hb dX8_spare_55 rfl (lv_at hl 0 rfl) ?_
      refine lv_isub hx hb dX8_spare_56 ?_
      have e9 := Option.some.inj hf
      have eI9 : I = Ie := (congrArg Prod.snd e9)
      exact W.iret hx hb hr (fun t ht _ => ⟨⟨_, (), rfl, (congrArg Prod.fst e9), by show qP D _ ad _ _ _ t.heap; rw [ht, ← eI9]; exact hP⟩, hS.F ht⟩) hS.2.2 dX8_spare_57
    · have hf := (if_ok hf).1 cc
      refine lv_iconst (v := -1) hx hb dX8_spare_33 (by decide) ?_
      refine lv_goto (tgt := 57) hx hb dX8_spare_34 (by decide) ?_
      have e9 := Option.some.inj hf
      have eI9 : I = Ie := (congrArg Prod.snd e9)
      exact W.iret hx hb hr (fun t ht _ => ⟨⟨_, (), rfl, (congrArg Prod.fst e9), by show qP D _ ad _ _ _ t.heap; rw [ht, ← eI9]; exact hP⟩, hS.F ht⟩) hS.2.2 dX8_spare_57
  · have hf := (if_ok hf).1 cc
    refine lv_aload_n hx hb dX8_spare_11 rfl (lv_at hl 0 rfl) ?_
    refine lv_sipush (v := -1002) hx hb dX8_spare_12 (by decide) ?_
    obtain ⟨v7, I8, h9, hf⟩ := bd2_ok hf
    refine q_cEi (va_runV (As := [.int (-1002 : Int32)]) (rest := []) ⟨hx, hb, hml, hown, hts⟩ (c_X8_refuse l (D := D) (ad := ad) (cy := cy) (sa := sa) (va := va) (I := I) (J := J) (-1002 : Int32) h9) (cwV 1 hts gX8_spare_X8_refuse rfl rfl rfl (by decide +kernel) ⟨Nat.le_of_ble_eq_true rfl, Nat.le_of_ble_eq_true rfl⟩) ⟨qPre_blind _, q_recv hK hP oX8 rfl, fun U hU hW => ⟨rfl, qPre_of hP hK hE hN hS U hU hW⟩⟩ rfl rfl hl.1 rfl (lv_room (Nat.le_of_ble_eq_true rfl)) dX8_spare_15 ⟨Nat.le_of_ble_eq_true rfl, Nat.le_of_ble_eq_true rfl⟩) hS (fun H locs hP hS => ?_)
    have e9 := Option.some.inj hf
    have eI9 : I8 = Ie := (congrArg Prod.snd e9)
    exact W.iret hx hb hr (fun t ht _ => ⟨⟨_, (), rfl, (congrArg Prod.fst e9), by show qP D _ ad _ _ _ t.heap; rw [ht, ← eI9]; exact hP⟩, hS.F ht⟩) hS.2.2 dX8_spare_18
abbrev r_X8_purses : Room := { frames := 2, cells := 0, slots := 0, locals := 44 }
theorem in_X8_purses_X2 : ∀ w ∈ u_ws RX2 TX2 13, w ∈ wsX8_purses := by decide +kernel
theorem in_X8_purses_X8 : ∀ w ∈ u_ws RX8 TX8 12, w ∈ wsX8_purses := by decide +kernel
set_option maxHeartbeats 4000000 in
set_option maxRecDepth 100000 in
theorem w_X8_purses_23 (C : qC p s m args meth c cX8_purses 4 RX8 wsX8_purses (some .int)) (hK : qK D cy sa s) (hE : qEnv sa va (qA xS ad) s s.heap) (hN : qN xS ad)   {J : qJ} {r : Int32} {Ie : qI} : ∀ (n : Nat) (x1 : Int32) (x2 : Int32) (x3 : Int32)  (I : qI) (ls : Array Slot) (H : Heap) (locs : List Loc), f_X8_purses_23 n x1 x2 x3 I = some (r, Ie) → lv_has ls 4 [(0, .ref (ad 0)), (1, .int x1), (2, .int x2), (3, .int x3)] → qP D xS ad (eX ad cy) I J H → va_S (qA xS ad) s.heap H locs → W p l e (headSpec wsX8_purses r_X8_purses).room s m args below meth c H locs 0 0 (MQ below (va_Qi (S := Unit) (fun x _ => x = r) (fun _ t => qP D xS ad (eX ad cy) Ie J t.heap) (qA xS ad)) args s 0 0 (qA xS ad)) (F0 m 23 ls []) := by
  have C0 := C
  obtain ⟨⟨hx, hb, hml, hown, hts⟩, hr, hlocks⟩ := C0
  intro n
  induction n with
  | zero =>
    intro x1 x2 x3 I ls H locs hf hl hP hS
    rw [f_X8_purses_23] at hf
    cases hf
  | succ n ih =>
    intro x1 x2 x3 I ls H locs hf hl hP hS
    rw [f_X8_purses_23] at hf
    refine lv_iload_n hx hb dX8_purses_23 rfl (lv_at hl 3 rfl) ?_
    refine lv_aload_n hx hb dX8_purses_24 rfl (lv_at hl 0 rfl) ?_
    refine q_get (C := RX8) (T := TX8) (N := 12) (ci := 8) (v := .ref (ad 1)) hx hb hts in_X8_purses_X8 hown hK hP oX8 rfl 0 (by decide) (hts (.fieldLink RX8 12 "RowsOnlyPrimes" "now" "LRowsOnlyPrimes$Bank;") (by decide +kernel)) (fun _ h9 => h9) rfl dX8_purses_25 ?_
    refine q_get (C := RX2) (T := TX2) (N := 13) (ci := 2) (v := .int (I 1 7)) hx hb hts in_X8_purses_X2 hown hK hP (oX2 isB_1) rfl 7 (by decide) (hts (.fieldLink RX8 232 "RowsOnlyPrimes$Bank" "size" "I") (by decide +kernel)) (fun _ h9 => h9) rfl dX8_purses_28 ?_
    refine lv_icmp_ge (tgt := 60) hx hb dX8_purses_31 (by decide) (fun cc => ?_) (fun cc => ?_)
    · have hf := (if_ok hf).1 cc
      refine lv_iload_n hx hb dX8_purses_60 rfl (lv_at hl 2 rfl) ?_
      have e9 := Option.some.inj hf
      have eI9 : I = Ie := (congrArg Prod.snd e9)
      exact W.iret hx hb hr (fun t ht _ => ⟨⟨_, (), rfl, (congrArg Prod.fst e9), by show qP D _ ad _ _ _ t.heap; rw [ht, ← eI9]; exact hP⟩, hS.F ht⟩) hS.2.2 dX8_purses_61
    · have hf := (if_ok hf).2 cc
      refine lv_iload_n hx hb dX8_purses_34 rfl (lv_at hl 1 rfl) ?_
      refine lv_iload_n hx hb dX8_purses_35 rfl (lv_at hl 3 rfl) ?_
      obtain ⟨v1, h2, hf⟩ := bd_ok hf
      refine q_cSi (va_runS (As := [.int x1, .int x3]) (rest := []) ⟨hx, hb, hml, hown, hts⟩ (c_X8_has l (D := D) (ad := ad) (cy := cy) (sa := sa) (va := va) (I := I) (J := J) x1 x3 h2) (va_cwS 2 hts gX8_purses_X8_has rfl rfl rfl (by decide +kernel) ⟨Nat.le_of_ble_eq_true rfl, Nat.le_of_ble_eq_true rfl⟩) ⟨qPre_blind _, fun U hU hW => ⟨rfl, qPre_of hP hK hE hN hS U hU hW⟩⟩ rfl rfl hl.1 rfl (lv_room (Nat.le_of_ble_eq_true rfl)) dX8_purses_36 ⟨Nat.le_of_ble_eq_true rfl, Nat.le_of_ble_eq_true rfl⟩) ?_
      refine lv_if_eq (tgt := 54) hx hb dX8_purses_39 (by decide) (fun cc => ?_) (fun cc => ?_)
      · have hf := (if_ok hf).1 cc
        refine lv_iinc (v := (x3 + (1 : Int32))) (lv' := [(3, .int (x3 + (1 : Int32))), (0, .ref (ad 0)), (1, .int x1), (2, .int x2)]) hx hb dX8_purses_54 hl (k := 3) rfl rfl (by decide) rfl (fun ls hl => ?_)
        refine lv_goto (tgt := 23) hx hb dX8_purses_57 (by decide) ?_
        exact ih x1 x2 (x3 + (1 : Int32)) I _ _ _ hf (lv_sub hl [1, 2, 3, 0] rfl) hP hS
      · have hf := (if_ok hf).2 cc
        refine lv_iload_n hx hb dX8_purses_42 rfl (lv_at hl 2 rfl) ?_
        refine lv_aload_n hx hb dX8_purses_43 rfl (lv_at hl 0 rfl) ?_
        refine q_get (C := RX8) (T := TX8) (N := 12) (ci := 8) (v := .ref (ad 1)) hx hb hts in_X8_purses_X8 hown hK hP oX8 rfl 0 (by decide) (hts (.fieldLink RX8 12 "RowsOnlyPrimes" "now" "LRowsOnlyPrimes$Bank;") (by decide +kernel)) (fun _ h9 => h9) rfl dX8_purses_44 ?_
        refine q_get (C := RX2) (T := TX2) (N := 13) (ci := 2) (v := .ref (ad (1 + 4))) hx hb hts in_X8_purses_X2 hown hK hP (oX2 isB_1) rfl 3 (by decide) (hts (.fieldLink RX8 146 "RowsOnlyPrimes$Bank" "wallets" "[I") (by decide +kernel)) (fun _ h9 => h9) rfl dX8_purses_47 ?_
        refine lv_iload_n hx hb dX8_purses_50 rfl (lv_at hl 3 rfl) ?_
        obtain ⟨g3, hf⟩ := gd_ok hf
        refine q_iald hx hb hK hP (aX2_4 isB_1) g3 dX8_purses_51 ?_
        refine lv_iadd hx hb dX8_purses_52 ?_
        refine lv_istore_n (lv' := [(2, .int (x2 + (I (1 + 4) x3.toNatClampNeg))), (0, .ref (ad 0)), (1, .int x1), (3, .int x3)]) hx hb dX8_purses_53 rfl hl (by decide) rfl (fun ls hl => ?_)
        refine lv_iinc (v := (x3 + (1 : Int32))) (lv' := [(3, .int (x3 + (1 : Int32))), (2, .int (x2 + (I (1 + 4) x3.toNatClampNeg))), (0, .ref (ad 0)), (1, .int x1)]) hx hb dX8_purses_54 hl (k := 3) rfl rfl (by decide) rfl (fun ls hl => ?_)
        refine lv_goto (tgt := 23) hx hb dX8_purses_57 (by decide) ?_
        exact ih x1 (x2 + (I (1 + 4) x3.toNatClampNeg)) (x3 + (1 : Int32)) I _ _ _ hf (lv_sub hl [2, 3, 1, 0] rfl) hP hS
set_option maxHeartbeats 4000000 in
set_option maxRecDepth 100000 in
theorem c_X8_purses (l : Launch) {D : va_G} {ad : Nat → Nat} {cy : Nat → ClassId} {sa va : Nat → Nat} {I : qI} {J : qJ}   (p0 : Int32) {r : Int32} {Ie : qI} (hf : f_X8_purses p0 I = some (r, Ie)) : Met l yX8_purses wsX8_purses r_X8_purses (va_Pc [.ref (ad 0), .int p0] (qPre D xS ad cy sa va (eX ad cy) I J)) (va_Qi (S := Unit) (fun x _ => x = r) (fun _ t => qP D xS ad (eX ad cy) Ie J t.heap) (qA xS ad)) 0 0 (qA xS ad) := by
  refine Met.ofW (cc := cX8_purses) (maxL := 4) (ret := (some .int)) (by decide) rfl ?_
  intro p e s m args below meth c s₁ B hml hv
  obtain ⟨rfl, hP, hK, hE, hN⟩ := hv
  have C : qC p s m _ meth c cX8_purses 4 RX8 wsX8_purses (some .int) := ⟨⟨B.exec, B.bytes, hml, findClass_of_methodNamed B.named, atoms_spec (ws := wsX8_purses) B.pre⟩, B.returns, B.notSynchronized⟩
  have C0 := C
  obtain ⟨⟨hx, hb, hml, hown, hts⟩, hr, hlocks⟩ := C0
  have hS : va_S (qA xS ad) s.heap s.heap [] := va_S.rf
  have hl := lv_entry ([.ref (ad 0), .int p0]) (n := 4) (Nat.le_of_ble_eq_true rfl)
  rw [lg_entry_eq]
  generalize (lg_sl ([.ref (ad 0), .int p0]) ++ List.replicate (4 - (lg_sl ([.ref (ad 0), .int p0])).length) Slot.unset).toArray = ls at hl ⊢
  have hl : lv_has ls 4 [(0, .ref (ad 0)), (1, .int p0)] := hl
  unfold f_X8_purses at hf
  refine lv_aload_n hx hb dX8_purses_0 rfl (lv_at hl 0 rfl) ?_
  refine q_get (C := RX8) (T := TX8) (N := 12) (ci := 8) (v := .ref (ad 1)) hx hb hts in_X8_purses_X8 hown hK hP oX8 rfl 0 (by decide) (hts (.fieldLink RX8 12 "RowsOnlyPrimes" "now" "LRowsOnlyPrimes$Bank;") (by decide +kernel)) (fun _ h9 => h9) rfl dX8_purses_1 ?_
  refine lv_iload_n hx hb dX8_purses_4 rfl (lv_at hl 1 rfl) ?_
  obtain ⟨v1, h2, hf⟩ := bd_ok hf
  refine q_cSi (va_runV (As := [.int p0]) (rest := []) ⟨hx, hb, hml, hown, hts⟩ (c_X2_hasGroup l (D := D) (ad := ad) (cy := cy) (sa := sa) (va := va) (I := I) (J := J) 1 isB_1 p0 h2) (cwV 1 hts gX8_purses_X2_hasGroup rfl rfl rfl (by decide +kernel) ⟨Nat.le_of_ble_eq_true rfl, Nat.le_of_ble_eq_true rfl⟩) ⟨qPre_blind _, q_recv hK hP (oX2 isB_1) rfl, fun U hU hW => ⟨rfl, qPre_of hP hK hE hN hS U hU hW⟩⟩ rfl rfl hl.1 rfl (lv_room (Nat.le_of_ble_eq_true rfl)) dX8_purses_5 ⟨Nat.le_of_ble_eq_true rfl, Nat.le_of_ble_eq_true rfl⟩) ?_
  refine lv_if_ne (tgt := 19) hx hb dX8_purses_8 (by decide) (fun cc => ?_) (fun cc => ?_)
  · have hf := (if_ok hf).2 cc
    refine lv_iconst (v := 0) hx hb dX8_purses_19 (by decide) ?_
    refine lv_istore_n (lv' := [(2, .int (0 : Int32)), (0, .ref (ad 0)), (1, .int p0)]) hx hb dX8_purses_20 rfl hl (by decide) rfl (fun ls hl => ?_)
    refine lv_iconst (v := 0) hx hb dX8_purses_21 (by decide) ?_
    refine lv_istore_n (lv' := [(3, .int (0 : Int32)), (2, .int (0 : Int32)), (0, .ref (ad 0)), (1, .int p0)]) hx hb dX8_purses_22 rfl hl (by decide) rfl (fun ls hl => ?_)
    exact w_X8_purses_23 C hK hE hN   1000 p0 (0 : Int32) (0 : Int32) I _ _ _ hf (lv_sub hl [2, 3, 1, 0] rfl) hP hS
  · have hf := (if_ok hf).1 cc
    refine lv_aload_n hx hb dX8_purses_11 rfl (lv_at hl 0 rfl) ?_
    refine lv_sipush (v := -1002) hx hb dX8_purses_12 (by decide) ?_
    obtain ⟨v3, I4, h5, hf⟩ := bd2_ok hf
    refine q_cEi (va_runV (As := [.int (-1002 : Int32)]) (rest := []) ⟨hx, hb, hml, hown, hts⟩ (c_X8_refuse l (D := D) (ad := ad) (cy := cy) (sa := sa) (va := va) (I := I) (J := J) (-1002 : Int32) h5) (cwV 1 hts gX8_purses_X8_refuse rfl rfl rfl (by decide +kernel) ⟨Nat.le_of_ble_eq_true rfl, Nat.le_of_ble_eq_true rfl⟩) ⟨qPre_blind _, q_recv hK hP oX8 rfl, fun U hU hW => ⟨rfl, qPre_of hP hK hE hN hS U hU hW⟩⟩ rfl rfl hl.1 rfl (lv_room (Nat.le_of_ble_eq_true rfl)) dX8_purses_15 ⟨Nat.le_of_ble_eq_true rfl, Nat.le_of_ble_eq_true rfl⟩) hS (fun H locs hP hS => ?_)
    have e9 := Option.some.inj hf
    have eI9 : I4 = Ie := (congrArg Prod.snd e9)
    exact W.iret hx hb hr (fun t ht _ => ⟨⟨_, (), rfl, (congrArg Prod.fst e9), by show qP D _ ad _ _ _ t.heap; rw [ht, ← eI9]; exact hP⟩, hS.F ht⟩) hS.2.2 dX8_purses_18
abbrev r_X8_ofKind : Room := { frames := 2, cells := 0, slots := 0, locals := 44 }
theorem in_X8_ofKind_X2 : ∀ w ∈ u_ws RX2 TX2 13, w ∈ wsX8_ofKind := by decide +kernel
theorem in_X8_ofKind_X8 : ∀ w ∈ u_ws RX8 TX8 12, w ∈ wsX8_ofKind := by decide +kernel
set_option maxHeartbeats 4000000 in
set_option maxRecDepth 100000 in
theorem w_X8_ofKind_19 (C : qC p s m args meth c cX8_ofKind 4 RX8 wsX8_ofKind (some .int)) (hK : qK D cy sa s) (hE : qEnv sa va (qA xS ad) s s.heap) (hN : qN xS ad)   {J : qJ} {r : Int32} {Ie : qI} : ∀ (n : Nat) (x1 : Int32) (x2 : Int32) (x3 : Int32)  (I : qI) (ls : Array Slot) (H : Heap) (locs : List Loc), f_X8_ofKind_19 n x1 x2 x3 I = some (r, Ie) → lv_has ls 4 [(0, .ref (ad 0)), (1, .int x1), (2, .int x2), (3, .int x3)] → qP D xS ad (eX ad cy) I J H → va_S (qA xS ad) s.heap H locs → W p l e (headSpec wsX8_ofKind r_X8_ofKind).room s m args below meth c H locs 0 0 (MQ below (va_Qi (S := Unit) (fun x _ => x = r) (fun _ t => qP D xS ad (eX ad cy) Ie J t.heap) (qA xS ad)) args s 0 0 (qA xS ad)) (F0 m 19 ls []) := by
  have C0 := C
  obtain ⟨⟨hx, hb, hml, hown, hts⟩, hr, hlocks⟩ := C0
  intro n
  induction n with
  | zero =>
    intro x1 x2 x3 I ls H locs hf hl hP hS
    rw [f_X8_ofKind_19] at hf
    cases hf
  | succ n ih =>
    intro x1 x2 x3 I ls H locs hf hl hP hS
    rw [f_X8_ofKind_19] at hf
    refine lv_iload_n hx hb dX8_ofKind_19 rfl (lv_at hl 3 rfl) ?_
    refine lv_aload_n hx hb dX8_ofKind_20 rfl (lv_at hl 0 rfl) ?_
    refine q_get (C := RX8) (T := TX8) (N := 12) (ci := 8) (v := .ref (ad 1)) hx hb hts in_X8_ofKind_X8 hown hK hP oX8 rfl 0 (by decide) (hts (.fieldLink RX8 12 "RowsOnlyPrimes" "now" "LRowsOnlyPrimes$Bank;") (by decide +kernel)) (fun _ h9 => h9) rfl dX8_ofKind_21 ?_
    refine q_get (C := RX2) (T := TX2) (N := 13) (ci := 2) (v := .int (I 1 7)) hx hb hts in_X8_ofKind_X2 hown hK hP (oX2 isB_1) rfl 7 (by decide) (hts (.fieldLink RX8 232 "RowsOnlyPrimes$Bank" "size" "I") (by decide +kernel)) (fun _ h9 => h9) rfl dX8_ofKind_24 ?_
    refine lv_icmp_ge (tgt := 52) hx hb dX8_ofKind_27 (by decide) (fun cc => ?_) (fun cc => ?_)
    · have hf := (if_ok hf).1 cc
      refine lv_iload_n hx hb dX8_ofKind_52 rfl (lv_at hl 2 rfl) ?_
      have e9 := Option.some.inj hf
      have eI9 : I = Ie := (congrArg Prod.snd e9)
      exact W.iret hx hb hr (fun t ht _ => ⟨⟨_, (), rfl, (congrArg Prod.fst e9), by show qP D _ ad _ _ _ t.heap; rw [ht, ← eI9]; exact hP⟩, hS.F ht⟩) hS.2.2 dX8_ofKind_53
    · have hf := (if_ok hf).2 cc
      refine lv_aload_n hx hb dX8_ofKind_30 rfl (lv_at hl 0 rfl) ?_
      refine q_get (C := RX8) (T := TX8) (N := 12) (ci := 8) (v := .ref (ad 1)) hx hb hts in_X8_ofKind_X8 hown hK hP oX8 rfl 0 (by decide) (hts (.fieldLink RX8 12 "RowsOnlyPrimes" "now" "LRowsOnlyPrimes$Bank;") (by decide +kernel)) (fun _ h9 => h9) rfl dX8_ofKind_31 ?_
      refine q_get (C := RX2) (T := TX2) (N := 13) (ci := 2) (v := .ref (ad (1 + 1))) hx hb hts in_X8_ofKind_X2 hown hK hP (oX2 isB_1) rfl 0 (by decide) (hts (.fieldLink RX8 140 "RowsOnlyPrimes$Bank" "kinds" "[I") (by decide +kernel)) (fun _ h9 => h9) rfl dX8_ofKind_34 ?_
      refine lv_iload_n hx hb dX8_ofKind_37 rfl (lv_at hl 3 rfl) ?_
      obtain ⟨g1, hf⟩ := gd_ok hf
      refine q_iald hx hb hK hP (aX2_1 isB_1) g1 dX8_ofKind_38 ?_
      refine lv_iload_n hx hb dX8_ofKind_39 rfl (lv_at hl 1 rfl) ?_
      refine lv_icmp_ne (tgt := 46) hx hb dX8_ofKind_40 (by decide) (fun cc => ?_) (fun cc => ?_)
      · have hf := (if_ok hf).2 cc
        refine lv_iinc (v := (x3 + (1 : Int32))) (lv' := [(3, .int (x3 + (1 : Int32))), (0, .ref (ad 0)), (1, .int x1), (2, .int x2)]) hx hb dX8_ofKind_46 hl (k := 3) rfl rfl (by decide) rfl (fun ls hl => ?_)
        refine lv_goto (tgt := 19) hx hb dX8_ofKind_49 (by decide) ?_
        exact ih x1 x2 (x3 + (1 : Int32)) I _ _ _ hf (lv_sub hl [1, 2, 3, 0] rfl) hP hS
      · have hf := (if_ok hf).1 cc
        refine lv_iinc (v := (x2 + (1 : Int32))) (lv' := [(2, .int (x2 + (1 : Int32))), (0, .ref (ad 0)), (1, .int x1), (3, .int x3)]) hx hb dX8_ofKind_43 hl (k := 2) rfl rfl (by decide) rfl (fun ls hl => ?_)
        refine lv_iinc (v := (x3 + (1 : Int32))) (lv' := [(3, .int (x3 + (1 : Int32))), (2, .int (x2 + (1 : Int32))), (0, .ref (ad 0)), (1, .int x1)]) hx hb dX8_ofKind_46 hl (k := 3) rfl rfl (by decide) rfl (fun ls hl => ?_)
        refine lv_goto (tgt := 19) hx hb dX8_ofKind_49 (by decide) ?_
        exact ih x1 (x2 + (1 : Int32)) (x3 + (1 : Int32)) I _ _ _ hf (lv_sub hl [2, 3, 1, 0] rfl) hP hS
set_option maxHeartbeats 4000000 in
set_option maxRecDepth 100000 in
theorem c_X8_ofKind (l : Launch) {D : va_G} {ad : Nat → Nat} {cy : Nat → ClassId} {sa va : Nat → Nat} {I : qI} {J : qJ}   (p0 : Int32) {r : Int32} {Ie : qI} (hf : f_X8_ofKind p0 I = some (r, Ie)) : Met l yX8_ofKind wsX8_ofKind r_X8_ofKind (va_Pc [.ref (ad 0), .int p0] (qPre D xS ad cy sa va (eX ad cy) I J)) (va_Qi (S := Unit) (fun x _ => x = r) (fun _ t => qP D xS ad (eX ad cy) Ie J t.heap) (qA xS ad)) 0 0 (qA xS ad) := by
  refine Met.ofW (cc := cX8_ofKind) (maxL := 4) (ret := (some .int)) (by decide) rfl ?_
  intro p e s m args below meth c s₁ B hml hv
  obtain ⟨rfl, hP, hK, hE, hN⟩ := hv
  have C : qC p s m _ meth c cX8_ofKind 4 RX8 wsX8_ofKind (some .int) := ⟨⟨B.exec, B.bytes, hml, findClass_of_methodNamed B.named, atoms_spec (ws := wsX8_ofKind) B.pre⟩, B.returns, B.notSynchronized⟩
  have C0 := C
  obtain ⟨⟨hx, hb, hml, hown, hts⟩, hr, hlocks⟩ := C0
  have hS : va_S (qA xS ad) s.heap s.heap [] := va_S.rf
  have hl := lv_entry ([.ref (ad 0), .int p0]) (n := 4) (Nat.le_of_ble_eq_true rfl)
  rw [lg_entry_eq]
  generalize (lg_sl ([.ref (ad 0), .int p0]) ++ List.replicate (4 - (lg_sl ([.ref (ad 0), .int p0])).length) Slot.unset).toArray = ls at hl ⊢
  have hl : lv_has ls 4 [(0, .ref (ad 0)), (1, .int p0)] := hl
  unfold f_X8_ofKind at hf
  refine lv_iload_n hx hb dX8_ofKind_0 rfl (lv_at hl 1 rfl) ?_
  obtain ⟨v1, h2, hf⟩ := bd_ok hf
  refine q_cSi (va_runS (As := [.int p0]) (rest := []) ⟨hx, hb, hml, hown, hts⟩ (c_X8_isKind l (D := D) (ad := ad) (cy := cy) (sa := sa) (va := va) (I := I) (J := J) p0 h2) (va_cwS 1 hts gX8_ofKind_X8_isKind rfl rfl rfl (by decide +kernel) ⟨Nat.le_of_ble_eq_true rfl, Nat.le_of_ble_eq_true rfl⟩) ⟨qPre_blind _, fun U hU hW => ⟨rfl, qPre_of hP hK hE hN hS U hU hW⟩⟩ rfl rfl hl.1 rfl (lv_room (Nat.le_of_ble_eq_true rfl)) dX8_ofKind_1 ⟨Nat.le_of_ble_eq_true rfl, Nat.le_of_ble_eq_true rfl⟩) ?_
  refine lv_if_ne (tgt := 15) hx hb dX8_ofKind_4 (by decide) (fun cc => ?_) (fun cc => ?_)
  · have hf := (if_ok hf).2 cc
    refine lv_iconst (v := 0) hx hb dX8_ofKind_15 (by decide) ?_
    refine lv_istore_n (lv' := [(2, .int (0 : Int32)), (0, .ref (ad 0)), (1, .int p0)]) hx hb dX8_ofKind_16 rfl hl (by decide) rfl (fun ls hl => ?_)
    refine lv_iconst (v := 0) hx hb dX8_ofKind_17 (by decide) ?_
    refine lv_istore_n (lv' := [(3, .int (0 : Int32)), (2, .int (0 : Int32)), (0, .ref (ad 0)), (1, .int p0)]) hx hb dX8_ofKind_18 rfl hl (by decide) rfl (fun ls hl => ?_)
    exact w_X8_ofKind_19 C hK hE hN   1000 p0 (0 : Int32) (0 : Int32) I _ _ _ hf (lv_sub hl [2, 3, 1, 0] rfl) hP hS
  · have hf := (if_ok hf).1 cc
    refine lv_aload_n hx hb dX8_ofKind_7 rfl (lv_at hl 0 rfl) ?_
    refine lv_sipush (v := -1002) hx hb dX8_ofKind_8 (by decide) ?_
    obtain ⟨v3, I4, h5, hf⟩ := bd2_ok hf
    refine q_cEi (va_runV (As := [.int (-1002 : Int32)]) (rest := []) ⟨hx, hb, hml, hown, hts⟩ (c_X8_refuse l (D := D) (ad := ad) (cy := cy) (sa := sa) (va := va) (I := I) (J := J) (-1002 : Int32) h5) (cwV 1 hts gX8_ofKind_X8_refuse rfl rfl rfl (by decide +kernel) ⟨Nat.le_of_ble_eq_true rfl, Nat.le_of_ble_eq_true rfl⟩) ⟨qPre_blind _, q_recv hK hP oX8 rfl, fun U hU hW => ⟨rfl, qPre_of hP hK hE hN hS U hU hW⟩⟩ rfl rfl hl.1 rfl (lv_room (Nat.le_of_ble_eq_true rfl)) dX8_ofKind_11 ⟨Nat.le_of_ble_eq_true rfl, Nat.le_of_ble_eq_true rfl⟩) hS (fun H locs hP hS => ?_)
    have e9 := Option.some.inj hf
    have eI9 : I4 = Ie := (congrArg Prod.snd e9)
    exact W.iret hx hb hr (fun t ht _ => ⟨⟨_, (), rfl, (congrArg Prod.fst e9), by show qP D _ ad _ _ _ t.heap; rw [ht, ← eI9]; exact hP⟩, hS.F ht⟩) hS.2.2 dX8_ofKind_14
abbrev r_X8_toldTrouble : Room := { frames := 3, cells := 0, slots := 0, locals := 64 }
theorem in_X8_toldTrouble_X8 : ∀ w ∈ u_ws RX8 TX8 12, w ∈ wsX8_toldTrouble := by decide +kernel
set_option maxHeartbeats 4000000 in
set_option maxRecDepth 100000 in
theorem c_X8_toldTrouble (l : Launch) {D : va_G} {ad : Nat → Nat} {cy : Nat → ClassId} {sa va : Nat → Nat} {I : qI} {J : qJ}   (p0 : Int32) (p1 : Int32) (p2 : Int32) (p3 : Int32) {r : Int32} (hf : f_X8_toldTrouble p0 p1 p2 p3 I = some r) : Met l yX8_toldTrouble wsX8_toldTrouble r_X8_toldTrouble (va_Pc [.ref (ad 0), .int p0, .int p1, .int p2, .int p3] (qPre D xS ad cy sa va (eX ad cy) I J)) (vp_Si (fun x => x = r)) 0 0 (fun _ => False) := by
  refine Met.ofW (cc := cX8_toldTrouble) (maxL := 6) (ret := (some .int)) (by decide) rfl ?_
  intro p e s m args below meth c s₁ B hml hv
  obtain ⟨rfl, hP, hK, hE, hN⟩ := hv
  have C : qC p s m _ meth c cX8_toldTrouble 6 RX8 wsX8_toldTrouble (some .int) := ⟨⟨B.exec, B.bytes, hml, findClass_of_methodNamed B.named, atoms_spec (ws := wsX8_toldTrouble) B.pre⟩, B.returns, B.notSynchronized⟩
  have C0 := C
  obtain ⟨⟨hx, hb, hml, hown, hts⟩, hr, hlocks⟩ := C0
  have hl := lv_entry ([.ref (ad 0), .int p0, .int p1, .int p2, .int p3]) (n := 6) (Nat.le_of_ble_eq_true rfl)
  rw [lg_entry_eq]
  generalize (lg_sl ([.ref (ad 0), .int p0, .int p1, .int p2, .int p3]) ++ List.replicate (6 - (lg_sl ([.ref (ad 0), .int p0, .int p1, .int p2, .int p3])).length) Slot.unset).toArray = ls at hl ⊢
  have hl : lv_has ls 6 [(0, .ref (ad 0)), (1, .int p0), (2, .int p1), (3, .int p2), (4, .int p3)] := hl
  unfold f_X8_toldTrouble at hf
  refine lv_iload_n hx hb dX8_toldTrouble_0 rfl (lv_at hl 2 rfl) ?_
  refine lv_iconst (v := 0) hx hb dX8_toldTrouble_1 (by decide) ?_
  refine lv_iload_n hx hb dX8_toldTrouble_2 rfl (lv_at hl 3 rfl) ?_
  obtain ⟨v1, h2, hf⟩ := bd_ok hf
  refine q_cSi (va_runS (As := [.int p1, .int (0 : Int32), .int p2]) (rest := []) ⟨hx, hb, hml, hown, hts⟩ (c_X8_within l (D := D) (ad := ad) (cy := cy) (sa := sa) (va := va) (I := I) (J := J) p1 (0 : Int32) p2 h2) (va_cwS 3 hts gX8_toldTrouble_X8_within rfl rfl rfl (by decide +kernel) ⟨Nat.le_of_ble_eq_true rfl, Nat.le_of_ble_eq_true rfl⟩) ⟨qPre_blind _, fun U hU hW => ⟨rfl, qPre_of hP hK hE hN va_S.rf U hU hW⟩⟩ rfl rfl hl.1 rfl (lv_room (Nat.le_of_ble_eq_true rfl)) dX8_toldTrouble_3 ⟨Nat.le_of_ble_eq_true rfl, Nat.le_of_ble_eq_true rfl⟩) ?_
  refine lv_if_eq (tgt := 19) hx hb dX8_toldTrouble_6 (by decide) (fun cc => ?_) (fun cc => ?_)
  · have hf := (if_ok hf).1 cc
    refine lv_sipush (v := -1002) hx hb dX8_toldTrouble_19 (by decide) ?_
    exact W.iret hx hb hr (fun t ht _ => ⟨_, rfl, Option.some.inj hf, ht⟩) (fun _ h => by cases h) dX8_toldTrouble_22
  · have hf := (if_ok hf).2 cc
    refine lv_iload hx hb dX8_toldTrouble_9 (lv_at hl 4 rfl) ?_
    refine lv_iconst (v := 0) hx hb dX8_toldTrouble_11 (by decide) ?_
    refine lv_iconst (v := 1) hx hb dX8_toldTrouble_12 (by decide) ?_
    obtain ⟨v3, h4, hf⟩ := bd_ok hf
    refine q_cSi (va_runS (As := [.int p3, .int (0 : Int32), .int (1 : Int32)]) (rest := []) ⟨hx, hb, hml, hown, hts⟩ (c_X8_within l (D := D) (ad := ad) (cy := cy) (sa := sa) (va := va) (I := I) (J := J) p3 (0 : Int32) (1 : Int32) h4) (va_cwS 3 hts gX8_toldTrouble_X8_within rfl rfl rfl (by decide +kernel) ⟨Nat.le_of_ble_eq_true rfl, Nat.le_of_ble_eq_true rfl⟩) ⟨qPre_blind _, fun U hU hW => ⟨rfl, qPre_of hP hK hE hN va_S.rf U hU hW⟩⟩ rfl rfl hl.1 rfl (lv_room (Nat.le_of_ble_eq_true rfl)) dX8_toldTrouble_13 ⟨Nat.le_of_ble_eq_true rfl, Nat.le_of_ble_eq_true rfl⟩) ?_
    refine lv_if_ne (tgt := 23) hx hb dX8_toldTrouble_16 (by decide) (fun cc => ?_) (fun cc => ?_)
    · have hf := (if_ok hf).2 cc
      refine lv_aload_n hx hb dX8_toldTrouble_23 rfl (lv_at hl 0 rfl) ?_
      refine lv_iload_n hx hb dX8_toldTrouble_24 rfl (lv_at hl 1 rfl) ?_
      obtain ⟨v5, h6, hf⟩ := bd_ok hf
      refine q_cSi (va_runV (As := [.int p0]) (rest := []) ⟨hx, hb, hml, hown, hts⟩ (c_X8_rowTrouble l (D := D) (ad := ad) (cy := cy) (sa := sa) (va := va) (I := I) (J := J) p0 h6) (cwV 1 hts gX8_toldTrouble_X8_rowTrouble rfl rfl rfl (by decide +kernel) ⟨Nat.le_of_ble_eq_true rfl, Nat.le_of_ble_eq_true rfl⟩) ⟨qPre_blind _, q_recv hK hP oX8 rfl, fun U hU hW => ⟨rfl, qPre_of hP hK hE hN va_S.rf U hU hW⟩⟩ rfl rfl hl.1 rfl (lv_room (Nat.le_of_ble_eq_true rfl)) dX8_toldTrouble_25 ⟨Nat.le_of_ble_eq_true rfl, Nat.le_of_ble_eq_true rfl⟩) ?_
      refine lv_istore (lv' := [(5, .int v5), (0, .ref (ad 0)), (1, .int p0), (2, .int p1), (3, .int p2), (4, .int p3)]) hx hb dX8_toldTrouble_28 hl (by decide) rfl (fun ls hl => ?_)
      refine lv_iload hx hb dX8_toldTrouble_30 (lv_at hl 0 rfl) ?_
      refine lv_if_ne (tgt := 55) hx hb dX8_toldTrouble_32 (by decide) (fun cc => ?_) (fun cc => ?_)
      · have hf := (if_ok hf).2 cc
        refine lv_iload hx hb dX8_toldTrouble_55 (lv_at hl 0 rfl) ?_
        exact W.iret hx hb hr (fun t ht _ => ⟨_, rfl, Option.some.inj hf, ht⟩) (fun _ h => by cases h) dX8_toldTrouble_57
      · have hf := (if_ok hf).1 cc
        refine lv_aload_n hx hb dX8_toldTrouble_35 rfl (lv_at hl 1 rfl) ?_
        refine q_get (C := RX8) (T := TX8) (N := 12) (ci := 8) (v := .ref (ad 27)) hx hb hts in_X8_toldTrouble_X8 hown hK hP oX8 rfl 4 (by decide) (hts (.fieldLink RX8 31 "RowsOnlyPrimes" "shelves" "[LRowsOnlyPrimes$Shelf;") (by decide +kernel)) (fun _ h9 => h9) rfl dX8_toldTrouble_36 ?_
        refine lv_iload_n hx hb dX8_toldTrouble_39 rfl (lv_at hl 2 rfl) ?_
        obtain ⟨g7, hf⟩ := gd_ok hf
        refine q_aald (t := 3) hx hb hK hP aX8_27 rfl rfl g7 dX8_toldTrouble_40 ?_
        refine lv_iconst (v := 0) hx hb dX8_toldTrouble_41 (by decide) ?_
        refine lv_iload_n hx hb dX8_toldTrouble_42 rfl (lv_at hl 3 rfl) ?_
        obtain ⟨v8, h9, hf⟩ := bd_ok hf
        refine q_cSi (va_runV (As := [.int (0 : Int32), .int p1]) (rest := []) ⟨hx, hb, hml, hown, hts⟩ (c_X6_hasPlaces l (D := D) (ad := ad) (cy := cy) (sa := sa) (va := va) (I := I) (J := J) (28 + 2 * p0.toNatClampNeg) (isSh_of g7) (0 : Int32) p1 h9) (cwV 2 hts gX8_toldTrouble_X6_hasPlaces rfl rfl rfl (by decide +kernel) ⟨Nat.le_of_ble_eq_true rfl, Nat.le_of_ble_eq_true rfl⟩) ⟨qPre_blind _, q_recv hK hP (oX6 (isSh_of g7)) rfl, fun U hU hW => ⟨rfl, qPre_of hP hK hE hN va_S.rf U hU hW⟩⟩ rfl rfl hl.1 rfl (lv_room (Nat.le_of_ble_eq_true rfl)) dX8_toldTrouble_43 ⟨Nat.le_of_ble_eq_true rfl, Nat.le_of_ble_eq_true rfl⟩) ?_
        refine lv_if_ne (tgt := 55) hx hb dX8_toldTrouble_46 (by decide) (fun cc => ?_) (fun cc => ?_)
        · have hf := (if_ok hf).2 cc
          refine lv_iload hx hb dX8_toldTrouble_55 (lv_at hl 0 rfl) ?_
          exact W.iret hx hb hr (fun t ht _ => ⟨_, rfl, Option.some.inj hf, ht⟩) (fun _ h => by cases h) dX8_toldTrouble_57
        · have hf := (if_ok hf).1 cc
          refine lv_sipush (v := -1002) hx hb dX8_toldTrouble_49 (by decide) ?_
          refine lv_goto (tgt := 57) hx hb dX8_toldTrouble_52 (by decide) ?_
          exact W.iret hx hb hr (fun t ht _ => ⟨_, rfl, Option.some.inj hf, ht⟩) (fun _ h => by cases h) dX8_toldTrouble_57
    · have hf := (if_ok hf).1 cc
      refine lv_sipush (v := -1002) hx hb dX8_toldTrouble_19 (by decide) ?_
      exact W.iret hx hb hr (fun t ht _ => ⟨_, rfl, Option.some.inj hf, ht⟩) (fun _ h => by cases h) dX8_toldTrouble_22
abbrev r_X8_crossed : Room := { frames := 5, cells := 0, slots := 0, locals := 123 }
theorem in_X8_crossed_X0 : ∀ w ∈ u_ws RX0 TX0 3, w ∈ wsX8_crossed := by decide +kernel
theorem in_X8_crossed_X8 : ∀ w ∈ u_ws RX8 TX8 12, w ∈ wsX8_crossed := by decide +kernel
set_option maxHeartbeats 4000000 in
set_option maxRecDepth 100000 in
theorem c_X8_crossed (l : Launch) {D : va_G} {ad : Nat → Nat} {cy : Nat → ClassId} {sa va : Nat → Nat} {I : qI} {J : qJ}   (p0 : Int32) (p1 : Int32) (p2 : Int32) {r : Int32} {Ie : qI} (hf : f_X8_crossed p0 p1 p2 I J = some (r, Ie)) : Met l yX8_crossed wsX8_crossed r_X8_crossed (va_Pc [.ref (ad 0), .int p0, .int p1, .int p2] (qPre D xS ad cy sa va (eX ad cy) I J)) (va_Qi (S := Unit) (fun x _ => x = r) (fun _ t => qP D xS ad (eX ad cy) Ie J t.heap) (qA xS ad)) 0 0 (qA xS ad) := by
  refine Met.ofW (cc := cX8_crossed) (maxL := 6) (ret := (some .int)) (by decide) rfl ?_
  intro p e s m args below meth c s₁ B hml hv
  obtain ⟨rfl, hP, hK, hE, hN⟩ := hv
  have C : qC p s m _ meth c cX8_crossed 6 RX8 wsX8_crossed (some .int) := ⟨⟨B.exec, B.bytes, hml, findClass_of_methodNamed B.named, atoms_spec (ws := wsX8_crossed) B.pre⟩, B.returns, B.notSynchronized⟩
  have C0 := C
  obtain ⟨⟨hx, hb, hml, hown, hts⟩, hr, hlocks⟩ := C0
  have hS : va_S (qA xS ad) s.heap s.heap [] := va_S.rf
  have hl := lv_entry ([.ref (ad 0), .int p0, .int p1, .int p2]) (n := 6) (Nat.le_of_ble_eq_true rfl)
  rw [lg_entry_eq]
  generalize (lg_sl ([.ref (ad 0), .int p0, .int p1, .int p2]) ++ List.replicate (6 - (lg_sl ([.ref (ad 0), .int p0, .int p1, .int p2])).length) Slot.unset).toArray = ls at hl ⊢
  have hl : lv_has ls 6 [(0, .ref (ad 0)), (1, .int p0), (2, .int p1), (3, .int p2)] := hl
  unfold f_X8_crossed at hf
  refine lv_aload_n hx hb dX8_crossed_0 rfl (lv_at hl 0 rfl) ?_
  refine lv_iload_n hx hb dX8_crossed_1 rfl (lv_at hl 1 rfl) ?_
  refine lv_iload_n hx hb dX8_crossed_2 rfl (lv_at hl 2 rfl) ?_
  refine lv_bipush (v := 8) hx hb dX8_crossed_3 (by decide) ?_
  refine lv_iload_n hx hb dX8_crossed_5 rfl (lv_at hl 3 rfl) ?_
  obtain ⟨v1, h2, hf⟩ := bd_ok hf
  refine q_cSi (va_runV (As := [.int p0, .int p1, .int (8 : Int32), .int p2]) (rest := []) ⟨hx, hb, hml, hown, hts⟩ (c_X8_toldTrouble l (D := D) (ad := ad) (cy := cy) (sa := sa) (va := va) (I := I) (J := J) p0 p1 (8 : Int32) p2 h2) (cwV 4 hts gX8_crossed_X8_toldTrouble rfl rfl rfl (by decide +kernel) ⟨Nat.le_of_ble_eq_true rfl, Nat.le_of_ble_eq_true rfl⟩) ⟨qPre_blind _, q_recv hK hP oX8 rfl, fun U hU hW => ⟨rfl, qPre_of hP hK hE hN hS U hU hW⟩⟩ rfl rfl hl.1 rfl (lv_room (Nat.le_of_ble_eq_true rfl)) dX8_crossed_6 ⟨Nat.le_of_ble_eq_true rfl, Nat.le_of_ble_eq_true rfl⟩) ?_
  refine lv_istore (lv' := [(4, .int v1), (0, .ref (ad 0)), (1, .int p0), (2, .int p1), (3, .int p2)]) hx hb dX8_crossed_9 hl (by decide) rfl (fun ls hl => ?_)
  refine lv_iload hx hb dX8_crossed_11 (lv_at hl 0 rfl) ?_
  refine lv_if_eq (tgt := 23) hx hb dX8_crossed_13 (by decide) (fun cc => ?_) (fun cc => ?_)
  · have hf := (if_ok hf).1 cc
    refine lv_aload_n hx hb dX8_crossed_23 rfl (lv_at hl 1 rfl) ?_
    refine q_get (C := RX8) (T := TX8) (N := 12) (ci := 8) (v := .ref (ad 54)) hx hb hts in_X8_crossed_X8 hown hK hP oX8 rfl 9 (by decide) (hts (.fieldLink RX8 63 "RowsOnlyPrimes" "account" "LRowsOnlyPrimes$Account;") (by decide +kernel)) (fun _ h9 => h9) rfl dX8_crossed_24 ?_
    refine lv_aload_n hx hb dX8_crossed_27 rfl (lv_at hl 1 rfl) ?_
    refine q_get (C := RX8) (T := TX8) (N := 12) (ci := 8) (v := .ref (ad 1)) hx hb hts in_X8_crossed_X8 hown hK hP oX8 rfl 0 (by decide) (hts (.fieldLink RX8 12 "RowsOnlyPrimes" "now" "LRowsOnlyPrimes$Bank;") (by decide +kernel)) (fun _ h9 => h9) rfl dX8_crossed_28 ?_
    refine lv_aload_n hx hb dX8_crossed_31 rfl (lv_at hl 1 rfl) ?_
    refine q_get (C := RX8) (T := TX8) (N := 12) (ci := 8) (v := .ref (ad 27)) hx hb hts in_X8_crossed_X8 hown hK hP oX8 rfl 4 (by decide) (hts (.fieldLink RX8 31 "RowsOnlyPrimes" "shelves" "[LRowsOnlyPrimes$Shelf;") (by decide +kernel)) (fun _ h9 => h9) rfl dX8_crossed_32 ?_
    refine lv_iload_n hx hb dX8_crossed_35 rfl (lv_at hl 2 rfl) ?_
    obtain ⟨g3, hf⟩ := gd_ok hf
    refine q_aald (t := 3) hx hb hK hP aX8_27 rfl rfl g3 dX8_crossed_36 ?_
    refine lv_iload_n hx hb dX8_crossed_37 rfl (lv_at hl 3 rfl) ?_
    obtain ⟨v4, I5, h6, hf⟩ := bd2_ok hf
    refine q_cEi (va_runV (As := [.ref (ad 1), .ref (ad (28 + 2 * p0.toNatClampNeg)), .int p1]) (rest := []) ⟨hx, hb, hml, hown, hts⟩ (c_X0_waysToCross l (D := D) (ad := ad) (cy := cy) (sa := sa) (va := va) (I := I) (J := J) 1 (28 + 2 * p0.toNatClampNeg) isB_1 (isSh_of g3) p1 h6) (cwV 3 hts gX8_crossed_X0_waysToCross rfl rfl rfl (by decide +kernel) ⟨Nat.le_of_ble_eq_true rfl, Nat.le_of_ble_eq_true rfl⟩) ⟨qPre_blind _, q_recv hK hP oX0 rfl, fun U hU hW => ⟨rfl, qPre_of hP hK hE hN hS U hU hW⟩⟩ rfl rfl hl.1 rfl (lv_room (Nat.le_of_ble_eq_true rfl)) dX8_crossed_38 ⟨Nat.le_of_ble_eq_true rfl, Nat.le_of_ble_eq_true rfl⟩) hS (fun H locs hP hS => ?_)
    refine lv_istore (lv' := [(5, .int v4), (4, .int v1), (0, .ref (ad 0)), (1, .int p0), (2, .int p1), (3, .int p2)]) hx hb dX8_crossed_41 hl (by decide) rfl (fun ls hl => ?_)
    refine lv_iload_n hx hb dX8_crossed_43 rfl (lv_at hl 5 rfl) ?_
    refine lv_if_ne (tgt := 52) hx hb dX8_crossed_44 (by decide) (fun cc => ?_) (fun cc => ?_)
    · have hf := (if_ok hf).2 cc
      refine lv_aload_n hx hb dX8_crossed_52 rfl (lv_at hl 2 rfl) ?_
      refine q_get (C := RX8) (T := TX8) (N := 12) (ci := 8) (v := .ref (ad 54)) hx hb hts in_X8_crossed_X8 hown hK hP oX8 rfl 9 (by decide) (hts (.fieldLink RX8 63 "RowsOnlyPrimes" "account" "LRowsOnlyPrimes$Account;") (by decide +kernel)) (fun _ h9 => h9) rfl dX8_crossed_53 ?_
      refine q_get (C := RX0) (T := TX0) (N := 3) (ci := 0) (v := .int (I5 54 2)) hx hb hts in_X8_crossed_X0 hown hK hP oX0 rfl 2 (by decide) (hts (.fieldLink RX8 300 "RowsOnlyPrimes$Account" "firstGroup" "I") (by decide +kernel)) (fun _ h9 => h9) rfl dX8_crossed_56 ?_
      have e9 := Option.some.inj hf
      have eI9 : I5 = Ie := (congrArg Prod.snd e9)
      exact W.iret hx hb hr (fun t ht _ => ⟨⟨_, (), rfl, (congrArg Prod.fst e9), by show qP D _ ad _ _ _ t.heap; rw [ht, ← eI9]; exact hP⟩, hS.F ht⟩) hS.2.2 dX8_crossed_59
    · have hf := (if_ok hf).1 cc
      refine lv_iload hx hb dX8_crossed_47 (lv_at hl 0 rfl) ?_
      refine lv_goto (tgt := 59) hx hb dX8_crossed_49 (by decide) ?_
      have e9 := Option.some.inj hf
      have eI9 : I5 = Ie := (congrArg Prod.snd e9)
      exact W.iret hx hb hr (fun t ht _ => ⟨⟨_, (), rfl, (congrArg Prod.fst e9), by show qP D _ ad _ _ _ t.heap; rw [ht, ← eI9]; exact hP⟩, hS.F ht⟩) hS.2.2 dX8_crossed_59
  · have hf := (if_ok hf).2 cc
    refine lv_aload_n hx hb dX8_crossed_16 rfl (lv_at hl 1 rfl) ?_
    refine lv_iload hx hb dX8_crossed_17 (lv_at hl 0 rfl) ?_
    obtain ⟨v7, I8, h9, hf⟩ := bd2_ok hf
    refine q_cEi (va_runV (As := [.int v1]) (rest := []) ⟨hx, hb, hml, hown, hts⟩ (c_X8_refuse l (D := D) (ad := ad) (cy := cy) (sa := sa) (va := va) (I := I) (J := J) v1 h9) (cwV 1 hts gX8_crossed_X8_refuse rfl rfl rfl (by decide +kernel) ⟨Nat.le_of_ble_eq_true rfl, Nat.le_of_ble_eq_true rfl⟩) ⟨qPre_blind _, q_recv hK hP oX8 rfl, fun U hU hW => ⟨rfl, qPre_of hP hK hE hN hS U hU hW⟩⟩ rfl rfl hl.1 rfl (lv_room (Nat.le_of_ble_eq_true rfl)) dX8_crossed_19 ⟨Nat.le_of_ble_eq_true rfl, Nat.le_of_ble_eq_true rfl⟩) hS (fun H locs hP hS => ?_)
    have e9 := Option.some.inj hf
    have eI9 : I8 = Ie := (congrArg Prod.snd e9)
    exact W.iret hx hb hr (fun t ht _ => ⟨⟨_, (), rfl, (congrArg Prod.fst e9), by show qP D _ ad _ _ _ t.heap; rw [ht, ← eI9]; exact hP⟩, hS.F ht⟩) hS.2.2 dX8_crossed_22
end
