/-! machine: X8_judge X8_behind X8_cross X8_comesBack X8_days X8_seed X8_image X8_back X8_shelvesInUse X8_status (written by wip/gen/gen.py) -/
section
variable {p : Program} {l : Launch} {e : Env} {s : State} {m : MethodId} {args : Array Value} {below : List Frame} {meth : Method} {c : Code} {D : va_G} {ad : Nat → Nat} {cy : Nat → ClassId} {sa va : Nat → Nat}
abbrev r_X8_judge : Room := { frames := 5, cells := 0, slots := 0, locals := 119 }
theorem in_X8_judge_X3 : ∀ w ∈ u_ws RX3 TX3 3, w ∈ wsX8_judge := by decide +kernel
theorem in_X8_judge_X8 : ∀ w ∈ u_ws RX8 TX8 12, w ∈ wsX8_judge := by decide +kernel
set_option maxHeartbeats 4000000 in
set_option maxRecDepth 100000 in
theorem c_X8_judge (l : Launch) {D : va_G} {ad : Nat → Nat} {cy : Nat → ClassId} {sa va : Nat → Nat} {I : qI} {J : qJ}   (p0 : Int32) (p1 : Int32) {r : Int32} {Ie : qI} (hf : f_X8_judge p0 p1 I J = some (r, Ie)) : Met l yX8_judge wsX8_judge r_X8_judge (va_Pc [.ref (ad 0), .int p0, .int p1] (qPre D xS ad cy sa va (eX ad cy) I J)) (va_Qi (S := Unit) (fun x _ => x = r) (fun _ t => qP D xS ad (eX ad cy) Ie J t.heap) (qA xS ad)) 0 0 (qA xS ad) := by
  refine Met.ofW (cc := cX8_judge) (maxL := 4) (ret := (some .int)) (by decide) rfl ?_
  intro p e s m args below meth c s₁ B hml hv
  obtain ⟨rfl, hP, hK, hE, hN⟩ := hv
  have C : qC p s m _ meth c cX8_judge 4 RX8 wsX8_judge (some .int) := ⟨⟨B.exec, B.bytes, hml, findClass_of_methodNamed B.named, atoms_spec (ws := wsX8_judge) B.pre⟩, B.returns, B.notSynchronized⟩
  have C0 := C
  obtain ⟨⟨hx, hb, hml, hown, hts⟩, hr, hlocks⟩ := C0
  have hS : va_S (qA xS ad) s.heap s.heap [] := va_S.rf
  have hl := lv_entry ([.ref (ad 0), .int p0, .int p1]) (n := 4) (Nat.le_of_ble_eq_true rfl)
  rw [lg_entry_eq]
  generalize (lg_sl ([.ref (ad 0), .int p0, .int p1]) ++ List.replicate (4 - (lg_sl ([.ref (ad 0), .int p0, .int p1])).length) Slot.unset).toArray = ls at hl ⊢
  have hl : lv_has ls 4 [(0, .ref (ad 0)), (1, .int p0), (2, .int p1)] := hl
  unfold f_X8_judge at hf
  refine lv_aload_n hx hb dX8_judge_0 rfl (lv_at hl 0 rfl) ?_
  refine lv_iload_n hx hb dX8_judge_1 rfl (lv_at hl 1 rfl) ?_
  refine lv_iload_n hx hb dX8_judge_2 rfl (lv_at hl 2 rfl) ?_
  refine lv_bipush (v := 40) hx hb dX8_judge_3 (by decide) ?_
  refine lv_iconst (v := 0) hx hb dX8_judge_5 (by decide) ?_
  obtain ⟨v1, h2, hf⟩ := bd_ok hf
  refine q_cSi (va_runV (As := [.int p0, .int p1, .int (40 : Int32), .int (0 : Int32)]) (rest := []) ⟨hx, hb, hml, hown, hts⟩ (c_X8_toldTrouble l (D := D) (ad := ad) (cy := cy) (sa := sa) (va := va) (I := I) (J := J) p0 p1 (40 : Int32) (0 : Int32) h2) (cwV 4 hts gX8_judge_X8_toldTrouble rfl rfl rfl (by decide +kernel) ⟨Nat.le_of_ble_eq_true rfl, Nat.le_of_ble_eq_true rfl⟩) ⟨qPre_blind _, q_recv hK hP oX8 rfl, fun U hU hW => ⟨rfl, qPre_of hP hK hE hN hS U hU hW⟩⟩ rfl rfl hl.1 rfl (lv_room (Nat.le_of_ble_eq_true rfl)) dX8_judge_6 ⟨Nat.le_of_ble_eq_true rfl, Nat.le_of_ble_eq_true rfl⟩) ?_
  refine lv_istore_n (lv' := [(3, .int v1), (0, .ref (ad 0)), (1, .int p0), (2, .int p1)]) hx hb dX8_judge_9 rfl hl (by decide) rfl (fun ls hl => ?_)
  refine lv_iload_n hx hb dX8_judge_10 rfl (lv_at hl 0 rfl) ?_
  refine lv_if_eq (tgt := 20) hx hb dX8_judge_11 (by decide) (fun cc => ?_) (fun cc => ?_)
  · have hf := (if_ok hf).1 cc
    refine lv_aload_n hx hb dX8_judge_20 rfl (lv_at hl 1 rfl) ?_
    refine q_get (C := RX8) (T := TX8) (N := 12) (ci := 8) (v := .ref (ad 57)) hx hb hts in_X8_judge_X8 hown hK hP oX8 rfl 10 (by decide) (hts (.fieldLink RX8 70 "RowsOnlyPrimes" "day" "LRowsOnlyPrimes$Day;") (by decide +kernel)) (fun _ h9 => h9) rfl dX8_judge_21 ?_
    refine lv_aload_n hx hb dX8_judge_24 rfl (lv_at hl 1 rfl) ?_
    refine q_get (C := RX8) (T := TX8) (N := 12) (ci := 8) (v := .ref (ad 1)) hx hb hts in_X8_judge_X8 hown hK hP oX8 rfl 0 (by decide) (hts (.fieldLink RX8 12 "RowsOnlyPrimes" "now" "LRowsOnlyPrimes$Bank;") (by decide +kernel)) (fun _ h9 => h9) rfl dX8_judge_25 ?_
    refine lv_aload_n hx hb dX8_judge_28 rfl (lv_at hl 1 rfl) ?_
    refine q_get (C := RX8) (T := TX8) (N := 12) (ci := 8) (v := .ref (ad 27)) hx hb hts in_X8_judge_X8 hown hK hP oX8 rfl 4 (by decide) (hts (.fieldLink RX8 31 "RowsOnlyPrimes" "shelves" "[LRowsOnlyPrimes$Shelf;") (by decide +kernel)) (fun _ h9 => h9) rfl dX8_judge_29 ?_
    refine lv_iload_n hx hb dX8_judge_32 rfl (lv_at hl 2 rfl) ?_
    obtain ⟨g3, hf⟩ := gd_ok hf
    refine q_aald (t := 3) hx hb hK hP aX8_27 rfl rfl g3 dX8_judge_33 ?_
    refine lv_iload_n hx hb dX8_judge_34 rfl (lv_at hl 3 rfl) ?_
    obtain ⟨I4, h5, hf⟩ := bd_ok hf
    refine q_cEv (va_runV (As := [.ref (ad 1), .ref (ad (28 + 2 * p0.toNatClampNeg)), .int p1]) (rest := []) ⟨hx, hb, hml, hown, hts⟩ (c_X3_follow l (D := D) (ad := ad) (cy := cy) (sa := sa) (va := va) (I := I) (J := J) 1 (28 + 2 * p0.toNatClampNeg) isB_1 (isSh_of g3) p1 h5) (cwV 3 hts gX8_judge_X3_follow rfl rfl rfl (by decide +kernel) ⟨Nat.le_of_ble_eq_true rfl, Nat.le_of_ble_eq_true rfl⟩) ⟨qPre_blind _, q_recv hK hP oX3 rfl, fun U hU hW => ⟨rfl, qPre_of hP hK hE hN hS U hU hW⟩⟩ rfl rfl hl.1 rfl (lv_room (Nat.le_of_ble_eq_true rfl)) dX8_judge_35 ⟨Nat.le_of_ble_eq_true rfl, Nat.le_of_ble_eq_true rfl⟩) hS (fun H locs hP hS => ?_)
    refine lv_aload_n hx hb dX8_judge_38 rfl (lv_at hl 1 rfl) ?_
    refine q_get (C := RX8) (T := TX8) (N := 12) (ci := 8) (v := .ref (ad 57)) hx hb hts in_X8_judge_X8 hown hK hP oX8 rfl 10 (by decide) (hts (.fieldLink RX8 70 "RowsOnlyPrimes" "day" "LRowsOnlyPrimes$Day;") (by decide +kernel)) (fun _ h9 => h9) rfl dX8_judge_39 ?_
    refine q_get (C := RX3) (T := TX3) (N := 3) (ci := 3) (v := .int (I4 57 0)) hx hb hts in_X8_judge_X3 hown hK hP oX3 rfl 0 (by decide) (hts (.fieldLink RX8 307 "RowsOnlyPrimes$Day" "wrong" "I") (by decide +kernel)) (fun _ h9 => h9) rfl dX8_judge_42 ?_
    have e9 := Option.some.inj hf
    have eI9 : I4 = Ie := (congrArg Prod.snd e9)
    exact W.iret hx hb hr (fun t ht _ => ⟨⟨_, (), rfl, (congrArg Prod.fst e9), by show qP D _ ad _ _ _ t.heap; rw [ht, ← eI9]; exact hP⟩, hS.F ht⟩) hS.2.2 dX8_judge_45
  · have hf := (if_ok hf).2 cc
    refine lv_aload_n hx hb dX8_judge_14 rfl (lv_at hl 1 rfl) ?_
    refine lv_iload_n hx hb dX8_judge_15 rfl (lv_at hl 0 rfl) ?_
    obtain ⟨v6, I7, h8, hf⟩ := bd2_ok hf
    refine q_cEi (va_runV (As := [.int v1]) (rest := []) ⟨hx, hb, hml, hown, hts⟩ (c_X8_refuse l (D := D) (ad := ad) (cy := cy) (sa := sa) (va := va) (I := I) (J := J) v1 h8) (cwV 1 hts gX8_judge_X8_refuse rfl rfl rfl (by decide +kernel) ⟨Nat.le_of_ble_eq_true rfl, Nat.le_of_ble_eq_true rfl⟩) ⟨qPre_blind _, q_recv hK hP oX8 rfl, fun U hU hW => ⟨rfl, qPre_of hP hK hE hN hS U hU hW⟩⟩ rfl rfl hl.1 rfl (lv_room (Nat.le_of_ble_eq_true rfl)) dX8_judge_16 ⟨Nat.le_of_ble_eq_true rfl, Nat.le_of_ble_eq_true rfl⟩) hS (fun H locs hP hS => ?_)
    have e9 := Option.some.inj hf
    have eI9 : I7 = Ie := (congrArg Prod.snd e9)
    exact W.iret hx hb hr (fun t ht _ => ⟨⟨_, (), rfl, (congrArg Prod.fst e9), by show qP D _ ad _ _ _ t.heap; rw [ht, ← eI9]; exact hP⟩, hS.F ht⟩) hS.2.2 dX8_judge_19
abbrev r_X8_behind : Room := { frames := 5, cells := 0, slots := 0, locals := 119 }
theorem in_X8_behind_X3 : ∀ w ∈ u_ws RX3 TX3 3, w ∈ wsX8_behind := by decide +kernel
theorem in_X8_behind_X8 : ∀ w ∈ u_ws RX8 TX8 12, w ∈ wsX8_behind := by decide +kernel
set_option maxHeartbeats 4000000 in
set_option maxRecDepth 100000 in
theorem c_X8_behind (l : Launch) {D : va_G} {ad : Nat → Nat} {cy : Nat → ClassId} {sa va : Nat → Nat} {I : qI} {J : qJ}   (p0 : Int32) (p1 : Int32) (p2 : Int32) {r : Int32} {Ie : qI} (hf : f_X8_behind p0 p1 p2 I J = some (r, Ie)) : Met l yX8_behind wsX8_behind r_X8_behind (va_Pc [.ref (ad 0), .int p0, .int p1, .int p2] (qPre D xS ad cy sa va (eX ad cy) I J)) (va_Qi (S := Unit) (fun x _ => x = r) (fun _ t => qP D xS ad (eX ad cy) Ie J t.heap) (qA xS ad)) 0 0 (qA xS ad) := by
  refine Met.ofW (cc := cX8_behind) (maxL := 5) (ret := (some .int)) (by decide) rfl ?_
  intro p e s m args below meth c s₁ B hml hv
  obtain ⟨rfl, hP, hK, hE, hN⟩ := hv
  have C : qC p s m _ meth c cX8_behind 5 RX8 wsX8_behind (some .int) := ⟨⟨B.exec, B.bytes, hml, findClass_of_methodNamed B.named, atoms_spec (ws := wsX8_behind) B.pre⟩, B.returns, B.notSynchronized⟩
  have C0 := C
  obtain ⟨⟨hx, hb, hml, hown, hts⟩, hr, hlocks⟩ := C0
  have hS : va_S (qA xS ad) s.heap s.heap [] := va_S.rf
  have hl := lv_entry ([.ref (ad 0), .int p0, .int p1, .int p2]) (n := 5) (Nat.le_of_ble_eq_true rfl)
  rw [lg_entry_eq]
  generalize (lg_sl ([.ref (ad 0), .int p0, .int p1, .int p2]) ++ List.replicate (5 - (lg_sl ([.ref (ad 0), .int p0, .int p1, .int p2])).length) Slot.unset).toArray = ls at hl ⊢
  have hl : lv_has ls 5 [(0, .ref (ad 0)), (1, .int p0), (2, .int p1), (3, .int p2)] := hl
  unfold f_X8_behind at hf
  refine lv_aload_n hx hb dX8_behind_0 rfl (lv_at hl 0 rfl) ?_
  refine lv_iload_n hx hb dX8_behind_1 rfl (lv_at hl 1 rfl) ?_
  refine lv_iload_n hx hb dX8_behind_2 rfl (lv_at hl 2 rfl) ?_
  refine lv_bipush (v := 40) hx hb dX8_behind_3 (by decide) ?_
  refine lv_iload_n hx hb dX8_behind_5 rfl (lv_at hl 3 rfl) ?_
  obtain ⟨v1, h2, hf⟩ := bd_ok hf
  refine q_cSi (va_runV (As := [.int p0, .int p1, .int (40 : Int32), .int p2]) (rest := []) ⟨hx, hb, hml, hown, hts⟩ (c_X8_toldTrouble l (D := D) (ad := ad) (cy := cy) (sa := sa) (va := va) (I := I) (J := J) p0 p1 (40 : Int32) p2 h2) (cwV 4 hts gX8_behind_X8_toldTrouble rfl rfl rfl (by decide +kernel) ⟨Nat.le_of_ble_eq_true rfl, Nat.le_of_ble_eq_true rfl⟩) ⟨qPre_blind _, q_recv hK hP oX8 rfl, fun U hU hW => ⟨rfl, qPre_of hP hK hE hN hS U hU hW⟩⟩ rfl rfl hl.1 rfl (lv_room (Nat.le_of_ble_eq_true rfl)) dX8_behind_6 ⟨Nat.le_of_ble_eq_true rfl, Nat.le_of_ble_eq_true rfl⟩) ?_
  refine lv_istore (lv' := [(4, .int v1), (0, .ref (ad 0)), (1, .int p0), (2, .int p1), (3, .int p2)]) hx hb dX8_behind_9 hl (by decide) rfl (fun ls hl => ?_)
  refine lv_iload hx hb dX8_behind_11 (lv_at hl 0 rfl) ?_
  refine lv_if_eq (tgt := 23) hx hb dX8_behind_13 (by decide) (fun cc => ?_) (fun cc => ?_)
  · have hf := (if_ok hf).1 cc
    refine lv_aload_n hx hb dX8_behind_23 rfl (lv_at hl 1 rfl) ?_
    refine q_get (C := RX8) (T := TX8) (N := 12) (ci := 8) (v := .ref (ad 57)) hx hb hts in_X8_behind_X8 hown hK hP oX8 rfl 10 (by decide) (hts (.fieldLink RX8 70 "RowsOnlyPrimes" "day" "LRowsOnlyPrimes$Day;") (by decide +kernel)) (fun _ h9 => h9) rfl dX8_behind_24 ?_
    refine lv_aload_n hx hb dX8_behind_27 rfl (lv_at hl 1 rfl) ?_
    refine q_get (C := RX8) (T := TX8) (N := 12) (ci := 8) (v := .ref (ad 1)) hx hb hts in_X8_behind_X8 hown hK hP oX8 rfl 0 (by decide) (hts (.fieldLink RX8 12 "RowsOnlyPrimes" "now" "LRowsOnlyPrimes$Bank;") (by decide +kernel)) (fun _ h9 => h9) rfl dX8_behind_28 ?_
    refine lv_aload_n hx hb dX8_behind_31 rfl (lv_at hl 1 rfl) ?_
    refine q_get (C := RX8) (T := TX8) (N := 12) (ci := 8) (v := .ref (ad 27)) hx hb hts in_X8_behind_X8 hown hK hP oX8 rfl 4 (by decide) (hts (.fieldLink RX8 31 "RowsOnlyPrimes" "shelves" "[LRowsOnlyPrimes$Shelf;") (by decide +kernel)) (fun _ h9 => h9) rfl dX8_behind_32 ?_
    refine lv_iload_n hx hb dX8_behind_35 rfl (lv_at hl 2 rfl) ?_
    obtain ⟨g3, hf⟩ := gd_ok hf
    refine q_aald (t := 3) hx hb hK hP aX8_27 rfl rfl g3 dX8_behind_36 ?_
    refine lv_iload_n hx hb dX8_behind_37 rfl (lv_at hl 3 rfl) ?_
    obtain ⟨I4, h5, hf⟩ := bd_ok hf
    refine q_cEv (va_runV (As := [.ref (ad 1), .ref (ad (28 + 2 * p0.toNatClampNeg)), .int p1]) (rest := []) ⟨hx, hb, hml, hown, hts⟩ (c_X3_follow l (D := D) (ad := ad) (cy := cy) (sa := sa) (va := va) (I := I) (J := J) 1 (28 + 2 * p0.toNatClampNeg) isB_1 (isSh_of g3) p1 h5) (cwV 3 hts gX8_behind_X3_follow rfl rfl rfl (by decide +kernel) ⟨Nat.le_of_ble_eq_true rfl, Nat.le_of_ble_eq_true rfl⟩) ⟨qPre_blind _, q_recv hK hP oX3 rfl, fun U hU hW => ⟨rfl, qPre_of hP hK hE hN hS U hU hW⟩⟩ rfl rfl hl.1 rfl (lv_room (Nat.le_of_ble_eq_true rfl)) dX8_behind_38 ⟨Nat.le_of_ble_eq_true rfl, Nat.le_of_ble_eq_true rfl⟩) hS (fun H locs hP hS => ?_)
    refine lv_aload_n hx hb dX8_behind_41 rfl (lv_at hl 1 rfl) ?_
    refine q_get (C := RX8) (T := TX8) (N := 12) (ci := 8) (v := .ref (ad 57)) hx hb hts in_X8_behind_X8 hown hK hP oX8 rfl 10 (by decide) (hts (.fieldLink RX8 70 "RowsOnlyPrimes" "day" "LRowsOnlyPrimes$Day;") (by decide +kernel)) (fun _ h9 => h9) rfl dX8_behind_42 ?_
    refine q_get (C := RX3) (T := TX3) (N := 3) (ci := 3) (v := .int (I4 57 0)) hx hb hts in_X8_behind_X3 hown hK hP oX3 rfl 0 (by decide) (hts (.fieldLink RX8 307 "RowsOnlyPrimes$Day" "wrong" "I") (by decide +kernel)) (fun _ h9 => h9) rfl dX8_behind_45 ?_
    refine lv_iconst (v := -1) hx hb dX8_behind_48 (by decide) ?_
    refine lv_icmp_eq (tgt := 60) hx hb dX8_behind_49 (by decide) (fun cc => ?_) (fun cc => ?_)
    · have hf := (if_ok hf).1 cc
      refine lv_iload_n hx hb dX8_behind_60 rfl (lv_at hl 4 rfl) ?_
      refine lv_if_ne (tgt := 74) hx hb dX8_behind_61 (by decide) (fun cc => ?_) (fun cc => ?_)
      · have hf := (if_ok hf).2 cc
        refine lv_aload_n hx hb dX8_behind_74 rfl (lv_at hl 1 rfl) ?_
        refine q_get (C := RX8) (T := TX8) (N := 12) (ci := 8) (v := .ref (ad 57)) hx hb hts in_X8_behind_X8 hown hK hP oX8 rfl 10 (by decide) (hts (.fieldLink RX8 70 "RowsOnlyPrimes" "day" "LRowsOnlyPrimes$Day;") (by decide +kernel)) (fun _ h9 => h9) rfl dX8_behind_75 ?_
        refine q_get (C := RX3) (T := TX3) (N := 3) (ci := 3) (v := .int (I4 57 2)) hx hb hts in_X8_behind_X3 hown hK hP oX3 rfl 2 (by decide) (hts (.fieldLink RX8 311 "RowsOnlyPrimes$Day" "hired" "I") (by decide +kernel)) (fun _ h9 => h9) rfl dX8_behind_78 ?_
        have e9 := Option.some.inj hf
        have eI9 : I4 = Ie := (congrArg Prod.snd e9)
        exact W.iret hx hb hr (fun t ht _ => ⟨⟨_, (), rfl, (congrArg Prod.fst e9), by show qP D _ ad _ _ _ t.heap; rw [ht, ← eI9]; exact hP⟩, hS.F ht⟩) hS.2.2 dX8_behind_81
      · have hf := (if_ok hf).1 cc
        refine lv_aload_n hx hb dX8_behind_64 rfl (lv_at hl 1 rfl) ?_
        refine q_get (C := RX8) (T := TX8) (N := 12) (ci := 8) (v := .ref (ad 57)) hx hb hts in_X8_behind_X8 hown hK hP oX8 rfl 10 (by decide) (hts (.fieldLink RX8 70 "RowsOnlyPrimes" "day" "LRowsOnlyPrimes$Day;") (by decide +kernel)) (fun _ h9 => h9) rfl dX8_behind_65 ?_
        refine q_get (C := RX3) (T := TX3) (N := 3) (ci := 3) (v := .int (I4 57 1)) hx hb hts in_X8_behind_X3 hown hK hP oX3 rfl 1 (by decide) (hts (.fieldLink RX8 310 "RowsOnlyPrimes$Day" "over" "I") (by decide +kernel)) (fun _ h9 => h9) rfl dX8_behind_68 ?_
        refine lv_goto (tgt := 81) hx hb dX8_behind_71 (by decide) ?_
        have e9 := Option.some.inj hf
        have eI9 : I4 = Ie := (congrArg Prod.snd e9)
        exact W.iret hx hb hr (fun t ht _ => ⟨⟨_, (), rfl, (congrArg Prod.fst e9), by show qP D _ ad _ _ _ t.heap; rw [ht, ← eI9]; exact hP⟩, hS.F ht⟩) hS.2.2 dX8_behind_81
    · have hf := (if_ok hf).2 cc
      refine lv_aload_n hx hb dX8_behind_52 rfl (lv_at hl 1 rfl) ?_
      refine lv_sipush (v := -1005) hx hb dX8_behind_53 (by decide) ?_
      obtain ⟨v6, I7, h8, hf⟩ := bd2_ok hf
      refine q_cEi (va_runV (As := [.int (-1005 : Int32)]) (rest := []) ⟨hx, hb, hml, hown, hts⟩ (c_X8_refuse l (D := D) (ad := ad) (cy := cy) (sa := sa) (va := va) (I := I4) (J := J) (-1005 : Int32) h8) (cwV 1 hts gX8_behind_X8_refuse rfl rfl rfl (by decide +kernel) ⟨Nat.le_of_ble_eq_true rfl, Nat.le_of_ble_eq_true rfl⟩) ⟨qPre_blind _, q_recv hK hP oX8 rfl, fun U hU hW => ⟨rfl, qPre_of hP hK hE hN hS U hU hW⟩⟩ rfl rfl hl.1 rfl (lv_room (Nat.le_of_ble_eq_true rfl)) dX8_behind_56 ⟨Nat.le_of_ble_eq_true rfl, Nat.le_of_ble_eq_true rfl⟩) hS (fun H locs hP hS => ?_)
      have e9 := Option.some.inj hf
      have eI9 : I7 = Ie := (congrArg Prod.snd e9)
      exact W.iret hx hb hr (fun t ht _ => ⟨⟨_, (), rfl, (congrArg Prod.fst e9), by show qP D _ ad _ _ _ t.heap; rw [ht, ← eI9]; exact hP⟩, hS.F ht⟩) hS.2.2 dX8_behind_59
  · have hf := (if_ok hf).2 cc
    refine lv_aload_n hx hb dX8_behind_16 rfl (lv_at hl 1 rfl) ?_
    refine lv_iload hx hb dX8_behind_17 (lv_at hl 0 rfl) ?_
    obtain ⟨v9, I10, h11, hf⟩ := bd2_ok hf
    refine q_cEi (va_runV (As := [.int v1]) (rest := []) ⟨hx, hb, hml, hown, hts⟩ (c_X8_refuse l (D := D) (ad := ad) (cy := cy) (sa := sa) (va := va) (I := I) (J := J) v1 h11) (cwV 1 hts gX8_behind_X8_refuse rfl rfl rfl (by decide +kernel) ⟨Nat.le_of_ble_eq_true rfl, Nat.le_of_ble_eq_true rfl⟩) ⟨qPre_blind _, q_recv hK hP oX8 rfl, fun U hU hW => ⟨rfl, qPre_of hP hK hE hN hS U hU hW⟩⟩ rfl rfl hl.1 rfl (lv_room (Nat.le_of_ble_eq_true rfl)) dX8_behind_19 ⟨Nat.le_of_ble_eq_true rfl, Nat.le_of_ble_eq_true rfl⟩) hS (fun H locs hP hS => ?_)
    have e9 := Option.some.inj hf
    have eI9 : I10 = Ie := (congrArg Prod.snd e9)
    exact W.iret hx hb hr (fun t ht _ => ⟨⟨_, (), rfl, (congrArg Prod.fst e9), by show qP D _ ad _ _ _ t.heap; rw [ht, ← eI9]; exact hP⟩, hS.F ht⟩) hS.2.2 dX8_behind_22
abbrev r_X8_cross : Room := { frames := 5, cells := 0, slots := 0, locals := 112 }
theorem in_X8_cross_X8 : ∀ w ∈ u_ws RX8 TX8 12, w ∈ wsX8_cross := by decide +kernel
set_option maxHeartbeats 4000000 in
set_option maxRecDepth 100000 in
theorem c_X8_cross (l : Launch) {D : va_G} {ad : Nat → Nat} {cy : Nat → ClassId} {sa va : Nat → Nat} {I : qI} {J : qJ}   (p0 : Int32) {r : Int32} {Ie : qI} (hf : f_X8_cross p0 I = some (r, Ie)) : Met l yX8_cross wsX8_cross r_X8_cross (va_Pc [.ref (ad 0), .int p0] (qPre D xS ad cy sa va (eX ad cy) I J)) (va_Qi (S := Unit) (fun x _ => x = r) (fun _ t => qP D xS ad (eX ad cy) Ie J t.heap) (qA xS ad)) 0 0 (qA xS ad) := by
  refine Met.ofW (cc := cX8_cross) (maxL := 3) (ret := (some .int)) (by decide) rfl ?_
  intro p e s m args below meth c s₁ B hml hv
  obtain ⟨rfl, hP, hK, hE, hN⟩ := hv
  have C : qC p s m _ meth c cX8_cross 3 RX8 wsX8_cross (some .int) := ⟨⟨B.exec, B.bytes, hml, findClass_of_methodNamed B.named, atoms_spec (ws := wsX8_cross) B.pre⟩, B.returns, B.notSynchronized⟩
  have C0 := C
  obtain ⟨⟨hx, hb, hml, hown, hts⟩, hr, hlocks⟩ := C0
  have hS : va_S (qA xS ad) s.heap s.heap [] := va_S.rf
  have hl := lv_entry ([.ref (ad 0), .int p0]) (n := 3) (Nat.le_of_ble_eq_true rfl)
  rw [lg_entry_eq]
  generalize (lg_sl ([.ref (ad 0), .int p0]) ++ List.replicate (3 - (lg_sl ([.ref (ad 0), .int p0])).length) Slot.unset).toArray = ls at hl ⊢
  have hl : lv_has ls 3 [(0, .ref (ad 0)), (1, .int p0)] := hl
  unfold f_X8_cross at hf
  refine lv_aload_n hx hb dX8_cross_0 rfl (lv_at hl 0 rfl) ?_
  refine q_get (C := RX8) (T := TX8) (N := 12) (ci := 8) (v := .ref (ad 1)) hx hb hts in_X8_cross_X8 hown hK hP oX8 rfl 0 (by decide) (hts (.fieldLink RX8 12 "RowsOnlyPrimes" "now" "LRowsOnlyPrimes$Bank;") (by decide +kernel)) (fun _ h9 => h9) rfl dX8_cross_1 ?_
  refine lv_iload_n hx hb dX8_cross_4 rfl (lv_at hl 1 rfl) ?_
  obtain ⟨v1, h2, hf⟩ := bd_ok hf
  refine q_cSi (va_runV (As := [.int p0]) (rest := []) ⟨hx, hb, hml, hown, hts⟩ (c_X2_hasGroup l (D := D) (ad := ad) (cy := cy) (sa := sa) (va := va) (I := I) (J := J) 1 isB_1 p0 h2) (cwV 1 hts gX8_cross_X2_hasGroup rfl rfl rfl (by decide +kernel) ⟨Nat.le_of_ble_eq_true rfl, Nat.le_of_ble_eq_true rfl⟩) ⟨qPre_blind _, q_recv hK hP (oX2 isB_1) rfl, fun U hU hW => ⟨rfl, qPre_of hP hK hE hN hS U hU hW⟩⟩ rfl rfl hl.1 rfl (lv_room (Nat.le_of_ble_eq_true rfl)) dX8_cross_5 ⟨Nat.le_of_ble_eq_true rfl, Nat.le_of_ble_eq_true rfl⟩) ?_
  refine lv_if_ne (tgt := 19) hx hb dX8_cross_8 (by decide) (fun cc => ?_) (fun cc => ?_)
  · have hf := (if_ok hf).2 cc
    refine lv_aload_n hx hb dX8_cross_19 rfl (lv_at hl 0 rfl) ?_
    refine q_get (C := RX8) (T := TX8) (N := 12) (ci := 8) (v := .ref (ad 1)) hx hb hts in_X8_cross_X8 hown hK hP oX8 rfl 0 (by decide) (hts (.fieldLink RX8 12 "RowsOnlyPrimes" "now" "LRowsOnlyPrimes$Bank;") (by decide +kernel)) (fun _ h9 => h9) rfl dX8_cross_20 ?_
    refine lv_iload_n hx hb dX8_cross_23 rfl (lv_at hl 1 rfl) ?_
    obtain ⟨v3, h4, hf⟩ := bd_ok hf
    refine q_cSi (va_runV (As := [.int p0]) (rest := []) ⟨hx, hb, hml, hown, hts⟩ (c_X2_hireNow l (D := D) (ad := ad) (cy := cy) (sa := sa) (va := va) (I := I) (J := J) 1 isB_1 p0 h4) (cwV 1 hts gX8_cross_X2_hireNow rfl rfl rfl (by decide +kernel) ⟨Nat.le_of_ble_eq_true rfl, Nat.le_of_ble_eq_true rfl⟩) ⟨qPre_blind _, q_recv hK hP (oX2 isB_1) rfl, fun U hU hW => ⟨rfl, qPre_of hP hK hE hN hS U hU hW⟩⟩ rfl rfl hl.1 rfl (lv_room (Nat.le_of_ble_eq_true rfl)) dX8_cross_24 ⟨Nat.le_of_ble_eq_true rfl, Nat.le_of_ble_eq_true rfl⟩) ?_
    refine lv_istore_n (lv' := [(2, .int v3), (0, .ref (ad 0)), (1, .int p0)]) hx hb dX8_cross_27 rfl hl (by decide) rfl (fun ls hl => ?_)
    refine lv_iload_n hx hb dX8_cross_28 rfl (lv_at hl 0 rfl) ?_
    refine lv_iconst (v := -1) hx hb dX8_cross_29 (by decide) ?_
    refine lv_icmp_ne (tgt := 41) hx hb dX8_cross_30 (by decide) (fun cc => ?_) (fun cc => ?_)
    · have hf := (if_ok hf).2 cc
      refine lv_aload_n hx hb dX8_cross_41 rfl (lv_at hl 1 rfl) ?_
      refine q_get (C := RX8) (T := TX8) (N := 12) (ci := 8) (v := .ref (ad 1)) hx hb hts in_X8_cross_X8 hown hK hP oX8 rfl 0 (by decide) (hts (.fieldLink RX8 12 "RowsOnlyPrimes" "now" "LRowsOnlyPrimes$Bank;") (by decide +kernel)) (fun _ h9 => h9) rfl dX8_cross_42 ?_
      refine lv_iload_n hx hb dX8_cross_45 rfl (lv_at hl 2 rfl) ?_
      refine lv_iload_n hx hb dX8_cross_46 rfl (lv_at hl 0 rfl) ?_
      obtain ⟨I5, h6, hf⟩ := bd_ok hf
      refine q_cEv (va_runV (As := [.int p0, .int v3]) (rest := []) ⟨hx, hb, hml, hown, hts⟩ (c_X2_rowOver l (D := D) (ad := ad) (cy := cy) (sa := sa) (va := va) (I := I) (J := J) 1 isB_1 p0 v3 h6) (cwV 2 hts gX8_cross_X2_rowOver rfl rfl rfl (by decide +kernel) ⟨Nat.le_of_ble_eq_true rfl, Nat.le_of_ble_eq_true rfl⟩) ⟨qPre_blind _, q_recv hK hP (oX2 isB_1) rfl, fun U hU hW => ⟨rfl, qPre_of hP hK hE hN hS U hU hW⟩⟩ rfl rfl hl.1 rfl (lv_room (Nat.le_of_ble_eq_true rfl)) dX8_cross_47 ⟨Nat.le_of_ble_eq_true rfl, Nat.le_of_ble_eq_true rfl⟩) hS (fun H locs hP hS => ?_)
      refine lv_iload_n hx hb dX8_cross_50 rfl (lv_at hl 0 rfl) ?_
      have e9 := Option.some.inj hf
      have eI9 : I5 = Ie := (congrArg Prod.snd e9)
      exact W.iret hx hb hr (fun t ht _ => ⟨⟨_, (), rfl, (congrArg Prod.fst e9), by show qP D _ ad _ _ _ t.heap; rw [ht, ← eI9]; exact hP⟩, hS.F ht⟩) hS.2.2 dX8_cross_51
    · have hf := (if_ok hf).1 cc
      refine lv_aload_n hx hb dX8_cross_33 rfl (lv_at hl 1 rfl) ?_
      refine lv_sipush (v := -1005) hx hb dX8_cross_34 (by decide) ?_
      obtain ⟨v7, I8, h9, hf⟩ := bd2_ok hf
      refine q_cEi (va_runV (As := [.int (-1005 : Int32)]) (rest := []) ⟨hx, hb, hml, hown, hts⟩ (c_X8_refuse l (D := D) (ad := ad) (cy := cy) (sa := sa) (va := va) (I := I) (J := J) (-1005 : Int32) h9) (cwV 1 hts gX8_cross_X8_refuse rfl rfl rfl (by decide +kernel) ⟨Nat.le_of_ble_eq_true rfl, Nat.le_of_ble_eq_true rfl⟩) ⟨qPre_blind _, q_recv hK hP oX8 rfl, fun U hU hW => ⟨rfl, qPre_of hP hK hE hN hS U hU hW⟩⟩ rfl rfl hl.1 rfl (lv_room (Nat.le_of_ble_eq_true rfl)) dX8_cross_37 ⟨Nat.le_of_ble_eq_true rfl, Nat.le_of_ble_eq_true rfl⟩) hS (fun H locs hP hS => ?_)
      have e9 := Option.some.inj hf
      have eI9 : I8 = Ie := (congrArg Prod.snd e9)
      exact W.iret hx hb hr (fun t ht _ => ⟨⟨_, (), rfl, (congrArg Prod.fst e9), by show qP D _ ad _ _ _ t.heap; rw [ht, ← eI9]; exact hP⟩, hS.F ht⟩) hS.2.2 dX8_cross_40
  · have hf := (if_ok hf).1 cc
    refine lv_aload_n hx hb dX8_cross_11 rfl (lv_at hl 0 rfl) ?_
    refine lv_sipush (v := -1002) hx hb dX8_cross_12 (by decide) ?_
    obtain ⟨v10, I11, h12, hf⟩ := bd2_ok hf
    refine q_cEi (va_runV (As := [.int (-1002 : Int32)]) (rest := []) ⟨hx, hb, hml, hown, hts⟩ (c_X8_refuse l (D := D) (ad := ad) (cy := cy) (sa := sa) (va := va) (I := I) (J := J) (-1002 : Int32) h12) (cwV 1 hts gX8_cross_X8_refuse rfl rfl rfl (by decide +kernel) ⟨Nat.le_of_ble_eq_true rfl, Nat.le_of_ble_eq_true rfl⟩) ⟨qPre_blind _, q_recv hK hP oX8 rfl, fun U hU hW => ⟨rfl, qPre_of hP hK hE hN hS U hU hW⟩⟩ rfl rfl hl.1 rfl (lv_room (Nat.le_of_ble_eq_true rfl)) dX8_cross_15 ⟨Nat.le_of_ble_eq_true rfl, Nat.le_of_ble_eq_true rfl⟩) hS (fun H locs hP hS => ?_)
    have e9 := Option.some.inj hf
    have eI9 : I11 = Ie := (congrArg Prod.snd e9)
    exact W.iret hx hb hr (fun t ht _ => ⟨⟨_, (), rfl, (congrArg Prod.fst e9), by show qP D _ ad _ _ _ t.heap; rw [ht, ← eI9]; exact hP⟩, hS.F ht⟩) hS.2.2 dX8_cross_18
abbrev r_X8_comesBack : Room := { frames := 2, cells := 0, slots := 0, locals := 44 }
theorem in_X8_comesBack_X2 : ∀ w ∈ u_ws RX2 TX2 13, w ∈ wsX8_comesBack := by decide +kernel
theorem in_X8_comesBack_X8 : ∀ w ∈ u_ws RX8 TX8 12, w ∈ wsX8_comesBack := by decide +kernel
set_option maxHeartbeats 4000000 in
set_option maxRecDepth 100000 in
theorem c_X8_comesBack (l : Launch) {D : va_G} {ad : Nat → Nat} {cy : Nat → ClassId} {sa va : Nat → Nat} {I : qI} {J : qJ}   (p0 : Int32) {r : Int32} {Ie : qI} (hf : f_X8_comesBack p0 I = some (r, Ie)) : Met l yX8_comesBack wsX8_comesBack r_X8_comesBack (va_Pc [.ref (ad 0), .int p0] (qPre D xS ad cy sa va (eX ad cy) I J)) (va_Qi (S := Unit) (fun x _ => x = r) (fun _ t => qP D xS ad (eX ad cy) Ie J t.heap) (qA xS ad)) 0 0 (qA xS ad) := by
  refine Met.ofW (cc := cX8_comesBack) (maxL := 2) (ret := (some .int)) (by decide) rfl ?_
  intro p e s m args below meth c s₁ B hml hv
  obtain ⟨rfl, hP, hK, hE, hN⟩ := hv
  have C : qC p s m _ meth c cX8_comesBack 2 RX8 wsX8_comesBack (some .int) := ⟨⟨B.exec, B.bytes, hml, findClass_of_methodNamed B.named, atoms_spec (ws := wsX8_comesBack) B.pre⟩, B.returns, B.notSynchronized⟩
  have C0 := C
  obtain ⟨⟨hx, hb, hml, hown, hts⟩, hr, hlocks⟩ := C0
  have hS : va_S (qA xS ad) s.heap s.heap [] := va_S.rf
  have hl := lv_entry ([.ref (ad 0), .int p0]) (n := 2) (Nat.le_of_ble_eq_true rfl)
  rw [lg_entry_eq]
  generalize (lg_sl ([.ref (ad 0), .int p0]) ++ List.replicate (2 - (lg_sl ([.ref (ad 0), .int p0])).length) Slot.unset).toArray = ls at hl ⊢
  have hl : lv_has ls 2 [(0, .ref (ad 0)), (1, .int p0)] := hl
  unfold f_X8_comesBack at hf
  refine lv_aload_n hx hb dX8_comesBack_0 rfl (lv_at hl 0 rfl) ?_
  refine q_get (C := RX8) (T := TX8) (N := 12) (ci := 8) (v := .ref (ad 1)) hx hb hts in_X8_comesBack_X8 hown hK hP oX8 rfl 0 (by decide) (hts (.fieldLink RX8 12 "RowsOnlyPrimes" "now" "LRowsOnlyPrimes$Bank;") (by decide +kernel)) (fun _ h9 => h9) rfl dX8_comesBack_1 ?_
  refine lv_iload_n hx hb dX8_comesBack_4 rfl (lv_at hl 1 rfl) ?_
  obtain ⟨v1, h2, hf⟩ := bd_ok hf
  refine q_cSi (va_runV (As := [.int p0]) (rest := []) ⟨hx, hb, hml, hown, hts⟩ (c_X2_hasParty l (D := D) (ad := ad) (cy := cy) (sa := sa) (va := va) (I := I) (J := J) 1 isB_1 p0 h2) (cwV 1 hts gX8_comesBack_X2_hasParty rfl rfl rfl (by decide +kernel) ⟨Nat.le_of_ble_eq_true rfl, Nat.le_of_ble_eq_true rfl⟩) ⟨qPre_blind _, q_recv hK hP (oX2 isB_1) rfl, fun U hU hW => ⟨rfl, qPre_of hP hK hE hN hS U hU hW⟩⟩ rfl rfl hl.1 rfl (lv_room (Nat.le_of_ble_eq_true rfl)) dX8_comesBack_5 ⟨Nat.le_of_ble_eq_true rfl, Nat.le_of_ble_eq_true rfl⟩) ?_
  refine lv_if_ne (tgt := 19) hx hb dX8_comesBack_8 (by decide) (fun cc => ?_) (fun cc => ?_)
  · have hf := (if_ok hf).2 cc
    refine lv_aload_n hx hb dX8_comesBack_19 rfl (lv_at hl 0 rfl) ?_
    refine q_get (C := RX8) (T := TX8) (N := 12) (ci := 8) (v := .ref (ad 1)) hx hb hts in_X8_comesBack_X8 hown hK hP oX8 rfl 0 (by decide) (hts (.fieldLink RX8 12 "RowsOnlyPrimes" "now" "LRowsOnlyPrimes$Bank;") (by decide +kernel)) (fun _ h9 => h9) rfl dX8_comesBack_20 ?_
    refine lv_iload_n hx hb dX8_comesBack_23 rfl (lv_at hl 1 rfl) ?_
    obtain ⟨v3, h4, hf⟩ := bd_ok hf
    refine q_cSi (va_runV (As := [.int p0]) (rest := []) ⟨hx, hb, hml, hown, hts⟩ (c_X2_isOver l (D := D) (ad := ad) (cy := cy) (sa := sa) (va := va) (I := I) (J := J) 1 isB_1 p0 h4) (cwV 1 hts gX8_comesBack_X2_isOver rfl rfl rfl (by decide +kernel) ⟨Nat.le_of_ble_eq_true rfl, Nat.le_of_ble_eq_true rfl⟩) ⟨qPre_blind _, q_recv hK hP (oX2 isB_1) rfl, fun U hU hW => ⟨rfl, qPre_of hP hK hE hN hS U hU hW⟩⟩ rfl rfl hl.1 rfl (lv_room (Nat.le_of_ble_eq_true rfl)) dX8_comesBack_24 ⟨Nat.le_of_ble_eq_true rfl, Nat.le_of_ble_eq_true rfl⟩) ?_
    refine lv_if_ne (tgt := 38) hx hb dX8_comesBack_27 (by decide) (fun cc => ?_) (fun cc => ?_)
    · have hf := (if_ok hf).2 cc
      refine lv_aload_n hx hb dX8_comesBack_38 rfl (lv_at hl 0 rfl) ?_
      refine q_get (C := RX8) (T := TX8) (N := 12) (ci := 8) (v := .ref (ad 1)) hx hb hts in_X8_comesBack_X8 hown hK hP oX8 rfl 0 (by decide) (hts (.fieldLink RX8 12 "RowsOnlyPrimes" "now" "LRowsOnlyPrimes$Bank;") (by decide +kernel)) (fun _ h9 => h9) rfl dX8_comesBack_39 ?_
      refine lv_iload_n hx hb dX8_comesBack_42 rfl (lv_at hl 1 rfl) ?_
      obtain ⟨I5, h6, hf⟩ := bd_ok hf
      refine q_cEv (va_runV (As := [.int p0]) (rest := []) ⟨hx, hb, hml, hown, hts⟩ (c_X2_rowBack l (D := D) (ad := ad) (cy := cy) (sa := sa) (va := va) (I := I) (J := J) 1 isB_1 p0 h6) (cwV 1 hts gX8_comesBack_X2_rowBack rfl rfl rfl (by decide +kernel) ⟨Nat.le_of_ble_eq_true rfl, Nat.le_of_ble_eq_true rfl⟩) ⟨qPre_blind _, q_recv hK hP (oX2 isB_1) rfl, fun U hU hW => ⟨rfl, qPre_of hP hK hE hN hS U hU hW⟩⟩ rfl rfl hl.1 rfl (lv_room (Nat.le_of_ble_eq_true rfl)) dX8_comesBack_43 ⟨Nat.le_of_ble_eq_true rfl, Nat.le_of_ble_eq_true rfl⟩) hS (fun H locs hP hS => ?_)
      refine lv_aload_n hx hb dX8_comesBack_46 rfl (lv_at hl 0 rfl) ?_
      refine q_get (C := RX8) (T := TX8) (N := 12) (ci := 8) (v := .ref (ad 1)) hx hb hts in_X8_comesBack_X8 hown hK hP oX8 rfl 0 (by decide) (hts (.fieldLink RX8 12 "RowsOnlyPrimes" "now" "LRowsOnlyPrimes$Bank;") (by decide +kernel)) (fun _ h9 => h9) rfl dX8_comesBack_47 ?_
      refine q_get (C := RX2) (T := TX2) (N := 13) (ci := 2) (v := .int (I5 1 9)) hx hb hts in_X8_comesBack_X2 hown hK hP (oX2 isB_1) rfl 9 (by decide) (hts (.fieldLink RX8 320 "RowsOnlyPrimes$Bank" "minutes" "I") (by decide +kernel)) (fun _ h9 => h9) rfl dX8_comesBack_50 ?_
      have e9 := Option.some.inj hf
      have eI9 : I5 = Ie := (congrArg Prod.snd e9)
      exact W.iret hx hb hr (fun t ht _ => ⟨⟨_, (), rfl, (congrArg Prod.fst e9), by show qP D _ ad _ _ _ t.heap; rw [ht, ← eI9]; exact hP⟩, hS.F ht⟩) hS.2.2 dX8_comesBack_53
    · have hf := (if_ok hf).1 cc
      refine lv_aload_n hx hb dX8_comesBack_30 rfl (lv_at hl 0 rfl) ?_
      refine lv_sipush (v := -1005) hx hb dX8_comesBack_31 (by decide) ?_
      obtain ⟨v7, I8, h9, hf⟩ := bd2_ok hf
      refine q_cEi (va_runV (As := [.int (-1005 : Int32)]) (rest := []) ⟨hx, hb, hml, hown, hts⟩ (c_X8_refuse l (D := D) (ad := ad) (cy := cy) (sa := sa) (va := va) (I := I) (J := J) (-1005 : Int32) h9) (cwV 1 hts gX8_comesBack_X8_refuse rfl rfl rfl (by decide +kernel) ⟨Nat.le_of_ble_eq_true rfl, Nat.le_of_ble_eq_true rfl⟩) ⟨qPre_blind _, q_recv hK hP oX8 rfl, fun U hU hW => ⟨rfl, qPre_of hP hK hE hN hS U hU hW⟩⟩ rfl rfl hl.1 rfl (lv_room (Nat.le_of_ble_eq_true rfl)) dX8_comesBack_34 ⟨Nat.le_of_ble_eq_true rfl, Nat.le_of_ble_eq_true rfl⟩) hS (fun H locs hP hS => ?_)
      have e9 := Option.some.inj hf
      have eI9 : I8 = Ie := (congrArg Prod.snd e9)
      exact W.iret hx hb hr (fun t ht _ => ⟨⟨_, (), rfl, (congrArg Prod.fst e9), by show qP D _ ad _ _ _ t.heap; rw [ht, ← eI9]; exact hP⟩, hS.F ht⟩) hS.2.2 dX8_comesBack_37
  · have hf := (if_ok hf).1 cc
    refine lv_aload_n hx hb dX8_comesBack_11 rfl (lv_at hl 0 rfl) ?_
    refine lv_sipush (v := -1002) hx hb dX8_comesBack_12 (by decide) ?_
    obtain ⟨v10, I11, h12, hf⟩ := bd2_ok hf
    refine q_cEi (va_runV (As := [.int (-1002 : Int32)]) (rest := []) ⟨hx, hb, hml, hown, hts⟩ (c_X8_refuse l (D := D) (ad := ad) (cy := cy) (sa := sa) (va := va) (I := I) (J := J) (-1002 : Int32) h12) (cwV 1 hts gX8_comesBack_X8_refuse rfl rfl rfl (by decide +kernel) ⟨Nat.le_of_ble_eq_true rfl, Nat.le_of_ble_eq_true rfl⟩) ⟨qPre_blind _, q_recv hK hP oX8 rfl, fun U hU hW => ⟨rfl, qPre_of hP hK hE hN hS U hU hW⟩⟩ rfl rfl hl.1 rfl (lv_room (Nat.le_of_ble_eq_true rfl)) dX8_comesBack_15 ⟨Nat.le_of_ble_eq_true rfl, Nat.le_of_ble_eq_true rfl⟩) hS (fun H locs hP hS => ?_)
    have e9 := Option.some.inj hf
    have eI9 : I11 = Ie := (congrArg Prod.snd e9)
    exact W.iret hx hb hr (fun t ht _ => ⟨⟨_, (), rfl, (congrArg Prod.fst e9), by show qP D _ ad _ _ _ t.heap; rw [ht, ← eI9]; exact hP⟩, hS.F ht⟩) hS.2.2 dX8_comesBack_18
abbrev r_X8_days : Room := { frames := 6, cells := 0, slots := 0, locals := 135 }
theorem in_X8_days_X2 : ∀ w ∈ u_ws RX2 TX2 13, w ∈ wsX8_days := by decide +kernel
theorem in_X8_days_X8 : ∀ w ∈ u_ws RX8 TX8 12, w ∈ wsX8_days := by decide +kernel
set_option maxHeartbeats 4000000 in
set_option maxRecDepth 100000 in
theorem w_X8_days_40 (C : qC p s m args meth c cX8_days 4 RX8 wsX8_days (some .int)) (hK : qK D cy sa s) (hE : qEnv sa va (qA xS ad) s s.heap) (hN : qN xS ad)   {J : qJ} {r : Int32} {Ie : qI} : ∀ (n : Nat) (x1 : Int32) (x2 : Int32) (x3 : Int32)  (I : qI) (ls : Array Slot) (H : Heap) (locs : List Loc), f_X8_days_40 n x1 x2 x3 I = some (r, Ie) → lv_has ls 4 [(0, .ref (ad 0)), (1, .int x1), (2, .int x2), (3, .int x3)] → qP D xS ad (eX ad cy) I J H → va_S (qA xS ad) s.heap H locs → W p l e (headSpec wsX8_days r_X8_days).room s m args below meth c H locs 0 0 (MQ below (va_Qi (S := Unit) (fun x _ => x = r) (fun _ t => qP D xS ad (eX ad cy) Ie J t.heap) (qA xS ad)) args s 0 0 (qA xS ad)) (F0 m 40 ls []) := by
  have C0 := C
  obtain ⟨⟨hx, hb, hml, hown, hts⟩, hr, hlocks⟩ := C0
  intro n
  induction n with
  | zero =>
    intro x1 x2 x3 I ls H locs hf hl hP hS
    rw [f_X8_days_40] at hf
    cases hf
  | succ n ih =>
    intro x1 x2 x3 I ls H locs hf hl hP hS
    rw [f_X8_days_40] at hf
    refine lv_iload_n hx hb dX8_days_40 rfl (lv_at hl 3 rfl) ?_
    refine lv_iload_n hx hb dX8_days_41 rfl (lv_at hl 1 rfl) ?_
    refine lv_icmp_ge (tgt := 64) hx hb dX8_days_42 (by decide) (fun cc => ?_) (fun cc => ?_)
    · have hf := (if_ok hf).1 cc
      refine lv_iload_n hx hb dX8_days_64 rfl (lv_at hl 2 rfl) ?_
      have e9 := Option.some.inj hf
      have eI9 : I = Ie := (congrArg Prod.snd e9)
      exact W.iret hx hb hr (fun t ht _ => ⟨⟨_, (), rfl, (congrArg Prod.fst e9), by show qP D _ ad _ _ _ t.heap; rw [ht, ← eI9]; exact hP⟩, hS.F ht⟩) hS.2.2 dX8_days_65
    · have hf := (if_ok hf).2 cc
      refine lv_aload_n hx hb dX8_days_45 rfl (lv_at hl 0 rfl) ?_
      refine q_get (C := RX8) (T := TX8) (N := 12) (ci := 8) (v := .ref (ad 1)) hx hb hts in_X8_days_X8 hown hK hP oX8 rfl 0 (by decide) (hts (.fieldLink RX8 12 "RowsOnlyPrimes" "now" "LRowsOnlyPrimes$Bank;") (by decide +kernel)) (fun _ h9 => h9) rfl dX8_days_46 ?_
      obtain ⟨v1, I2, h3, hf⟩ := bd2_ok hf
      refine q_cEi (va_runV (As := []) (rest := []) ⟨hx, hb, hml, hown, hts⟩ (c_X2_passDay l (D := D) (ad := ad) (cy := cy) (sa := sa) (va := va) (I := I) (J := J) 1 isB_1 h3) (cwV 0 hts gX8_days_X2_passDay rfl rfl rfl (by decide +kernel) ⟨Nat.le_of_ble_eq_true rfl, Nat.le_of_ble_eq_true rfl⟩) ⟨qPre_blind _, q_recv hK hP (oX2 isB_1) rfl, fun U hU hW => ⟨rfl, qPre_of hP hK hE hN hS U hU hW⟩⟩ rfl rfl hl.1 rfl (lv_room (Nat.le_of_ble_eq_true rfl)) dX8_days_49 ⟨Nat.le_of_ble_eq_true rfl, Nat.le_of_ble_eq_true rfl⟩) hS (fun H locs hP hS => ?_)
      refine lv_if_eq (tgt := 58) hx hb dX8_days_52 (by decide) (fun cc => ?_) (fun cc => ?_)
      · have hf := (if_ok hf).1 cc
        refine lv_iinc (v := (x3 + (1 : Int32))) (lv' := [(3, .int (x3 + (1 : Int32))), (0, .ref (ad 0)), (1, .int x1), (2, .int x2)]) hx hb dX8_days_58 hl (k := 3) rfl rfl (by decide) rfl (fun ls hl => ?_)
        refine lv_goto (tgt := 40) hx hb dX8_days_61 (by decide) ?_
        exact ih x1 x2 (x3 + (1 : Int32)) I2 _ _ _ hf (lv_sub hl [1, 2, 3, 0] rfl) hP hS
      · have hf := (if_ok hf).2 cc
        refine lv_iinc (v := (x2 + (1 : Int32))) (lv' := [(2, .int (x2 + (1 : Int32))), (0, .ref (ad 0)), (1, .int x1), (3, .int x3)]) hx hb dX8_days_55 hl (k := 2) rfl rfl (by decide) rfl (fun ls hl => ?_)
        refine lv_iinc (v := (x3 + (1 : Int32))) (lv' := [(3, .int (x3 + (1 : Int32))), (2, .int (x2 + (1 : Int32))), (0, .ref (ad 0)), (1, .int x1)]) hx hb dX8_days_58 hl (k := 3) rfl rfl (by decide) rfl (fun ls hl => ?_)
        refine lv_goto (tgt := 40) hx hb dX8_days_61 (by decide) ?_
        exact ih x1 (x2 + (1 : Int32)) (x3 + (1 : Int32)) I2 _ _ _ hf (lv_sub hl [2, 3, 1, 0] rfl) hP hS
set_option maxHeartbeats 4000000 in
set_option maxRecDepth 100000 in
theorem c_X8_days (l : Launch) {D : va_G} {ad : Nat → Nat} {cy : Nat → ClassId} {sa va : Nat → Nat} {I : qI} {J : qJ}   (p0 : Int32) {r : Int32} {Ie : qI} (hf : f_X8_days p0 I = some (r, Ie)) : Met l yX8_days wsX8_days r_X8_days (va_Pc [.ref (ad 0), .int p0] (qPre D xS ad cy sa va (eX ad cy) I J)) (va_Qi (S := Unit) (fun x _ => x = r) (fun _ t => qP D xS ad (eX ad cy) Ie J t.heap) (qA xS ad)) 0 0 (qA xS ad) := by
  refine Met.ofW (cc := cX8_days) (maxL := 4) (ret := (some .int)) (by decide) rfl ?_
  intro p e s m args below meth c s₁ B hml hv
  obtain ⟨rfl, hP, hK, hE, hN⟩ := hv
  have C : qC p s m _ meth c cX8_days 4 RX8 wsX8_days (some .int) := ⟨⟨B.exec, B.bytes, hml, findClass_of_methodNamed B.named, atoms_spec (ws := wsX8_days) B.pre⟩, B.returns, B.notSynchronized⟩
  have C0 := C
  obtain ⟨⟨hx, hb, hml, hown, hts⟩, hr, hlocks⟩ := C0
  have hS : va_S (qA xS ad) s.heap s.heap [] := va_S.rf
  have hl := lv_entry ([.ref (ad 0), .int p0]) (n := 4) (Nat.le_of_ble_eq_true rfl)
  rw [lg_entry_eq]
  generalize (lg_sl ([.ref (ad 0), .int p0]) ++ List.replicate (4 - (lg_sl ([.ref (ad 0), .int p0])).length) Slot.unset).toArray = ls at hl ⊢
  have hl : lv_has ls 4 [(0, .ref (ad 0)), (1, .int p0)] := hl
  unfold f_X8_days at hf
  refine lv_iload_n hx hb dX8_days_0 rfl (lv_at hl 1 rfl) ?_
  refine lv_iconst (v := 1) hx hb dX8_days_1 (by decide) ?_
  refine lv_bipush (v := 60) hx hb dX8_days_2 (by decide) ?_
  obtain ⟨v1, h2, hf⟩ := bd_ok hf
  refine q_cSi (va_runS (As := [.int p0, .int (1 : Int32), .int (60 : Int32)]) (rest := []) ⟨hx, hb, hml, hown, hts⟩ (c_X8_within l (D := D) (ad := ad) (cy := cy) (sa := sa) (va := va) (I := I) (J := J) p0 (1 : Int32) (60 : Int32) h2) (va_cwS 3 hts gX8_days_X8_within rfl rfl rfl (by decide +kernel) ⟨Nat.le_of_ble_eq_true rfl, Nat.le_of_ble_eq_true rfl⟩) ⟨qPre_blind _, fun U hU hW => ⟨rfl, qPre_of hP hK hE hN hS U hU hW⟩⟩ rfl rfl hl.1 rfl (lv_room (Nat.le_of_ble_eq_true rfl)) dX8_days_4 ⟨Nat.le_of_ble_eq_true rfl, Nat.le_of_ble_eq_true rfl⟩) ?_
  refine lv_if_ne (tgt := 18) hx hb dX8_days_7 (by decide) (fun cc => ?_) (fun cc => ?_)
  · have hf := (if_ok hf).2 cc
    refine lv_aload_n hx hb dX8_days_18 rfl (lv_at hl 0 rfl) ?_
    refine q_get (C := RX8) (T := TX8) (N := 12) (ci := 8) (v := .ref (ad 1)) hx hb hts in_X8_days_X8 hown hK hP oX8 rfl 0 (by decide) (hts (.fieldLink RX8 12 "RowsOnlyPrimes" "now" "LRowsOnlyPrimes$Bank;") (by decide +kernel)) (fun _ h9 => h9) rfl dX8_days_19 ?_
    refine q_get (C := RX2) (T := TX2) (N := 13) (ci := 2) (v := .int (I 1 7)) hx hb hts in_X8_days_X2 hown hK hP (oX2 isB_1) rfl 7 (by decide) (hts (.fieldLink RX8 232 "RowsOnlyPrimes$Bank" "size" "I") (by decide +kernel)) (fun _ h9 => h9) rfl dX8_days_22 ?_
    refine lv_if_ne (tgt := 36) hx hb dX8_days_25 (by decide) (fun cc => ?_) (fun cc => ?_)
    · have hf := (if_ok hf).2 cc
      refine lv_iconst (v := 0) hx hb dX8_days_36 (by decide) ?_
      refine lv_istore_n (lv' := [(2, .int (0 : Int32)), (0, .ref (ad 0)), (1, .int p0)]) hx hb dX8_days_37 rfl hl (by decide) rfl (fun ls hl => ?_)
      refine lv_iconst (v := 0) hx hb dX8_days_38 (by decide) ?_
      refine lv_istore_n (lv' := [(3, .int (0 : Int32)), (2, .int (0 : Int32)), (0, .ref (ad 0)), (1, .int p0)]) hx hb dX8_days_39 rfl hl (by decide) rfl (fun ls hl => ?_)
      exact w_X8_days_40 C hK hE hN   1000 p0 (0 : Int32) (0 : Int32) I _ _ _ hf (lv_sub hl [2, 3, 1, 0] rfl) hP hS
    · have hf := (if_ok hf).1 cc
      refine lv_aload_n hx hb dX8_days_28 rfl (lv_at hl 0 rfl) ?_
      refine lv_sipush (v := -1005) hx hb dX8_days_29 (by decide) ?_
      obtain ⟨v3, I4, h5, hf⟩ := bd2_ok hf
      refine q_cEi (va_runV (As := [.int (-1005 : Int32)]) (rest := []) ⟨hx, hb, hml, hown, hts⟩ (c_X8_refuse l (D := D) (ad := ad) (cy := cy) (sa := sa) (va := va) (I := I) (J := J) (-1005 : Int32) h5) (cwV 1 hts gX8_days_X8_refuse rfl rfl rfl (by decide +kernel) ⟨Nat.le_of_ble_eq_true rfl, Nat.le_of_ble_eq_true rfl⟩) ⟨qPre_blind _, q_recv hK hP oX8 rfl, fun U hU hW => ⟨rfl, qPre_of hP hK hE hN hS U hU hW⟩⟩ rfl rfl hl.1 rfl (lv_room (Nat.le_of_ble_eq_true rfl)) dX8_days_32 ⟨Nat.le_of_ble_eq_true rfl, Nat.le_of_ble_eq_true rfl⟩) hS (fun H locs hP hS => ?_)
      have e9 := Option.some.inj hf
      have eI9 : I4 = Ie := (congrArg Prod.snd e9)
      exact W.iret hx hb hr (fun t ht _ => ⟨⟨_, (), rfl, (congrArg Prod.fst e9), by show qP D _ ad _ _ _ t.heap; rw [ht, ← eI9]; exact hP⟩, hS.F ht⟩) hS.2.2 dX8_days_35
  · have hf := (if_ok hf).1 cc
    refine lv_aload_n hx hb dX8_days_10 rfl (lv_at hl 0 rfl) ?_
    refine lv_sipush (v := -1002) hx hb dX8_days_11 (by decide) ?_
    obtain ⟨v6, I7, h8, hf⟩ := bd2_ok hf
    refine q_cEi (va_runV (As := [.int (-1002 : Int32)]) (rest := []) ⟨hx, hb, hml, hown, hts⟩ (c_X8_refuse l (D := D) (ad := ad) (cy := cy) (sa := sa) (va := va) (I := I) (J := J) (-1002 : Int32) h8) (cwV 1 hts gX8_days_X8_refuse rfl rfl rfl (by decide +kernel) ⟨Nat.le_of_ble_eq_true rfl, Nat.le_of_ble_eq_true rfl⟩) ⟨qPre_blind _, q_recv hK hP oX8 rfl, fun U hU hW => ⟨rfl, qPre_of hP hK hE hN hS U hU hW⟩⟩ rfl rfl hl.1 rfl (lv_room (Nat.le_of_ble_eq_true rfl)) dX8_days_14 ⟨Nat.le_of_ble_eq_true rfl, Nat.le_of_ble_eq_true rfl⟩) hS (fun H locs hP hS => ?_)
    have e9 := Option.some.inj hf
    have eI9 : I7 = Ie := (congrArg Prod.snd e9)
    exact W.iret hx hb hr (fun t ht _ => ⟨⟨_, (), rfl, (congrArg Prod.fst e9), by show qP D _ ad _ _ _ t.heap; rw [ht, ← eI9]; exact hP⟩, hS.F ht⟩) hS.2.2 dX8_days_17
abbrev r_X8_seed : Room := { frames := 0, cells := 0, slots := 0, locals := 0 }
theorem in_X8_seed_X2 : ∀ w ∈ u_ws RX2 TX2 13, w ∈ wsX8_seed := by decide +kernel
theorem in_X8_seed_X8 : ∀ w ∈ u_ws RX8 TX8 12, w ∈ wsX8_seed := by decide +kernel
set_option maxHeartbeats 4000000 in
set_option maxRecDepth 100000 in
theorem c_X8_seed (l : Launch) {D : va_G} {ad : Nat → Nat} {cy : Nat → ClassId} {sa va : Nat → Nat} {I : qI} {J : qJ}   (p0 : Int32) {r : Int32} {Ie : qI} (hf : f_X8_seed p0 I = some (r, Ie)) : Met l yX8_seed wsX8_seed r_X8_seed (va_Pc [.ref (ad 0), .int p0] (qPre D xS ad cy sa va (eX ad cy) I J)) (va_Qi (S := Unit) (fun x _ => x = r) (fun _ t => qP D xS ad (eX ad cy) Ie J t.heap) (qA xS ad)) 0 0 (qA xS ad) := by
  refine Met.ofW (cc := cX8_seed) (maxL := 3) (ret := (some .int)) (by decide) rfl ?_
  intro p e s m args below meth c s₁ B hml hv
  obtain ⟨rfl, hP, hK, hE, hN⟩ := hv
  have C : qC p s m _ meth c cX8_seed 3 RX8 wsX8_seed (some .int) := ⟨⟨B.exec, B.bytes, hml, findClass_of_methodNamed B.named, atoms_spec (ws := wsX8_seed) B.pre⟩, B.returns, B.notSynchronized⟩
  have C0 := C
  obtain ⟨⟨hx, hb, hml, hown, hts⟩, hr, hlocks⟩ := C0
  have hS : va_S (qA xS ad) s.heap s.heap [] := va_S.rf
  have hl := lv_entry ([.ref (ad 0), .int p0]) (n := 3) (Nat.le_of_ble_eq_true rfl)
  rw [lg_entry_eq]
  generalize (lg_sl ([.ref (ad 0), .int p0]) ++ List.replicate (3 - (lg_sl ([.ref (ad 0), .int p0])).length) Slot.unset).toArray = ls at hl ⊢
  have hl : lv_has ls 3 [(0, .ref (ad 0)), (1, .int p0)] := hl
  unfold f_X8_seed at hf
  refine lv_aload_n hx hb dX8_seed_0 rfl (lv_at hl 0 rfl) ?_
  refine q_get (C := RX8) (T := TX8) (N := 12) (ci := 8) (v := .ref (ad 1)) hx hb hts in_X8_seed_X8 hown hK hP oX8 rfl 0 (by decide) (hts (.fieldLink RX8 12 "RowsOnlyPrimes" "now" "LRowsOnlyPrimes$Bank;") (by decide +kernel)) (fun _ h9 => h9) rfl dX8_seed_1 ?_
  refine q_get (C := RX2) (T := TX2) (N := 13) (ci := 2) (v := .int (I 1 12)) hx hb hts in_X8_seed_X2 hown hK hP (oX2 isB_1) rfl 12 (by decide) (hts (.fieldLink RX8 326 "RowsOnlyPrimes$Bank" "chance" "I") (by decide +kernel)) (fun _ h9 => h9) rfl dX8_seed_4 ?_
  refine lv_istore_n (lv' := [(2, .int (I 1 12)), (0, .ref (ad 0)), (1, .int p0)]) hx hb dX8_seed_7 rfl hl (by decide) rfl (fun ls hl => ?_)
  refine lv_aload_n hx hb dX8_seed_8 rfl (lv_at hl 1 rfl) ?_
  refine q_get (C := RX8) (T := TX8) (N := 12) (ci := 8) (v := .ref (ad 1)) hx hb hts in_X8_seed_X8 hown hK hP oX8 rfl 0 (by decide) (hts (.fieldLink RX8 12 "RowsOnlyPrimes" "now" "LRowsOnlyPrimes$Bank;") (by decide +kernel)) (fun _ h9 => h9) rfl dX8_seed_9 ?_
  refine lv_iload_n hx hb dX8_seed_12 rfl (lv_at hl 2 rfl) ?_
  obtain ⟨I1, eI1, hf⟩ := lt_ok hf
  refine q_put (C := RX2) (T := TX2) (N := 13) (ci := 2) (v := .int p0) (x := p0) (ty := .int) hx hb hts in_X8_seed_X2 tyX2 tyX2_ok nmX2 hown hK hP hN hS (oX2 isB_1) rfl 12 (by decide) (hts (.fieldLink RX8 326 "RowsOnlyPrimes$Bank" "chance" "I") (by decide +kernel)) (fun _ h9 => h9) rfl (by decide +kernel) rfl rfl (fun _ _ => rfl) (fun _ _ => Nat.le_of_ble_eq_true rfl) dX8_seed_13 (fun H locs hP hS => ?_)
  rw [← eI1] at hP
  refine lv_iload_n hx hb dX8_seed_16 rfl (lv_at hl 0 rfl) ?_
  have e9 := Option.some.inj hf
  have eI9 : I1 = Ie := (congrArg Prod.snd e9)
  exact W.iret hx hb hr (fun t ht _ => ⟨⟨_, (), rfl, (congrArg Prod.fst e9), by show qP D _ ad _ _ _ t.heap; rw [ht, ← eI9]; exact hP⟩, hS.F ht⟩) hS.2.2 dX8_seed_17
abbrev r_X8_image : Room := { frames := 2, cells := 0, slots := 0, locals := 61 }
theorem in_X8_image_X8 : ∀ w ∈ u_ws RX8 TX8 12, w ∈ wsX8_image := by decide +kernel
set_option maxHeartbeats 4000000 in
set_option maxRecDepth 100000 in
theorem c_X8_image (l : Launch) {D : va_G} {ad : Nat → Nat} {cy : Nat → ClassId} {sa va : Nat → Nat} {I : qI} {J : qJ}    {r : Int32} {Ie : qI} (hf : f_X8_image I = some (r, Ie)) : Met l yX8_image wsX8_image r_X8_image (va_Pc [.ref (ad 0)] (qPre D xS ad cy sa va (eX ad cy) I J)) (va_Qi (S := Unit) (fun x _ => x = r) (fun _ t => qP D xS ad (eX ad cy) Ie J t.heap) (qA xS ad)) 0 0 (qA xS ad) := by
  refine Met.ofW (cc := cX8_image) (maxL := 1) (ret := (some .int)) (by decide) rfl ?_
  intro p e s m args below meth c s₁ B hml hv
  obtain ⟨rfl, hP, hK, hE, hN⟩ := hv
  have C : qC p s m _ meth c cX8_image 1 RX8 wsX8_image (some .int) := ⟨⟨B.exec, B.bytes, hml, findClass_of_methodNamed B.named, atoms_spec (ws := wsX8_image) B.pre⟩, B.returns, B.notSynchronized⟩
  have C0 := C
  obtain ⟨⟨hx, hb, hml, hown, hts⟩, hr, hlocks⟩ := C0
  have hS : va_S (qA xS ad) s.heap s.heap [] := va_S.rf
  have hl := lv_entry ([.ref (ad 0)]) (n := 1) (Nat.le_of_ble_eq_true rfl)
  rw [lg_entry_eq]
  generalize (lg_sl ([.ref (ad 0)]) ++ List.replicate (1 - (lg_sl ([.ref (ad 0)])).length) Slot.unset).toArray = ls at hl ⊢
  have hl : lv_has ls 1 [(0, .ref (ad 0))] := hl
  unfold f_X8_image at hf
  refine lv_aload_n hx hb dX8_image_0 rfl (lv_at hl 0 rfl) ?_
  refine q_get (C := RX8) (T := TX8) (N := 12) (ci := 8) (v := .ref (ad 9)) hx hb hts in_X8_image_X8 hown hK hP oX8 rfl 1 (by decide) (hts (.fieldLink RX8 16 "RowsOnlyPrimes" "kept" "LRowsOnlyPrimes$Bank;") (by decide +kernel)) (fun _ h9 => h9) rfl dX8_image_1 ?_
  refine lv_aload_n hx hb dX8_image_4 rfl (lv_at hl 0 rfl) ?_
  refine q_get (C := RX8) (T := TX8) (N := 12) (ci := 8) (v := .ref (ad 1)) hx hb hts in_X8_image_X8 hown hK hP oX8 rfl 0 (by decide) (hts (.fieldLink RX8 12 "RowsOnlyPrimes" "now" "LRowsOnlyPrimes$Bank;") (by decide +kernel)) (fun _ h9 => h9) rfl dX8_image_5 ?_
  obtain ⟨I1, h2, hf⟩ := bd_ok hf
  refine q_cEv (va_runV (As := [.ref (ad 1)]) (rest := []) ⟨hx, hb, hml, hown, hts⟩ (c_X2_become l (D := D) (ad := ad) (cy := cy) (sa := sa) (va := va) (I := I) (J := J) 9 1 isB_9 isB_1 h2) (cwV 1 hts gX8_image_X2_become rfl rfl rfl (by decide +kernel) ⟨Nat.le_of_ble_eq_true rfl, Nat.le_of_ble_eq_true rfl⟩) ⟨qPre_blind _, q_recv hK hP (oX2 isB_9) rfl, fun U hU hW => ⟨rfl, qPre_of hP hK hE hN hS U hU hW⟩⟩ rfl rfl hl.1 rfl (lv_room (Nat.le_of_ble_eq_true rfl)) dX8_image_8 ⟨Nat.le_of_ble_eq_true rfl, Nat.le_of_ble_eq_true rfl⟩) hS (fun H locs hP hS => ?_)
  refine lv_aload_n hx hb dX8_image_11 rfl (lv_at hl 0 rfl) ?_
  refine lv_iconst (v := 1) hx hb dX8_image_12 (by decide) ?_
  obtain ⟨I3, eI3, hf⟩ := lt_ok hf
  refine q_put (C := RX8) (T := TX8) (N := 12) (ci := 8) (v := .int (1 : Int32)) (x := (1 : Int32)) (ty := .boolean) hx hb hts in_X8_image_X8 tyX8 tyX8_ok nmX8 hown hK hP hN hS oX8 rfl 11 (by decide) (hts (.fieldLink RX8 329 "RowsOnlyPrimes" "imaged" "Z") (by decide +kernel)) (fun _ h9 => h9) rfl (by decide +kernel) rfl rfl (fun _ _ => rfl) (fun _ _ => Nat.le_of_ble_eq_true rfl) dX8_image_13 (fun H locs hP hS => ?_)
  rw [← eI3] at hP
  refine lv_iconst (v := 1) hx hb dX8_image_16 (by decide) ?_
  have e9 := Option.some.inj hf
  have eI9 : I3 = Ie := (congrArg Prod.snd e9)
  exact W.iret hx hb hr (fun t ht _ => ⟨⟨_, (), rfl, (congrArg Prod.fst e9), by show qP D _ ad _ _ _ t.heap; rw [ht, ← eI9]; exact hP⟩, hS.F ht⟩) hS.2.2 dX8_image_17
abbrev r_X8_back : Room := { frames := 2, cells := 0, slots := 0, locals := 61 }
theorem in_X8_back_X8 : ∀ w ∈ u_ws RX8 TX8 12, w ∈ wsX8_back := by decide +kernel
set_option maxHeartbeats 4000000 in
set_option maxRecDepth 100000 in
theorem w_X8_back_28 (C : qC p s m args meth c cX8_back 2 RX8 wsX8_back (some .int)) (hK : qK D cy sa s) (hE : qEnv sa va (qA xS ad) s s.heap) (hN : qN xS ad)   {J : qJ} {r : Int32} {Ie : qI} : ∀ (n : Nat) (x1 : Int32)  (I : qI) (ls : Array Slot) (H : Heap) (locs : List Loc), f_X8_back_28 n x1 I = some (r, Ie) → lv_has ls 2 [(0, .ref (ad 0)), (1, .int x1)] → qP D xS ad (eX ad cy) I J H → va_S (qA xS ad) s.heap H locs → W p l e (headSpec wsX8_back r_X8_back).room s m args below meth c H locs 0 0 (MQ below (va_Qi (S := Unit) (fun x _ => x = r) (fun _ t => qP D xS ad (eX ad cy) Ie J t.heap) (qA xS ad)) args s 0 0 (qA xS ad)) (F0 m 28 ls []) := by
  have C0 := C
  obtain ⟨⟨hx, hb, hml, hown, hts⟩, hr, hlocks⟩ := C0
  intro n
  induction n with
  | zero =>
    intro x1 I ls H locs hf hl hP hS
    rw [f_X8_back_28] at hf
    cases hf
  | succ n ih =>
    intro x1 I ls H locs hf hl hP hS
    rw [f_X8_back_28] at hf
    refine lv_iload_n hx hb dX8_back_28 rfl (lv_at hl 1 rfl) ?_
    refine lv_bipush (v := 8) hx hb dX8_back_29 (by decide) ?_
    refine lv_icmp_ge (tgt := 81) hx hb dX8_back_31 (by decide) (fun cc => ?_) (fun cc => ?_)
    · have hf := (if_ok hf).1 cc
      refine lv_iconst (v := 1) hx hb dX8_back_81 (by decide) ?_
      have e9 := Option.some.inj hf
      have eI9 : I = Ie := (congrArg Prod.snd e9)
      exact W.iret hx hb hr (fun t ht _ => ⟨⟨_, (), rfl, (congrArg Prod.fst e9), by show qP D _ ad _ _ _ t.heap; rw [ht, ← eI9]; exact hP⟩, hS.F ht⟩) hS.2.2 dX8_back_82
    · have hf := (if_ok hf).2 cc
      refine lv_aload_n hx hb dX8_back_34 rfl (lv_at hl 0 rfl) ?_
      refine q_get (C := RX8) (T := TX8) (N := 12) (ci := 8) (v := .ref (ad 27)) hx hb hts in_X8_back_X8 hown hK hP oX8 rfl 4 (by decide) (hts (.fieldLink RX8 31 "RowsOnlyPrimes" "shelves" "[LRowsOnlyPrimes$Shelf;") (by decide +kernel)) (fun _ h9 => h9) rfl dX8_back_35 ?_
      refine lv_iload_n hx hb dX8_back_38 rfl (lv_at hl 1 rfl) ?_
      obtain ⟨g1, hf⟩ := gd_ok hf
      refine q_aald (t := 3) hx hb hK hP aX8_27 rfl rfl g1 dX8_back_39 ?_
      obtain ⟨v2, h3, hf⟩ := bd_ok hf
      refine q_cSi (va_runV (As := []) (rest := []) ⟨hx, hb, hml, hown, hts⟩ (c_X6_hasParty l (D := D) (ad := ad) (cy := cy) (sa := sa) (va := va) (I := I) (J := J) (28 + 2 * x1.toNatClampNeg) (isSh_of g1) h3) (cwV 0 hts gX8_back_X6_hasParty rfl rfl rfl (by decide +kernel) ⟨Nat.le_of_ble_eq_true rfl, Nat.le_of_ble_eq_true rfl⟩) ⟨qPre_blind _, q_recv hK hP (oX6 (isSh_of g1)) rfl, fun U hU hW => ⟨rfl, qPre_of hP hK hE hN hS U hU hW⟩⟩ rfl rfl hl.1 rfl (lv_room (Nat.le_of_ble_eq_true rfl)) dX8_back_40 ⟨Nat.le_of_ble_eq_true rfl, Nat.le_of_ble_eq_true rfl⟩) ?_
      refine lv_if_eq (tgt := 75) hx hb dX8_back_43 (by decide) (fun cc => ?_) (fun cc => ?_)
      · have hf := (if_ok hf).1 cc
        refine lv_iinc (v := (x1 + (1 : Int32))) (lv' := [(1, .int (x1 + (1 : Int32))), (0, .ref (ad 0))]) hx hb dX8_back_75 hl (k := 1) rfl rfl (by decide) rfl (fun ls hl => ?_)
        refine lv_goto (tgt := 28) hx hb dX8_back_78 (by decide) ?_
        exact ih (x1 + (1 : Int32)) I _ _ _ hf (lv_sub hl [1, 0] rfl) hP hS
      · have hf := (if_ok hf).2 cc
        refine lv_aload_n hx hb dX8_back_46 rfl (lv_at hl 0 rfl) ?_
        refine q_get (C := RX8) (T := TX8) (N := 12) (ci := 8) (v := .ref (ad 1)) hx hb hts in_X8_back_X8 hown hK hP oX8 rfl 0 (by decide) (hts (.fieldLink RX8 12 "RowsOnlyPrimes" "now" "LRowsOnlyPrimes$Bank;") (by decide +kernel)) (fun _ h9 => h9) rfl dX8_back_47 ?_
        refine lv_aload_n hx hb dX8_back_50 rfl (lv_at hl 0 rfl) ?_
        refine q_get (C := RX8) (T := TX8) (N := 12) (ci := 8) (v := .ref (ad 27)) hx hb hts in_X8_back_X8 hown hK hP oX8 rfl 4 (by decide) (hts (.fieldLink RX8 31 "RowsOnlyPrimes" "shelves" "[LRowsOnlyPrimes$Shelf;") (by decide +kernel)) (fun _ h9 => h9) rfl dX8_back_51 ?_
        refine lv_iload_n hx hb dX8_back_54 rfl (lv_at hl 1 rfl) ?_
        obtain ⟨g4, hf⟩ := gd_ok hf
        refine q_aald (t := 3) hx hb hK hP aX8_27 rfl rfl g4 dX8_back_55 ?_
        obtain ⟨v5, h6, hf⟩ := bd_ok hf
        refine q_cSi (va_runV (As := []) (rest := [.ref (ad 1)]) ⟨hx, hb, hml, hown, hts⟩ (c_X6_partyNumber l (D := D) (ad := ad) (cy := cy) (sa := sa) (va := va) (I := I) (J := J) (28 + 2 * x1.toNatClampNeg) (isSh_of g4) h6) (cwV 0 hts gX8_back_X6_partyNumber rfl rfl rfl (by decide +kernel) ⟨Nat.le_of_ble_eq_true rfl, Nat.le_of_ble_eq_true rfl⟩) ⟨qPre_blind _, q_recv hK hP (oX6 (isSh_of g4)) rfl, fun U hU hW => ⟨rfl, qPre_of hP hK hE hN hS U hU hW⟩⟩ rfl rfl hl.1 rfl (lv_room (Nat.le_of_ble_eq_true rfl)) dX8_back_56 ⟨Nat.le_of_ble_eq_true rfl, Nat.le_of_ble_eq_true rfl⟩) ?_
        obtain ⟨v7, h8, hf⟩ := bd_ok hf
        refine q_cSi (va_runV (As := [.int v5]) (rest := []) ⟨hx, hb, hml, hown, hts⟩ (c_X2_hasParty l (D := D) (ad := ad) (cy := cy) (sa := sa) (va := va) (I := I) (J := J) 1 isB_1 v5 h8) (cwV 1 hts gX8_back_X2_hasParty rfl rfl rfl (by decide +kernel) ⟨Nat.le_of_ble_eq_true rfl, Nat.le_of_ble_eq_true rfl⟩) ⟨qPre_blind _, q_recv hK hP (oX2 isB_1) rfl, fun U hU hW => ⟨rfl, qPre_of hP hK hE hN hS U hU hW⟩⟩ rfl rfl hl.1 rfl (lv_room (Nat.le_of_ble_eq_true rfl)) dX8_back_59 ⟨Nat.le_of_ble_eq_true rfl, Nat.le_of_ble_eq_true rfl⟩) ?_
        refine lv_if_ne (tgt := 75) hx hb dX8_back_62 (by decide) (fun cc => ?_) (fun cc => ?_)
        · have hf := (if_ok hf).2 cc
          refine lv_iinc (v := (x1 + (1 : Int32))) (lv' := [(1, .int (x1 + (1 : Int32))), (0, .ref (ad 0))]) hx hb dX8_back_75 hl (k := 1) rfl rfl (by decide) rfl (fun ls hl => ?_)
          refine lv_goto (tgt := 28) hx hb dX8_back_78 (by decide) ?_
          exact ih (x1 + (1 : Int32)) I _ _ _ hf (lv_sub hl [1, 0] rfl) hP hS
        · have hf := (if_ok hf).1 cc
          refine lv_aload_n hx hb dX8_back_65 rfl (lv_at hl 0 rfl) ?_
          refine q_get (C := RX8) (T := TX8) (N := 12) (ci := 8) (v := .ref (ad 27)) hx hb hts in_X8_back_X8 hown hK hP oX8 rfl 4 (by decide) (hts (.fieldLink RX8 31 "RowsOnlyPrimes" "shelves" "[LRowsOnlyPrimes$Shelf;") (by decide +kernel)) (fun _ h9 => h9) rfl dX8_back_66 ?_
          refine lv_iload_n hx hb dX8_back_69 rfl (lv_at hl 1 rfl) ?_
          obtain ⟨g9, hf⟩ := gd_ok hf
          refine q_aald (t := 3) hx hb hK hP aX8_27 rfl rfl g9 dX8_back_70 ?_
          refine lv_iconst (v := -1) hx hb dX8_back_71 (by decide) ?_
          obtain ⟨I10, h11, hf⟩ := bd_ok hf
          refine q_cEv (va_runV (As := [.int (-1 : Int32)]) (rest := []) ⟨hx, hb, hml, hown, hts⟩ (c_X6_takeParty l (D := D) (ad := ad) (cy := cy) (sa := sa) (va := va) (I := I) (J := J) (28 + 2 * x1.toNatClampNeg) (isSh_of g9) (-1 : Int32) h11) (cwV 1 hts gX8_back_X6_takeParty rfl rfl rfl (by decide +kernel) ⟨Nat.le_of_ble_eq_true rfl, Nat.le_of_ble_eq_true rfl⟩) ⟨qPre_blind _, q_recv hK hP (oX6 (isSh_of g9)) rfl, fun U hU hW => ⟨rfl, qPre_of hP hK hE hN hS U hU hW⟩⟩ rfl rfl hl.1 rfl (lv_room (Nat.le_of_ble_eq_true rfl)) dX8_back_72 ⟨Nat.le_of_ble_eq_true rfl, Nat.le_of_ble_eq_true rfl⟩) hS (fun H locs hP hS => ?_)
          refine lv_iinc (v := (x1 + (1 : Int32))) (lv' := [(1, .int (x1 + (1 : Int32))), (0, .ref (ad 0))]) hx hb dX8_back_75 hl (k := 1) rfl rfl (by decide) rfl (fun ls hl => ?_)
          refine lv_goto (tgt := 28) hx hb dX8_back_78 (by decide) ?_
          exact ih (x1 + (1 : Int32)) I10 _ _ _ hf (lv_sub hl [1, 0] rfl) hP hS
set_option maxHeartbeats 4000000 in
set_option maxRecDepth 100000 in
theorem c_X8_back (l : Launch) {D : va_G} {ad : Nat → Nat} {cy : Nat → ClassId} {sa va : Nat → Nat} {I : qI} {J : qJ}    {r : Int32} {Ie : qI} (hf : f_X8_back I = some (r, Ie)) : Met l yX8_back wsX8_back r_X8_back (va_Pc [.ref (ad 0)] (qPre D xS ad cy sa va (eX ad cy) I J)) (va_Qi (S := Unit) (fun x _ => x = r) (fun _ t => qP D xS ad (eX ad cy) Ie J t.heap) (qA xS ad)) 0 0 (qA xS ad) := by
  refine Met.ofW (cc := cX8_back) (maxL := 2) (ret := (some .int)) (by decide) rfl ?_
  intro p e s m args below meth c s₁ B hml hv
  obtain ⟨rfl, hP, hK, hE, hN⟩ := hv
  have C : qC p s m _ meth c cX8_back 2 RX8 wsX8_back (some .int) := ⟨⟨B.exec, B.bytes, hml, findClass_of_methodNamed B.named, atoms_spec (ws := wsX8_back) B.pre⟩, B.returns, B.notSynchronized⟩
  have C0 := C
  obtain ⟨⟨hx, hb, hml, hown, hts⟩, hr, hlocks⟩ := C0
  have hS : va_S (qA xS ad) s.heap s.heap [] := va_S.rf
  have hl := lv_entry ([.ref (ad 0)]) (n := 2) (Nat.le_of_ble_eq_true rfl)
  rw [lg_entry_eq]
  generalize (lg_sl ([.ref (ad 0)]) ++ List.replicate (2 - (lg_sl ([.ref (ad 0)])).length) Slot.unset).toArray = ls at hl ⊢
  have hl : lv_has ls 2 [(0, .ref (ad 0))] := hl
  unfold f_X8_back at hf
  refine lv_aload_n hx hb dX8_back_0 rfl (lv_at hl 0 rfl) ?_
  refine q_get (C := RX8) (T := TX8) (N := 12) (ci := 8) (v := .int (I 0 11)) hx hb hts in_X8_back_X8 hown hK hP oX8 rfl 11 (by decide) (hts (.fieldLink RX8 329 "RowsOnlyPrimes" "imaged" "Z") (by decide +kernel)) (fun _ h9 => h9) rfl dX8_back_1 ?_
  refine lv_if_ne (tgt := 15) hx hb dX8_back_4 (by decide) (fun cc => ?_) (fun cc => ?_)
  · have hf := (if_ok hf).2 cc
    refine lv_aload_n hx hb dX8_back_15 rfl (lv_at hl 0 rfl) ?_
    refine q_get (C := RX8) (T := TX8) (N := 12) (ci := 8) (v := .ref (ad 1)) hx hb hts in_X8_back_X8 hown hK hP oX8 rfl 0 (by decide) (hts (.fieldLink RX8 12 "RowsOnlyPrimes" "now" "LRowsOnlyPrimes$Bank;") (by decide +kernel)) (fun _ h9 => h9) rfl dX8_back_16 ?_
    refine lv_aload_n hx hb dX8_back_19 rfl (lv_at hl 0 rfl) ?_
    refine q_get (C := RX8) (T := TX8) (N := 12) (ci := 8) (v := .ref (ad 9)) hx hb hts in_X8_back_X8 hown hK hP oX8 rfl 1 (by decide) (hts (.fieldLink RX8 16 "RowsOnlyPrimes" "kept" "LRowsOnlyPrimes$Bank;") (by decide +kernel)) (fun _ h9 => h9) rfl dX8_back_20 ?_
    obtain ⟨I1, h2, hf⟩ := bd_ok hf
    refine q_cEv (va_runV (As := [.ref (ad 9)]) (rest := []) ⟨hx, hb, hml, hown, hts⟩ (c_X2_become l (D := D) (ad := ad) (cy := cy) (sa := sa) (va := va) (I := I) (J := J) 1 9 isB_1 isB_9 h2) (cwV 1 hts gX8_back_X2_become rfl rfl rfl (by decide +kernel) ⟨Nat.le_of_ble_eq_true rfl, Nat.le_of_ble_eq_true rfl⟩) ⟨qPre_blind _, q_recv hK hP (oX2 isB_1) rfl, fun U hU hW => ⟨rfl, qPre_of hP hK hE hN hS U hU hW⟩⟩ rfl rfl hl.1 rfl (lv_room (Nat.le_of_ble_eq_true rfl)) dX8_back_23 ⟨Nat.le_of_ble_eq_true rfl, Nat.le_of_ble_eq_true rfl⟩) hS (fun H locs hP hS => ?_)
    refine lv_iconst (v := 0) hx hb dX8_back_26 (by decide) ?_
    refine lv_istore_n (lv' := [(1, .int (0 : Int32)), (0, .ref (ad 0))]) hx hb dX8_back_27 rfl hl (by decide) rfl (fun ls hl => ?_)
    exact w_X8_back_28 C hK hE hN   1000 (0 : Int32) I1 _ _ _ hf (lv_sub hl [1, 0] rfl) hP hS
  · have hf := (if_ok hf).1 cc
    refine lv_aload_n hx hb dX8_back_7 rfl (lv_at hl 0 rfl) ?_
    refine lv_sipush (v := -1005) hx hb dX8_back_8 (by decide) ?_
    obtain ⟨v3, I4, h5, hf⟩ := bd2_ok hf
    refine q_cEi (va_runV (As := [.int (-1005 : Int32)]) (rest := []) ⟨hx, hb, hml, hown, hts⟩ (c_X8_refuse l (D := D) (ad := ad) (cy := cy) (sa := sa) (va := va) (I := I) (J := J) (-1005 : Int32) h5) (cwV 1 hts gX8_back_X8_refuse rfl rfl rfl (by decide +kernel) ⟨Nat.le_of_ble_eq_true rfl, Nat.le_of_ble_eq_true rfl⟩) ⟨qPre_blind _, q_recv hK hP oX8 rfl, fun U hU hW => ⟨rfl, qPre_of hP hK hE hN hS U hU hW⟩⟩ rfl rfl hl.1 rfl (lv_room (Nat.le_of_ble_eq_true rfl)) dX8_back_11 ⟨Nat.le_of_ble_eq_true rfl, Nat.le_of_ble_eq_true rfl⟩) hS (fun H locs hP hS => ?_)
    have e9 := Option.some.inj hf
    have eI9 : I4 = Ie := (congrArg Prod.snd e9)
    exact W.iret hx hb hr (fun t ht _ => ⟨⟨_, (), rfl, (congrArg Prod.fst e9), by show qP D _ ad _ _ _ t.heap; rw [ht, ← eI9]; exact hP⟩, hS.F ht⟩) hS.2.2 dX8_back_14
abbrev r_X8_shelvesInUse : Room := { frames := 0, cells := 0, slots := 0, locals := 0 }
theorem in_X8_shelvesInUse_X6 : ∀ w ∈ u_ws RX6 TX6 3, w ∈ wsX8_shelvesInUse := by decide +kernel
theorem in_X8_shelvesInUse_X8 : ∀ w ∈ u_ws RX8 TX8 12, w ∈ wsX8_shelvesInUse := by decide +kernel
set_option maxHeartbeats 4000000 in
set_option maxRecDepth 100000 in
theorem w_X8_shelvesInUse_4 (C : qC p s m args meth c cX8_shelvesInUse 3 RX8 wsX8_shelvesInUse (some .int)) (hK : qK D cy sa s) (hE : qEnv sa va (qA xS ad) s s.heap) (hN : qN xS ad)   {I : qI} {J : qJ} (hP : qP D xS ad (eX ad cy) I J s.heap) {r : Int32} : ∀ (n : Nat) (x1 : Int32) (x2 : Int32)  (ls : Array Slot), f_X8_shelvesInUse_4 I n x1 x2 = some r → lv_has ls 3 [(0, .ref (ad 0)), (1, .int x1), (2, .int x2)] → W p l e (headSpec wsX8_shelvesInUse r_X8_shelvesInUse).room s m args below meth c s.heap [] 0 0 (MQ below (vp_Si (fun x => x = r)) args s 0 0 (fun _ => False)) (F0 m 4 ls []) := by
  have C0 := C
  obtain ⟨⟨hx, hb, hml, hown, hts⟩, hr, hlocks⟩ := C0
  intro n
  induction n with
  | zero =>
    intro x1 x2 ls hf hl
    rw [f_X8_shelvesInUse_4] at hf
    cases hf
  | succ n ih =>
    intro x1 x2 ls hf hl
    rw [f_X8_shelvesInUse_4] at hf
    refine lv_iload_n hx hb dX8_shelvesInUse_4 rfl (lv_at hl 2 rfl) ?_
    refine lv_bipush (v := 8) hx hb dX8_shelvesInUse_5 (by decide) ?_
    refine lv_icmp_ge (tgt := 32) hx hb dX8_shelvesInUse_7 (by decide) (fun cc => ?_) (fun cc => ?_)
    · have hf := (if_ok hf).1 cc
      refine lv_iload_n hx hb dX8_shelvesInUse_32 rfl (lv_at hl 1 rfl) ?_
      exact W.iret hx hb hr (fun t ht _ => ⟨_, rfl, Option.some.inj hf, ht⟩) (fun _ h => by cases h) dX8_shelvesInUse_33
    · have hf := (if_ok hf).2 cc
      refine lv_aload_n hx hb dX8_shelvesInUse_10 rfl (lv_at hl 0 rfl) ?_
      refine q_get (C := RX8) (T := TX8) (N := 12) (ci := 8) (v := .ref (ad 27)) hx hb hts in_X8_shelvesInUse_X8 hown hK hP oX8 rfl 4 (by decide) (hts (.fieldLink RX8 31 "RowsOnlyPrimes" "shelves" "[LRowsOnlyPrimes$Shelf;") (by decide +kernel)) (fun _ h9 => h9) rfl dX8_shelvesInUse_11 ?_
      refine lv_iload_n hx hb dX8_shelvesInUse_14 rfl (lv_at hl 2 rfl) ?_
      obtain ⟨g1, hf⟩ := gd_ok hf
      refine q_aald (t := 3) hx hb hK hP aX8_27 rfl rfl g1 dX8_shelvesInUse_15 ?_
      refine q_get (C := RX6) (T := TX6) (N := 3) (ci := 6) (v := .int (I (28 + 2 * x2.toNatClampNeg) 1)) hx hb hts in_X8_shelvesInUse_X6 hown hK hP (oX6 (isSh_of g1)) rfl 1 (by decide) (hts (.fieldLink RX8 109 "RowsOnlyPrimes$Shelf" "content" "I") (by decide +kernel)) (fun _ h9 => h9) rfl dX8_shelvesInUse_16 ?_
      refine lv_iconst (v := -1) hx hb dX8_shelvesInUse_19 (by decide) ?_
      refine lv_icmp_eq (tgt := 26) hx hb dX8_shelvesInUse_20 (by decide) (fun cc => ?_) (fun cc => ?_)
      · have hf := (if_ok hf).1 cc
        refine lv_iinc (v := (x2 + (1 : Int32))) (lv' := [(2, .int (x2 + (1 : Int32))), (0, .ref (ad 0)), (1, .int x1)]) hx hb dX8_shelvesInUse_26 hl (k := 2) rfl rfl (by decide) rfl (fun ls hl => ?_)
        refine lv_goto (tgt := 4) hx hb dX8_shelvesInUse_29 (by decide) ?_
        exact ih x1 (x2 + (1 : Int32)) _ hf (lv_sub hl [1, 2, 0] rfl)
      · have hf := (if_ok hf).2 cc
        refine lv_iinc (v := (x1 + (1 : Int32))) (lv' := [(1, .int (x1 + (1 : Int32))), (0, .ref (ad 0)), (2, .int x2)]) hx hb dX8_shelvesInUse_23 hl (k := 1) rfl rfl (by decide) rfl (fun ls hl => ?_)
        refine lv_iinc (v := (x2 + (1 : Int32))) (lv' := [(2, .int (x2 + (1 : Int32))), (1, .int (x1 + (1 : Int32))), (0, .ref (ad 0))]) hx hb dX8_shelvesInUse_26 hl (k := 2) rfl rfl (by decide) rfl (fun ls hl => ?_)
        refine lv_goto (tgt := 4) hx hb dX8_shelvesInUse_29 (by decide) ?_
        exact ih (x1 + (1 : Int32)) (x2 + (1 : Int32)) _ hf (lv_sub hl [2, 1, 0] rfl)
set_option maxHeartbeats 4000000 in
set_option maxRecDepth 100000 in
theorem c_X8_shelvesInUse (l : Launch) {D : va_G} {ad : Nat → Nat} {cy : Nat → ClassId} {sa va : Nat → Nat} {I : qI} {J : qJ}    {r : Int32} (hf : f_X8_shelvesInUse I = some r) : Met l yX8_shelvesInUse wsX8_shelvesInUse r_X8_shelvesInUse (va_Pc [.ref (ad 0)] (qPre D xS ad cy sa va (eX ad cy) I J)) (vp_Si (fun x => x = r)) 0 0 (fun _ => False) := by
  refine Met.ofW (cc := cX8_shelvesInUse) (maxL := 3) (ret := (some .int)) (by decide) rfl ?_
  intro p e s m args below meth c s₁ B hml hv
  obtain ⟨rfl, hP, hK, hE, hN⟩ := hv
  have C : qC p s m _ meth c cX8_shelvesInUse 3 RX8 wsX8_shelvesInUse (some .int) := ⟨⟨B.exec, B.bytes, hml, findClass_of_methodNamed B.named, atoms_spec (ws := wsX8_shelvesInUse) B.pre⟩, B.returns, B.notSynchronized⟩
  have C0 := C
  obtain ⟨⟨hx, hb, hml, hown, hts⟩, hr, hlocks⟩ := C0
  have hl := lv_entry ([.ref (ad 0)]) (n := 3) (Nat.le_of_ble_eq_true rfl)
  rw [lg_entry_eq]
  generalize (lg_sl ([.ref (ad 0)]) ++ List.replicate (3 - (lg_sl ([.ref (ad 0)])).length) Slot.unset).toArray = ls at hl ⊢
  have hl : lv_has ls 3 [(0, .ref (ad 0))] := hl
  unfold f_X8_shelvesInUse at hf
  refine lv_iconst (v := 0) hx hb dX8_shelvesInUse_0 (by decide) ?_
  refine lv_istore_n (lv' := [(1, .int (0 : Int32)), (0, .ref (ad 0))]) hx hb dX8_shelvesInUse_1 rfl hl (by decide) rfl (fun ls hl => ?_)
  refine lv_iconst (v := 0) hx hb dX8_shelvesInUse_2 (by decide) ?_
  refine lv_istore_n (lv' := [(2, .int (0 : Int32)), (1, .int (0 : Int32)), (0, .ref (ad 0))]) hx hb dX8_shelvesInUse_3 rfl hl (by decide) rfl (fun ls hl => ?_)
  exact w_X8_shelvesInUse_4 C hK hE hN hP  1000 (0 : Int32) (0 : Int32) _ hf (lv_sub hl [2, 1, 0] rfl)
abbrev r_X8_status : Room := { frames := 1, cells := 0, slots := 0, locals := 22 }
theorem in_X8_status_X2 : ∀ w ∈ u_ws RX2 TX2 13, w ∈ wsX8_status := by decide +kernel
theorem in_X8_status_X7 : ∀ w ∈ u_ws RX7 TX7 6, w ∈ wsX8_status := by decide +kernel
theorem in_X8_status_X8 : ∀ w ∈ u_ws RX8 TX8 12, w ∈ wsX8_status := by decide +kernel
set_option maxHeartbeats 4000000 in
set_option maxRecDepth 100000 in
theorem c_X8_status (l : Launch) {D : va_G} {ad : Nat → Nat} {cy : Nat → ClassId} {sa va : Nat → Nat} {I : qI} {J : qJ}   (p0 : Int32) {r : Int32} (hf : f_X8_status p0 I = some r) : Met l yX8_status wsX8_status r_X8_status (va_Pc [.ref (ad 0), .int p0] (qPre D xS ad cy sa va (eX ad cy) I J)) (vp_Si (fun x => x = r)) 0 0 (fun _ => False) := by
  refine Met.ofW (cc := cX8_status) (maxL := 2) (ret := (some .int)) (by decide) rfl ?_
  intro p e s m args below meth c s₁ B hml hv
  obtain ⟨rfl, hP, hK, hE, hN⟩ := hv
  have C : qC p s m _ meth c cX8_status 2 RX8 wsX8_status (some .int) := ⟨⟨B.exec, B.bytes, hml, findClass_of_methodNamed B.named, atoms_spec (ws := wsX8_status) B.pre⟩, B.returns, B.notSynchronized⟩
  have C0 := C
  obtain ⟨⟨hx, hb, hml, hown, hts⟩, hr, hlocks⟩ := C0
  have hl := lv_entry ([.ref (ad 0), .int p0]) (n := 2) (Nat.le_of_ble_eq_true rfl)
  rw [lg_entry_eq]
  generalize (lg_sl ([.ref (ad 0), .int p0]) ++ List.replicate (2 - (lg_sl ([.ref (ad 0), .int p0])).length) Slot.unset).toArray = ls at hl ⊢
  have hl : lv_has ls 2 [(0, .ref (ad 0)), (1, .int p0)] := hl
  unfold f_X8_status at hf
  refine lv_iload_n hx hb dX8_status_0 rfl (lv_at hl 1 rfl) ?_
  refine lv_iconst (v := 1) hx hb dX8_status_1 (by decide) ?_
  refine lv_iconst (v := 5) hx hb dX8_status_2 (by decide) ?_
  obtain ⟨v1, h2, hf⟩ := bd_ok hf
  refine q_cSi (va_runS (As := [.int p0, .int (1 : Int32), .int (5 : Int32)]) (rest := []) ⟨hx, hb, hml, hown, hts⟩ (c_X8_within l (D := D) (ad := ad) (cy := cy) (sa := sa) (va := va) (I := I) (J := J) p0 (1 : Int32) (5 : Int32) h2) (va_cwS 3 hts gX8_status_X8_within rfl rfl rfl (by decide +kernel) ⟨Nat.le_of_ble_eq_true rfl, Nat.le_of_ble_eq_true rfl⟩) ⟨qPre_blind _, fun U hU hW => ⟨rfl, qPre_of hP hK hE hN va_S.rf U hU hW⟩⟩ rfl rfl hl.1 rfl (lv_room (Nat.le_of_ble_eq_true rfl)) dX8_status_3 ⟨Nat.le_of_ble_eq_true rfl, Nat.le_of_ble_eq_true rfl⟩) ?_
  refine lv_if_eq (tgt := 21) hx hb dX8_status_6 (by decide) (fun cc => ?_) (fun cc => ?_)
  · have hf := (if_ok hf).1 cc
    refine lv_iload_n hx hb dX8_status_21 rfl (lv_at hl 1 rfl) ?_
    refine lv_bipush (v := 12) hx hb dX8_status_22 (by decide) ?_
    refine lv_bipush (v := 16) hx hb dX8_status_24 (by decide) ?_
    obtain ⟨v3, h4, hf⟩ := bd_ok hf
    refine q_cSi (va_runS (As := [.int p0, .int (12 : Int32), .int (16 : Int32)]) (rest := []) ⟨hx, hb, hml, hown, hts⟩ (c_X8_within l (D := D) (ad := ad) (cy := cy) (sa := sa) (va := va) (I := I) (J := J) p0 (12 : Int32) (16 : Int32) h4) (va_cwS 3 hts gX8_status_X8_within rfl rfl rfl (by decide +kernel) ⟨Nat.le_of_ble_eq_true rfl, Nat.le_of_ble_eq_true rfl⟩) ⟨qPre_blind _, fun U hU hW => ⟨rfl, qPre_of hP hK hE hN va_S.rf U hU hW⟩⟩ rfl rfl hl.1 rfl (lv_room (Nat.le_of_ble_eq_true rfl)) dX8_status_26 ⟨Nat.le_of_ble_eq_true rfl, Nat.le_of_ble_eq_true rfl⟩) ?_
    refine lv_if_eq (tgt := 42) hx hb dX8_status_29 (by decide) (fun cc => ?_) (fun cc => ?_)
    · have hf := (if_ok hf).1 cc
      refine lv_iload_n hx hb dX8_status_42 rfl (lv_at hl 1 rfl) ?_
      by_cases c5 : p0 = (0 : Int32)
      · have hf := (if_ok hf).1 c5
        refine lv_tableIn (off := 85) (tgt := 128) hx hb dX8_status_43 (by rw [c5]; decide) (by rw [c5]; decide) (by rw [c5]; rfl) (by decide) ?_
        refine lv_aload_n hx hb dX8_status_128 rfl (lv_at hl 0 rfl) ?_
        refine q_get (C := RX8) (T := TX8) (N := 12) (ci := 8) (v := .ref (ad 1)) hx hb hts in_X8_status_X8 hown hK hP oX8 rfl 0 (by decide) (hts (.fieldLink RX8 12 "RowsOnlyPrimes" "now" "LRowsOnlyPrimes$Bank;") (by decide +kernel)) (fun _ h9 => h9) rfl dX8_status_129 ?_
        refine q_get (C := RX2) (T := TX2) (N := 13) (ci := 2) (v := .int (I 1 7)) hx hb hts in_X8_status_X2 hown hK hP (oX2 isB_1) rfl 7 (by decide) (hts (.fieldLink RX8 232 "RowsOnlyPrimes$Bank" "size" "I") (by decide +kernel)) (fun _ h9 => h9) rfl dX8_status_132 ?_
        exact W.iret hx hb hr (fun t ht _ => ⟨_, rfl, Option.some.inj hf, ht⟩) (fun _ h => by cases h) dX8_status_135
      have hf := (if_ok hf).2 c5
      by_cases c6 : p0 = (1 : Int32)
      · have hf := (if_ok hf).1 c6
        refine lv_tableIn (off := 146) (tgt := 189) hx hb dX8_status_43 (by rw [c6]; decide) (by rw [c6]; decide) (by rw [c6]; rfl) (by decide) ?_
        refine lv_iconst (v := -1) hx hb dX8_status_189 (by decide) ?_
        exact W.iret hx hb hr (fun t ht _ => ⟨_, rfl, Option.some.inj hf, ht⟩) (fun _ h => by cases h) dX8_status_190
      have hf := (if_ok hf).2 c6
      by_cases c7 : p0 = (2 : Int32)
      · have hf := (if_ok hf).1 c7
        refine lv_tableIn (off := 146) (tgt := 189) hx hb dX8_status_43 (by rw [c7]; decide) (by rw [c7]; decide) (by rw [c7]; rfl) (by decide) ?_
        refine lv_iconst (v := -1) hx hb dX8_status_189 (by decide) ?_
        exact W.iret hx hb hr (fun t ht _ => ⟨_, rfl, Option.some.inj hf, ht⟩) (fun _ h => by cases h) dX8_status_190
      have hf := (if_ok hf).2 c7
      by_cases c8 : p0 = (3 : Int32)
      · have hf := (if_ok hf).1 c8
        refine lv_tableIn (off := 146) (tgt := 189) hx hb dX8_status_43 (by rw [c8]; decide) (by rw [c8]; decide) (by rw [c8]; rfl) (by decide) ?_
        refine lv_iconst (v := -1) hx hb dX8_status_189 (by decide) ?_
        exact W.iret hx hb hr (fun t ht _ => ⟨_, rfl, Option.some.inj hf, ht⟩) (fun _ h => by cases h) dX8_status_190
      have hf := (if_ok hf).2 c8
      by_cases c9 : p0 = (4 : Int32)
      · have hf := (if_ok hf).1 c9
        refine lv_tableIn (off := 146) (tgt := 189) hx hb dX8_status_43 (by rw [c9]; decide) (by rw [c9]; decide) (by rw [c9]; rfl) (by decide) ?_
        refine lv_iconst (v := -1) hx hb dX8_status_189 (by decide) ?_
        exact W.iret hx hb hr (fun t ht _ => ⟨_, rfl, Option.some.inj hf, ht⟩) (fun _ h => by cases h) dX8_status_190
      have hf := (if_ok hf).2 c9
      by_cases c10 : p0 = (5 : Int32)
      · have hf := (if_ok hf).1 c10
        refine lv_tableIn (off := 146) (tgt := 189) hx hb dX8_status_43 (by rw [c10]; decide) (by rw [c10]; decide) (by rw [c10]; rfl) (by decide) ?_
        refine lv_iconst (v := -1) hx hb dX8_status_189 (by decide) ?_
        exact W.iret hx hb hr (fun t ht _ => ⟨_, rfl, Option.some.inj hf, ht⟩) (fun _ h => by cases h) dX8_status_190
      have hf := (if_ok hf).2 c10
      by_cases c11 : p0 = (6 : Int32)
      · have hf := (if_ok hf).1 c11
        refine lv_tableIn (off := 93) (tgt := 136) hx hb dX8_status_43 (by rw [c11]; decide) (by rw [c11]; decide) (by rw [c11]; rfl) (by decide) ?_
        refine lv_aload_n hx hb dX8_status_136 rfl (lv_at hl 0 rfl) ?_
        refine q_get (C := RX8) (T := TX8) (N := 12) (ci := 8) (v := .ref (ad 1)) hx hb hts in_X8_status_X8 hown hK hP oX8 rfl 0 (by decide) (hts (.fieldLink RX8 12 "RowsOnlyPrimes" "now" "LRowsOnlyPrimes$Bank;") (by decide +kernel)) (fun _ h9 => h9) rfl dX8_status_137 ?_
        refine q_get (C := RX2) (T := TX2) (N := 13) (ci := 2) (v := .int (I 1 9)) hx hb hts in_X8_status_X2 hown hK hP (oX2 isB_1) rfl 9 (by decide) (hts (.fieldLink RX8 320 "RowsOnlyPrimes$Bank" "minutes" "I") (by decide +kernel)) (fun _ h9 => h9) rfl dX8_status_140 ?_
        exact W.iret hx hb hr (fun t ht _ => ⟨_, rfl, Option.some.inj hf, ht⟩) (fun _ h => by cases h) dX8_status_143
      have hf := (if_ok hf).2 c11
      by_cases c12 : p0 = (7 : Int32)
      · have hf := (if_ok hf).1 c12
        refine lv_tableIn (off := 101) (tgt := 144) hx hb dX8_status_43 (by rw [c12]; decide) (by rw [c12]; decide) (by rw [c12]; rfl) (by decide) ?_
        refine lv_aload_n hx hb dX8_status_144 rfl (lv_at hl 0 rfl) ?_
        refine q_get (C := RX8) (T := TX8) (N := 12) (ci := 8) (v := .ref (ad 1)) hx hb hts in_X8_status_X8 hown hK hP oX8 rfl 0 (by decide) (hts (.fieldLink RX8 12 "RowsOnlyPrimes" "now" "LRowsOnlyPrimes$Bank;") (by decide +kernel)) (fun _ h9 => h9) rfl dX8_status_145 ?_
        refine q_get (C := RX2) (T := TX2) (N := 13) (ci := 2) (v := .int (I 1 10)) hx hb hts in_X8_status_X2 hown hK hP (oX2 isB_1) rfl 10 (by decide) (hts (.fieldLink RX8 333 "RowsOnlyPrimes$Bank" "paid" "I") (by decide +kernel)) (fun _ h9 => h9) rfl dX8_status_148 ?_
        exact W.iret hx hb hr (fun t ht _ => ⟨_, rfl, Option.some.inj hf, ht⟩) (fun _ h => by cases h) dX8_status_151
      have hf := (if_ok hf).2 c12
      by_cases c13 : p0 = (8 : Int32)
      · have hf := (if_ok hf).1 c13
        refine lv_tableIn (off := 109) (tgt := 152) hx hb dX8_status_43 (by rw [c13]; decide) (by rw [c13]; decide) (by rw [c13]; rfl) (by decide) ?_
        refine lv_aload_n hx hb dX8_status_152 rfl (lv_at hl 0 rfl) ?_
        refine q_get (C := RX8) (T := TX8) (N := 12) (ci := 8) (v := .ref (ad 1)) hx hb hts in_X8_status_X8 hown hK hP oX8 rfl 0 (by decide) (hts (.fieldLink RX8 12 "RowsOnlyPrimes" "now" "LRowsOnlyPrimes$Bank;") (by decide +kernel)) (fun _ h9 => h9) rfl dX8_status_153 ?_
        refine q_get (C := RX2) (T := TX2) (N := 13) (ci := 2) (v := .int (I 1 11)) hx hb hts in_X8_status_X2 hown hK hP (oX2 isB_1) rfl 11 (by decide) (hts (.fieldLink RX8 336 "RowsOnlyPrimes$Bank" "crossings" "I") (by decide +kernel)) (fun _ h9 => h9) rfl dX8_status_156 ?_
        exact W.iret hx hb hr (fun t ht _ => ⟨_, rfl, Option.some.inj hf, ht⟩) (fun _ h => by cases h) dX8_status_159
      have hf := (if_ok hf).2 c13
      by_cases c14 : p0 = (9 : Int32)
      · have hf := (if_ok hf).1 c14
        refine lv_tableIn (off := 117) (tgt := 160) hx hb dX8_status_43 (by rw [c14]; decide) (by rw [c14]; decide) (by rw [c14]; rfl) (by decide) ?_
        refine lv_aload_n hx hb dX8_status_160 rfl (lv_at hl 0 rfl) ?_
        refine q_get (C := RX8) (T := TX8) (N := 12) (ci := 8) (v := .ref (ad 1)) hx hb hts in_X8_status_X8 hown hK hP oX8 rfl 0 (by decide) (hts (.fieldLink RX8 12 "RowsOnlyPrimes" "now" "LRowsOnlyPrimes$Bank;") (by decide +kernel)) (fun _ h9 => h9) rfl dX8_status_161 ?_
        refine q_get (C := RX2) (T := TX2) (N := 13) (ci := 2) (v := .int (I 1 8)) hx hb hts in_X8_status_X2 hown hK hP (oX2 isB_1) rfl 8 (by decide) (hts (.fieldLink RX8 250 "RowsOnlyPrimes$Bank" "over" "I") (by decide +kernel)) (fun _ h9 => h9) rfl dX8_status_164 ?_
        exact W.iret hx hb hr (fun t ht _ => ⟨_, rfl, Option.some.inj hf, ht⟩) (fun _ h => by cases h) dX8_status_167
      have hf := (if_ok hf).2 c14
      by_cases c15 : p0 = (10 : Int32)
      · have hf := (if_ok hf).1 c15
        refine lv_tableIn (off := 125) (tgt := 168) hx hb dX8_status_43 (by rw [c15]; decide) (by rw [c15]; decide) (by rw [c15]; rfl) (by decide) ?_
        refine lv_aload_n hx hb dX8_status_168 rfl (lv_at hl 0 rfl) ?_
        refine q_get (C := RX8) (T := TX8) (N := 12) (ci := 8) (v := .ref (ad 25)) hx hb hts in_X8_status_X8 hown hK hP oX8 rfl 3 (by decide) (hts (.fieldLink RX8 25 "RowsOnlyPrimes" "tape" "LRowsOnlyPrimes$Tape;") (by decide +kernel)) (fun _ h9 => h9) rfl dX8_status_169 ?_
        refine q_get (C := RX7) (T := TX7) (N := 6) (ci := 7) (v := .int (I 25 1)) hx hb hts in_X8_status_X7 hown hK hP oX7 rfl 1 (by decide) (hts (.fieldLink RX8 185 "RowsOnlyPrimes$Tape" "length" "I") (by decide +kernel)) (fun _ h9 => h9) rfl dX8_status_172 ?_
        exact W.iret hx hb hr (fun t ht _ => ⟨_, rfl, Option.some.inj hf, ht⟩) (fun _ h => by cases h) dX8_status_175
      have hf := (if_ok hf).2 c15
      by_cases c16 : p0 = (11 : Int32)
      · have hf := (if_ok hf).1 c16
        refine lv_tableIn (off := 133) (tgt := 176) hx hb dX8_status_43 (by rw [c16]; decide) (by rw [c16]; decide) (by rw [c16]; rfl) (by decide) ?_
        refine lv_aload_n hx hb dX8_status_176 rfl (lv_at hl 0 rfl) ?_
        refine q_get (C := RX8) (T := TX8) (N := 12) (ci := 8) (v := .ref (ad 1)) hx hb hts in_X8_status_X8 hown hK hP oX8 rfl 0 (by decide) (hts (.fieldLink RX8 12 "RowsOnlyPrimes" "now" "LRowsOnlyPrimes$Bank;") (by decide +kernel)) (fun _ h9 => h9) rfl dX8_status_177 ?_
        refine q_get (C := RX2) (T := TX2) (N := 13) (ci := 2) (v := .int (I 1 12)) hx hb hts in_X8_status_X2 hown hK hP (oX2 isB_1) rfl 12 (by decide) (hts (.fieldLink RX8 326 "RowsOnlyPrimes$Bank" "chance" "I") (by decide +kernel)) (fun _ h9 => h9) rfl dX8_status_180 ?_
        exact W.iret hx hb hr (fun t ht _ => ⟨_, rfl, Option.some.inj hf, ht⟩) (fun _ h => by cases h) dX8_status_183
      have hf := (if_ok hf).2 c16
      by_cases c17 : p0 = (12 : Int32)
      · have hf := (if_ok hf).1 c17
        refine lv_tableIn (off := 146) (tgt := 189) hx hb dX8_status_43 (by rw [c17]; decide) (by rw [c17]; decide) (by rw [c17]; rfl) (by decide) ?_
        refine lv_iconst (v := -1) hx hb dX8_status_189 (by decide) ?_
        exact W.iret hx hb hr (fun t ht _ => ⟨_, rfl, Option.some.inj hf, ht⟩) (fun _ h => by cases h) dX8_status_190
      have hf := (if_ok hf).2 c17
      by_cases c18 : p0 = (13 : Int32)
      · have hf := (if_ok hf).1 c18
        refine lv_tableIn (off := 146) (tgt := 189) hx hb dX8_status_43 (by rw [c18]; decide) (by rw [c18]; decide) (by rw [c18]; rfl) (by decide) ?_
        refine lv_iconst (v := -1) hx hb dX8_status_189 (by decide) ?_
        exact W.iret hx hb hr (fun t ht _ => ⟨_, rfl, Option.some.inj hf, ht⟩) (fun _ h => by cases h) dX8_status_190
      have hf := (if_ok hf).2 c18
      by_cases c19 : p0 = (14 : Int32)
      · have hf := (if_ok hf).1 c19
        refine lv_tableIn (off := 146) (tgt := 189) hx hb dX8_status_43 (by rw [c19]; decide) (by rw [c19]; decide) (by rw [c19]; rfl) (by decide) ?_
        refine lv_iconst (v := -1) hx hb dX8_status_189 (by decide) ?_
        exact W.iret hx hb hr (fun t ht _ => ⟨_, rfl, Option.some.inj hf, ht⟩) (fun _ h => by cases h) dX8_status_190
      have hf := (if_ok hf).2 c19
      by_cases c20 : p0 = (15 : Int32)
      · have hf := (if_ok hf).1 c20
        refine lv_tableIn (off := 146) (tgt := 189) hx hb dX8_status_43 (by rw [c20]; decide) (by rw [c20]; decide) (by rw [c20]; rfl) (by decide) ?_
        refine lv_iconst (v := -1) hx hb dX8_status_189 (by decide) ?_
        exact W.iret hx hb hr (fun t ht _ => ⟨_, rfl, Option.some.inj hf, ht⟩) (fun _ h => by cases h) dX8_status_190
      have hf := (if_ok hf).2 c20
      by_cases c21 : p0 = (16 : Int32)
      · have hf := (if_ok hf).1 c21
        refine lv_tableIn (off := 146) (tgt := 189) hx hb dX8_status_43 (by rw [c21]; decide) (by rw [c21]; decide) (by rw [c21]; rfl) (by decide) ?_
        refine lv_iconst (v := -1) hx hb dX8_status_189 (by decide) ?_
        exact W.iret hx hb hr (fun t ht _ => ⟨_, rfl, Option.some.inj hf, ht⟩) (fun _ h => by cases h) dX8_status_190
      have hf := (if_ok hf).2 c21
      by_cases c22 : p0 = (17 : Int32)
      · have hf := (if_ok hf).1 c22
        refine lv_tableIn (off := 141) (tgt := 184) hx hb dX8_status_43 (by rw [c22]; decide) (by rw [c22]; decide) (by rw [c22]; rfl) (by decide) ?_
        refine lv_aload_n hx hb dX8_status_184 rfl (lv_at hl 0 rfl) ?_
        obtain ⟨v23, h24, hf⟩ := bd_ok hf
        refine q_cSi (va_runV (As := []) (rest := []) ⟨hx, hb, hml, hown, hts⟩ (c_X8_shelvesInUse l (D := D) (ad := ad) (cy := cy) (sa := sa) (va := va) (I := I) (J := J)  h24) (cwV 0 hts gX8_status_X8_shelvesInUse rfl rfl rfl (by decide +kernel) ⟨Nat.le_of_ble_eq_true rfl, Nat.le_of_ble_eq_true rfl⟩) ⟨qPre_blind _, q_recv hK hP oX8 rfl, fun U hU hW => ⟨rfl, qPre_of hP hK hE hN va_S.rf U hU hW⟩⟩ rfl rfl hl.1 rfl (lv_room (Nat.le_of_ble_eq_true rfl)) dX8_status_185 ⟨Nat.le_of_ble_eq_true rfl, Nat.le_of_ble_eq_true rfl⟩) ?_
        exact W.iret hx hb hr (fun t ht _ => ⟨_, rfl, Option.some.inj hf, ht⟩) (fun _ h => by cases h) dX8_status_188
      have hf := (if_ok hf).2 c22
      refine lv_tableOut (tgt := 189) hx hb dX8_status_43 (by have c5 := q_nt c5 (show ((0 : Int32)).toInt = 0 by decide); have c6 := q_nt c6 (show ((1 : Int32)).toInt = 1 by decide); have c7 := q_nt c7 (show ((2 : Int32)).toInt = 2 by decide); have c8 := q_nt c8 (show ((3 : Int32)).toInt = 3 by decide); have c9 := q_nt c9 (show ((4 : Int32)).toInt = 4 by decide); have c10 := q_nt c10 (show ((5 : Int32)).toInt = 5 by decide); have c11 := q_nt c11 (show ((6 : Int32)).toInt = 6 by decide); have c12 := q_nt c12 (show ((7 : Int32)).toInt = 7 by decide); have c13 := q_nt c13 (show ((8 : Int32)).toInt = 8 by decide); have c14 := q_nt c14 (show ((9 : Int32)).toInt = 9 by decide); have c15 := q_nt c15 (show ((10 : Int32)).toInt = 10 by decide); have c16 := q_nt c16 (show ((11 : Int32)).toInt = 11 by decide); have c17 := q_nt c17 (show ((12 : Int32)).toInt = 12 by decide); have c18 := q_nt c18 (show ((13 : Int32)).toInt = 13 by decide); have c19 := q_nt c19 (show ((14 : Int32)).toInt = 14 by decide); have c20 := q_nt c20 (show ((15 : Int32)).toInt = 15 by decide); have c21 := q_nt c21 (show ((16 : Int32)).toInt = 16 by decide); have c22 := q_nt c22 (show ((17 : Int32)).toInt = 17 by decide); omega) (by decide) ?_
      refine lv_iconst (v := -1) hx hb dX8_status_189 (by decide) ?_
      exact W.iret hx hb hr (fun t ht _ => ⟨_, rfl, Option.some.inj hf, ht⟩) (fun _ h => by cases h) dX8_status_190
    · have hf := (if_ok hf).2 cc
      refine lv_aload_n hx hb dX8_status_32 rfl (lv_at hl 0 rfl) ?_
      refine q_get (C := RX8) (T := TX8) (N := 12) (ci := 8) (v := .ref (ad 44)) hx hb hts in_X8_status_X8 hown hK hP oX8 rfl 5 (by decide) (hts (.fieldLink RX8 35 "RowsOnlyPrimes" "refusals" "[I") (by decide +kernel)) (fun _ h9 => h9) rfl dX8_status_33 ?_
      refine lv_iload_n hx hb dX8_status_36 rfl (lv_at hl 1 rfl) ?_
      refine lv_bipush (v := 12) hx hb dX8_status_37 (by decide) ?_
      refine lv_isub hx hb dX8_status_39 ?_
      obtain ⟨g25, hf⟩ := gd_ok hf
      refine q_iald hx hb hK hP aX8_44 g25 dX8_status_40 ?_
      exact W.iret hx hb hr (fun t ht _ => ⟨_, rfl, Option.some.inj hf, ht⟩) (fun _ h => by cases h) dX8_status_41
  · have hf := (if_ok hf).2 cc
    refine lv_aload_n hx hb dX8_status_9 rfl (lv_at hl 0 rfl) ?_
    refine q_get (C := RX8) (T := TX8) (N := 12) (ci := 8) (v := .ref (ad 1)) hx hb hts in_X8_status_X8 hown hK hP oX8 rfl 0 (by decide) (hts (.fieldLink RX8 12 "RowsOnlyPrimes" "now" "LRowsOnlyPrimes$Bank;") (by decide +kernel)) (fun _ h9 => h9) rfl dX8_status_10 ?_
    refine q_get (C := RX2) (T := TX2) (N := 13) (ci := 2) (v := .ref (ad (1 + 7))) hx hb hts in_X8_status_X2 hown hK hP (oX2 isB_1) rfl 6 (by decide) (hts (.fieldLink RX8 179 "RowsOnlyPrimes$Bank" "told" "[I") (by decide +kernel)) (fun _ h9 => h9) rfl dX8_status_13 ?_
    refine lv_iload_n hx hb dX8_status_16 rfl (lv_at hl 1 rfl) ?_
    refine lv_iconst (v := 1) hx hb dX8_status_17 (by decide) ?_
    refine lv_isub hx hb dX8_status_18 ?_
    obtain ⟨g26, hf⟩ := gd_ok hf
    refine q_iald hx hb hK hP (aX2_7 isB_1) g26 dX8_status_19 ?_
    exact W.iret hx hb hr (fun t ht _ => ⟨_, rfl, Option.some.inj hf, ht⟩) (fun _ h => by cases h) dX8_status_20
end
