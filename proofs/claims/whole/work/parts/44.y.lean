/-! machine: X8_refuse X8_row X8_rowTrouble X8_set X8_copy X8_element X8_holds X8_show X8_isOfKind X8_says X8_party X8_give X8_bind X8_tell X8_feed X8_wipe X8_bank (written by wip/gen/gen.py) -/
section
variable {p : Program} {l : Launch} {e : Env} {s : State} {m : MethodId} {args : Array Value} {below : List Frame} {meth : Method} {c : Code} {D : va_G} {ad : Nat → Nat} {cy : Nat → ClassId} {sa va : Nat → Nat}
abbrev r_X8_refuse : Room := { frames := 1, cells := 0, slots := 0, locals := 22 }
theorem in_X8_refuse_X8 : ∀ w ∈ u_ws RX8 TX8 12, w ∈ wsX8_refuse := by decide +kernel
set_option maxHeartbeats 4000000 in
set_option maxRecDepth 100000 in
theorem c_X8_refuse (l : Launch) {D : va_G} {ad : Nat → Nat} {cy : Nat → ClassId} {sa va : Nat → Nat} {I : qI} {J : qJ}   (p0 : Int32) {r : Int32} {Ie : qI} (hf : f_X8_refuse p0 I = some (r, Ie)) : Met l yX8_refuse wsX8_refuse r_X8_refuse (va_Pc [.ref (ad 0), .int p0] (qPre D xS ad cy sa va (eX ad cy) I J)) (va_Qi (S := Unit) (fun x _ => x = r) (fun _ t => qP D xS ad (eX ad cy) Ie J t.heap) (qA xS ad)) 0 0 (qA xS ad) := by
  refine Met.ofW (cc := cX8_refuse) (maxL := 3) (ret := (some .int)) (by decide) rfl ?_
  intro p e s m args below meth c s₁ B hml hv
  obtain ⟨rfl, hP, hK, hE, hN⟩ := hv
  have C : qC p s m _ meth c cX8_refuse 3 RX8 wsX8_refuse (some .int) := ⟨⟨B.exec, B.bytes, hml, findClass_of_methodNamed B.named, atoms_spec (ws := wsX8_refuse) B.pre⟩, B.returns, B.notSynchronized⟩
  have C0 := C
  obtain ⟨⟨hx, hb, hml, hown, hts⟩, hr, hlocks⟩ := C0
  have hS : va_S (qA xS ad) s.heap s.heap [] := va_S.rf
  have hl := lv_entry ([.ref (ad 0), .int p0]) (n := 3) (Nat.le_of_ble_eq_true rfl)
  rw [lg_entry_eq]
  generalize (lg_sl ([.ref (ad 0), .int p0]) ++ List.replicate (3 - (lg_sl ([.ref (ad 0), .int p0])).length) Slot.unset).toArray = ls at hl ⊢
  have hl : lv_has ls 3 [(0, .ref (ad 0)), (1, .int p0)] := hl
  unfold f_X8_refuse at hf
  refine lv_sipush (v := -1002) hx hb dX8_refuse_0 (by decide) ?_
  refine lv_iload_n hx hb dX8_refuse_3 rfl (lv_at hl 1 rfl) ?_
  refine lv_isub hx hb dX8_refuse_4 ?_
  refine lv_istore_n (lv' := [(2, .int ((-1002 : Int32) - p0)), (0, .ref (ad 0)), (1, .int p0)]) hx hb dX8_refuse_5 rfl hl (by decide) rfl (fun ls hl => ?_)
  refine lv_iload_n hx hb dX8_refuse_6 rfl (lv_at hl 0 rfl) ?_
  refine lv_iconst (v := 0) hx hb dX8_refuse_7 (by decide) ?_
  refine lv_aload_n hx hb dX8_refuse_8 rfl (lv_at hl 1 rfl) ?_
  refine q_get (C := RX8) (T := TX8) (N := 12) (ci := 8) (v := .ref (ad 44)) hx hb hts in_X8_refuse_X8 hown hK hP oX8 rfl 5 (by decide) (hts (.fieldLink RX8 35 "RowsOnlyPrimes" "refusals" "[I") (by decide +kernel)) (fun _ h9 => h9) rfl dX8_refuse_9 ?_
  refine q_alenI (v := (5 : Int32)) hx hb hK hP aX8_44 rfl dX8_refuse_12 ?_
  refine lv_iconst (v := 1) hx hb dX8_refuse_13 (by decide) ?_
  refine lv_isub hx hb dX8_refuse_14 ?_
  obtain ⟨v1, h2, hf⟩ := bd_ok hf
  refine q_cSi (va_runS (As := [.int ((-1002 : Int32) - p0), .int (0 : Int32), .int ((5 : Int32) - (1 : Int32))]) (rest := []) ⟨hx, hb, hml, hown, hts⟩ (c_X8_within l (D := D) (ad := ad) (cy := cy) (sa := sa) (va := va) (I := I) (J := J) ((-1002 : Int32) - p0) (0 : Int32) ((5 : Int32) - (1 : Int32)) h2) (va_cwS 3 hts gX8_refuse_X8_within rfl rfl rfl (by decide +kernel) ⟨Nat.le_of_ble_eq_true rfl, Nat.le_of_ble_eq_true rfl⟩) ⟨qPre_blind _, fun U hU hW => ⟨rfl, qPre_of hP hK hE hN hS U hU hW⟩⟩ rfl rfl hl.1 rfl (lv_room (Nat.le_of_ble_eq_true rfl)) dX8_refuse_15 ⟨Nat.le_of_ble_eq_true rfl, Nat.le_of_ble_eq_true rfl⟩) ?_
  refine lv_if_eq (tgt := 31) hx hb dX8_refuse_18 (by decide) (fun cc => ?_) (fun cc => ?_)
  · have hf := (if_ok hf).1 cc
    refine lv_iload_n hx hb dX8_refuse_31 rfl (lv_at hl 2 rfl) ?_
    have e9 := Option.some.inj hf
    have eI9 : I = Ie := (congrArg Prod.snd e9)
    exact W.iret hx hb hr (fun t ht _ => ⟨⟨_, (), rfl, (congrArg Prod.fst e9), by show qP D _ ad _ _ _ t.heap; rw [ht, ← eI9]; exact hP⟩, hS.F ht⟩) hS.2.2 dX8_refuse_32
  · have hf := (if_ok hf).2 cc
    refine lv_aload_n hx hb dX8_refuse_21 rfl (lv_at hl 1 rfl) ?_
    refine q_get (C := RX8) (T := TX8) (N := 12) (ci := 8) (v := .ref (ad 44)) hx hb hts in_X8_refuse_X8 hown hK hP oX8 rfl 5 (by decide) (hts (.fieldLink RX8 35 "RowsOnlyPrimes" "refusals" "[I") (by decide +kernel)) (fun _ h9 => h9) rfl dX8_refuse_22 ?_
    refine lv_iload_n hx hb dX8_refuse_25 rfl (lv_at hl 0 rfl) ?_
    refine lv_dup2_11 hx hb dX8_refuse_26 rfl rfl ?_
    obtain ⟨g3, hf⟩ := gd_ok hf
    refine q_iald hx hb hK hP aX8_44 g3 dX8_refuse_27 ?_
    refine lv_iconst (v := 1) hx hb dX8_refuse_28 (by decide) ?_
    refine lv_iadd hx hb dX8_refuse_29 ?_
    obtain ⟨g4, hf⟩ := gd_ok hf
    obtain ⟨I5, eI5, hf⟩ := lt_ok hf
    refine q_iast hx hb hK hP hN hS aX8_44 g4 dX8_refuse_30 (fun H locs hP hS => ?_)
    have hP : qP D xS ad (eX ad cy) I5 J H := by rw [eI5]; exact hP
    refine lv_iload_n hx hb dX8_refuse_31 rfl (lv_at hl 2 rfl) ?_
    have e9 := Option.some.inj hf
    have eI9 : I5 = Ie := (congrArg Prod.snd e9)
    exact W.iret hx hb hr (fun t ht _ => ⟨⟨_, (), rfl, (congrArg Prod.fst e9), by show qP D _ ad _ _ _ t.heap; rw [ht, ← eI9]; exact hP⟩, hS.F ht⟩) hS.2.2 dX8_refuse_32
abbrev r_X8_row : Room := { frames := 2, cells := 0, slots := 0, locals := 46 }
theorem in_X8_row_X8 : ∀ w ∈ u_ws RX8 TX8 12, w ∈ wsX8_row := by decide +kernel
set_option maxHeartbeats 4000000 in
set_option maxRecDepth 100000 in
theorem w_X8_row_26 (C : qC p s m args meth c cX8_row 4 RX8 wsX8_row (some .int)) (hK : qK D cy sa s) (hE : qEnv sa va (qA xS ad) s s.heap) (hN : qN xS ad)   {r : Int32} {Ie : qI} {Je : qJ} : ∀   (I : qI) (J : qJ) (ls : Array Slot) (H : Heap) (locs : List Loc), f_X8_row_26 I J = some (r, Ie, Je) → lv_has ls 4 [(0, .ref (ad 0))] → qP D xS ad (eX ad cy) I J H → va_S (qA xS ad) s.heap H locs → W p l e (headSpec wsX8_row r_X8_row).room s m args below meth c H locs 0 0 (MQ below (va_Qi (S := Unit) (fun x _ => x = r) (fun _ t => qP D xS ad (eX ad cy) Ie Je t.heap) (qA xS ad)) args s 0 0 (qA xS ad)) (F0 m 26 ls []) := by
  have C0 := C
  obtain ⟨⟨hx, hb, hml, hown, hts⟩, hr, hlocks⟩ := C0
  intro I J ls H locs hf hl hP hS
  unfold f_X8_row_26 at hf
  refine lv_aload_n hx hb dX8_row_26 rfl (lv_at hl 0 rfl) ?_
  refine lv_sipush (v := -1002) hx hb dX8_row_27 (by decide) ?_
  obtain ⟨v1, I2, h3, hf⟩ := bd2_ok hf
  refine q_cEi (va_runV (As := [.int (-1002 : Int32)]) (rest := []) ⟨hx, hb, hml, hown, hts⟩ (c_X8_refuse l (D := D) (ad := ad) (cy := cy) (sa := sa) (va := va) (I := I) (J := J) (-1002 : Int32) h3) (cwV 1 hts gX8_row_X8_refuse rfl rfl rfl (by decide +kernel) ⟨Nat.le_of_ble_eq_true rfl, Nat.le_of_ble_eq_true rfl⟩) ⟨qPre_blind _, q_recv hK hP oX8 rfl, fun U hU hW => ⟨rfl, qPre_of hP hK hE hN hS U hU hW⟩⟩ rfl rfl hl.1 rfl (lv_room (Nat.le_of_ble_eq_true rfl)) dX8_row_30 ⟨Nat.le_of_ble_eq_true rfl, Nat.le_of_ble_eq_true rfl⟩) hS (fun H locs hP hS => ?_)
  have e9 := Option.some.inj hf
  have eI9 : I2 = Ie := (congrArg Prod.fst (congrArg Prod.snd e9))
  have eJ9 : J = Je := (congrArg Prod.snd (congrArg Prod.snd e9))
  exact W.iret hx hb hr (fun t ht _ => ⟨⟨_, (), rfl, (congrArg Prod.fst e9), by show qP D _ ad _ _ _ t.heap; rw [ht, ← eI9, ← eJ9]; exact hP⟩, hS.F ht⟩) hS.2.2 dX8_row_33
set_option maxHeartbeats 4000000 in
set_option maxRecDepth 100000 in
theorem c_X8_row (l : Launch) {D : va_G} {ad : Nat → Nat} {cy : Nat → ClassId} {sa va : Nat → Nat} {I : qI} {J : qJ}   (p0 : Int32) (p1 : Int32) (p2 : Int32) {r : Int32} {Ie : qI} {Je : qJ} (hf : f_X8_row p0 p1 p2 I J = some (r, Ie, Je)) : Met l yX8_row wsX8_row r_X8_row (va_Pc [.ref (ad 0), .int p0, .int p1, .int p2] (qPre D xS ad cy sa va (eX ad cy) I J)) (va_Qi (S := Unit) (fun x _ => x = r) (fun _ t => qP D xS ad (eX ad cy) Ie Je t.heap) (qA xS ad)) 0 0 (qA xS ad) := by
  refine Met.ofW (cc := cX8_row) (maxL := 4) (ret := (some .int)) (by decide) rfl ?_
  intro p e s m args below meth c s₁ B hml hv
  obtain ⟨rfl, hP, hK, hE, hN⟩ := hv
  have C : qC p s m _ meth c cX8_row 4 RX8 wsX8_row (some .int) := ⟨⟨B.exec, B.bytes, hml, findClass_of_methodNamed B.named, atoms_spec (ws := wsX8_row) B.pre⟩, B.returns, B.notSynchronized⟩
  have C0 := C
  obtain ⟨⟨hx, hb, hml, hown, hts⟩, hr, hlocks⟩ := C0
  have hS : va_S (qA xS ad) s.heap s.heap [] := va_S.rf
  have hl := lv_entry ([.ref (ad 0), .int p0, .int p1, .int p2]) (n := 4) (Nat.le_of_ble_eq_true rfl)
  rw [lg_entry_eq]
  generalize (lg_sl ([.ref (ad 0), .int p0, .int p1, .int p2]) ++ List.replicate (4 - (lg_sl ([.ref (ad 0), .int p0, .int p1, .int p2])).length) Slot.unset).toArray = ls at hl ⊢
  have hl : lv_has ls 4 [(0, .ref (ad 0)), (1, .int p0), (2, .int p1), (3, .int p2)] := hl
  unfold f_X8_row at hf
  refine lv_iload_n hx hb dX8_row_0 rfl (lv_at hl 1 rfl) ?_
  obtain ⟨v1, h2, hf⟩ := bd_ok hf
  refine q_cSi (va_runS (As := [.int p0]) (rest := []) ⟨hx, hb, hml, hown, hts⟩ (c_X8_isShelf l (D := D) (ad := ad) (cy := cy) (sa := sa) (va := va) (I := I) (J := J) p0 h2) (va_cwS 1 hts gX8_row_X8_isShelf rfl rfl rfl (by decide +kernel) ⟨Nat.le_of_ble_eq_true rfl, Nat.le_of_ble_eq_true rfl⟩) ⟨qPre_blind _, fun U hU hW => ⟨rfl, qPre_of hP hK hE hN hS U hU hW⟩⟩ rfl rfl hl.1 rfl (lv_room (Nat.le_of_ble_eq_true rfl)) dX8_row_1 ⟨Nat.le_of_ble_eq_true rfl, Nat.le_of_ble_eq_true rfl⟩) ?_
  refine lv_if_eq (tgt := 26) hx hb dX8_row_4 (by decide) (fun cc => ?_) (fun cc => ?_)
  · have hf := (if_ok hf).1 cc
    exact w_X8_row_26 C hK hE hN    I J _ _ _ hf (lv_sub hl [0] rfl) hP hS
  · have hf := (if_ok hf).2 cc
    refine lv_iload_n hx hb dX8_row_7 rfl (lv_at hl 2 rfl) ?_
    refine lv_iconst (v := 0) hx hb dX8_row_8 (by decide) ?_
    refine lv_iconst (v := 4) hx hb dX8_row_9 (by decide) ?_
    obtain ⟨v3, h4, hf⟩ := bd_ok hf
    refine q_cSi (va_runS (As := [.int p1, .int (0 : Int32), .int (4 : Int32)]) (rest := []) ⟨hx, hb, hml, hown, hts⟩ (c_X8_within l (D := D) (ad := ad) (cy := cy) (sa := sa) (va := va) (I := I) (J := J) p1 (0 : Int32) (4 : Int32) h4) (va_cwS 3 hts gX8_row_X8_within rfl rfl rfl (by decide +kernel) ⟨Nat.le_of_ble_eq_true rfl, Nat.le_of_ble_eq_true rfl⟩) ⟨qPre_blind _, fun U hU hW => ⟨rfl, qPre_of hP hK hE hN hS U hU hW⟩⟩ rfl rfl hl.1 rfl (lv_room (Nat.le_of_ble_eq_true rfl)) dX8_row_10 ⟨Nat.le_of_ble_eq_true rfl, Nat.le_of_ble_eq_true rfl⟩) ?_
    refine lv_if_eq (tgt := 26) hx hb dX8_row_13 (by decide) (fun cc => ?_) (fun cc => ?_)
    · have hf := (if_ok hf).1 cc
      exact w_X8_row_26 C hK hE hN    I J _ _ _ hf (lv_sub hl [0] rfl) hP hS
    · have hf := (if_ok hf).2 cc
      refine lv_iload_n hx hb dX8_row_16 rfl (lv_at hl 3 rfl) ?_
      refine lv_iconst (v := 0) hx hb dX8_row_17 (by decide) ?_
      refine lv_bipush (v := 40) hx hb dX8_row_18 (by decide) ?_
      obtain ⟨v5, h6, hf⟩ := bd_ok hf
      refine q_cSi (va_runS (As := [.int p2, .int (0 : Int32), .int (40 : Int32)]) (rest := []) ⟨hx, hb, hml, hown, hts⟩ (c_X8_within l (D := D) (ad := ad) (cy := cy) (sa := sa) (va := va) (I := I) (J := J) p2 (0 : Int32) (40 : Int32) h6) (va_cwS 3 hts gX8_row_X8_within rfl rfl rfl (by decide +kernel) ⟨Nat.le_of_ble_eq_true rfl, Nat.le_of_ble_eq_true rfl⟩) ⟨qPre_blind _, fun U hU hW => ⟨rfl, qPre_of hP hK hE hN hS U hU hW⟩⟩ rfl rfl hl.1 rfl (lv_room (Nat.le_of_ble_eq_true rfl)) dX8_row_20 ⟨Nat.le_of_ble_eq_true rfl, Nat.le_of_ble_eq_true rfl⟩) ?_
      refine lv_if_ne (tgt := 34) hx hb dX8_row_23 (by decide) (fun cc => ?_) (fun cc => ?_)
      · have hf := (if_ok hf).2 cc
        refine lv_aload_n hx hb dX8_row_34 rfl (lv_at hl 0 rfl) ?_
        refine q_get (C := RX8) (T := TX8) (N := 12) (ci := 8) (v := .ref (ad 27)) hx hb hts in_X8_row_X8 hown hK hP oX8 rfl 4 (by decide) (hts (.fieldLink RX8 31 "RowsOnlyPrimes" "shelves" "[LRowsOnlyPrimes$Shelf;") (by decide +kernel)) (fun _ h9 => h9) rfl dX8_row_35 ?_
        refine lv_iload_n hx hb dX8_row_38 rfl (lv_at hl 1 rfl) ?_
        obtain ⟨g7, hf⟩ := gd_ok hf
        refine q_aald (t := 3) hx hb hK hP aX8_27 rfl rfl g7 dX8_row_39 ?_
        refine lv_iload_n hx hb dX8_row_40 rfl (lv_at hl 2 rfl) ?_
        refine lv_iload_n hx hb dX8_row_41 rfl (lv_at hl 3 rfl) ?_
        obtain ⟨I8, J9, h10, hf⟩ := bd2_ok hf
        refine q_cEv (va_runV (As := [.int p1, .int p2]) (rest := []) ⟨hx, hb, hml, hown, hts⟩ (c_X6_takeRow l (D := D) (ad := ad) (cy := cy) (sa := sa) (va := va) (I := I) (J := J) (28 + 2 * p0.toNatClampNeg) (isSh_of g7) p1 p2 h10) (cwV 2 hts gX8_row_X6_takeRow rfl rfl rfl (by decide +kernel) ⟨Nat.le_of_ble_eq_true rfl, Nat.le_of_ble_eq_true rfl⟩) ⟨qPre_blind _, q_recv hK hP (oX6 (isSh_of g7)) rfl, fun U hU hW => ⟨rfl, qPre_of hP hK hE hN hS U hU hW⟩⟩ rfl rfl hl.1 rfl (lv_room (Nat.le_of_ble_eq_true rfl)) dX8_row_42 ⟨Nat.le_of_ble_eq_true rfl, Nat.le_of_ble_eq_true rfl⟩) hS (fun H locs hP hS => ?_)
        refine lv_iconst (v := 1) hx hb dX8_row_45 (by decide) ?_
        have e9 := Option.some.inj hf
        have eI9 : I8 = Ie := (congrArg Prod.fst (congrArg Prod.snd e9))
        have eJ9 : J9 = Je := (congrArg Prod.snd (congrArg Prod.snd e9))
        exact W.iret hx hb hr (fun t ht _ => ⟨⟨_, (), rfl, (congrArg Prod.fst e9), by show qP D _ ad _ _ _ t.heap; rw [ht, ← eI9, ← eJ9]; exact hP⟩, hS.F ht⟩) hS.2.2 dX8_row_46
      · have hf := (if_ok hf).1 cc
        exact w_X8_row_26 C hK hE hN    I J _ _ _ hf (lv_sub hl [0] rfl) hP hS
abbrev r_X8_rowTrouble : Room := { frames := 2, cells := 0, slots := 0, locals := 42 }
theorem in_X8_rowTrouble_X8 : ∀ w ∈ u_ws RX8 TX8 12, w ∈ wsX8_rowTrouble := by decide +kernel
set_option maxHeartbeats 4000000 in
set_option maxRecDepth 100000 in
theorem c_X8_rowTrouble (l : Launch) {D : va_G} {ad : Nat → Nat} {cy : Nat → ClassId} {sa va : Nat → Nat} {I : qI} {J : qJ}   (p0 : Int32) {r : Int32} (hf : f_X8_rowTrouble p0 I = some r) : Met l yX8_rowTrouble wsX8_rowTrouble r_X8_rowTrouble (va_Pc [.ref (ad 0), .int p0] (qPre D xS ad cy sa va (eX ad cy) I J)) (vp_Si (fun x => x = r)) 0 0 (fun _ => False) := by
  refine Met.ofW (cc := cX8_rowTrouble) (maxL := 2) (ret := (some .int)) (by decide) rfl ?_
  intro p e s m args below meth c s₁ B hml hv
  obtain ⟨rfl, hP, hK, hE, hN⟩ := hv
  have C : qC p s m _ meth c cX8_rowTrouble 2 RX8 wsX8_rowTrouble (some .int) := ⟨⟨B.exec, B.bytes, hml, findClass_of_methodNamed B.named, atoms_spec (ws := wsX8_rowTrouble) B.pre⟩, B.returns, B.notSynchronized⟩
  have C0 := C
  obtain ⟨⟨hx, hb, hml, hown, hts⟩, hr, hlocks⟩ := C0
  have hl := lv_entry ([.ref (ad 0), .int p0]) (n := 2) (Nat.le_of_ble_eq_true rfl)
  rw [lg_entry_eq]
  generalize (lg_sl ([.ref (ad 0), .int p0]) ++ List.replicate (2 - (lg_sl ([.ref (ad 0), .int p0])).length) Slot.unset).toArray = ls at hl ⊢
  have hl : lv_has ls 2 [(0, .ref (ad 0)), (1, .int p0)] := hl
  unfold f_X8_rowTrouble at hf
  refine lv_iload_n hx hb dX8_rowTrouble_0 rfl (lv_at hl 1 rfl) ?_
  obtain ⟨v1, h2, hf⟩ := bd_ok hf
  refine q_cSi (va_runS (As := [.int p0]) (rest := []) ⟨hx, hb, hml, hown, hts⟩ (c_X8_isShelf l (D := D) (ad := ad) (cy := cy) (sa := sa) (va := va) (I := I) (J := J) p0 h2) (va_cwS 1 hts gX8_rowTrouble_X8_isShelf rfl rfl rfl (by decide +kernel) ⟨Nat.le_of_ble_eq_true rfl, Nat.le_of_ble_eq_true rfl⟩) ⟨qPre_blind _, fun U hU hW => ⟨rfl, qPre_of hP hK hE hN va_S.rf U hU hW⟩⟩ rfl rfl hl.1 rfl (lv_room (Nat.le_of_ble_eq_true rfl)) dX8_rowTrouble_1 ⟨Nat.le_of_ble_eq_true rfl, Nat.le_of_ble_eq_true rfl⟩) ?_
  refine lv_if_ne (tgt := 11) hx hb dX8_rowTrouble_4 (by decide) (fun cc => ?_) (fun cc => ?_)
  · have hf := (if_ok hf).2 cc
    refine lv_aload_n hx hb dX8_rowTrouble_11 rfl (lv_at hl 0 rfl) ?_
    refine q_get (C := RX8) (T := TX8) (N := 12) (ci := 8) (v := .ref (ad 27)) hx hb hts in_X8_rowTrouble_X8 hown hK hP oX8 rfl 4 (by decide) (hts (.fieldLink RX8 31 "RowsOnlyPrimes" "shelves" "[LRowsOnlyPrimes$Shelf;") (by decide +kernel)) (fun _ h9 => h9) rfl dX8_rowTrouble_12 ?_
    refine lv_iload_n hx hb dX8_rowTrouble_15 rfl (lv_at hl 1 rfl) ?_
    obtain ⟨g3, hf⟩ := gd_ok hf
    refine q_aald (t := 3) hx hb hK hP aX8_27 rfl rfl g3 dX8_rowTrouble_16 ?_
    obtain ⟨v4, h5, hf⟩ := bd_ok hf
    refine q_cSi (va_runV (As := []) (rest := []) ⟨hx, hb, hml, hown, hts⟩ (c_X6_hasParty l (D := D) (ad := ad) (cy := cy) (sa := sa) (va := va) (I := I) (J := J) (28 + 2 * p0.toNatClampNeg) (isSh_of g3) h5) (cwV 0 hts gX8_rowTrouble_X6_hasParty rfl rfl rfl (by decide +kernel) ⟨Nat.le_of_ble_eq_true rfl, Nat.le_of_ble_eq_true rfl⟩) ⟨qPre_blind _, q_recv hK hP (oX6 (isSh_of g3)) rfl, fun U hU hW => ⟨rfl, qPre_of hP hK hE hN va_S.rf U hU hW⟩⟩ rfl rfl hl.1 rfl (lv_room (Nat.le_of_ble_eq_true rfl)) dX8_rowTrouble_17 ⟨Nat.le_of_ble_eq_true rfl, Nat.le_of_ble_eq_true rfl⟩) ?_
    refine lv_if_eq (tgt := 27) hx hb dX8_rowTrouble_20 (by decide) (fun cc => ?_) (fun cc => ?_)
    · have hf := (if_ok hf).1 cc
      refine lv_aload_n hx hb dX8_rowTrouble_27 rfl (lv_at hl 0 rfl) ?_
      refine q_get (C := RX8) (T := TX8) (N := 12) (ci := 8) (v := .ref (ad 27)) hx hb hts in_X8_rowTrouble_X8 hown hK hP oX8 rfl 4 (by decide) (hts (.fieldLink RX8 31 "RowsOnlyPrimes" "shelves" "[LRowsOnlyPrimes$Shelf;") (by decide +kernel)) (fun _ h9 => h9) rfl dX8_rowTrouble_28 ?_
      refine lv_iload_n hx hb dX8_rowTrouble_31 rfl (lv_at hl 1 rfl) ?_
      obtain ⟨g6, hf⟩ := gd_ok hf
      refine q_aald (t := 3) hx hb hK hP aX8_27 rfl rfl g6 dX8_rowTrouble_32 ?_
      obtain ⟨v7, h8, hf⟩ := bd_ok hf
      refine q_cSi (va_runV (As := []) (rest := []) ⟨hx, hb, hml, hown, hts⟩ (c_X6_hasRow l (D := D) (ad := ad) (cy := cy) (sa := sa) (va := va) (I := I) (J := J) (28 + 2 * p0.toNatClampNeg) (isSh_of g6) h8) (cwV 0 hts gX8_rowTrouble_X6_hasRow rfl rfl rfl (by decide +kernel) ⟨Nat.le_of_ble_eq_true rfl, Nat.le_of_ble_eq_true rfl⟩) ⟨qPre_blind _, q_recv hK hP (oX6 (isSh_of g6)) rfl, fun U hU hW => ⟨rfl, qPre_of hP hK hE hN va_S.rf U hU hW⟩⟩ rfl rfl hl.1 rfl (lv_room (Nat.le_of_ble_eq_true rfl)) dX8_rowTrouble_33 ⟨Nat.le_of_ble_eq_true rfl, Nat.le_of_ble_eq_true rfl⟩) ?_
      refine lv_if_eq (tgt := 43) hx hb dX8_rowTrouble_36 (by decide) (fun cc => ?_) (fun cc => ?_)
      · have hf := (if_ok hf).1 cc
        refine lv_sipush (v := -1004) hx hb dX8_rowTrouble_43 (by decide) ?_
        exact W.iret hx hb hr (fun t ht _ => ⟨_, rfl, Option.some.inj hf, ht⟩) (fun _ h => by cases h) dX8_rowTrouble_46
      · have hf := (if_ok hf).2 cc
        refine lv_iconst (v := 0) hx hb dX8_rowTrouble_39 (by decide) ?_
        refine lv_goto (tgt := 46) hx hb dX8_rowTrouble_40 (by decide) ?_
        exact W.iret hx hb hr (fun t ht _ => ⟨_, rfl, Option.some.inj hf, ht⟩) (fun _ h => by cases h) dX8_rowTrouble_46
    · have hf := (if_ok hf).2 cc
      refine lv_sipush (v := -1003) hx hb dX8_rowTrouble_23 (by decide) ?_
      exact W.iret hx hb hr (fun t ht _ => ⟨_, rfl, Option.some.inj hf, ht⟩) (fun _ h => by cases h) dX8_rowTrouble_26
  · have hf := (if_ok hf).1 cc
    refine lv_sipush (v := -1002) hx hb dX8_rowTrouble_7 (by decide) ?_
    exact W.iret hx hb hr (fun t ht _ => ⟨_, rfl, Option.some.inj hf, ht⟩) (fun _ h => by cases h) dX8_rowTrouble_10
abbrev r_X8_set : Room := { frames := 4, cells := 0, slots := 0, locals := 87 }
theorem in_X8_set_X8 : ∀ w ∈ u_ws RX8 TX8 12, w ∈ wsX8_set := by decide +kernel
set_option maxHeartbeats 4000000 in
set_option maxRecDepth 100000 in
theorem w_X8_set_31 (C : qC p s m args meth c cX8_set 6 RX8 wsX8_set (some .int)) (hK : qK D cy sa s) (hE : qEnv sa va (qA xS ad) s s.heap) (hN : qN xS ad)   {r : Int32} {Ie : qI} {Je : qJ} : ∀ (x1 : Int32) (x2 : Int32) (x3 : Int64) (x5 : Int32)  (I : qI) (J : qJ) (ls : Array Slot) (H : Heap) (locs : List Loc), f_X8_set_31 x1 x2 x3 x5 I J = some (r, Ie, Je) → lv_has ls 6 [(0, .ref (ad 0)), (1, .int x1), (2, .int x2), (3, .long x3), (5, .int x5)] → qP D xS ad (eX ad cy) I J H → va_S (qA xS ad) s.heap H locs → W p l e (headSpec wsX8_set r_X8_set).room s m args below meth c H locs 0 0 (MQ below (va_Qi (S := Unit) (fun x _ => x = r) (fun _ t => qP D xS ad (eX ad cy) Ie Je t.heap) (qA xS ad)) args s 0 0 (qA xS ad)) (F0 m 31 ls []) := by
  have C0 := C
  obtain ⟨⟨hx, hb, hml, hown, hts⟩, hr, hlocks⟩ := C0
  intro x1 x2 x3 x5 I J ls H locs hf hl hP hS
  unfold f_X8_set_31 at hf
  refine lv_iload hx hb dX8_set_31 (lv_at hl 4 rfl) ?_
  refine lv_if_eq (tgt := 43) hx hb dX8_set_33 (by decide) (fun cc => ?_) (fun cc => ?_)
  · have hf := (if_ok hf).1 cc
    refine lv_aload_n hx hb dX8_set_43 rfl (lv_at hl 0 rfl) ?_
    refine q_get (C := RX8) (T := TX8) (N := 12) (ci := 8) (v := .ref (ad 27)) hx hb hts in_X8_set_X8 hown hK hP oX8 rfl 4 (by decide) (hts (.fieldLink RX8 31 "RowsOnlyPrimes" "shelves" "[LRowsOnlyPrimes$Shelf;") (by decide +kernel)) (fun _ h9 => h9) rfl dX8_set_44 ?_
    refine lv_iload_n hx hb dX8_set_47 rfl (lv_at hl 1 rfl) ?_
    obtain ⟨g1, hf⟩ := gd_ok hf
    refine q_aald (t := 3) hx hb hK hP aX8_27 rfl rfl g1 dX8_set_48 ?_
    refine lv_iload_n hx hb dX8_set_49 rfl (lv_at hl 2 rfl) ?_
    refine lv_lload_n hx hb dX8_set_50 rfl (lv_at hl 3 rfl) ?_
    obtain ⟨J2, h3, hf⟩ := bd_ok hf
    refine q_cEv (va_runV (As := [.int x2, .long x3]) (rest := []) ⟨hx, hb, hml, hown, hts⟩ (c_X6_put l (D := D) (ad := ad) (cy := cy) (sa := sa) (va := va) (I := I) (J := J) (28 + 2 * x1.toNatClampNeg) (isSh_of g1) x2 x3 h3) (cwV 2 hts gX8_set_X6_put rfl rfl rfl (by decide +kernel) ⟨Nat.le_of_ble_eq_true rfl, Nat.le_of_ble_eq_true rfl⟩) ⟨qPre_blind _, q_recv hK hP (oX6 (isSh_of g1)) rfl, fun U hU hW => ⟨rfl, qPre_of hP hK hE hN hS U hU hW⟩⟩ rfl rfl hl.1 rfl (lv_room (Nat.le_of_ble_eq_true rfl)) dX8_set_51 ⟨Nat.le_of_ble_eq_true rfl, Nat.le_of_ble_eq_true rfl⟩) hS (fun H locs hP hS => ?_)
    refine lv_iconst (v := 1) hx hb dX8_set_54 (by decide) ?_
    have e9 := Option.some.inj hf
    have eI9 : I = Ie := (congrArg Prod.fst (congrArg Prod.snd e9))
    have eJ9 : J2 = Je := (congrArg Prod.snd (congrArg Prod.snd e9))
    exact W.iret hx hb hr (fun t ht _ => ⟨⟨_, (), rfl, (congrArg Prod.fst e9), by show qP D _ ad _ _ _ t.heap; rw [ht, ← eI9, ← eJ9]; exact hP⟩, hS.F ht⟩) hS.2.2 dX8_set_55
  · have hf := (if_ok hf).2 cc
    refine lv_aload_n hx hb dX8_set_36 rfl (lv_at hl 0 rfl) ?_
    refine lv_iload hx hb dX8_set_37 (lv_at hl 4 rfl) ?_
    obtain ⟨v4, I5, h6, hf⟩ := bd2_ok hf
    refine q_cEi (va_runV (As := [.int x5]) (rest := []) ⟨hx, hb, hml, hown, hts⟩ (c_X8_refuse l (D := D) (ad := ad) (cy := cy) (sa := sa) (va := va) (I := I) (J := J) x5 h6) (cwV 1 hts gX8_set_X8_refuse rfl rfl rfl (by decide +kernel) ⟨Nat.le_of_ble_eq_true rfl, Nat.le_of_ble_eq_true rfl⟩) ⟨qPre_blind _, q_recv hK hP oX8 rfl, fun U hU hW => ⟨rfl, qPre_of hP hK hE hN hS U hU hW⟩⟩ rfl rfl hl.1 rfl (lv_room (Nat.le_of_ble_eq_true rfl)) dX8_set_39 ⟨Nat.le_of_ble_eq_true rfl, Nat.le_of_ble_eq_true rfl⟩) hS (fun H locs hP hS => ?_)
    have e9 := Option.some.inj hf
    have eI9 : I5 = Ie := (congrArg Prod.fst (congrArg Prod.snd e9))
    have eJ9 : J = Je := (congrArg Prod.snd (congrArg Prod.snd e9))
    exact W.iret hx hb hr (fun t ht _ => ⟨⟨_, (), rfl, (congrArg Prod.fst e9), by show qP D _ ad _ _ _ t.heap; rw [ht, ← eI9, ← eJ9]; exact hP⟩, hS.F ht⟩) hS.2.2 dX8_set_42
set_option maxHeartbeats 4000000 in
set_option maxRecDepth 100000 in
theorem c_X8_set (l : Launch) {D : va_G} {ad : Nat → Nat} {cy : Nat → ClassId} {sa va : Nat → Nat} {I : qI} {J : qJ}   (p0 : Int32) (p1 : Int32) (p2 : Int64) {r : Int32} {Ie : qI} {Je : qJ} (hf : f_X8_set p0 p1 p2 I J = some (r, Ie, Je)) : Met l yX8_set wsX8_set r_X8_set (va_Pc [.ref (ad 0), .int p0, .int p1, .long p2] (qPre D xS ad cy sa va (eX ad cy) I J)) (va_Qi (S := Unit) (fun x _ => x = r) (fun _ t => qP D xS ad (eX ad cy) Ie Je t.heap) (qA xS ad)) 0 0 (qA xS ad) := by
  refine Met.ofW (cc := cX8_set) (maxL := 6) (ret := (some .int)) (by decide) rfl ?_
  intro p e s m args below meth c s₁ B hml hv
  obtain ⟨rfl, hP, hK, hE, hN⟩ := hv
  have C : qC p s m _ meth c cX8_set 6 RX8 wsX8_set (some .int) := ⟨⟨B.exec, B.bytes, hml, findClass_of_methodNamed B.named, atoms_spec (ws := wsX8_set) B.pre⟩, B.returns, B.notSynchronized⟩
  have C0 := C
  obtain ⟨⟨hx, hb, hml, hown, hts⟩, hr, hlocks⟩ := C0
  have hS : va_S (qA xS ad) s.heap s.heap [] := va_S.rf
  have hl := lv_entry ([.ref (ad 0), .int p0, .int p1, .long p2]) (n := 6) (Nat.le_of_ble_eq_true rfl)
  rw [lg_entry_eq]
  generalize (lg_sl ([.ref (ad 0), .int p0, .int p1, .long p2]) ++ List.replicate (6 - (lg_sl ([.ref (ad 0), .int p0, .int p1, .long p2])).length) Slot.unset).toArray = ls at hl ⊢
  have hl : lv_has ls 6 [(0, .ref (ad 0)), (1, .int p0), (2, .int p1), (3, .long p2)] := hl
  unfold f_X8_set at hf
  refine lv_aload_n hx hb dX8_set_0 rfl (lv_at hl 0 rfl) ?_
  refine lv_iload_n hx hb dX8_set_1 rfl (lv_at hl 1 rfl) ?_
  obtain ⟨v1, h2, hf⟩ := bd_ok hf
  refine q_cSi (va_runV (As := [.int p0]) (rest := []) ⟨hx, hb, hml, hown, hts⟩ (c_X8_rowTrouble l (D := D) (ad := ad) (cy := cy) (sa := sa) (va := va) (I := I) (J := J) p0 h2) (cwV 1 hts gX8_set_X8_rowTrouble rfl rfl rfl (by decide +kernel) ⟨Nat.le_of_ble_eq_true rfl, Nat.le_of_ble_eq_true rfl⟩) ⟨qPre_blind _, q_recv hK hP oX8 rfl, fun U hU hW => ⟨rfl, qPre_of hP hK hE hN hS U hU hW⟩⟩ rfl rfl hl.1 rfl (lv_room (Nat.le_of_ble_eq_true rfl)) dX8_set_2 ⟨Nat.le_of_ble_eq_true rfl, Nat.le_of_ble_eq_true rfl⟩) ?_
  refine lv_istore (lv' := [(5, .int v1), (0, .ref (ad 0)), (1, .int p0), (2, .int p1), (3, .long p2)]) hx hb dX8_set_5 hl (by decide) rfl (fun ls hl => ?_)
  refine lv_iload hx hb dX8_set_7 (lv_at hl 0 rfl) ?_
  refine lv_if_ne (tgt := 31) hx hb dX8_set_9 (by decide) (fun cc => ?_) (fun cc => ?_)
  · have hf := (if_ok hf).2 cc
    exact w_X8_set_31 C hK hE hN    p0 p1 p2 v1 I J _ _ _ hf (lv_sub hl [1, 2, 3, 4, 0] rfl) hP hS
  · have hf := (if_ok hf).1 cc
    refine lv_aload_n hx hb dX8_set_12 rfl (lv_at hl 1 rfl) ?_
    refine q_get (C := RX8) (T := TX8) (N := 12) (ci := 8) (v := .ref (ad 27)) hx hb hts in_X8_set_X8 hown hK hP oX8 rfl 4 (by decide) (hts (.fieldLink RX8 31 "RowsOnlyPrimes" "shelves" "[LRowsOnlyPrimes$Shelf;") (by decide +kernel)) (fun _ h9 => h9) rfl dX8_set_13 ?_
    refine lv_iload_n hx hb dX8_set_16 rfl (lv_at hl 2 rfl) ?_
    obtain ⟨g3, hf⟩ := gd_ok hf
    refine q_aald (t := 3) hx hb hK hP aX8_27 rfl rfl g3 dX8_set_17 ?_
    refine lv_iload_n hx hb dX8_set_18 rfl (lv_at hl 3 rfl) ?_
    refine lv_iconst (v := 1) hx hb dX8_set_19 (by decide) ?_
    obtain ⟨v4, h5, hf⟩ := bd_ok hf
    refine q_cSi (va_runV (As := [.int p1, .int (1 : Int32)]) (rest := []) ⟨hx, hb, hml, hown, hts⟩ (c_X6_hasPlaces l (D := D) (ad := ad) (cy := cy) (sa := sa) (va := va) (I := I) (J := J) (28 + 2 * p0.toNatClampNeg) (isSh_of g3) p1 (1 : Int32) h5) (cwV 2 hts gX8_set_X6_hasPlaces rfl rfl rfl (by decide +kernel) ⟨Nat.le_of_ble_eq_true rfl, Nat.le_of_ble_eq_true rfl⟩) ⟨qPre_blind _, q_recv hK hP (oX6 (isSh_of g3)) rfl, fun U hU hW => ⟨rfl, qPre_of hP hK hE hN hS U hU hW⟩⟩ rfl rfl hl.1 rfl (lv_room (Nat.le_of_ble_eq_true rfl)) dX8_set_20 ⟨Nat.le_of_ble_eq_true rfl, Nat.le_of_ble_eq_true rfl⟩) ?_
    refine lv_if_ne (tgt := 31) hx hb dX8_set_23 (by decide) (fun cc => ?_) (fun cc => ?_)
    · have hf := (if_ok hf).2 cc
      exact w_X8_set_31 C hK hE hN    p0 p1 p2 v1 I J _ _ _ hf (lv_sub hl [1, 2, 3, 4, 0] rfl) hP hS
    · have hf := (if_ok hf).1 cc
      refine lv_sipush (v := -1002) hx hb dX8_set_26 (by decide) ?_
      refine lv_istore (lv' := [(5, .int (-1002 : Int32)), (0, .ref (ad 0)), (1, .int p0), (2, .int p1), (3, .long p2)]) hx hb dX8_set_29 hl (by decide) rfl (fun ls hl => ?_)
      exact w_X8_set_31 C hK hE hN    p0 p1 p2 (-1002 : Int32) I J _ _ _ hf (lv_sub hl [1, 2, 3, 4, 0] rfl) hP hS
abbrev r_X8_copy : Room := { frames := 3, cells := 0, slots := 0, locals := 64 }
theorem in_X8_copy_X6 : ∀ w ∈ u_ws RX6 TX6 3, w ∈ wsX8_copy := by decide +kernel
theorem in_X8_copy_X8 : ∀ w ∈ u_ws RX8 TX8 12, w ∈ wsX8_copy := by decide +kernel
set_option maxHeartbeats 4000000 in
set_option maxRecDepth 100000 in
theorem w_X8_copy_54 (C : qC p s m args meth c cX8_copy 8 RX8 wsX8_copy (some .int)) (hK : qK D cy sa s) (hE : qEnv sa va (qA xS ad) s s.heap) (hN : qN xS ad)   {r : Int32} {Ie : qI} {Je : qJ} : ∀   (I : qI) (J : qJ) (ls : Array Slot) (H : Heap) (locs : List Loc), f_X8_copy_54 I J = some (r, Ie, Je) → lv_has ls 8 [(0, .ref (ad 0))] → qP D xS ad (eX ad cy) I J H → va_S (qA xS ad) s.heap H locs → W p l e (headSpec wsX8_copy r_X8_copy).room s m args below meth c H locs 0 0 (MQ below (va_Qi (S := Unit) (fun x _ => x = r) (fun _ t => qP D xS ad (eX ad cy) Ie Je t.heap) (qA xS ad)) args s 0 0 (qA xS ad)) (F0 m 54 ls []) := by
  have C0 := C
  obtain ⟨⟨hx, hb, hml, hown, hts⟩, hr, hlocks⟩ := C0
  intro I J ls H locs hf hl hP hS
  unfold f_X8_copy_54 at hf
  refine lv_aload_n hx hb dX8_copy_54 rfl (lv_at hl 0 rfl) ?_
  refine lv_sipush (v := -1003) hx hb dX8_copy_55 (by decide) ?_
  obtain ⟨v1, I2, h3, hf⟩ := bd2_ok hf
  refine q_cEi (va_runV (As := [.int (-1003 : Int32)]) (rest := []) ⟨hx, hb, hml, hown, hts⟩ (c_X8_refuse l (D := D) (ad := ad) (cy := cy) (sa := sa) (va := va) (I := I) (J := J) (-1003 : Int32) h3) (cwV 1 hts gX8_copy_X8_refuse rfl rfl rfl (by decide +kernel) ⟨Nat.le_of_ble_eq_true rfl, Nat.le_of_ble_eq_true rfl⟩) ⟨qPre_blind _, q_recv hK hP oX8 rfl, fun U hU hW => ⟨rfl, qPre_of hP hK hE hN hS U hU hW⟩⟩ rfl rfl hl.1 rfl (lv_room (Nat.le_of_ble_eq_true rfl)) dX8_copy_58 ⟨Nat.le_of_ble_eq_true rfl, Nat.le_of_ble_eq_true rfl⟩) hS (fun H locs hP hS => ?_)
  have e9 := Option.some.inj hf
  have eI9 : I2 = Ie := (congrArg Prod.fst (congrArg Prod.snd e9))
  have eJ9 : J = Je := (congrArg Prod.snd (congrArg Prod.snd e9))
  exact W.iret hx hb hr (fun t ht _ => ⟨⟨_, (), rfl, (congrArg Prod.fst e9), by show qP D _ ad _ _ _ t.heap; rw [ht, ← eI9, ← eJ9]; exact hP⟩, hS.F ht⟩) hS.2.2 dX8_copy_61
set_option maxHeartbeats 4000000 in
set_option maxRecDepth 100000 in
theorem w_X8_copy_146 (C : qC p s m args meth c cX8_copy 8 RX8 wsX8_copy (some .int)) (hK : qK D cy sa s) (hE : qEnv sa va (qA xS ad) s s.heap) (hN : qN xS ad)   {r : Int32} {Ie : qI} {Je : qJ} : ∀   (I : qI) (J : qJ) (ls : Array Slot) (H : Heap) (locs : List Loc), f_X8_copy_146 I J = some (r, Ie, Je) → lv_has ls 8 [(0, .ref (ad 0))] → qP D xS ad (eX ad cy) I J H → va_S (qA xS ad) s.heap H locs → W p l e (headSpec wsX8_copy r_X8_copy).room s m args below meth c H locs 0 0 (MQ below (va_Qi (S := Unit) (fun x _ => x = r) (fun _ t => qP D xS ad (eX ad cy) Ie Je t.heap) (qA xS ad)) args s 0 0 (qA xS ad)) (F0 m 146 ls []) := by
  have C0 := C
  obtain ⟨⟨hx, hb, hml, hown, hts⟩, hr, hlocks⟩ := C0
  intro I J ls H locs hf hl hP hS
  unfold f_X8_copy_146 at hf
  refine lv_aload_n hx hb dX8_copy_146 rfl (lv_at hl 0 rfl) ?_
  refine lv_sipush (v := -1002) hx hb dX8_copy_147 (by decide) ?_
  obtain ⟨v1, I2, h3, hf⟩ := bd2_ok hf
  refine q_cEi (va_runV (As := [.int (-1002 : Int32)]) (rest := []) ⟨hx, hb, hml, hown, hts⟩ (c_X8_refuse l (D := D) (ad := ad) (cy := cy) (sa := sa) (va := va) (I := I) (J := J) (-1002 : Int32) h3) (cwV 1 hts gX8_copy_X8_refuse rfl rfl rfl (by decide +kernel) ⟨Nat.le_of_ble_eq_true rfl, Nat.le_of_ble_eq_true rfl⟩) ⟨qPre_blind _, q_recv hK hP oX8 rfl, fun U hU hW => ⟨rfl, qPre_of hP hK hE hN hS U hU hW⟩⟩ rfl rfl hl.1 rfl (lv_room (Nat.le_of_ble_eq_true rfl)) dX8_copy_150 ⟨Nat.le_of_ble_eq_true rfl, Nat.le_of_ble_eq_true rfl⟩) hS (fun H locs hP hS => ?_)
  have e9 := Option.some.inj hf
  have eI9 : I2 = Ie := (congrArg Prod.fst (congrArg Prod.snd e9))
  have eJ9 : J = Je := (congrArg Prod.snd (congrArg Prod.snd e9))
  exact W.iret hx hb hr (fun t ht _ => ⟨⟨_, (), rfl, (congrArg Prod.fst e9), by show qP D _ ad _ _ _ t.heap; rw [ht, ← eI9, ← eJ9]; exact hP⟩, hS.F ht⟩) hS.2.2 dX8_copy_153
set_option maxHeartbeats 4000000 in
set_option maxRecDepth 100000 in
theorem w_X8_copy_115 (C : qC p s m args meth c cX8_copy 8 RX8 wsX8_copy (some .int)) (hK : qK D cy sa s) (hE : qEnv sa va (qA xS ad) s s.heap) (hN : qN xS ad)   {r : Int32} {Ie : qI} {Je : qJ} : ∀   (I : qI) (J : qJ) (ls : Array Slot) (H : Heap) (locs : List Loc), f_X8_copy_115 I J = some (r, Ie, Je) → lv_has ls 8 [(0, .ref (ad 0))] → qP D xS ad (eX ad cy) I J H → va_S (qA xS ad) s.heap H locs → W p l e (headSpec wsX8_copy r_X8_copy).room s m args below meth c H locs 0 0 (MQ below (va_Qi (S := Unit) (fun x _ => x = r) (fun _ t => qP D xS ad (eX ad cy) Ie Je t.heap) (qA xS ad)) args s 0 0 (qA xS ad)) (F0 m 115 ls []) := by
  have C0 := C
  obtain ⟨⟨hx, hb, hml, hown, hts⟩, hr, hlocks⟩ := C0
  intro I J ls H locs hf hl hP hS
  unfold f_X8_copy_115 at hf
  refine lv_aload_n hx hb dX8_copy_115 rfl (lv_at hl 0 rfl) ?_
  refine lv_sipush (v := -1004) hx hb dX8_copy_116 (by decide) ?_
  obtain ⟨v1, I2, h3, hf⟩ := bd2_ok hf
  refine q_cEi (va_runV (As := [.int (-1004 : Int32)]) (rest := []) ⟨hx, hb, hml, hown, hts⟩ (c_X8_refuse l (D := D) (ad := ad) (cy := cy) (sa := sa) (va := va) (I := I) (J := J) (-1004 : Int32) h3) (cwV 1 hts gX8_copy_X8_refuse rfl rfl rfl (by decide +kernel) ⟨Nat.le_of_ble_eq_true rfl, Nat.le_of_ble_eq_true rfl⟩) ⟨qPre_blind _, q_recv hK hP oX8 rfl, fun U hU hW => ⟨rfl, qPre_of hP hK hE hN hS U hU hW⟩⟩ rfl rfl hl.1 rfl (lv_room (Nat.le_of_ble_eq_true rfl)) dX8_copy_119 ⟨Nat.le_of_ble_eq_true rfl, Nat.le_of_ble_eq_true rfl⟩) hS (fun H locs hP hS => ?_)
  have e9 := Option.some.inj hf
  have eI9 : I2 = Ie := (congrArg Prod.fst (congrArg Prod.snd e9))
  have eJ9 : J = Je := (congrArg Prod.snd (congrArg Prod.snd e9))
  exact W.iret hx hb hr (fun t ht _ => ⟨⟨_, (), rfl, (congrArg Prod.fst e9), by show qP D _ ad _ _ _ t.heap; rw [ht, ← eI9, ← eJ9]; exact hP⟩, hS.F ht⟩) hS.2.2 dX8_copy_122
set_option maxHeartbeats 4000000 in
set_option maxRecDepth 100000 in
theorem w_X8_copy_99 (C : qC p s m args meth c cX8_copy 8 RX8 wsX8_copy (some .int)) (hK : qK D cy sa s) (hE : qEnv sa va (qA xS ad) s s.heap) (hN : qN xS ad)   {r : Int32} {Ie : qI} {Je : qJ} : ∀ (x3 : Int32) (x4 : Int32) (x5 : Int32) (c6 : Nat) (c7 : Nat) (hc6 : isSh c6) (hc7 : isSh c7) (I : qI) (J : qJ) (ls : Array Slot) (H : Heap) (locs : List Loc), f_X8_copy_99 x3 x4 x5 c6 c7 I J = some (r, Ie, Je) → lv_has ls 8 [(0, .ref (ad 0)), (3, .int x3), (4, .int x4), (5, .int x5), (6, .ref (ad c6)), (7, .ref (ad c7))] → qP D xS ad (eX ad cy) I J H → va_S (qA xS ad) s.heap H locs → W p l e (headSpec wsX8_copy r_X8_copy).room s m args below meth c H locs 0 0 (MQ below (va_Qi (S := Unit) (fun x _ => x = r) (fun _ t => qP D xS ad (eX ad cy) Ie Je t.heap) (qA xS ad)) args s 0 0 (qA xS ad)) (F0 m 99 ls []) := by
  have C0 := C
  obtain ⟨⟨hx, hb, hml, hown, hts⟩, hr, hlocks⟩ := C0
  intro x3 x4 x5 c6 c7 hc6 hc7 I J ls H locs hf hl hP hS
  unfold f_X8_copy_99 at hf
  refine lv_aload hx hb dX8_copy_99 (lv_at hl 4 rfl) ?_
  obtain ⟨v1, h2, hf⟩ := bd_ok hf
  refine q_cSi (va_runV (As := []) (rest := []) ⟨hx, hb, hml, hown, hts⟩ (c_X6_hasRow l (D := D) (ad := ad) (cy := cy) (sa := sa) (va := va) (I := I) (J := J) c6 hc6 h2) (cwV 0 hts gX8_copy_X6_hasRow rfl rfl rfl (by decide +kernel) ⟨Nat.le_of_ble_eq_true rfl, Nat.le_of_ble_eq_true rfl⟩) ⟨qPre_blind _, q_recv hK hP (oX6 hc6) rfl, fun U hU hW => ⟨rfl, qPre_of hP hK hE hN hS U hU hW⟩⟩ rfl rfl hl.1 rfl (lv_room (Nat.le_of_ble_eq_true rfl)) dX8_copy_101 ⟨Nat.le_of_ble_eq_true rfl, Nat.le_of_ble_eq_true rfl⟩) ?_
  refine lv_if_eq (tgt := 115) hx hb dX8_copy_104 (by decide) (fun cc => ?_) (fun cc => ?_)
  · have hf := (if_ok hf).1 cc
    exact w_X8_copy_115 C hK hE hN    I J _ _ _ hf (lv_sub hl [0] rfl) hP hS
  · have hf := (if_ok hf).2 cc
    refine lv_aload hx hb dX8_copy_107 (lv_at hl 5 rfl) ?_
    obtain ⟨v3, h4, hf⟩ := bd_ok hf
    refine q_cSi (va_runV (As := []) (rest := []) ⟨hx, hb, hml, hown, hts⟩ (c_X6_hasRow l (D := D) (ad := ad) (cy := cy) (sa := sa) (va := va) (I := I) (J := J) c7 hc7 h4) (cwV 0 hts gX8_copy_X6_hasRow rfl rfl rfl (by decide +kernel) ⟨Nat.le_of_ble_eq_true rfl, Nat.le_of_ble_eq_true rfl⟩) ⟨qPre_blind _, q_recv hK hP (oX6 hc7) rfl, fun U hU hW => ⟨rfl, qPre_of hP hK hE hN hS U hU hW⟩⟩ rfl rfl hl.1 rfl (lv_room (Nat.le_of_ble_eq_true rfl)) dX8_copy_109 ⟨Nat.le_of_ble_eq_true rfl, Nat.le_of_ble_eq_true rfl⟩) ?_
    refine lv_if_ne (tgt := 123) hx hb dX8_copy_112 (by decide) (fun cc => ?_) (fun cc => ?_)
    · have hf := (if_ok hf).2 cc
      refine lv_aload hx hb dX8_copy_123 (lv_at hl 4 rfl) ?_
      refine lv_iload_n hx hb dX8_copy_125 rfl (lv_at hl 1 rfl) ?_
      refine lv_iload hx hb dX8_copy_126 (lv_at hl 3 rfl) ?_
      obtain ⟨v5, h6, hf⟩ := bd_ok hf
      refine q_cSi (va_runV (As := [.int x3, .int x5]) (rest := []) ⟨hx, hb, hml, hown, hts⟩ (c_X6_hasPlaces l (D := D) (ad := ad) (cy := cy) (sa := sa) (va := va) (I := I) (J := J) c6 hc6 x3 x5 h6) (cwV 2 hts gX8_copy_X6_hasPlaces rfl rfl rfl (by decide +kernel) ⟨Nat.le_of_ble_eq_true rfl, Nat.le_of_ble_eq_true rfl⟩) ⟨qPre_blind _, q_recv hK hP (oX6 hc6) rfl, fun U hU hW => ⟨rfl, qPre_of hP hK hE hN hS U hU hW⟩⟩ rfl rfl hl.1 rfl (lv_room (Nat.le_of_ble_eq_true rfl)) dX8_copy_128 ⟨Nat.le_of_ble_eq_true rfl, Nat.le_of_ble_eq_true rfl⟩) ?_
      refine lv_if_eq (tgt := 146) hx hb dX8_copy_131 (by decide) (fun cc => ?_) (fun cc => ?_)
      · have hf := (if_ok hf).1 cc
        exact w_X8_copy_146 C hK hE hN    I J _ _ _ hf (lv_sub hl [0] rfl) hP hS
      · have hf := (if_ok hf).2 cc
        refine lv_aload hx hb dX8_copy_134 (lv_at hl 5 rfl) ?_
        refine lv_iload hx hb dX8_copy_136 (lv_at hl 2 rfl) ?_
        refine lv_iload hx hb dX8_copy_138 (lv_at hl 3 rfl) ?_
        obtain ⟨v7, h8, hf⟩ := bd_ok hf
        refine q_cSi (va_runV (As := [.int x4, .int x5]) (rest := []) ⟨hx, hb, hml, hown, hts⟩ (c_X6_hasPlaces l (D := D) (ad := ad) (cy := cy) (sa := sa) (va := va) (I := I) (J := J) c7 hc7 x4 x5 h8) (cwV 2 hts gX8_copy_X6_hasPlaces rfl rfl rfl (by decide +kernel) ⟨Nat.le_of_ble_eq_true rfl, Nat.le_of_ble_eq_true rfl⟩) ⟨qPre_blind _, q_recv hK hP (oX6 hc7) rfl, fun U hU hW => ⟨rfl, qPre_of hP hK hE hN hS U hU hW⟩⟩ rfl rfl hl.1 rfl (lv_room (Nat.le_of_ble_eq_true rfl)) dX8_copy_140 ⟨Nat.le_of_ble_eq_true rfl, Nat.le_of_ble_eq_true rfl⟩) ?_
        refine lv_if_ne (tgt := 154) hx hb dX8_copy_143 (by decide) (fun cc => ?_) (fun cc => ?_)
        · have hf := (if_ok hf).2 cc
          refine lv_aload hx hb dX8_copy_154 (lv_at hl 4 rfl) ?_
          refine q_get (C := RX6) (T := TX6) (N := 3) (ci := 6) (v := .ref (ad (c6 + 1))) hx hb hts in_X8_copy_X6 hown hK hP (oX6 hc6) rfl 0 (by decide) (hts (.fieldLink RX8 113 "RowsOnlyPrimes$Shelf" "elements" "[J") (by decide +kernel)) (fun _ h9 => h9) rfl dX8_copy_156 ?_
          refine lv_iload_n hx hb dX8_copy_159 rfl (lv_at hl 1 rfl) ?_
          refine lv_aload hx hb dX8_copy_160 (lv_at hl 5 rfl) ?_
          refine q_get (C := RX6) (T := TX6) (N := 3) (ci := 6) (v := .ref (ad (c7 + 1))) hx hb hts in_X8_copy_X6 hown hK hP (oX6 hc7) rfl 0 (by decide) (hts (.fieldLink RX8 113 "RowsOnlyPrimes$Shelf" "elements" "[J") (by decide +kernel)) (fun _ h9 => h9) rfl dX8_copy_162 ?_
          refine lv_iload hx hb dX8_copy_165 (lv_at hl 2 rfl) ?_
          refine lv_iload hx hb dX8_copy_167 (lv_at hl 3 rfl) ?_
          obtain ⟨g9, hf⟩ := gd_ok hf
          obtain ⟨g10, hf⟩ := gd_ok hf
          obtain ⟨g11, hf⟩ := gd_ok hf
          obtain ⟨g12, hf⟩ := gd_ok hf
          obtain ⟨g13, hf⟩ := gd_ok hf
          obtain ⟨J14, eJ14, hf⟩ := lt_ok hf
          refine q_copyl (own := RX8) (index := 117) hx hb (hml.trans hl.1.symm) hown (hts (.methodLink RX8 117 arraycopyName) (by decide +kernel)) (hts (.native arraycopyName) (by decide +kernel)) (hts (.static arraycopyName) (by decide +kernel)) (hts (.initialized "java/lang/System") (by decide +kernel)) hK hP hN hS (aX6_1 hc6) (aX6_1 hc7) g9 g10 g11 g12 g13 (Nat.le_of_ble_eq_true rfl) (Nat.le_of_ble_eq_true rfl) dX8_copy_169 (fun H locs hP hS => ?_)
          have hP : qP D xS ad (eX ad cy) I J14 H := by rw [eJ14]; exact hP
          refine lv_iload hx hb dX8_copy_172 (lv_at hl 3 rfl) ?_
          have e9 := Option.some.inj hf
          have eI9 : I = Ie := (congrArg Prod.fst (congrArg Prod.snd e9))
          have eJ9 : J14 = Je := (congrArg Prod.snd (congrArg Prod.snd e9))
          exact W.iret hx hb hr (fun t ht _ => ⟨⟨_, (), rfl, (congrArg Prod.fst e9), by show qP D _ ad _ _ _ t.heap; rw [ht, ← eI9, ← eJ9]; exact hP⟩, hS.F ht⟩) hS.2.2 dX8_copy_174
        · have hf := (if_ok hf).1 cc
          exact w_X8_copy_146 C hK hE hN    I J _ _ _ hf (lv_sub hl [0] rfl) hP hS
    · have hf := (if_ok hf).1 cc
      exact w_X8_copy_115 C hK hE hN    I J _ _ _ hf (lv_sub hl [0] rfl) hP hS
set_option maxHeartbeats 4000000 in
set_option maxRecDepth 100000 in
theorem w_X8_copy_14 (C : qC p s m args meth c cX8_copy 8 RX8 wsX8_copy (some .int)) (hK : qK D cy sa s) (hE : qEnv sa va (qA xS ad) s s.heap) (hN : qN xS ad)   {r : Int32} {Ie : qI} {Je : qJ} : ∀   (I : qI) (J : qJ) (ls : Array Slot) (H : Heap) (locs : List Loc), f_X8_copy_14 I J = some (r, Ie, Je) → lv_has ls 8 [(0, .ref (ad 0))] → qP D xS ad (eX ad cy) I J H → va_S (qA xS ad) s.heap H locs → W p l e (headSpec wsX8_copy r_X8_copy).room s m args below meth c H locs 0 0 (MQ below (va_Qi (S := Unit) (fun x _ => x = r) (fun _ t => qP D xS ad (eX ad cy) Ie Je t.heap) (qA xS ad)) args s 0 0 (qA xS ad)) (F0 m 14 ls []) := by
  have C0 := C
  obtain ⟨⟨hx, hb, hml, hown, hts⟩, hr, hlocks⟩ := C0
  intro I J ls H locs hf hl hP hS
  unfold f_X8_copy_14 at hf
  refine lv_aload_n hx hb dX8_copy_14 rfl (lv_at hl 0 rfl) ?_
  refine lv_sipush (v := -1002) hx hb dX8_copy_15 (by decide) ?_
  obtain ⟨v1, I2, h3, hf⟩ := bd2_ok hf
  refine q_cEi (va_runV (As := [.int (-1002 : Int32)]) (rest := []) ⟨hx, hb, hml, hown, hts⟩ (c_X8_refuse l (D := D) (ad := ad) (cy := cy) (sa := sa) (va := va) (I := I) (J := J) (-1002 : Int32) h3) (cwV 1 hts gX8_copy_X8_refuse rfl rfl rfl (by decide +kernel) ⟨Nat.le_of_ble_eq_true rfl, Nat.le_of_ble_eq_true rfl⟩) ⟨qPre_blind _, q_recv hK hP oX8 rfl, fun U hU hW => ⟨rfl, qPre_of hP hK hE hN hS U hU hW⟩⟩ rfl rfl hl.1 rfl (lv_room (Nat.le_of_ble_eq_true rfl)) dX8_copy_18 ⟨Nat.le_of_ble_eq_true rfl, Nat.le_of_ble_eq_true rfl⟩) hS (fun H locs hP hS => ?_)
  have e9 := Option.some.inj hf
  have eI9 : I2 = Ie := (congrArg Prod.fst (congrArg Prod.snd e9))
  have eJ9 : J = Je := (congrArg Prod.snd (congrArg Prod.snd e9))
  exact W.iret hx hb hr (fun t ht _ => ⟨⟨_, (), rfl, (congrArg Prod.fst e9), by show qP D _ ad _ _ _ t.heap; rw [ht, ← eI9, ← eJ9]; exact hP⟩, hS.F ht⟩) hS.2.2 dX8_copy_21
set_option maxHeartbeats 4000000 in
set_option maxRecDepth 100000 in
theorem c_X8_copy (l : Launch) {D : va_G} {ad : Nat → Nat} {cy : Nat → ClassId} {sa va : Nat → Nat} {I : qI} {J : qJ}   (p0 : Int32) (p1 : Int32) (p2 : Int32) (p3 : Int32) (p4 : Int32) {r : Int32} {Ie : qI} {Je : qJ} (hf : f_X8_copy p0 p1 p2 p3 p4 I J = some (r, Ie, Je)) : Met l yX8_copy wsX8_copy r_X8_copy (va_Pc [.ref (ad 0), .int p0, .int p1, .int p2, .int p3, .int p4] (qPre D xS ad cy sa va (eX ad cy) I J)) (va_Qi (S := Unit) (fun x _ => x = r) (fun _ t => qP D xS ad (eX ad cy) Ie Je t.heap) (qA xS ad)) 0 0 (qA xS ad) := by
  refine Met.ofW (cc := cX8_copy) (maxL := 8) (ret := (some .int)) (by decide) rfl ?_
  intro p e s m args below meth c s₁ B hml hv
  obtain ⟨rfl, hP, hK, hE, hN⟩ := hv
  have C : qC p s m _ meth c cX8_copy 8 RX8 wsX8_copy (some .int) := ⟨⟨B.exec, B.bytes, hml, findClass_of_methodNamed B.named, atoms_spec (ws := wsX8_copy) B.pre⟩, B.returns, B.notSynchronized⟩
  have C0 := C
  obtain ⟨⟨hx, hb, hml, hown, hts⟩, hr, hlocks⟩ := C0
  have hS : va_S (qA xS ad) s.heap s.heap [] := va_S.rf
  have hl := lv_entry ([.ref (ad 0), .int p0, .int p1, .int p2, .int p3, .int p4]) (n := 8) (Nat.le_of_ble_eq_true rfl)
  rw [lg_entry_eq]
  generalize (lg_sl ([.ref (ad 0), .int p0, .int p1, .int p2, .int p3, .int p4]) ++ List.replicate (8 - (lg_sl ([.ref (ad 0), .int p0, .int p1, .int p2, .int p3, .int p4])).length) Slot.unset).toArray = ls at hl ⊢
  have hl : lv_has ls 8 [(0, .ref (ad 0)), (1, .int p0), (2, .int p1), (3, .int p2), (4, .int p3), (5, .int p4)] := hl
  unfold f_X8_copy at hf
  refine lv_iload_n hx hb dX8_copy_0 rfl (lv_at hl 1 rfl) ?_
  obtain ⟨v1, h2, hf⟩ := bd_ok hf
  refine q_cSi (va_runS (As := [.int p0]) (rest := []) ⟨hx, hb, hml, hown, hts⟩ (c_X8_isShelf l (D := D) (ad := ad) (cy := cy) (sa := sa) (va := va) (I := I) (J := J) p0 h2) (va_cwS 1 hts gX8_copy_X8_isShelf rfl rfl rfl (by decide +kernel) ⟨Nat.le_of_ble_eq_true rfl, Nat.le_of_ble_eq_true rfl⟩) ⟨qPre_blind _, fun U hU hW => ⟨rfl, qPre_of hP hK hE hN hS U hU hW⟩⟩ rfl rfl hl.1 rfl (lv_room (Nat.le_of_ble_eq_true rfl)) dX8_copy_1 ⟨Nat.le_of_ble_eq_true rfl, Nat.le_of_ble_eq_true rfl⟩) ?_
  refine lv_if_eq (tgt := 14) hx hb dX8_copy_4 (by decide) (fun cc => ?_) (fun cc => ?_)
  · have hf := (if_ok hf).1 cc
    exact w_X8_copy_14 C hK hE hN    I J _ _ _ hf (lv_sub hl [0] rfl) hP hS
  · have hf := (if_ok hf).2 cc
    refine lv_iload_n hx hb dX8_copy_7 rfl (lv_at hl 2 rfl) ?_
    obtain ⟨v3, h4, hf⟩ := bd_ok hf
    refine q_cSi (va_runS (As := [.int p1]) (rest := []) ⟨hx, hb, hml, hown, hts⟩ (c_X8_isShelf l (D := D) (ad := ad) (cy := cy) (sa := sa) (va := va) (I := I) (J := J) p1 h4) (va_cwS 1 hts gX8_copy_X8_isShelf rfl rfl rfl (by decide +kernel) ⟨Nat.le_of_ble_eq_true rfl, Nat.le_of_ble_eq_true rfl⟩) ⟨qPre_blind _, fun U hU hW => ⟨rfl, qPre_of hP hK hE hN hS U hU hW⟩⟩ rfl rfl hl.1 rfl (lv_room (Nat.le_of_ble_eq_true rfl)) dX8_copy_8 ⟨Nat.le_of_ble_eq_true rfl, Nat.le_of_ble_eq_true rfl⟩) ?_
    refine lv_if_ne (tgt := 22) hx hb dX8_copy_11 (by decide) (fun cc => ?_) (fun cc => ?_)
    · have hf := (if_ok hf).2 cc
      refine lv_aload_n hx hb dX8_copy_22 rfl (lv_at hl 0 rfl) ?_
      refine q_get (C := RX8) (T := TX8) (N := 12) (ci := 8) (v := .ref (ad 27)) hx hb hts in_X8_copy_X8 hown hK hP oX8 rfl 4 (by decide) (hts (.fieldLink RX8 31 "RowsOnlyPrimes" "shelves" "[LRowsOnlyPrimes$Shelf;") (by decide +kernel)) (fun _ h9 => h9) rfl dX8_copy_23 ?_
      refine lv_iload_n hx hb dX8_copy_26 rfl (lv_at hl 1 rfl) ?_
      obtain ⟨g5, hf⟩ := gd_ok hf
      refine q_aald (t := 3) hx hb hK hP aX8_27 rfl rfl g5 dX8_copy_27 ?_
      refine lv_astore (lv' := [(6, .ref (ad (28 + 2 * p0.toNatClampNeg))), (0, .ref (ad 0)), (1, .int p0), (2, .int p1), (3, .int p2), (4, .int p3), (5, .int p4)]) hx hb dX8_copy_28 hl (by decide) rfl (fun ls hl => ?_)
      refine lv_aload_n hx hb dX8_copy_30 rfl (lv_at hl 1 rfl) ?_
      refine q_get (C := RX8) (T := TX8) (N := 12) (ci := 8) (v := .ref (ad 27)) hx hb hts in_X8_copy_X8 hown hK hP oX8 rfl 4 (by decide) (hts (.fieldLink RX8 31 "RowsOnlyPrimes" "shelves" "[LRowsOnlyPrimes$Shelf;") (by decide +kernel)) (fun _ h9 => h9) rfl dX8_copy_31 ?_
      refine lv_iload_n hx hb dX8_copy_34 rfl (lv_at hl 3 rfl) ?_
      obtain ⟨g6, hf⟩ := gd_ok hf
      refine q_aald (t := 3) hx hb hK hP aX8_27 rfl rfl g6 dX8_copy_35 ?_
      refine lv_astore (lv' := [(7, .ref (ad (28 + 2 * p1.toNatClampNeg))), (6, .ref (ad (28 + 2 * p0.toNatClampNeg))), (0, .ref (ad 0)), (1, .int p0), (2, .int p1), (3, .int p2), (4, .int p3), (5, .int p4)]) hx hb dX8_copy_36 hl (by decide) rfl (fun ls hl => ?_)
      refine lv_aload hx hb dX8_copy_38 (lv_at hl 1 rfl) ?_
      obtain ⟨v7, h8, hf⟩ := bd_ok hf
      refine q_cSi (va_runV (As := []) (rest := []) ⟨hx, hb, hml, hown, hts⟩ (c_X6_hasParty l (D := D) (ad := ad) (cy := cy) (sa := sa) (va := va) (I := I) (J := J) (28 + 2 * p0.toNatClampNeg) (isSh_of g5) h8) (cwV 0 hts gX8_copy_X6_hasParty rfl rfl rfl (by decide +kernel) ⟨Nat.le_of_ble_eq_true rfl, Nat.le_of_ble_eq_true rfl⟩) ⟨qPre_blind _, q_recv hK hP (oX6 (isSh_of g5)) rfl, fun U hU hW => ⟨rfl, qPre_of hP hK hE hN hS U hU hW⟩⟩ rfl rfl hl.1 rfl (lv_room (Nat.le_of_ble_eq_true rfl)) dX8_copy_40 ⟨Nat.le_of_ble_eq_true rfl, Nat.le_of_ble_eq_true rfl⟩) ?_
      refine lv_if_ne (tgt := 54) hx hb dX8_copy_43 (by decide) (fun cc => ?_) (fun cc => ?_)
      · have hf := (if_ok hf).2 cc
        exact w_X8_copy_54 C hK hE hN    I J _ _ _ hf (lv_sub hl [2] rfl) hP hS
      · have hf := (if_ok hf).1 cc
        refine lv_aload hx hb dX8_copy_46 (lv_at hl 0 rfl) ?_
        obtain ⟨v9, h10, hf⟩ := bd_ok hf
        refine q_cSi (va_runV (As := []) (rest := []) ⟨hx, hb, hml, hown, hts⟩ (c_X6_hasParty l (D := D) (ad := ad) (cy := cy) (sa := sa) (va := va) (I := I) (J := J) (28 + 2 * p1.toNatClampNeg) (isSh_of g6) h10) (cwV 0 hts gX8_copy_X6_hasParty rfl rfl rfl (by decide +kernel) ⟨Nat.le_of_ble_eq_true rfl, Nat.le_of_ble_eq_true rfl⟩) ⟨qPre_blind _, q_recv hK hP (oX6 (isSh_of g6)) rfl, fun U hU hW => ⟨rfl, qPre_of hP hK hE hN hS U hU hW⟩⟩ rfl rfl hl.1 rfl (lv_room (Nat.le_of_ble_eq_true rfl)) dX8_copy_48 ⟨Nat.le_of_ble_eq_true rfl, Nat.le_of_ble_eq_true rfl⟩) ?_
        refine lv_if_eq (tgt := 62) hx hb dX8_copy_51 (by decide) (fun cc => ?_) (fun cc => ?_)
        · have hf := (if_ok hf).1 cc
          refine lv_aload hx hb dX8_copy_62 (lv_at hl 1 rfl) ?_
          obtain ⟨v11, h12, hf⟩ := bd_ok hf
          refine q_cSi (va_runV (As := []) (rest := []) ⟨hx, hb, hml, hown, hts⟩ (c_X6_hasRow l (D := D) (ad := ad) (cy := cy) (sa := sa) (va := va) (I := I) (J := J) (28 + 2 * p0.toNatClampNeg) (isSh_of g5) h12) (cwV 0 hts gX8_copy_X6_hasRow rfl rfl rfl (by decide +kernel) ⟨Nat.le_of_ble_eq_true rfl, Nat.le_of_ble_eq_true rfl⟩) ⟨qPre_blind _, q_recv hK hP (oX6 (isSh_of g5)) rfl, fun U hU hW => ⟨rfl, qPre_of hP hK hE hN hS U hU hW⟩⟩ rfl rfl hl.1 rfl (lv_room (Nat.le_of_ble_eq_true rfl)) dX8_copy_64 ⟨Nat.le_of_ble_eq_true rfl, Nat.le_of_ble_eq_true rfl⟩) ?_
          refine lv_if_eq (tgt := 99) hx hb dX8_copy_67 (by decide) (fun cc => ?_) (fun cc => ?_)
          · have hf := (if_ok hf).1 cc
            exact w_X8_copy_99 C hK hE hN    p2 p3 p4 (28 + 2 * p0.toNatClampNeg) (28 + 2 * p1.toNatClampNeg) (isSh_of g5) (isSh_of g6) I J _ _ _ hf (lv_sub hl [2, 5, 6, 7, 1, 0] rfl) hP hS
          · have hf := (if_ok hf).2 cc
            refine lv_aload hx hb dX8_copy_70 (lv_at hl 0 rfl) ?_
            obtain ⟨v13, h14, hf⟩ := bd_ok hf
            refine q_cSi (va_runV (As := []) (rest := []) ⟨hx, hb, hml, hown, hts⟩ (c_X6_hasRow l (D := D) (ad := ad) (cy := cy) (sa := sa) (va := va) (I := I) (J := J) (28 + 2 * p1.toNatClampNeg) (isSh_of g6) h14) (cwV 0 hts gX8_copy_X6_hasRow rfl rfl rfl (by decide +kernel) ⟨Nat.le_of_ble_eq_true rfl, Nat.le_of_ble_eq_true rfl⟩) ⟨qPre_blind _, q_recv hK hP (oX6 (isSh_of g6)) rfl, fun U hU hW => ⟨rfl, qPre_of hP hK hE hN hS U hU hW⟩⟩ rfl rfl hl.1 rfl (lv_room (Nat.le_of_ble_eq_true rfl)) dX8_copy_72 ⟨Nat.le_of_ble_eq_true rfl, Nat.le_of_ble_eq_true rfl⟩) ?_
            refine lv_if_eq (tgt := 99) hx hb dX8_copy_75 (by decide) (fun cc => ?_) (fun cc => ?_)
            · have hf := (if_ok hf).1 cc
              exact w_X8_copy_99 C hK hE hN    p2 p3 p4 (28 + 2 * p0.toNatClampNeg) (28 + 2 * p1.toNatClampNeg) (isSh_of g5) (isSh_of g6) I J _ _ _ hf (lv_sub hl [2, 5, 6, 7, 1, 0] rfl) hP hS
            · have hf := (if_ok hf).2 cc
              refine lv_aload hx hb dX8_copy_78 (lv_at hl 1 rfl) ?_
              refine q_get (C := RX6) (T := TX6) (N := 3) (ci := 6) (v := .int (I (28 + 2 * p0.toNatClampNeg) 1)) hx hb hts in_X8_copy_X6 hown hK hP (oX6 (isSh_of g5)) rfl 1 (by decide) (hts (.fieldLink RX8 109 "RowsOnlyPrimes$Shelf" "content" "I") (by decide +kernel)) (fun _ h9 => h9) rfl dX8_copy_80 ?_
              refine lv_aload hx hb dX8_copy_83 (lv_at hl 0 rfl) ?_
              refine q_get (C := RX6) (T := TX6) (N := 3) (ci := 6) (v := .int (I (28 + 2 * p1.toNatClampNeg) 1)) hx hb hts in_X8_copy_X6 hown hK hP (oX6 (isSh_of g6)) rfl 1 (by decide) (hts (.fieldLink RX8 109 "RowsOnlyPrimes$Shelf" "content" "I") (by decide +kernel)) (fun _ h9 => h9) rfl dX8_copy_85 ?_
              refine lv_icmp_eq (tgt := 99) hx hb dX8_copy_88 (by decide) (fun cc => ?_) (fun cc => ?_)
              · have hf := (if_ok hf).1 cc
                exact w_X8_copy_99 C hK hE hN    p2 p3 p4 (28 + 2 * p0.toNatClampNeg) (28 + 2 * p1.toNatClampNeg) (isSh_of g5) (isSh_of g6) I J _ _ _ hf (lv_sub hl [2, 5, 6, 7, 1, 0] rfl) hP hS
              · have hf := (if_ok hf).2 cc
                refine lv_aload_n hx hb dX8_copy_91 rfl (lv_at hl 2 rfl) ?_
                refine lv_sipush (v := -1003) hx hb dX8_copy_92 (by decide) ?_
                obtain ⟨v15, I16, h17, hf⟩ := bd2_ok hf
                refine q_cEi (va_runV (As := [.int (-1003 : Int32)]) (rest := []) ⟨hx, hb, hml, hown, hts⟩ (c_X8_refuse l (D := D) (ad := ad) (cy := cy) (sa := sa) (va := va) (I := I) (J := J) (-1003 : Int32) h17) (cwV 1 hts gX8_copy_X8_refuse rfl rfl rfl (by decide +kernel) ⟨Nat.le_of_ble_eq_true rfl, Nat.le_of_ble_eq_true rfl⟩) ⟨qPre_blind _, q_recv hK hP oX8 rfl, fun U hU hW => ⟨rfl, qPre_of hP hK hE hN hS U hU hW⟩⟩ rfl rfl hl.1 rfl (lv_room (Nat.le_of_ble_eq_true rfl)) dX8_copy_95 ⟨Nat.le_of_ble_eq_true rfl, Nat.le_of_ble_eq_true rfl⟩) hS (fun H locs hP hS => ?_)
                have e9 := Option.some.inj hf
                have eI9 : I16 = Ie := (congrArg Prod.fst (congrArg Prod.snd e9))
                have eJ9 : J = Je := (congrArg Prod.snd (congrArg Prod.snd e9))
                exact W.iret hx hb hr (fun t ht _ => ⟨⟨_, (), rfl, (congrArg Prod.fst e9), by show qP D _ ad _ _ _ t.heap; rw [ht, ← eI9, ← eJ9]; exact hP⟩, hS.F ht⟩) hS.2.2 dX8_copy_98
        · have hf := (if_ok hf).2 cc
          exact w_X8_copy_54 C hK hE hN    I J _ _ _ hf (lv_sub hl [2] rfl) hP hS
    · have hf := (if_ok hf).1 cc
      exact w_X8_copy_14 C hK hE hN    I J _ _ _ hf (lv_sub hl [0] rfl) hP hS
abbrev r_X8_element : Room := { frames := 4, cells := 0, slots := 0, locals := 85 }
theorem in_X8_element_X8 : ∀ w ∈ u_ws RX8 TX8 12, w ∈ wsX8_element := by decide +kernel
set_option maxHeartbeats 4000000 in
set_option maxRecDepth 100000 in
theorem c_X8_element (l : Launch) {D : va_G} {ad : Nat → Nat} {cy : Nat → ClassId} {sa va : Nat → Nat} {I : qI} {J : qJ}   (p0 : Int32) (p1 : Int32) {r : Int64} (hf : f_X8_element p0 p1 I J = some r) : Met l yX8_element wsX8_element r_X8_element (va_Pc [.ref (ad 0), .int p0, .int p1] (qPre D xS ad cy sa va (eX ad cy) I J)) (vp_Sl (fun x => x = r)) 0 0 (fun _ => False) := by
  refine Met.ofW (cc := cX8_element) (maxL := 3) (ret := (some .long)) (by decide) rfl ?_
  intro p e s m args below meth c s₁ B hml hv
  obtain ⟨rfl, hP, hK, hE, hN⟩ := hv
  have C : qC p s m _ meth c cX8_element 3 RX8 wsX8_element (some .long) := ⟨⟨B.exec, B.bytes, hml, findClass_of_methodNamed B.named, atoms_spec (ws := wsX8_element) B.pre⟩, B.returns, B.notSynchronized⟩
  have C0 := C
  obtain ⟨⟨hx, hb, hml, hown, hts⟩, hr, hlocks⟩ := C0
  have hl := lv_entry ([.ref (ad 0), .int p0, .int p1]) (n := 3) (Nat.le_of_ble_eq_true rfl)
  rw [lg_entry_eq]
  generalize (lg_sl ([.ref (ad 0), .int p0, .int p1]) ++ List.replicate (3 - (lg_sl ([.ref (ad 0), .int p0, .int p1])).length) Slot.unset).toArray = ls at hl ⊢
  have hl : lv_has ls 3 [(0, .ref (ad 0)), (1, .int p0), (2, .int p1)] := hl
  unfold f_X8_element at hf
  refine lv_iload_n hx hb dX8_element_0 rfl (lv_at hl 1 rfl) ?_
  obtain ⟨v1, h2, hf⟩ := bd_ok hf
  refine q_cSi (va_runS (As := [.int p0]) (rest := []) ⟨hx, hb, hml, hown, hts⟩ (c_X8_isShelf l (D := D) (ad := ad) (cy := cy) (sa := sa) (va := va) (I := I) (J := J) p0 h2) (va_cwS 1 hts gX8_element_X8_isShelf rfl rfl rfl (by decide +kernel) ⟨Nat.le_of_ble_eq_true rfl, Nat.le_of_ble_eq_true rfl⟩) ⟨qPre_blind _, fun U hU hW => ⟨rfl, qPre_of hP hK hE hN va_S.rf U hU hW⟩⟩ rfl rfl hl.1 rfl (lv_room (Nat.le_of_ble_eq_true rfl)) dX8_element_1 ⟨Nat.le_of_ble_eq_true rfl, Nat.le_of_ble_eq_true rfl⟩) ?_
  refine lv_if_eq (tgt := 20) hx hb dX8_element_4 (by decide) (fun cc => ?_) (fun cc => ?_)
  · have hf := (if_ok hf).1 cc
    refine lv_lconst (v := 0) hx hb dX8_element_20 (by decide) ?_
    exact W.lret hx hb hr (fun t ht _ => ⟨_, rfl, Option.some.inj hf, ht⟩) (fun _ h => by cases h) dX8_element_21
  · have hf := (if_ok hf).2 cc
    refine lv_aload_n hx hb dX8_element_7 rfl (lv_at hl 0 rfl) ?_
    refine q_get (C := RX8) (T := TX8) (N := 12) (ci := 8) (v := .ref (ad 27)) hx hb hts in_X8_element_X8 hown hK hP oX8 rfl 4 (by decide) (hts (.fieldLink RX8 31 "RowsOnlyPrimes" "shelves" "[LRowsOnlyPrimes$Shelf;") (by decide +kernel)) (fun _ h9 => h9) rfl dX8_element_8 ?_
    refine lv_iload_n hx hb dX8_element_11 rfl (lv_at hl 1 rfl) ?_
    obtain ⟨g3, hf⟩ := gd_ok hf
    refine q_aald (t := 3) hx hb hK hP aX8_27 rfl rfl g3 dX8_element_12 ?_
    refine lv_iload_n hx hb dX8_element_13 rfl (lv_at hl 2 rfl) ?_
    obtain ⟨v4, h5, hf⟩ := bd_ok hf
    refine q_cSl (va_runV (As := [.int p1]) (rest := []) ⟨hx, hb, hml, hown, hts⟩ (c_X6_at l (D := D) (ad := ad) (cy := cy) (sa := sa) (va := va) (I := I) (J := J) (28 + 2 * p0.toNatClampNeg) (isSh_of g3) p1 h5) (cwV 1 hts gX8_element_X6_at rfl rfl rfl (by decide +kernel) ⟨Nat.le_of_ble_eq_true rfl, Nat.le_of_ble_eq_true rfl⟩) ⟨qPre_blind _, q_recv hK hP (oX6 (isSh_of g3)) rfl, fun U hU hW => ⟨rfl, qPre_of hP hK hE hN va_S.rf U hU hW⟩⟩ rfl rfl hl.1 rfl (lv_room (Nat.le_of_ble_eq_true rfl)) dX8_element_14 ⟨Nat.le_of_ble_eq_true rfl, Nat.le_of_ble_eq_true rfl⟩) ?_
    refine lv_goto (tgt := 21) hx hb dX8_element_17 (by decide) ?_
    exact W.lret hx hb hr (fun t ht _ => ⟨_, rfl, Option.some.inj hf, ht⟩) (fun _ h => by cases h) dX8_element_21
abbrev r_X8_holds : Room := { frames := 2, cells := 0, slots := 0, locals := 42 }
theorem in_X8_holds_X6 : ∀ w ∈ u_ws RX6 TX6 3, w ∈ wsX8_holds := by decide +kernel
theorem in_X8_holds_X8 : ∀ w ∈ u_ws RX8 TX8 12, w ∈ wsX8_holds := by decide +kernel
set_option maxHeartbeats 4000000 in
set_option maxRecDepth 100000 in
theorem c_X8_holds (l : Launch) {D : va_G} {ad : Nat → Nat} {cy : Nat → ClassId} {sa va : Nat → Nat} {I : qI} {J : qJ}   (p0 : Int32) {r : Int32} (hf : f_X8_holds p0 I = some r) : Met l yX8_holds wsX8_holds r_X8_holds (va_Pc [.ref (ad 0), .int p0] (qPre D xS ad cy sa va (eX ad cy) I J)) (vp_Si (fun x => x = r)) 0 0 (fun _ => False) := by
  refine Met.ofW (cc := cX8_holds) (maxL := 2) (ret := (some .int)) (by decide) rfl ?_
  intro p e s m args below meth c s₁ B hml hv
  obtain ⟨rfl, hP, hK, hE, hN⟩ := hv
  have C : qC p s m _ meth c cX8_holds 2 RX8 wsX8_holds (some .int) := ⟨⟨B.exec, B.bytes, hml, findClass_of_methodNamed B.named, atoms_spec (ws := wsX8_holds) B.pre⟩, B.returns, B.notSynchronized⟩
  have C0 := C
  obtain ⟨⟨hx, hb, hml, hown, hts⟩, hr, hlocks⟩ := C0
  have hl := lv_entry ([.ref (ad 0), .int p0]) (n := 2) (Nat.le_of_ble_eq_true rfl)
  rw [lg_entry_eq]
  generalize (lg_sl ([.ref (ad 0), .int p0]) ++ List.replicate (2 - (lg_sl ([.ref (ad 0), .int p0])).length) Slot.unset).toArray = ls at hl ⊢
  have hl : lv_has ls 2 [(0, .ref (ad 0)), (1, .int p0)] := hl
  unfold f_X8_holds at hf
  refine lv_iload_n hx hb dX8_holds_0 rfl (lv_at hl 1 rfl) ?_
  obtain ⟨v1, h2, hf⟩ := bd_ok hf
  refine q_cSi (va_runS (As := [.int p0]) (rest := []) ⟨hx, hb, hml, hown, hts⟩ (c_X8_isShelf l (D := D) (ad := ad) (cy := cy) (sa := sa) (va := va) (I := I) (J := J) p0 h2) (va_cwS 1 hts gX8_holds_X8_isShelf rfl rfl rfl (by decide +kernel) ⟨Nat.le_of_ble_eq_true rfl, Nat.le_of_ble_eq_true rfl⟩) ⟨qPre_blind _, fun U hU hW => ⟨rfl, qPre_of hP hK hE hN va_S.rf U hU hW⟩⟩ rfl rfl hl.1 rfl (lv_room (Nat.le_of_ble_eq_true rfl)) dX8_holds_1 ⟨Nat.le_of_ble_eq_true rfl, Nat.le_of_ble_eq_true rfl⟩) ?_
  refine lv_if_eq (tgt := 19) hx hb dX8_holds_4 (by decide) (fun cc => ?_) (fun cc => ?_)
  · have hf := (if_ok hf).1 cc
    refine lv_iconst (v := -1) hx hb dX8_holds_19 (by decide) ?_
    exact W.iret hx hb hr (fun t ht _ => ⟨_, rfl, Option.some.inj hf, ht⟩) (fun _ h => by cases h) dX8_holds_20
  · have hf := (if_ok hf).2 cc
    refine lv_aload_n hx hb dX8_holds_7 rfl (lv_at hl 0 rfl) ?_
    refine q_get (C := RX8) (T := TX8) (N := 12) (ci := 8) (v := .ref (ad 27)) hx hb hts in_X8_holds_X8 hown hK hP oX8 rfl 4 (by decide) (hts (.fieldLink RX8 31 "RowsOnlyPrimes" "shelves" "[LRowsOnlyPrimes$Shelf;") (by decide +kernel)) (fun _ h9 => h9) rfl dX8_holds_8 ?_
    refine lv_iload_n hx hb dX8_holds_11 rfl (lv_at hl 1 rfl) ?_
    obtain ⟨g3, hf⟩ := gd_ok hf
    refine q_aald (t := 3) hx hb hK hP aX8_27 rfl rfl g3 dX8_holds_12 ?_
    refine q_get (C := RX6) (T := TX6) (N := 3) (ci := 6) (v := .int (I (28 + 2 * p0.toNatClampNeg) 1)) hx hb hts in_X8_holds_X6 hown hK hP (oX6 (isSh_of g3)) rfl 1 (by decide) (hts (.fieldLink RX8 109 "RowsOnlyPrimes$Shelf" "content" "I") (by decide +kernel)) (fun _ h9 => h9) rfl dX8_holds_13 ?_
    refine lv_goto (tgt := 20) hx hb dX8_holds_16 (by decide) ?_
    exact W.iret hx hb hr (fun t ht _ => ⟨_, rfl, Option.some.inj hf, ht⟩) (fun _ h => by cases h) dX8_holds_20
abbrev r_X8_show : Room := { frames := 2, cells := 0, slots := 0, locals := 44 }
theorem in_X8_show_X8 : ∀ w ∈ u_ws RX8 TX8 12, w ∈ wsX8_show := by decide +kernel
set_option maxHeartbeats 4000000 in
set_option maxRecDepth 100000 in
theorem w_X8_show_31 (C : qC p s m args meth c cX8_show 3 RX8 wsX8_show (some .int)) (hK : qK D cy sa s) (hE : qEnv sa va (qA xS ad) s s.heap) (hN : qN xS ad)   {J : qJ} {r : Int32} {Ie : qI} : ∀ (x1 : Int32) (x2 : Int32)  (I : qI) (ls : Array Slot) (H : Heap) (locs : List Loc), f_X8_show_31 x1 x2 I = some (r, Ie) → lv_has ls 3 [(0, .ref (ad 0)), (1, .int x1), (2, .int x2)] → qP D xS ad (eX ad cy) I J H → va_S (qA xS ad) s.heap H locs → W p l e (headSpec wsX8_show r_X8_show).room s m args below meth c H locs 0 0 (MQ below (va_Qi (S := Unit) (fun x _ => x = r) (fun _ t => qP D xS ad (eX ad cy) Ie J t.heap) (qA xS ad)) args s 0 0 (qA xS ad)) (F0 m 31 ls []) := by
  have C0 := C
  obtain ⟨⟨hx, hb, hml, hown, hts⟩, hr, hlocks⟩ := C0
  intro x1 x2 I ls H locs hf hl hP hS
  unfold f_X8_show_31 at hf
  refine lv_aload_n hx hb dX8_show_31 rfl (lv_at hl 0 rfl) ?_
  refine q_get (C := RX8) (T := TX8) (N := 12) (ci := 8) (v := .ref (ad 27)) hx hb hts in_X8_show_X8 hown hK hP oX8 rfl 4 (by decide) (hts (.fieldLink RX8 31 "RowsOnlyPrimes" "shelves" "[LRowsOnlyPrimes$Shelf;") (by decide +kernel)) (fun _ h9 => h9) rfl dX8_show_32 ?_
  refine lv_iload_n hx hb dX8_show_35 rfl (lv_at hl 1 rfl) ?_
  obtain ⟨g1, hf⟩ := gd_ok hf
  refine q_aald (t := 3) hx hb hK hP aX8_27 rfl rfl g1 dX8_show_36 ?_
  refine lv_iload_n hx hb dX8_show_37 rfl (lv_at hl 2 rfl) ?_
  obtain ⟨I2, h3, hf⟩ := bd_ok hf
  refine q_cEv (va_runV (As := [.int x2]) (rest := []) ⟨hx, hb, hml, hown, hts⟩ (c_X6_takeParty l (D := D) (ad := ad) (cy := cy) (sa := sa) (va := va) (I := I) (J := J) (28 + 2 * x1.toNatClampNeg) (isSh_of g1) x2 h3) (cwV 1 hts gX8_show_X6_takeParty rfl rfl rfl (by decide +kernel) ⟨Nat.le_of_ble_eq_true rfl, Nat.le_of_ble_eq_true rfl⟩) ⟨qPre_blind _, q_recv hK hP (oX6 (isSh_of g1)) rfl, fun U hU hW => ⟨rfl, qPre_of hP hK hE hN hS U hU hW⟩⟩ rfl rfl hl.1 rfl (lv_room (Nat.le_of_ble_eq_true rfl)) dX8_show_38 ⟨Nat.le_of_ble_eq_true rfl, Nat.le_of_ble_eq_true rfl⟩) hS (fun H locs hP hS => ?_)
  refine lv_iconst (v := 1) hx hb dX8_show_41 (by decide) ?_
  have e9 := Option.some.inj hf
  have eI9 : I2 = Ie := (congrArg Prod.snd e9)
  exact W.iret hx hb hr (fun t ht _ => ⟨⟨_, (), rfl, (congrArg Prod.fst e9), by show qP D _ ad _ _ _ t.heap; rw [ht, ← eI9]; exact hP⟩, hS.F ht⟩) hS.2.2 dX8_show_42
set_option maxHeartbeats 4000000 in
set_option maxRecDepth 100000 in
theorem w_X8_show_23 (C : qC p s m args meth c cX8_show 3 RX8 wsX8_show (some .int)) (hK : qK D cy sa s) (hE : qEnv sa va (qA xS ad) s s.heap) (hN : qN xS ad)   {J : qJ} {r : Int32} {Ie : qI} : ∀   (I : qI) (ls : Array Slot) (H : Heap) (locs : List Loc), f_X8_show_23 I = some (r, Ie) → lv_has ls 3 [(0, .ref (ad 0))] → qP D xS ad (eX ad cy) I J H → va_S (qA xS ad) s.heap H locs → W p l e (headSpec wsX8_show r_X8_show).room s m args below meth c H locs 0 0 (MQ below (va_Qi (S := Unit) (fun x _ => x = r) (fun _ t => qP D xS ad (eX ad cy) Ie J t.heap) (qA xS ad)) args s 0 0 (qA xS ad)) (F0 m 23 ls []) := by
  have C0 := C
  obtain ⟨⟨hx, hb, hml, hown, hts⟩, hr, hlocks⟩ := C0
  intro I ls H locs hf hl hP hS
  unfold f_X8_show_23 at hf
  refine lv_aload_n hx hb dX8_show_23 rfl (lv_at hl 0 rfl) ?_
  refine lv_sipush (v := -1002) hx hb dX8_show_24 (by decide) ?_
  obtain ⟨v1, I2, h3, hf⟩ := bd2_ok hf
  refine q_cEi (va_runV (As := [.int (-1002 : Int32)]) (rest := []) ⟨hx, hb, hml, hown, hts⟩ (c_X8_refuse l (D := D) (ad := ad) (cy := cy) (sa := sa) (va := va) (I := I) (J := J) (-1002 : Int32) h3) (cwV 1 hts gX8_show_X8_refuse rfl rfl rfl (by decide +kernel) ⟨Nat.le_of_ble_eq_true rfl, Nat.le_of_ble_eq_true rfl⟩) ⟨qPre_blind _, q_recv hK hP oX8 rfl, fun U hU hW => ⟨rfl, qPre_of hP hK hE hN hS U hU hW⟩⟩ rfl rfl hl.1 rfl (lv_room (Nat.le_of_ble_eq_true rfl)) dX8_show_27 ⟨Nat.le_of_ble_eq_true rfl, Nat.le_of_ble_eq_true rfl⟩) hS (fun H locs hP hS => ?_)
  have e9 := Option.some.inj hf
  have eI9 : I2 = Ie := (congrArg Prod.snd e9)
  exact W.iret hx hb hr (fun t ht _ => ⟨⟨_, (), rfl, (congrArg Prod.fst e9), by show qP D _ ad _ _ _ t.heap; rw [ht, ← eI9]; exact hP⟩, hS.F ht⟩) hS.2.2 dX8_show_30
set_option maxHeartbeats 4000000 in
set_option maxRecDepth 100000 in
theorem c_X8_show (l : Launch) {D : va_G} {ad : Nat → Nat} {cy : Nat → ClassId} {sa va : Nat → Nat} {I : qI} {J : qJ}   (p0 : Int32) (p1 : Int32) {r : Int32} {Ie : qI} (hf : f_X8_show p0 p1 I = some (r, Ie)) : Met l yX8_show wsX8_show r_X8_show (va_Pc [.ref (ad 0), .int p0, .int p1] (qPre D xS ad cy sa va (eX ad cy) I J)) (va_Qi (S := Unit) (fun x _ => x = r) (fun _ t => qP D xS ad (eX ad cy) Ie J t.heap) (qA xS ad)) 0 0 (qA xS ad) := by
  refine Met.ofW (cc := cX8_show) (maxL := 3) (ret := (some .int)) (by decide) rfl ?_
  intro p e s m args below meth c s₁ B hml hv
  obtain ⟨rfl, hP, hK, hE, hN⟩ := hv
  have C : qC p s m _ meth c cX8_show 3 RX8 wsX8_show (some .int) := ⟨⟨B.exec, B.bytes, hml, findClass_of_methodNamed B.named, atoms_spec (ws := wsX8_show) B.pre⟩, B.returns, B.notSynchronized⟩
  have C0 := C
  obtain ⟨⟨hx, hb, hml, hown, hts⟩, hr, hlocks⟩ := C0
  have hS : va_S (qA xS ad) s.heap s.heap [] := va_S.rf
  have hl := lv_entry ([.ref (ad 0), .int p0, .int p1]) (n := 3) (Nat.le_of_ble_eq_true rfl)
  rw [lg_entry_eq]
  generalize (lg_sl ([.ref (ad 0), .int p0, .int p1]) ++ List.replicate (3 - (lg_sl ([.ref (ad 0), .int p0, .int p1])).length) Slot.unset).toArray = ls at hl ⊢
  have hl : lv_has ls 3 [(0, .ref (ad 0)), (1, .int p0), (2, .int p1)] := hl
  unfold f_X8_show at hf
  refine lv_iload_n hx hb dX8_show_0 rfl (lv_at hl 1 rfl) ?_
  obtain ⟨v1, h2, hf⟩ := bd_ok hf
  refine q_cSi (va_runS (As := [.int p0]) (rest := []) ⟨hx, hb, hml, hown, hts⟩ (c_X8_isShelf l (D := D) (ad := ad) (cy := cy) (sa := sa) (va := va) (I := I) (J := J) p0 h2) (va_cwS 1 hts gX8_show_X8_isShelf rfl rfl rfl (by decide +kernel) ⟨Nat.le_of_ble_eq_true rfl, Nat.le_of_ble_eq_true rfl⟩) ⟨qPre_blind _, fun U hU hW => ⟨rfl, qPre_of hP hK hE hN hS U hU hW⟩⟩ rfl rfl hl.1 rfl (lv_room (Nat.le_of_ble_eq_true rfl)) dX8_show_1 ⟨Nat.le_of_ble_eq_true rfl, Nat.le_of_ble_eq_true rfl⟩) ?_
  refine lv_if_eq (tgt := 23) hx hb dX8_show_4 (by decide) (fun cc => ?_) (fun cc => ?_)
  · have hf := (if_ok hf).1 cc
    exact w_X8_show_23 C hK hE hN    I _ _ _ hf (lv_sub hl [0] rfl) hP hS
  · have hf := (if_ok hf).2 cc
    refine lv_iload_n hx hb dX8_show_7 rfl (lv_at hl 2 rfl) ?_
    refine lv_iconst (v := -1) hx hb dX8_show_8 (by decide) ?_
    refine lv_icmp_eq (tgt := 31) hx hb dX8_show_9 (by decide) (fun cc => ?_) (fun cc => ?_)
    · have hf := (if_ok hf).1 cc
      exact w_X8_show_31 C hK hE hN    p0 p1 I _ _ _ hf (lv_sub hl [0, 1, 2] rfl) hP hS
    · have hf := (if_ok hf).2 cc
      refine lv_aload_n hx hb dX8_show_12 rfl (lv_at hl 0 rfl) ?_
      refine q_get (C := RX8) (T := TX8) (N := 12) (ci := 8) (v := .ref (ad 1)) hx hb hts in_X8_show_X8 hown hK hP oX8 rfl 0 (by decide) (hts (.fieldLink RX8 12 "RowsOnlyPrimes" "now" "LRowsOnlyPrimes$Bank;") (by decide +kernel)) (fun _ h9 => h9) rfl dX8_show_13 ?_
      refine lv_iload_n hx hb dX8_show_16 rfl (lv_at hl 2 rfl) ?_
      obtain ⟨v3, h4, hf⟩ := bd_ok hf
      refine q_cSi (va_runV (As := [.int p1]) (rest := []) ⟨hx, hb, hml, hown, hts⟩ (c_X2_hasParty l (D := D) (ad := ad) (cy := cy) (sa := sa) (va := va) (I := I) (J := J) 1 isB_1 p1 h4) (cwV 1 hts gX8_show_X2_hasParty rfl rfl rfl (by decide +kernel) ⟨Nat.le_of_ble_eq_true rfl, Nat.le_of_ble_eq_true rfl⟩) ⟨qPre_blind _, q_recv hK hP (oX2 isB_1) rfl, fun U hU hW => ⟨rfl, qPre_of hP hK hE hN hS U hU hW⟩⟩ rfl rfl hl.1 rfl (lv_room (Nat.le_of_ble_eq_true rfl)) dX8_show_17 ⟨Nat.le_of_ble_eq_true rfl, Nat.le_of_ble_eq_true rfl⟩) ?_
      refine lv_if_ne (tgt := 31) hx hb dX8_show_20 (by decide) (fun cc => ?_) (fun cc => ?_)
      · have hf := (if_ok hf).2 cc
        exact w_X8_show_31 C hK hE hN    p0 p1 I _ _ _ hf (lv_sub hl [0, 1, 2] rfl) hP hS
      · have hf := (if_ok hf).1 cc
        exact w_X8_show_23 C hK hE hN    I _ _ _ hf (lv_sub hl [0] rfl) hP hS
abbrev r_X8_isOfKind : Room := { frames := 2, cells := 0, slots := 0, locals := 42 }
set_option maxHeartbeats 4000000 in
set_option maxRecDepth 100000 in
theorem w_X8_isOfKind_4 (C : qC p s m args meth c cX8_isOfKind 4 RX8 wsX8_isOfKind (some .boolean)) (hK : qK D cy sa s) (hE : qEnv sa va (qA xS ad) s s.heap) (hN : qN xS ad)   {I : qI} {J : qJ} (hP : qP D xS ad (eX ad cy) I J s.heap) {r : Int32} : ∀ (n : Nat) (x1 : Int32) (x2 : Int32) (x3 : Int32)  (ls : Array Slot), f_X8_isOfKind_4 I n x1 x2 x3 = some r → lv_has ls 4 [(1, .int x1), (2, .int x2), (3, .int x3)] → W p l e (headSpec wsX8_isOfKind r_X8_isOfKind).room s m args below meth c s.heap [] 0 0 (MQ below (vp_Si (fun x => x = r)) args s 0 0 (fun _ => False)) (F0 m 4 ls []) := by
  have C0 := C
  obtain ⟨⟨hx, hb, hml, hown, hts⟩, hr, hlocks⟩ := C0
  obtain ⟨tKIND_ABOVE, hZKIND_ABOVE, hTKIND_ABOVE⟩ := hE.1.1
  intro n
  induction n with
  | zero =>
    intro x1 x2 x3 ls hf hl
    rw [f_X8_isOfKind_4] at hf
    cases hf
  | succ n ih =>
    intro x1 x2 x3 ls hf hl
    rw [f_X8_isOfKind_4] at hf
    refine lv_iload_n hx hb dX8_isOfKind_4 rfl (lv_at hl 2 rfl) ?_
    refine lv_bipush (v := 6) hx hb dX8_isOfKind_5 (by decide) ?_
    refine lv_icmp_ge (tgt := 36) hx hb dX8_isOfKind_7 (by decide) (fun cc => ?_) (fun cc => ?_)
    · have hf := (if_ok hf).1 cc
      refine lv_iconst (v := 0) hx hb dX8_isOfKind_36 (by decide) ?_
      exact W.zret (ty := .boolean) hx hb hr rfl (fun t ht _ => ⟨_, rfl, Option.some.inj hf, ht⟩) (fun _ h => by cases h) dX8_isOfKind_37
    · have hf := (if_ok hf).2 cc
      refine lv_iload_n hx hb dX8_isOfKind_10 rfl (lv_at hl 1 rfl) ?_
      obtain ⟨v1, h2, hf⟩ := bd_ok hf
      refine q_cSi (va_runS (As := [.int x2]) (rest := []) ⟨hx, hb, hml, hown, hts⟩ (c_X8_isKind l (D := D) (ad := ad) (cy := cy) (sa := sa) (va := va) (I := I) (J := J) x2 h2) (va_cwS 1 hts gX8_isOfKind_X8_isKind rfl rfl rfl (by decide +kernel) ⟨Nat.le_of_ble_eq_true rfl, Nat.le_of_ble_eq_true rfl⟩) ⟨qPre_blind _, fun U hU hW => ⟨rfl, qPre_of hP hK hE hN va_S.rf U hU hW⟩⟩ rfl rfl hl.1 rfl (lv_room (Nat.le_of_ble_eq_true rfl)) dX8_isOfKind_11 ⟨Nat.le_of_ble_eq_true rfl, Nat.le_of_ble_eq_true rfl⟩) ?_
      refine lv_if_eq (tgt := 36) hx hb dX8_isOfKind_14 (by decide) (fun cc => ?_) (fun cc => ?_)
      · have hf := (if_ok hf).1 cc
        refine lv_iconst (v := 0) hx hb dX8_isOfKind_36 (by decide) ?_
        exact W.zret (ty := .boolean) hx hb hr rfl (fun t ht _ => ⟨_, rfl, Option.some.inj hf, ht⟩) (fun _ h => by cases h) dX8_isOfKind_37
      · have hf := (if_ok hf).2 cc
        refine lv_iload_n hx hb dX8_isOfKind_17 rfl (lv_at hl 1 rfl) ?_
        refine lv_iload_n hx hb dX8_isOfKind_18 rfl (lv_at hl 0 rfl) ?_
        refine lv_icmp_ne (tgt := 24) hx hb dX8_isOfKind_19 (by decide) (fun cc => ?_) (fun cc => ?_)
        · have hf := (if_ok hf).2 cc
          refine va_gets (C := RX8) (v := .ref tKIND_ABOVE) hx hb hZKIND_ABOVE va_S.rf hown (hts (.fieldLink RX8 341 "RowsOnlyPrimes" "KIND_ABOVE" "[I") (by decide +kernel)) (fun _ h9 => h9) dX8_isOfKind_24 ?_
          refine lv_iload_n hx hb dX8_isOfKind_27 rfl (lv_at hl 1 rfl) ?_
          obtain ⟨g3, hf⟩ := gd_ok hf
          refine q_stat (tab := qTab0) hx hb hTKIND_ABOVE va_S.rf g3 dX8_isOfKind_28 ?_
          refine lv_istore_n (lv' := [(2, .int (qTab0.getD x2.toNatClampNeg 0)), (1, .int x1), (3, .int x3)]) hx hb dX8_isOfKind_29 rfl hl (by decide) rfl (fun ls hl => ?_)
          refine lv_iinc (v := (x3 + (1 : Int32))) (lv' := [(3, .int (x3 + (1 : Int32))), (2, .int (qTab0.getD x2.toNatClampNeg 0)), (1, .int x1)]) hx hb dX8_isOfKind_30 hl (k := 2) rfl rfl (by decide) rfl (fun ls hl => ?_)
          refine lv_goto (tgt := 4) hx hb dX8_isOfKind_33 (by decide) ?_
          exact ih x1 (qTab0.getD x2.toNatClampNeg 0) (x3 + (1 : Int32)) _ hf (lv_sub hl [2, 1, 0] rfl)
        · have hf := (if_ok hf).1 cc
          refine lv_iconst (v := 1) hx hb dX8_isOfKind_22 (by decide) ?_
          exact W.zret (ty := .boolean) hx hb hr rfl (fun t ht _ => ⟨_, rfl, Option.some.inj hf, ht⟩) (fun _ h => by cases h) dX8_isOfKind_23
set_option maxHeartbeats 4000000 in
set_option maxRecDepth 100000 in
theorem c_X8_isOfKind (l : Launch) {D : va_G} {ad : Nat → Nat} {cy : Nat → ClassId} {sa va : Nat → Nat} {I : qI} {J : qJ}   (p0 : Int32) (p1 : Int32) {r : Int32} (hf : f_X8_isOfKind p0 p1 I = some r) : Met l yX8_isOfKind wsX8_isOfKind r_X8_isOfKind (va_Pc [.int p0, .int p1] (qPre D xS ad cy sa va (eX ad cy) I J)) (vp_Si (fun x => x = r)) 0 0 (fun _ => False) := by
  refine Met.ofW (cc := cX8_isOfKind) (maxL := 4) (ret := (some .boolean)) (by decide) rfl ?_
  intro p e s m args below meth c s₁ B hml hv
  obtain ⟨rfl, hP, hK, hE, hN⟩ := hv
  have C : qC p s m _ meth c cX8_isOfKind 4 RX8 wsX8_isOfKind (some .boolean) := ⟨⟨B.exec, B.bytes, hml, findClass_of_methodNamed B.named, atoms_spec (ws := wsX8_isOfKind) B.pre⟩, B.returns, B.notSynchronized⟩
  have C0 := C
  obtain ⟨⟨hx, hb, hml, hown, hts⟩, hr, hlocks⟩ := C0
  have hl := lv_entry ([.int p0, .int p1]) (n := 4) (Nat.le_of_ble_eq_true rfl)
  rw [lg_entry_eq]
  generalize (lg_sl ([.int p0, .int p1]) ++ List.replicate (4 - (lg_sl ([.int p0, .int p1])).length) Slot.unset).toArray = ls at hl ⊢
  have hl : lv_has ls 4 [(0, .int p0), (1, .int p1)] := hl
  unfold f_X8_isOfKind at hf
  refine lv_iload_n hx hb dX8_isOfKind_0 rfl (lv_at hl 0 rfl) ?_
  refine lv_istore_n (lv' := [(2, .int p0), (0, .int p0), (1, .int p1)]) hx hb dX8_isOfKind_1 rfl hl (by decide) rfl (fun ls hl => ?_)
  refine lv_iconst (v := 0) hx hb dX8_isOfKind_2 (by decide) ?_
  refine lv_istore_n (lv' := [(3, .int (0 : Int32)), (2, .int p0), (0, .int p0), (1, .int p1)]) hx hb dX8_isOfKind_3 rfl hl (by decide) rfl (fun ls hl => ?_)
  exact w_X8_isOfKind_4 C hK hE hN hP  1000 p1 p0 (0 : Int32) _ hf (lv_sub hl [3, 1, 0] rfl)
abbrev r_X8_says : Room := { frames := 3, cells := 0, slots := 0, locals := 65 }
theorem in_X8_says_X2 : ∀ w ∈ u_ws RX2 TX2 13, w ∈ wsX8_says := by decide +kernel
theorem in_X8_says_X8 : ∀ w ∈ u_ws RX8 TX8 12, w ∈ wsX8_says := by decide +kernel
set_option maxHeartbeats 4000000 in
set_option maxRecDepth 100000 in
theorem w_X8_says_94 (C : qC p s m args meth c cX8_says 5 RX8 wsX8_says (some .int)) (hK : qK D cy sa s) (hE : qEnv sa va (qA xS ad) s s.heap) (hN : qN xS ad)   {J : qJ} {r : Int32} {Ie : qI} : ∀   (I : qI) (ls : Array Slot) (H : Heap) (locs : List Loc), f_X8_says_94 I = some (r, Ie) → lv_has ls 5 [(0, .ref (ad 0))] → qP D xS ad (eX ad cy) I J H → va_S (qA xS ad) s.heap H locs → W p l e (headSpec wsX8_says r_X8_says).room s m args below meth c H locs 0 0 (MQ below (va_Qi (S := Unit) (fun x _ => x = r) (fun _ t => qP D xS ad (eX ad cy) Ie J t.heap) (qA xS ad)) args s 0 0 (qA xS ad)) (F0 m 94 ls []) := by
  have C0 := C
  obtain ⟨⟨hx, hb, hml, hown, hts⟩, hr, hlocks⟩ := C0
  intro I ls H locs hf hl hP hS
  unfold f_X8_says_94 at hf
  refine lv_aload_n hx hb dX8_says_94 rfl (lv_at hl 0 rfl) ?_
  refine lv_sipush (v := -1003) hx hb dX8_says_95 (by decide) ?_
  obtain ⟨v1, I2, h3, hf⟩ := bd2_ok hf
  refine q_cEi (va_runV (As := [.int (-1003 : Int32)]) (rest := []) ⟨hx, hb, hml, hown, hts⟩ (c_X8_refuse l (D := D) (ad := ad) (cy := cy) (sa := sa) (va := va) (I := I) (J := J) (-1003 : Int32) h3) (cwV 1 hts gX8_says_X8_refuse rfl rfl rfl (by decide +kernel) ⟨Nat.le_of_ble_eq_true rfl, Nat.le_of_ble_eq_true rfl⟩) ⟨qPre_blind _, q_recv hK hP oX8 rfl, fun U hU hW => ⟨rfl, qPre_of hP hK hE hN hS U hU hW⟩⟩ rfl rfl hl.1 rfl (lv_room (Nat.le_of_ble_eq_true rfl)) dX8_says_98 ⟨Nat.le_of_ble_eq_true rfl, Nat.le_of_ble_eq_true rfl⟩) hS (fun H locs hP hS => ?_)
  have e9 := Option.some.inj hf
  have eI9 : I2 = Ie := (congrArg Prod.snd e9)
  exact W.iret hx hb hr (fun t ht _ => ⟨⟨_, (), rfl, (congrArg Prod.fst e9), by show qP D _ ad _ _ _ t.heap; rw [ht, ← eI9]; exact hP⟩, hS.F ht⟩) hS.2.2 dX8_says_101
set_option maxHeartbeats 4000000 in
set_option maxRecDepth 100000 in
theorem w_X8_says_14 (C : qC p s m args meth c cX8_says 5 RX8 wsX8_says (some .int)) (hK : qK D cy sa s) (hE : qEnv sa va (qA xS ad) s s.heap) (hN : qN xS ad)   {J : qJ} {r : Int32} {Ie : qI} : ∀   (I : qI) (ls : Array Slot) (H : Heap) (locs : List Loc), f_X8_says_14 I = some (r, Ie) → lv_has ls 5 [(0, .ref (ad 0))] → qP D xS ad (eX ad cy) I J H → va_S (qA xS ad) s.heap H locs → W p l e (headSpec wsX8_says r_X8_says).room s m args below meth c H locs 0 0 (MQ below (va_Qi (S := Unit) (fun x _ => x = r) (fun _ t => qP D xS ad (eX ad cy) Ie J t.heap) (qA xS ad)) args s 0 0 (qA xS ad)) (F0 m 14 ls []) := by
  have C0 := C
  obtain ⟨⟨hx, hb, hml, hown, hts⟩, hr, hlocks⟩ := C0
  intro I ls H locs hf hl hP hS
  unfold f_X8_says_14 at hf
  refine lv_aload_n hx hb dX8_says_14 rfl (lv_at hl 0 rfl) ?_
  refine lv_sipush (v := -1002) hx hb dX8_says_15 (by decide) ?_
  obtain ⟨v1, I2, h3, hf⟩ := bd2_ok hf
  refine q_cEi (va_runV (As := [.int (-1002 : Int32)]) (rest := []) ⟨hx, hb, hml, hown, hts⟩ (c_X8_refuse l (D := D) (ad := ad) (cy := cy) (sa := sa) (va := va) (I := I) (J := J) (-1002 : Int32) h3) (cwV 1 hts gX8_says_X8_refuse rfl rfl rfl (by decide +kernel) ⟨Nat.le_of_ble_eq_true rfl, Nat.le_of_ble_eq_true rfl⟩) ⟨qPre_blind _, q_recv hK hP oX8 rfl, fun U hU hW => ⟨rfl, qPre_of hP hK hE hN hS U hU hW⟩⟩ rfl rfl hl.1 rfl (lv_room (Nat.le_of_ble_eq_true rfl)) dX8_says_18 ⟨Nat.le_of_ble_eq_true rfl, Nat.le_of_ble_eq_true rfl⟩) hS (fun H locs hP hS => ?_)
  have e9 := Option.some.inj hf
  have eI9 : I2 = Ie := (congrArg Prod.snd e9)
  exact W.iret hx hb hr (fun t ht _ => ⟨⟨_, (), rfl, (congrArg Prod.fst e9), by show qP D _ ad _ _ _ t.heap; rw [ht, ← eI9]; exact hP⟩, hS.F ht⟩) hS.2.2 dX8_says_21
set_option maxHeartbeats 4000000 in
set_option maxRecDepth 100000 in
theorem c_X8_says (l : Launch) {D : va_G} {ad : Nat → Nat} {cy : Nat → ClassId} {sa va : Nat → Nat} {I : qI} {J : qJ}   (p0 : Int32) (p1 : Int32) {r : Int32} {Ie : qI} (hf : f_X8_says p0 p1 I = some (r, Ie)) : Met l yX8_says wsX8_says r_X8_says (va_Pc [.ref (ad 0), .int p0, .int p1] (qPre D xS ad cy sa va (eX ad cy) I J)) (va_Qi (S := Unit) (fun x _ => x = r) (fun _ t => qP D xS ad (eX ad cy) Ie J t.heap) (qA xS ad)) 0 0 (qA xS ad) := by
  refine Met.ofW (cc := cX8_says) (maxL := 5) (ret := (some .int)) (by decide) rfl ?_
  intro p e s m args below meth c s₁ B hml hv
  obtain ⟨rfl, hP, hK, hE, hN⟩ := hv
  have C : qC p s m _ meth c cX8_says 5 RX8 wsX8_says (some .int) := ⟨⟨B.exec, B.bytes, hml, findClass_of_methodNamed B.named, atoms_spec (ws := wsX8_says) B.pre⟩, B.returns, B.notSynchronized⟩
  have C0 := C
  obtain ⟨⟨hx, hb, hml, hown, hts⟩, hr, hlocks⟩ := C0
  have hS : va_S (qA xS ad) s.heap s.heap [] := va_S.rf
  have hl := lv_entry ([.ref (ad 0), .int p0, .int p1]) (n := 5) (Nat.le_of_ble_eq_true rfl)
  rw [lg_entry_eq]
  generalize (lg_sl ([.ref (ad 0), .int p0, .int p1]) ++ List.replicate (5 - (lg_sl ([.ref (ad 0), .int p0, .int p1])).length) Slot.unset).toArray = ls at hl ⊢
  have hl : lv_has ls 5 [(0, .ref (ad 0)), (1, .int p0), (2, .int p1)] := hl
  unfold f_X8_says at hf
  refine lv_iload_n hx hb dX8_says_0 rfl (lv_at hl 1 rfl) ?_
  obtain ⟨v1, h2, hf⟩ := bd_ok hf
  refine q_cSi (va_runS (As := [.int p0]) (rest := []) ⟨hx, hb, hml, hown, hts⟩ (c_X8_isShelf l (D := D) (ad := ad) (cy := cy) (sa := sa) (va := va) (I := I) (J := J) p0 h2) (va_cwS 1 hts gX8_says_X8_isShelf rfl rfl rfl (by decide +kernel) ⟨Nat.le_of_ble_eq_true rfl, Nat.le_of_ble_eq_true rfl⟩) ⟨qPre_blind _, fun U hU hW => ⟨rfl, qPre_of hP hK hE hN hS U hU hW⟩⟩ rfl rfl hl.1 rfl (lv_room (Nat.le_of_ble_eq_true rfl)) dX8_says_1 ⟨Nat.le_of_ble_eq_true rfl, Nat.le_of_ble_eq_true rfl⟩) ?_
  refine lv_if_eq (tgt := 14) hx hb dX8_says_4 (by decide) (fun cc => ?_) (fun cc => ?_)
  · have hf := (if_ok hf).1 cc
    exact w_X8_says_14 C hK hE hN    I _ _ _ hf (lv_sub hl [0] rfl) hP hS
  · have hf := (if_ok hf).2 cc
    refine lv_iload_n hx hb dX8_says_7 rfl (lv_at hl 2 rfl) ?_
    obtain ⟨v3, h4, hf⟩ := bd_ok hf
    refine q_cSi (va_runS (As := [.int p1]) (rest := []) ⟨hx, hb, hml, hown, hts⟩ (c_X8_isKind l (D := D) (ad := ad) (cy := cy) (sa := sa) (va := va) (I := I) (J := J) p1 h4) (va_cwS 1 hts gX8_says_X8_isKind rfl rfl rfl (by decide +kernel) ⟨Nat.le_of_ble_eq_true rfl, Nat.le_of_ble_eq_true rfl⟩) ⟨qPre_blind _, fun U hU hW => ⟨rfl, qPre_of hP hK hE hN hS U hU hW⟩⟩ rfl rfl hl.1 rfl (lv_room (Nat.le_of_ble_eq_true rfl)) dX8_says_8 ⟨Nat.le_of_ble_eq_true rfl, Nat.le_of_ble_eq_true rfl⟩) ?_
    refine lv_if_ne (tgt := 22) hx hb dX8_says_11 (by decide) (fun cc => ?_) (fun cc => ?_)
    · have hf := (if_ok hf).2 cc
      refine lv_aload_n hx hb dX8_says_22 rfl (lv_at hl 0 rfl) ?_
      refine q_get (C := RX8) (T := TX8) (N := 12) (ci := 8) (v := .ref (ad 27)) hx hb hts in_X8_says_X8 hown hK hP oX8 rfl 4 (by decide) (hts (.fieldLink RX8 31 "RowsOnlyPrimes" "shelves" "[LRowsOnlyPrimes$Shelf;") (by decide +kernel)) (fun _ h9 => h9) rfl dX8_says_23 ?_
      refine lv_iload_n hx hb dX8_says_26 rfl (lv_at hl 1 rfl) ?_
      obtain ⟨g5, hf⟩ := gd_ok hf
      refine q_aald (t := 3) hx hb hK hP aX8_27 rfl rfl g5 dX8_says_27 ?_
      refine lv_astore_n (lv' := [(3, .ref (ad (28 + 2 * p0.toNatClampNeg))), (0, .ref (ad 0)), (1, .int p0), (2, .int p1)]) hx hb dX8_says_28 rfl hl (by decide) rfl (fun ls hl => ?_)
      refine lv_aload_n hx hb dX8_says_29 rfl (lv_at hl 0 rfl) ?_
      obtain ⟨v6, h7, hf⟩ := bd_ok hf
      refine q_cSi (va_runV (As := []) (rest := []) ⟨hx, hb, hml, hown, hts⟩ (c_X6_hasRow l (D := D) (ad := ad) (cy := cy) (sa := sa) (va := va) (I := I) (J := J) (28 + 2 * p0.toNatClampNeg) (isSh_of g5) h7) (cwV 0 hts gX8_says_X6_hasRow rfl rfl rfl (by decide +kernel) ⟨Nat.le_of_ble_eq_true rfl, Nat.le_of_ble_eq_true rfl⟩) ⟨qPre_blind _, q_recv hK hP (oX6 (isSh_of g5)) rfl, fun U hU hW => ⟨rfl, qPre_of hP hK hE hN hS U hU hW⟩⟩ rfl rfl hl.1 rfl (lv_room (Nat.le_of_ble_eq_true rfl)) dX8_says_30 ⟨Nat.le_of_ble_eq_true rfl, Nat.le_of_ble_eq_true rfl⟩) ?_
      refine lv_if_eq (tgt := 44) hx hb dX8_says_33 (by decide) (fun cc => ?_) (fun cc => ?_)
      · have hf := (if_ok hf).1 cc
        refine lv_aload_n hx hb dX8_says_44 rfl (lv_at hl 0 rfl) ?_
        obtain ⟨v8, h9, hf⟩ := bd_ok hf
        refine q_cSi (va_runV (As := []) (rest := []) ⟨hx, hb, hml, hown, hts⟩ (c_X6_hasParty l (D := D) (ad := ad) (cy := cy) (sa := sa) (va := va) (I := I) (J := J) (28 + 2 * p0.toNatClampNeg) (isSh_of g5) h9) (cwV 0 hts gX8_says_X6_hasParty rfl rfl rfl (by decide +kernel) ⟨Nat.le_of_ble_eq_true rfl, Nat.le_of_ble_eq_true rfl⟩) ⟨qPre_blind _, q_recv hK hP (oX6 (isSh_of g5)) rfl, fun U hU hW => ⟨rfl, qPre_of hP hK hE hN hS U hU hW⟩⟩ rfl rfl hl.1 rfl (lv_room (Nat.le_of_ble_eq_true rfl)) dX8_says_45 ⟨Nat.le_of_ble_eq_true rfl, Nat.le_of_ble_eq_true rfl⟩) ?_
        refine lv_if_ne (tgt := 59) hx hb dX8_says_48 (by decide) (fun cc => ?_) (fun cc => ?_)
        · have hf := (if_ok hf).2 cc
          refine lv_aload_n hx hb dX8_says_59 rfl (lv_at hl 0 rfl) ?_
          obtain ⟨v10, h11, hf⟩ := bd_ok hf
          refine q_cSi (va_runV (As := []) (rest := []) ⟨hx, hb, hml, hown, hts⟩ (c_X6_partyNumber l (D := D) (ad := ad) (cy := cy) (sa := sa) (va := va) (I := I) (J := J) (28 + 2 * p0.toNatClampNeg) (isSh_of g5) h11) (cwV 0 hts gX8_says_X6_partyNumber rfl rfl rfl (by decide +kernel) ⟨Nat.le_of_ble_eq_true rfl, Nat.le_of_ble_eq_true rfl⟩) ⟨qPre_blind _, q_recv hK hP (oX6 (isSh_of g5)) rfl, fun U hU hW => ⟨rfl, qPre_of hP hK hE hN hS U hU hW⟩⟩ rfl rfl hl.1 rfl (lv_room (Nat.le_of_ble_eq_true rfl)) dX8_says_60 ⟨Nat.le_of_ble_eq_true rfl, Nat.le_of_ble_eq_true rfl⟩) ?_
          refine lv_istore (lv' := [(4, .int v10), (3, .ref (ad (28 + 2 * p0.toNatClampNeg))), (0, .ref (ad 0)), (1, .int p0), (2, .int p1)]) hx hb dX8_says_63 hl (by decide) rfl (fun ls hl => ?_)
          refine lv_aload_n hx hb dX8_says_65 rfl (lv_at hl 2 rfl) ?_
          refine q_get (C := RX8) (T := TX8) (N := 12) (ci := 8) (v := .ref (ad 1)) hx hb hts in_X8_says_X8 hown hK hP oX8 rfl 0 (by decide) (hts (.fieldLink RX8 12 "RowsOnlyPrimes" "now" "LRowsOnlyPrimes$Bank;") (by decide +kernel)) (fun _ h9 => h9) rfl dX8_says_66 ?_
          refine lv_iload hx hb dX8_says_69 (lv_at hl 0 rfl) ?_
          obtain ⟨v12, h13, hf⟩ := bd_ok hf
          refine q_cSi (va_runV (As := [.int v10]) (rest := []) ⟨hx, hb, hml, hown, hts⟩ (c_X2_hasParty l (D := D) (ad := ad) (cy := cy) (sa := sa) (va := va) (I := I) (J := J) 1 isB_1 v10 h13) (cwV 1 hts gX8_says_X2_hasParty rfl rfl rfl (by decide +kernel) ⟨Nat.le_of_ble_eq_true rfl, Nat.le_of_ble_eq_true rfl⟩) ⟨qPre_blind _, q_recv hK hP (oX2 isB_1) rfl, fun U hU hW => ⟨rfl, qPre_of hP hK hE hN hS U hU hW⟩⟩ rfl rfl hl.1 rfl (lv_room (Nat.le_of_ble_eq_true rfl)) dX8_says_71 ⟨Nat.le_of_ble_eq_true rfl, Nat.le_of_ble_eq_true rfl⟩) ?_
          refine lv_if_eq (tgt := 94) hx hb dX8_says_74 (by decide) (fun cc => ?_) (fun cc => ?_)
          · have hf := (if_ok hf).1 cc
            exact w_X8_says_94 C hK hE hN    I _ _ _ hf (lv_sub hl [2] rfl) hP hS
          · have hf := (if_ok hf).2 cc
            refine lv_aload_n hx hb dX8_says_77 rfl (lv_at hl 2 rfl) ?_
            refine q_get (C := RX8) (T := TX8) (N := 12) (ci := 8) (v := .ref (ad 1)) hx hb hts in_X8_says_X8 hown hK hP oX8 rfl 0 (by decide) (hts (.fieldLink RX8 12 "RowsOnlyPrimes" "now" "LRowsOnlyPrimes$Bank;") (by decide +kernel)) (fun _ h9 => h9) rfl dX8_says_78 ?_
            refine q_get (C := RX2) (T := TX2) (N := 13) (ci := 2) (v := .ref (ad (1 + 1))) hx hb hts in_X8_says_X2 hown hK hP (oX2 isB_1) rfl 0 (by decide) (hts (.fieldLink RX8 140 "RowsOnlyPrimes$Bank" "kinds" "[I") (by decide +kernel)) (fun _ h9 => h9) rfl dX8_says_81 ?_
            refine lv_iload hx hb dX8_says_84 (lv_at hl 0 rfl) ?_
            obtain ⟨g14, hf⟩ := gd_ok hf
            refine q_iald hx hb hK hP (aX2_1 isB_1) g14 dX8_says_86 ?_
            refine lv_iload_n hx hb dX8_says_87 rfl (lv_at hl 4 rfl) ?_
            obtain ⟨v15, h16, hf⟩ := bd_ok hf
            refine q_cSi (va_runS (As := [.int (I (1 + 1) v10.toNatClampNeg), .int p1]) (rest := []) ⟨hx, hb, hml, hown, hts⟩ (c_X8_isOfKind l (D := D) (ad := ad) (cy := cy) (sa := sa) (va := va) (I := I) (J := J) (I (1 + 1) v10.toNatClampNeg) p1 h16) (va_cwS 2 hts gX8_says_X8_isOfKind rfl rfl rfl (by decide +kernel) ⟨Nat.le_of_ble_eq_true rfl, Nat.le_of_ble_eq_true rfl⟩) ⟨qPre_blind _, fun U hU hW => ⟨rfl, qPre_of hP hK hE hN hS U hU hW⟩⟩ rfl rfl hl.1 rfl (lv_room (Nat.le_of_ble_eq_true rfl)) dX8_says_88 ⟨Nat.le_of_ble_eq_true rfl, Nat.le_of_ble_eq_true rfl⟩) ?_
            refine lv_if_ne (tgt := 102) hx hb dX8_says_91 (by decide) (fun cc => ?_) (fun cc => ?_)
            · have hf := (if_ok hf).2 cc
              refine lv_iload_n hx hb dX8_says_102 rfl (lv_at hl 4 rfl) ?_
              refine lv_if_ne (tgt := 119) hx hb dX8_says_103 (by decide) (fun cc => ?_) (fun cc => ?_)
              · have hf := (if_ok hf).2 cc
                refine lv_aload_n hx hb dX8_says_119 rfl (lv_at hl 2 rfl) ?_
                refine q_get (C := RX8) (T := TX8) (N := 12) (ci := 8) (v := .ref (ad 1)) hx hb hts in_X8_says_X8 hown hK hP oX8 rfl 0 (by decide) (hts (.fieldLink RX8 12 "RowsOnlyPrimes" "now" "LRowsOnlyPrimes$Bank;") (by decide +kernel)) (fun _ h9 => h9) rfl dX8_says_120 ?_
                refine lv_iload hx hb dX8_says_123 (lv_at hl 0 rfl) ?_
                obtain ⟨v17, h18, hf⟩ := bd_ok hf
                refine q_cSi (va_runV (As := [.int v10]) (rest := []) ⟨hx, hb, hml, hown, hts⟩ (c_X2_headsOf l (D := D) (ad := ad) (cy := cy) (sa := sa) (va := va) (I := I) (J := J) 1 isB_1 v10 h18) (cwV 1 hts gX8_says_X2_headsOf rfl rfl rfl (by decide +kernel) ⟨Nat.le_of_ble_eq_true rfl, Nat.le_of_ble_eq_true rfl⟩) ⟨qPre_blind _, q_recv hK hP (oX2 isB_1) rfl, fun U hU hW => ⟨rfl, qPre_of hP hK hE hN hS U hU hW⟩⟩ rfl rfl hl.1 rfl (lv_room (Nat.le_of_ble_eq_true rfl)) dX8_says_125 ⟨Nat.le_of_ble_eq_true rfl, Nat.le_of_ble_eq_true rfl⟩) ?_
                have e9 := Option.some.inj hf
                have eI9 : I = Ie := (congrArg Prod.snd e9)
                exact W.iret hx hb hr (fun t ht _ => ⟨⟨_, (), rfl, (congrArg Prod.fst e9), by show qP D _ ad _ _ _ t.heap; rw [ht, ← eI9]; exact hP⟩, hS.F ht⟩) hS.2.2 dX8_says_128
              · have hf := (if_ok hf).1 cc
                refine lv_aload_n hx hb dX8_says_106 rfl (lv_at hl 2 rfl) ?_
                refine q_get (C := RX8) (T := TX8) (N := 12) (ci := 8) (v := .ref (ad 1)) hx hb hts in_X8_says_X8 hown hK hP oX8 rfl 0 (by decide) (hts (.fieldLink RX8 12 "RowsOnlyPrimes" "now" "LRowsOnlyPrimes$Bank;") (by decide +kernel)) (fun _ h9 => h9) rfl dX8_says_107 ?_
                refine q_get (C := RX2) (T := TX2) (N := 13) (ci := 2) (v := .ref (ad (1 + 4))) hx hb hts in_X8_says_X2 hown hK hP (oX2 isB_1) rfl 3 (by decide) (hts (.fieldLink RX8 146 "RowsOnlyPrimes$Bank" "wallets" "[I") (by decide +kernel)) (fun _ h9 => h9) rfl dX8_says_110 ?_
                refine lv_iload hx hb dX8_says_113 (lv_at hl 0 rfl) ?_
                obtain ⟨g19, hf⟩ := gd_ok hf
                refine q_iald hx hb hK hP (aX2_4 isB_1) g19 dX8_says_115 ?_
                refine lv_goto (tgt := 128) hx hb dX8_says_116 (by decide) ?_
                have e9 := Option.some.inj hf
                have eI9 : I = Ie := (congrArg Prod.snd e9)
                exact W.iret hx hb hr (fun t ht _ => ⟨⟨_, (), rfl, (congrArg Prod.fst e9), by show qP D _ ad _ _ _ t.heap; rw [ht, ← eI9]; exact hP⟩, hS.F ht⟩) hS.2.2 dX8_says_128
            · have hf := (if_ok hf).1 cc
              exact w_X8_says_94 C hK hE hN    I _ _ _ hf (lv_sub hl [2] rfl) hP hS
        · have hf := (if_ok hf).1 cc
          refine lv_aload_n hx hb dX8_says_51 rfl (lv_at hl 1 rfl) ?_
          refine lv_sipush (v := -1004) hx hb dX8_says_52 (by decide) ?_
          obtain ⟨v20, I21, h22, hf⟩ := bd2_ok hf
          refine q_cEi (va_runV (As := [.int (-1004 : Int32)]) (rest := []) ⟨hx, hb, hml, hown, hts⟩ (c_X8_refuse l (D := D) (ad := ad) (cy := cy) (sa := sa) (va := va) (I := I) (J := J) (-1004 : Int32) h22) (cwV 1 hts gX8_says_X8_refuse rfl rfl rfl (by decide +kernel) ⟨Nat.le_of_ble_eq_true rfl, Nat.le_of_ble_eq_true rfl⟩) ⟨qPre_blind _, q_recv hK hP oX8 rfl, fun U hU hW => ⟨rfl, qPre_of hP hK hE hN hS U hU hW⟩⟩ rfl rfl hl.1 rfl (lv_room (Nat.le_of_ble_eq_true rfl)) dX8_says_55 ⟨Nat.le_of_ble_eq_true rfl, Nat.le_of_ble_eq_true rfl⟩) hS (fun H locs hP hS => ?_)
          have e9 := Option.some.inj hf
          have eI9 : I21 = Ie := (congrArg Prod.snd e9)
          exact W.iret hx hb hr (fun t ht _ => ⟨⟨_, (), rfl, (congrArg Prod.fst e9), by show qP D _ ad _ _ _ t.heap; rw [ht, ← eI9]; exact hP⟩, hS.F ht⟩) hS.2.2 dX8_says_58
      · have hf := (if_ok hf).2 cc
        refine lv_aload_n hx hb dX8_says_36 rfl (lv_at hl 1 rfl) ?_
        refine lv_sipush (v := -1003) hx hb dX8_says_37 (by decide) ?_
        obtain ⟨v23, I24, h25, hf⟩ := bd2_ok hf
        refine q_cEi (va_runV (As := [.int (-1003 : Int32)]) (rest := []) ⟨hx, hb, hml, hown, hts⟩ (c_X8_refuse l (D := D) (ad := ad) (cy := cy) (sa := sa) (va := va) (I := I) (J := J) (-1003 : Int32) h25) (cwV 1 hts gX8_says_X8_refuse rfl rfl rfl (by decide +kernel) ⟨Nat.le_of_ble_eq_true rfl, Nat.le_of_ble_eq_true rfl⟩) ⟨qPre_blind _, q_recv hK hP oX8 rfl, fun U hU hW => ⟨rfl, qPre_of hP hK hE hN hS U hU hW⟩⟩ rfl rfl hl.1 rfl (lv_room (Nat.le_of_ble_eq_true rfl)) dX8_says_40 ⟨Nat.le_of_ble_eq_true rfl, Nat.le_of_ble_eq_true rfl⟩) hS (fun H locs hP hS => ?_)
        have e9 := Option.some.inj hf
        have eI9 : I24 = Ie := (congrArg Prod.snd e9)
        exact W.iret hx hb hr (fun t ht _ => ⟨⟨_, (), rfl, (congrArg Prod.fst e9), by show qP D _ ad _ _ _ t.heap; rw [ht, ← eI9]; exact hP⟩, hS.F ht⟩) hS.2.2 dX8_says_43
    · have hf := (if_ok hf).1 cc
      exact w_X8_says_14 C hK hE hN    I _ _ _ hf (lv_sub hl [0] rfl) hP hS
abbrev r_X8_party : Room := { frames := 2, cells := 0, slots := 0, locals := 45 }
theorem in_X8_party_X8 : ∀ w ∈ u_ws RX8 TX8 12, w ∈ wsX8_party := by decide +kernel
set_option maxHeartbeats 4000000 in
set_option maxRecDepth 100000 in
theorem w_X8_party_38 (C : qC p s m args meth c cX8_party 5 RX8 wsX8_party (some .int)) (hK : qK D cy sa s) (hE : qEnv sa va (qA xS ad) s s.heap) (hN : qN xS ad)   {J : qJ} {r : Int32} {Ie : qI} : ∀   (I : qI) (ls : Array Slot) (H : Heap) (locs : List Loc), f_X8_party_38 I = some (r, Ie) → lv_has ls 5 [(0, .ref (ad 0))] → qP D xS ad (eX ad cy) I J H → va_S (qA xS ad) s.heap H locs → W p l e (headSpec wsX8_party r_X8_party).room s m args below meth c H locs 0 0 (MQ below (va_Qi (S := Unit) (fun x _ => x = r) (fun _ t => qP D xS ad (eX ad cy) Ie J t.heap) (qA xS ad)) args s 0 0 (qA xS ad)) (F0 m 38 ls []) := by
  have C0 := C
  obtain ⟨⟨hx, hb, hml, hown, hts⟩, hr, hlocks⟩ := C0
  intro I ls H locs hf hl hP hS
  unfold f_X8_party_38 at hf
  refine lv_aload_n hx hb dX8_party_38 rfl (lv_at hl 0 rfl) ?_
  refine lv_sipush (v := -1002) hx hb dX8_party_39 (by decide) ?_
  obtain ⟨v1, I2, h3, hf⟩ := bd2_ok hf
  refine q_cEi (va_runV (As := [.int (-1002 : Int32)]) (rest := []) ⟨hx, hb, hml, hown, hts⟩ (c_X8_refuse l (D := D) (ad := ad) (cy := cy) (sa := sa) (va := va) (I := I) (J := J) (-1002 : Int32) h3) (cwV 1 hts gX8_party_X8_refuse rfl rfl rfl (by decide +kernel) ⟨Nat.le_of_ble_eq_true rfl, Nat.le_of_ble_eq_true rfl⟩) ⟨qPre_blind _, q_recv hK hP oX8 rfl, fun U hU hW => ⟨rfl, qPre_of hP hK hE hN hS U hU hW⟩⟩ rfl rfl hl.1 rfl (lv_room (Nat.le_of_ble_eq_true rfl)) dX8_party_42 ⟨Nat.le_of_ble_eq_true rfl, Nat.le_of_ble_eq_true rfl⟩) hS (fun H locs hP hS => ?_)
  have e9 := Option.some.inj hf
  have eI9 : I2 = Ie := (congrArg Prod.snd e9)
  exact W.iret hx hb hr (fun t ht _ => ⟨⟨_, (), rfl, (congrArg Prod.fst e9), by show qP D _ ad _ _ _ t.heap; rw [ht, ← eI9]; exact hP⟩, hS.F ht⟩) hS.2.2 dX8_party_45
set_option maxHeartbeats 4000000 in
set_option maxRecDepth 100000 in
theorem c_X8_party (l : Launch) {D : va_G} {ad : Nat → Nat} {cy : Nat → ClassId} {sa va : Nat → Nat} {I : qI} {J : qJ}   (p0 : Int32) (p1 : Int32) (p2 : Int32) (p3 : Int32) {r : Int32} {Ie : qI} (hf : f_X8_party p0 p1 p2 p3 I = some (r, Ie)) : Met l yX8_party wsX8_party r_X8_party (va_Pc [.ref (ad 0), .int p0, .int p1, .int p2, .int p3] (qPre D xS ad cy sa va (eX ad cy) I J)) (va_Qi (S := Unit) (fun x _ => x = r) (fun _ t => qP D xS ad (eX ad cy) Ie J t.heap) (qA xS ad)) 0 0 (qA xS ad) := by
  refine Met.ofW (cc := cX8_party) (maxL := 5) (ret := (some .int)) (by decide) rfl ?_
  intro p e s m args below meth c s₁ B hml hv
  obtain ⟨rfl, hP, hK, hE, hN⟩ := hv
  have C : qC p s m _ meth c cX8_party 5 RX8 wsX8_party (some .int) := ⟨⟨B.exec, B.bytes, hml, findClass_of_methodNamed B.named, atoms_spec (ws := wsX8_party) B.pre⟩, B.returns, B.notSynchronized⟩
  have C0 := C
  obtain ⟨⟨hx, hb, hml, hown, hts⟩, hr, hlocks⟩ := C0
  have hS : va_S (qA xS ad) s.heap s.heap [] := va_S.rf
  have hl := lv_entry ([.ref (ad 0), .int p0, .int p1, .int p2, .int p3]) (n := 5) (Nat.le_of_ble_eq_true rfl)
  rw [lg_entry_eq]
  generalize (lg_sl ([.ref (ad 0), .int p0, .int p1, .int p2, .int p3]) ++ List.replicate (5 - (lg_sl ([.ref (ad 0), .int p0, .int p1, .int p2, .int p3])).length) Slot.unset).toArray = ls at hl ⊢
  have hl : lv_has ls 5 [(0, .ref (ad 0)), (1, .int p0), (2, .int p1), (3, .int p2), (4, .int p3)] := hl
  unfold f_X8_party at hf
  refine lv_iload_n hx hb dX8_party_0 rfl (lv_at hl 1 rfl) ?_
  obtain ⟨v1, h2, hf⟩ := bd_ok hf
  refine q_cSi (va_runS (As := [.int p0]) (rest := []) ⟨hx, hb, hml, hown, hts⟩ (c_X8_isKind l (D := D) (ad := ad) (cy := cy) (sa := sa) (va := va) (I := I) (J := J) p0 h2) (va_cwS 1 hts gX8_party_X8_isKind rfl rfl rfl (by decide +kernel) ⟨Nat.le_of_ble_eq_true rfl, Nat.le_of_ble_eq_true rfl⟩) ⟨qPre_blind _, fun U hU hW => ⟨rfl, qPre_of hP hK hE hN hS U hU hW⟩⟩ rfl rfl hl.1 rfl (lv_room (Nat.le_of_ble_eq_true rfl)) dX8_party_1 ⟨Nat.le_of_ble_eq_true rfl, Nat.le_of_ble_eq_true rfl⟩) ?_
  refine lv_if_eq (tgt := 38) hx hb dX8_party_4 (by decide) (fun cc => ?_) (fun cc => ?_)
  · have hf := (if_ok hf).1 cc
    exact w_X8_party_38 C hK hE hN    I _ _ _ hf (lv_sub hl [0] rfl) hP hS
  · have hf := (if_ok hf).2 cc
    refine lv_iload_n hx hb dX8_party_7 rfl (lv_at hl 2 rfl) ?_
    refine lv_iconst (v := 0) hx hb dX8_party_8 (by decide) ?_
    refine lv_bipush (v := 9) hx hb dX8_party_9 (by decide) ?_
    obtain ⟨v3, h4, hf⟩ := bd_ok hf
    refine q_cSi (va_runS (As := [.int p1, .int (0 : Int32), .int (9 : Int32)]) (rest := []) ⟨hx, hb, hml, hown, hts⟩ (c_X8_within l (D := D) (ad := ad) (cy := cy) (sa := sa) (va := va) (I := I) (J := J) p1 (0 : Int32) (9 : Int32) h4) (va_cwS 3 hts gX8_party_X8_within rfl rfl rfl (by decide +kernel) ⟨Nat.le_of_ble_eq_true rfl, Nat.le_of_ble_eq_true rfl⟩) ⟨qPre_blind _, fun U hU hW => ⟨rfl, qPre_of hP hK hE hN hS U hU hW⟩⟩ rfl rfl hl.1 rfl (lv_room (Nat.le_of_ble_eq_true rfl)) dX8_party_11 ⟨Nat.le_of_ble_eq_true rfl, Nat.le_of_ble_eq_true rfl⟩) ?_
    refine lv_if_eq (tgt := 38) hx hb dX8_party_14 (by decide) (fun cc => ?_) (fun cc => ?_)
    · have hf := (if_ok hf).1 cc
      exact w_X8_party_38 C hK hE hN    I _ _ _ hf (lv_sub hl [0] rfl) hP hS
    · have hf := (if_ok hf).2 cc
      refine lv_iload_n hx hb dX8_party_17 rfl (lv_at hl 3 rfl) ?_
      refine lv_iconst (v := 1) hx hb dX8_party_18 (by decide) ?_
      refine lv_bipush (v := 40) hx hb dX8_party_19 (by decide) ?_
      obtain ⟨v5, h6, hf⟩ := bd_ok hf
      refine q_cSi (va_runS (As := [.int p2, .int (1 : Int32), .int (40 : Int32)]) (rest := []) ⟨hx, hb, hml, hown, hts⟩ (c_X8_within l (D := D) (ad := ad) (cy := cy) (sa := sa) (va := va) (I := I) (J := J) p2 (1 : Int32) (40 : Int32) h6) (va_cwS 3 hts gX8_party_X8_within rfl rfl rfl (by decide +kernel) ⟨Nat.le_of_ble_eq_true rfl, Nat.le_of_ble_eq_true rfl⟩) ⟨qPre_blind _, fun U hU hW => ⟨rfl, qPre_of hP hK hE hN hS U hU hW⟩⟩ rfl rfl hl.1 rfl (lv_room (Nat.le_of_ble_eq_true rfl)) dX8_party_21 ⟨Nat.le_of_ble_eq_true rfl, Nat.le_of_ble_eq_true rfl⟩) ?_
      refine lv_if_eq (tgt := 38) hx hb dX8_party_24 (by decide) (fun cc => ?_) (fun cc => ?_)
      · have hf := (if_ok hf).1 cc
        exact w_X8_party_38 C hK hE hN    I _ _ _ hf (lv_sub hl [0] rfl) hP hS
      · have hf := (if_ok hf).2 cc
        refine lv_iload hx hb dX8_party_27 (lv_at hl 4 rfl) ?_
        refine lv_iconst (v := 0) hx hb dX8_party_29 (by decide) ?_
        refine lv_bipush (v := 99) hx hb dX8_party_30 (by decide) ?_
        obtain ⟨v7, h8, hf⟩ := bd_ok hf
        refine q_cSi (va_runS (As := [.int p3, .int (0 : Int32), .int (99 : Int32)]) (rest := []) ⟨hx, hb, hml, hown, hts⟩ (c_X8_within l (D := D) (ad := ad) (cy := cy) (sa := sa) (va := va) (I := I) (J := J) p3 (0 : Int32) (99 : Int32) h8) (va_cwS 3 hts gX8_party_X8_within rfl rfl rfl (by decide +kernel) ⟨Nat.le_of_ble_eq_true rfl, Nat.le_of_ble_eq_true rfl⟩) ⟨qPre_blind _, fun U hU hW => ⟨rfl, qPre_of hP hK hE hN hS U hU hW⟩⟩ rfl rfl hl.1 rfl (lv_room (Nat.le_of_ble_eq_true rfl)) dX8_party_32 ⟨Nat.le_of_ble_eq_true rfl, Nat.le_of_ble_eq_true rfl⟩) ?_
        refine lv_if_ne (tgt := 46) hx hb dX8_party_35 (by decide) (fun cc => ?_) (fun cc => ?_)
        · have hf := (if_ok hf).2 cc
          refine lv_aload_n hx hb dX8_party_46 rfl (lv_at hl 0 rfl) ?_
          refine q_get (C := RX8) (T := TX8) (N := 12) (ci := 8) (v := .ref (ad 1)) hx hb hts in_X8_party_X8 hown hK hP oX8 rfl 0 (by decide) (hts (.fieldLink RX8 12 "RowsOnlyPrimes" "now" "LRowsOnlyPrimes$Bank;") (by decide +kernel)) (fun _ h9 => h9) rfl dX8_party_47 ?_
          obtain ⟨v9, h10, hf⟩ := bd_ok hf
          refine q_cSi (va_runV (As := []) (rest := []) ⟨hx, hb, hml, hown, hts⟩ (c_X2_hasRoom l (D := D) (ad := ad) (cy := cy) (sa := sa) (va := va) (I := I) (J := J) 1 isB_1 h10) (cwV 0 hts gX8_party_X2_hasRoom rfl rfl rfl (by decide +kernel) ⟨Nat.le_of_ble_eq_true rfl, Nat.le_of_ble_eq_true rfl⟩) ⟨qPre_blind _, q_recv hK hP (oX2 isB_1) rfl, fun U hU hW => ⟨rfl, qPre_of hP hK hE hN hS U hU hW⟩⟩ rfl rfl hl.1 rfl (lv_room (Nat.le_of_ble_eq_true rfl)) dX8_party_50 ⟨Nat.le_of_ble_eq_true rfl, Nat.le_of_ble_eq_true rfl⟩) ?_
          refine lv_if_ne (tgt := 64) hx hb dX8_party_53 (by decide) (fun cc => ?_) (fun cc => ?_)
          · have hf := (if_ok hf).2 cc
            refine lv_aload_n hx hb dX8_party_64 rfl (lv_at hl 0 rfl) ?_
            refine q_get (C := RX8) (T := TX8) (N := 12) (ci := 8) (v := .ref (ad 1)) hx hb hts in_X8_party_X8 hown hK hP oX8 rfl 0 (by decide) (hts (.fieldLink RX8 12 "RowsOnlyPrimes" "now" "LRowsOnlyPrimes$Bank;") (by decide +kernel)) (fun _ h9 => h9) rfl dX8_party_65 ?_
            refine lv_iload_n hx hb dX8_party_68 rfl (lv_at hl 1 rfl) ?_
            refine lv_iload_n hx hb dX8_party_69 rfl (lv_at hl 2 rfl) ?_
            refine lv_iload_n hx hb dX8_party_70 rfl (lv_at hl 3 rfl) ?_
            refine lv_iload hx hb dX8_party_71 (lv_at hl 4 rfl) ?_
            obtain ⟨v11, I12, h13, hf⟩ := bd2_ok hf
            refine q_cEi (va_runV (As := [.int p0, .int p1, .int p2, .int p3]) (rest := []) ⟨hx, hb, hml, hown, hts⟩ (c_X2_add l (D := D) (ad := ad) (cy := cy) (sa := sa) (va := va) (I := I) (J := J) 1 isB_1 p0 p1 p2 p3 h13) (cwV 4 hts gX8_party_X2_add rfl rfl rfl (by decide +kernel) ⟨Nat.le_of_ble_eq_true rfl, Nat.le_of_ble_eq_true rfl⟩) ⟨qPre_blind _, q_recv hK hP (oX2 isB_1) rfl, fun U hU hW => ⟨rfl, qPre_of hP hK hE hN hS U hU hW⟩⟩ rfl rfl hl.1 rfl (lv_room (Nat.le_of_ble_eq_true rfl)) dX8_party_73 ⟨Nat.le_of_ble_eq_true rfl, Nat.le_of_ble_eq_true rfl⟩) hS (fun H locs hP hS => ?_)
            have e9 := Option.some.inj hf
            have eI9 : I12 = Ie := (congrArg Prod.snd e9)
            exact W.iret hx hb hr (fun t ht _ => ⟨⟨_, (), rfl, (congrArg Prod.fst e9), by show qP D _ ad _ _ _ t.heap; rw [ht, ← eI9]; exact hP⟩, hS.F ht⟩) hS.2.2 dX8_party_76
          · have hf := (if_ok hf).1 cc
            refine lv_aload_n hx hb dX8_party_56 rfl (lv_at hl 0 rfl) ?_
            refine lv_sipush (v := -1006) hx hb dX8_party_57 (by decide) ?_
            obtain ⟨v14, I15, h16, hf⟩ := bd2_ok hf
            refine q_cEi (va_runV (As := [.int (-1006 : Int32)]) (rest := []) ⟨hx, hb, hml, hown, hts⟩ (c_X8_refuse l (D := D) (ad := ad) (cy := cy) (sa := sa) (va := va) (I := I) (J := J) (-1006 : Int32) h16) (cwV 1 hts gX8_party_X8_refuse rfl rfl rfl (by decide +kernel) ⟨Nat.le_of_ble_eq_true rfl, Nat.le_of_ble_eq_true rfl⟩) ⟨qPre_blind _, q_recv hK hP oX8 rfl, fun U hU hW => ⟨rfl, qPre_of hP hK hE hN hS U hU hW⟩⟩ rfl rfl hl.1 rfl (lv_room (Nat.le_of_ble_eq_true rfl)) dX8_party_60 ⟨Nat.le_of_ble_eq_true rfl, Nat.le_of_ble_eq_true rfl⟩) hS (fun H locs hP hS => ?_)
            have e9 := Option.some.inj hf
            have eI9 : I15 = Ie := (congrArg Prod.snd e9)
            exact W.iret hx hb hr (fun t ht _ => ⟨⟨_, (), rfl, (congrArg Prod.fst e9), by show qP D _ ad _ _ _ t.heap; rw [ht, ← eI9]; exact hP⟩, hS.F ht⟩) hS.2.2 dX8_party_63
        · have hf := (if_ok hf).1 cc
          exact w_X8_party_38 C hK hE hN    I _ _ _ hf (lv_sub hl [0] rfl) hP hS
abbrev r_X8_give : Room := { frames := 2, cells := 0, slots := 0, locals := 44 }
theorem in_X8_give_X2 : ∀ w ∈ u_ws RX2 TX2 13, w ∈ wsX8_give := by decide +kernel
theorem in_X8_give_X8 : ∀ w ∈ u_ws RX8 TX8 12, w ∈ wsX8_give := by decide +kernel
set_option maxHeartbeats 4000000 in
set_option maxRecDepth 100000 in
theorem w_X8_give_96 (C : qC p s m args meth c cX8_give 5 RX8 wsX8_give (some .int)) (hK : qK D cy sa s) (hE : qEnv sa va (qA xS ad) s s.heap) (hN : qN xS ad)   {J : qJ} {r : Int32} {Ie : qI} : ∀   (I : qI) (ls : Array Slot) (H : Heap) (locs : List Loc), f_X8_give_96 I = some (r, Ie) → lv_has ls 5 [(0, .ref (ad 0))] → qP D xS ad (eX ad cy) I J H → va_S (qA xS ad) s.heap H locs → W p l e (headSpec wsX8_give r_X8_give).room s m args below meth c H locs 0 0 (MQ below (va_Qi (S := Unit) (fun x _ => x = r) (fun _ t => qP D xS ad (eX ad cy) Ie J t.heap) (qA xS ad)) args s 0 0 (qA xS ad)) (F0 m 96 ls []) := by
  have C0 := C
  obtain ⟨⟨hx, hb, hml, hown, hts⟩, hr, hlocks⟩ := C0
  intro I ls H locs hf hl hP hS
  unfold f_X8_give_96 at hf
  refine lv_aload_n hx hb dX8_give_96 rfl (lv_at hl 0 rfl) ?_
  refine lv_sipush (v := -1002) hx hb dX8_give_97 (by decide) ?_
  obtain ⟨v1, I2, h3, hf⟩ := bd2_ok hf
  refine q_cEi (va_runV (As := [.int (-1002 : Int32)]) (rest := []) ⟨hx, hb, hml, hown, hts⟩ (c_X8_refuse l (D := D) (ad := ad) (cy := cy) (sa := sa) (va := va) (I := I) (J := J) (-1002 : Int32) h3) (cwV 1 hts gX8_give_X8_refuse rfl rfl rfl (by decide +kernel) ⟨Nat.le_of_ble_eq_true rfl, Nat.le_of_ble_eq_true rfl⟩) ⟨qPre_blind _, q_recv hK hP oX8 rfl, fun U hU hW => ⟨rfl, qPre_of hP hK hE hN hS U hU hW⟩⟩ rfl rfl hl.1 rfl (lv_room (Nat.le_of_ble_eq_true rfl)) dX8_give_100 ⟨Nat.le_of_ble_eq_true rfl, Nat.le_of_ble_eq_true rfl⟩) hS (fun H locs hP hS => ?_)
  have e9 := Option.some.inj hf
  have eI9 : I2 = Ie := (congrArg Prod.snd e9)
  exact W.iret hx hb hr (fun t ht _ => ⟨⟨_, (), rfl, (congrArg Prod.fst e9), by show qP D _ ad _ _ _ t.heap; rw [ht, ← eI9]; exact hP⟩, hS.F ht⟩) hS.2.2 dX8_give_103
set_option maxHeartbeats 4000000 in
set_option maxRecDepth 100000 in
theorem w_X8_give_57 (C : qC p s m args meth c cX8_give 5 RX8 wsX8_give (some .int)) (hK : qK D cy sa s) (hE : qEnv sa va (qA xS ad) s s.heap) (hN : qN xS ad)   {J : qJ} {r : Int32} {Ie : qI} : ∀ (x1 : Int32) (x2 : Int32) (x3 : Int32)  (I : qI) (ls : Array Slot) (H : Heap) (locs : List Loc), f_X8_give_57 x1 x2 x3 I = some (r, Ie) → lv_has ls 5 [(0, .ref (ad 0)), (1, .int x1), (2, .int x2), (3, .int x3)] → qP D xS ad (eX ad cy) I J H → va_S (qA xS ad) s.heap H locs → W p l e (headSpec wsX8_give r_X8_give).room s m args below meth c H locs 0 0 (MQ below (va_Qi (S := Unit) (fun x _ => x = r) (fun _ t => qP D xS ad (eX ad cy) Ie J t.heap) (qA xS ad)) args s 0 0 (qA xS ad)) (F0 m 57 ls []) := by
  have C0 := C
  obtain ⟨⟨hx, hb, hml, hown, hts⟩, hr, hlocks⟩ := C0
  intro x1 x2 x3 I ls H locs hf hl hP hS
  unfold f_X8_give_57 at hf
  refine lv_iload_n hx hb dX8_give_57 rfl (lv_at hl 2 rfl) ?_
  refine lv_iconst (v := 1) hx hb dX8_give_58 (by decide) ?_
  refine lv_icmp_ne (tgt := 96) hx hb dX8_give_59 (by decide) (fun cc => ?_) (fun cc => ?_)
  · have hf := (if_ok hf).2 cc
    exact w_X8_give_96 C hK hE hN    I _ _ _ hf (lv_sub hl [0] rfl) hP hS
  · have hf := (if_ok hf).1 cc
    refine lv_iload_n hx hb dX8_give_62 rfl (lv_at hl 3 rfl) ?_
    refine lv_iconst (v := 0) hx hb dX8_give_63 (by decide) ?_
    refine lv_bipush (v := 99) hx hb dX8_give_64 (by decide) ?_
    obtain ⟨v1, h2, hf⟩ := bd_ok hf
    refine q_cSi (va_runS (As := [.int x3, .int (0 : Int32), .int (99 : Int32)]) (rest := []) ⟨hx, hb, hml, hown, hts⟩ (c_X8_within l (D := D) (ad := ad) (cy := cy) (sa := sa) (va := va) (I := I) (J := J) x3 (0 : Int32) (99 : Int32) h2) (va_cwS 3 hts gX8_give_X8_within rfl rfl rfl (by decide +kernel) ⟨Nat.le_of_ble_eq_true rfl, Nat.le_of_ble_eq_true rfl⟩) ⟨qPre_blind _, fun U hU hW => ⟨rfl, qPre_of hP hK hE hN hS U hU hW⟩⟩ rfl rfl hl.1 rfl (lv_room (Nat.le_of_ble_eq_true rfl)) dX8_give_66 ⟨Nat.le_of_ble_eq_true rfl, Nat.le_of_ble_eq_true rfl⟩) ?_
    refine lv_if_eq (tgt := 96) hx hb dX8_give_69 (by decide) (fun cc => ?_) (fun cc => ?_)
    · have hf := (if_ok hf).1 cc
      exact w_X8_give_96 C hK hE hN    I _ _ _ hf (lv_sub hl [0] rfl) hP hS
    · have hf := (if_ok hf).2 cc
      refine lv_aload_n hx hb dX8_give_72 rfl (lv_at hl 0 rfl) ?_
      refine q_get (C := RX8) (T := TX8) (N := 12) (ci := 8) (v := .ref (ad 1)) hx hb hts in_X8_give_X8 hown hK hP oX8 rfl 0 (by decide) (hts (.fieldLink RX8 12 "RowsOnlyPrimes" "now" "LRowsOnlyPrimes$Bank;") (by decide +kernel)) (fun _ h9 => h9) rfl dX8_give_73 ?_
      refine q_get (C := RX2) (T := TX2) (N := 13) (ci := 2) (v := .ref (ad (1 + 4))) hx hb hts in_X8_give_X2 hown hK hP (oX2 isB_1) rfl 3 (by decide) (hts (.fieldLink RX8 146 "RowsOnlyPrimes$Bank" "wallets" "[I") (by decide +kernel)) (fun _ h9 => h9) rfl dX8_give_76 ?_
      refine lv_iload_n hx hb dX8_give_79 rfl (lv_at hl 1 rfl) ?_
      obtain ⟨g3, hf⟩ := gd_ok hf
      refine q_iald hx hb hK hP (aX2_4 isB_1) g3 dX8_give_80 ?_
      refine lv_istore (lv' := [(4, .int (I (1 + 4) x1.toNatClampNeg)), (0, .ref (ad 0)), (1, .int x1), (2, .int x2), (3, .int x3)]) hx hb dX8_give_81 hl (by decide) rfl (fun ls hl => ?_)
      refine lv_aload_n hx hb dX8_give_83 rfl (lv_at hl 1 rfl) ?_
      refine q_get (C := RX8) (T := TX8) (N := 12) (ci := 8) (v := .ref (ad 1)) hx hb hts in_X8_give_X8 hown hK hP oX8 rfl 0 (by decide) (hts (.fieldLink RX8 12 "RowsOnlyPrimes" "now" "LRowsOnlyPrimes$Bank;") (by decide +kernel)) (fun _ h9 => h9) rfl dX8_give_84 ?_
      refine q_get (C := RX2) (T := TX2) (N := 13) (ci := 2) (v := .ref (ad (1 + 4))) hx hb hts in_X8_give_X2 hown hK hP (oX2 isB_1) rfl 3 (by decide) (hts (.fieldLink RX8 146 "RowsOnlyPrimes$Bank" "wallets" "[I") (by decide +kernel)) (fun _ h9 => h9) rfl dX8_give_87 ?_
      refine lv_iload_n hx hb dX8_give_90 rfl (lv_at hl 2 rfl) ?_
      refine lv_iload_n hx hb dX8_give_91 rfl (lv_at hl 4 rfl) ?_
      obtain ⟨g4, hf⟩ := gd_ok hf
      obtain ⟨I5, eI5, hf⟩ := lt_ok hf
      refine q_iast hx hb hK hP hN hS (aX2_4 isB_1) g4 dX8_give_92 (fun H locs hP hS => ?_)
      have hP : qP D xS ad (eX ad cy) I5 J H := by rw [eI5]; exact hP
      refine lv_iload hx hb dX8_give_93 (lv_at hl 0 rfl) ?_
      have e9 := Option.some.inj hf
      have eI9 : I5 = Ie := (congrArg Prod.snd e9)
      exact W.iret hx hb hr (fun t ht _ => ⟨⟨_, (), rfl, (congrArg Prod.fst e9), by show qP D _ ad _ _ _ t.heap; rw [ht, ← eI9]; exact hP⟩, hS.F ht⟩) hS.2.2 dX8_give_95
set_option maxHeartbeats 4000000 in
set_option maxRecDepth 100000 in
theorem c_X8_give (l : Launch) {D : va_G} {ad : Nat → Nat} {cy : Nat → ClassId} {sa va : Nat → Nat} {I : qI} {J : qJ}   (p0 : Int32) (p1 : Int32) (p2 : Int32) {r : Int32} {Ie : qI} (hf : f_X8_give p0 p1 p2 I = some (r, Ie)) : Met l yX8_give wsX8_give r_X8_give (va_Pc [.ref (ad 0), .int p0, .int p1, .int p2] (qPre D xS ad cy sa va (eX ad cy) I J)) (va_Qi (S := Unit) (fun x _ => x = r) (fun _ t => qP D xS ad (eX ad cy) Ie J t.heap) (qA xS ad)) 0 0 (qA xS ad) := by
  refine Met.ofW (cc := cX8_give) (maxL := 5) (ret := (some .int)) (by decide) rfl ?_
  intro p e s m args below meth c s₁ B hml hv
  obtain ⟨rfl, hP, hK, hE, hN⟩ := hv
  have C : qC p s m _ meth c cX8_give 5 RX8 wsX8_give (some .int) := ⟨⟨B.exec, B.bytes, hml, findClass_of_methodNamed B.named, atoms_spec (ws := wsX8_give) B.pre⟩, B.returns, B.notSynchronized⟩
  have C0 := C
  obtain ⟨⟨hx, hb, hml, hown, hts⟩, hr, hlocks⟩ := C0
  have hS : va_S (qA xS ad) s.heap s.heap [] := va_S.rf
  have hl := lv_entry ([.ref (ad 0), .int p0, .int p1, .int p2]) (n := 5) (Nat.le_of_ble_eq_true rfl)
  rw [lg_entry_eq]
  generalize (lg_sl ([.ref (ad 0), .int p0, .int p1, .int p2]) ++ List.replicate (5 - (lg_sl ([.ref (ad 0), .int p0, .int p1, .int p2])).length) Slot.unset).toArray = ls at hl ⊢
  have hl : lv_has ls 5 [(0, .ref (ad 0)), (1, .int p0), (2, .int p1), (3, .int p2)] := hl
  unfold f_X8_give at hf
  refine lv_aload_n hx hb dX8_give_0 rfl (lv_at hl 0 rfl) ?_
  refine q_get (C := RX8) (T := TX8) (N := 12) (ci := 8) (v := .ref (ad 1)) hx hb hts in_X8_give_X8 hown hK hP oX8 rfl 0 (by decide) (hts (.fieldLink RX8 12 "RowsOnlyPrimes" "now" "LRowsOnlyPrimes$Bank;") (by decide +kernel)) (fun _ h9 => h9) rfl dX8_give_1 ?_
  refine lv_iload_n hx hb dX8_give_4 rfl (lv_at hl 1 rfl) ?_
  obtain ⟨v1, h2, hf⟩ := bd_ok hf
  refine q_cSi (va_runV (As := [.int p0]) (rest := []) ⟨hx, hb, hml, hown, hts⟩ (c_X2_hasParty l (D := D) (ad := ad) (cy := cy) (sa := sa) (va := va) (I := I) (J := J) 1 isB_1 p0 h2) (cwV 1 hts gX8_give_X2_hasParty rfl rfl rfl (by decide +kernel) ⟨Nat.le_of_ble_eq_true rfl, Nat.le_of_ble_eq_true rfl⟩) ⟨qPre_blind _, q_recv hK hP (oX2 isB_1) rfl, fun U hU hW => ⟨rfl, qPre_of hP hK hE hN hS U hU hW⟩⟩ rfl rfl hl.1 rfl (lv_room (Nat.le_of_ble_eq_true rfl)) dX8_give_5 ⟨Nat.le_of_ble_eq_true rfl, Nat.le_of_ble_eq_true rfl⟩) ?_
  refine lv_if_ne (tgt := 19) hx hb dX8_give_8 (by decide) (fun cc => ?_) (fun cc => ?_)
  · have hf := (if_ok hf).2 cc
    refine lv_iload_n hx hb dX8_give_19 rfl (lv_at hl 2 rfl) ?_
    refine lv_if_ne (tgt := 57) hx hb dX8_give_20 (by decide) (fun cc => ?_) (fun cc => ?_)
    · have hf := (if_ok hf).2 cc
      exact w_X8_give_57 C hK hE hN    p0 p1 p2 I _ _ _ hf (lv_sub hl [0, 1, 2, 3] rfl) hP hS
    · have hf := (if_ok hf).1 cc
      refine lv_iload_n hx hb dX8_give_23 rfl (lv_at hl 3 rfl) ?_
      refine lv_iconst (v := 1) hx hb dX8_give_24 (by decide) ?_
      refine lv_bipush (v := 40) hx hb dX8_give_25 (by decide) ?_
      obtain ⟨v3, h4, hf⟩ := bd_ok hf
      refine q_cSi (va_runS (As := [.int p2, .int (1 : Int32), .int (40 : Int32)]) (rest := []) ⟨hx, hb, hml, hown, hts⟩ (c_X8_within l (D := D) (ad := ad) (cy := cy) (sa := sa) (va := va) (I := I) (J := J) p2 (1 : Int32) (40 : Int32) h4) (va_cwS 3 hts gX8_give_X8_within rfl rfl rfl (by decide +kernel) ⟨Nat.le_of_ble_eq_true rfl, Nat.le_of_ble_eq_true rfl⟩) ⟨qPre_blind _, fun U hU hW => ⟨rfl, qPre_of hP hK hE hN hS U hU hW⟩⟩ rfl rfl hl.1 rfl (lv_room (Nat.le_of_ble_eq_true rfl)) dX8_give_27 ⟨Nat.le_of_ble_eq_true rfl, Nat.le_of_ble_eq_true rfl⟩) ?_
      refine lv_if_eq (tgt := 57) hx hb dX8_give_30 (by decide) (fun cc => ?_) (fun cc => ?_)
      · have hf := (if_ok hf).1 cc
        exact w_X8_give_57 C hK hE hN    p0 p1 p2 I _ _ _ hf (lv_sub hl [0, 1, 2, 3] rfl) hP hS
      · have hf := (if_ok hf).2 cc
        refine lv_aload_n hx hb dX8_give_33 rfl (lv_at hl 0 rfl) ?_
        refine q_get (C := RX8) (T := TX8) (N := 12) (ci := 8) (v := .ref (ad 1)) hx hb hts in_X8_give_X8 hown hK hP oX8 rfl 0 (by decide) (hts (.fieldLink RX8 12 "RowsOnlyPrimes" "now" "LRowsOnlyPrimes$Bank;") (by decide +kernel)) (fun _ h9 => h9) rfl dX8_give_34 ?_
        refine q_get (C := RX2) (T := TX2) (N := 13) (ci := 2) (v := .ref (ad (1 + 3))) hx hb hts in_X8_give_X2 hown hK hP (oX2 isB_1) rfl 2 (by decide) (hts (.fieldLink RX8 159 "RowsOnlyPrimes$Bank" "counts" "[I") (by decide +kernel)) (fun _ h9 => h9) rfl dX8_give_37 ?_
        refine lv_iload_n hx hb dX8_give_40 rfl (lv_at hl 1 rfl) ?_
        obtain ⟨g5, hf⟩ := gd_ok hf
        refine q_iald hx hb hK hP (aX2_3 isB_1) g5 dX8_give_41 ?_
        refine lv_istore (lv' := [(4, .int (I (1 + 3) p0.toNatClampNeg)), (0, .ref (ad 0)), (1, .int p0), (2, .int p1), (3, .int p2)]) hx hb dX8_give_42 hl (by decide) rfl (fun ls hl => ?_)
        refine lv_aload_n hx hb dX8_give_44 rfl (lv_at hl 1 rfl) ?_
        refine q_get (C := RX8) (T := TX8) (N := 12) (ci := 8) (v := .ref (ad 1)) hx hb hts in_X8_give_X8 hown hK hP oX8 rfl 0 (by decide) (hts (.fieldLink RX8 12 "RowsOnlyPrimes" "now" "LRowsOnlyPrimes$Bank;") (by decide +kernel)) (fun _ h9 => h9) rfl dX8_give_45 ?_
        refine q_get (C := RX2) (T := TX2) (N := 13) (ci := 2) (v := .ref (ad (1 + 3))) hx hb hts in_X8_give_X2 hown hK hP (oX2 isB_1) rfl 2 (by decide) (hts (.fieldLink RX8 159 "RowsOnlyPrimes$Bank" "counts" "[I") (by decide +kernel)) (fun _ h9 => h9) rfl dX8_give_48 ?_
        refine lv_iload_n hx hb dX8_give_51 rfl (lv_at hl 2 rfl) ?_
        refine lv_iload_n hx hb dX8_give_52 rfl (lv_at hl 4 rfl) ?_
        obtain ⟨g6, hf⟩ := gd_ok hf
        obtain ⟨I7, eI7, hf⟩ := lt_ok hf
        refine q_iast hx hb hK hP hN hS (aX2_3 isB_1) g6 dX8_give_53 (fun H locs hP hS => ?_)
        have hP : qP D xS ad (eX ad cy) I7 J H := by rw [eI7]; exact hP
        refine lv_iload hx hb dX8_give_54 (lv_at hl 0 rfl) ?_
        have e9 := Option.some.inj hf
        have eI9 : I7 = Ie := (congrArg Prod.snd e9)
        exact W.iret hx hb hr (fun t ht _ => ⟨⟨_, (), rfl, (congrArg Prod.fst e9), by show qP D _ ad _ _ _ t.heap; rw [ht, ← eI9]; exact hP⟩, hS.F ht⟩) hS.2.2 dX8_give_56
  · have hf := (if_ok hf).1 cc
    refine lv_aload_n hx hb dX8_give_11 rfl (lv_at hl 0 rfl) ?_
    refine lv_sipush (v := -1002) hx hb dX8_give_12 (by decide) ?_
    obtain ⟨v8, I9, h10, hf⟩ := bd2_ok hf
    refine q_cEi (va_runV (As := [.int (-1002 : Int32)]) (rest := []) ⟨hx, hb, hml, hown, hts⟩ (c_X8_refuse l (D := D) (ad := ad) (cy := cy) (sa := sa) (va := va) (I := I) (J := J) (-1002 : Int32) h10) (cwV 1 hts gX8_give_X8_refuse rfl rfl rfl (by decide +kernel) ⟨Nat.le_of_ble_eq_true rfl, Nat.le_of_ble_eq_true rfl⟩) ⟨qPre_blind _, q_recv hK hP oX8 rfl, fun U hU hW => ⟨rfl, qPre_of hP hK hE hN hS U hU hW⟩⟩ rfl rfl hl.1 rfl (lv_room (Nat.le_of_ble_eq_true rfl)) dX8_give_15 ⟨Nat.le_of_ble_eq_true rfl, Nat.le_of_ble_eq_true rfl⟩) hS (fun H locs hP hS => ?_)
    have e9 := Option.some.inj hf
    have eI9 : I9 = Ie := (congrArg Prod.snd e9)
    exact W.iret hx hb hr (fun t ht _ => ⟨⟨_, (), rfl, (congrArg Prod.fst e9), by show qP D _ ad _ _ _ t.heap; rw [ht, ← eI9]; exact hP⟩, hS.F ht⟩) hS.2.2 dX8_give_18
abbrev r_X8_bind : Room := { frames := 4, cells := 0, slots := 0, locals := 88 }
theorem in_X8_bind_X8 : ∀ w ∈ u_ws RX8 TX8 12, w ∈ wsX8_bind := by decide +kernel
set_option maxHeartbeats 4000000 in
set_option maxRecDepth 100000 in
theorem w_X8_bind_21 (C : qC p s m args meth c cX8_bind 5 RX8 wsX8_bind (some .int)) (hK : qK D cy sa s) (hE : qEnv sa va (qA xS ad) s s.heap) (hN : qN xS ad)   {J : qJ} {r : Int32} {Ie : qI} : ∀   (I : qI) (ls : Array Slot) (H : Heap) (locs : List Loc), f_X8_bind_21 I = some (r, Ie) → lv_has ls 5 [(0, .ref (ad 0))] → qP D xS ad (eX ad cy) I J H → va_S (qA xS ad) s.heap H locs → W p l e (headSpec wsX8_bind r_X8_bind).room s m args below meth c H locs 0 0 (MQ below (va_Qi (S := Unit) (fun x _ => x = r) (fun _ t => qP D xS ad (eX ad cy) Ie J t.heap) (qA xS ad)) args s 0 0 (qA xS ad)) (F0 m 21 ls []) := by
  have C0 := C
  obtain ⟨⟨hx, hb, hml, hown, hts⟩, hr, hlocks⟩ := C0
  intro I ls H locs hf hl hP hS
  unfold f_X8_bind_21 at hf
  refine lv_aload_n hx hb dX8_bind_21 rfl (lv_at hl 0 rfl) ?_
  refine lv_sipush (v := -1002) hx hb dX8_bind_22 (by decide) ?_
  obtain ⟨v1, I2, h3, hf⟩ := bd2_ok hf
  refine q_cEi (va_runV (As := [.int (-1002 : Int32)]) (rest := []) ⟨hx, hb, hml, hown, hts⟩ (c_X8_refuse l (D := D) (ad := ad) (cy := cy) (sa := sa) (va := va) (I := I) (J := J) (-1002 : Int32) h3) (cwV 1 hts gX8_bind_X8_refuse rfl rfl rfl (by decide +kernel) ⟨Nat.le_of_ble_eq_true rfl, Nat.le_of_ble_eq_true rfl⟩) ⟨qPre_blind _, q_recv hK hP oX8 rfl, fun U hU hW => ⟨rfl, qPre_of hP hK hE hN hS U hU hW⟩⟩ rfl rfl hl.1 rfl (lv_room (Nat.le_of_ble_eq_true rfl)) dX8_bind_25 ⟨Nat.le_of_ble_eq_true rfl, Nat.le_of_ble_eq_true rfl⟩) hS (fun H locs hP hS => ?_)
  have e9 := Option.some.inj hf
  have eI9 : I2 = Ie := (congrArg Prod.snd e9)
  exact W.iret hx hb hr (fun t ht _ => ⟨⟨_, (), rfl, (congrArg Prod.fst e9), by show qP D _ ad _ _ _ t.heap; rw [ht, ← eI9]; exact hP⟩, hS.F ht⟩) hS.2.2 dX8_bind_28
set_option maxHeartbeats 4000000 in
set_option maxRecDepth 100000 in
theorem c_X8_bind (l : Launch) {D : va_G} {ad : Nat → Nat} {cy : Nat → ClassId} {sa va : Nat → Nat} {I : qI} {J : qJ}   (p0 : Int32) (p1 : Int32) (p2 : Int32) {r : Int32} {Ie : qI} (hf : f_X8_bind p0 p1 p2 I = some (r, Ie)) : Met l yX8_bind wsX8_bind r_X8_bind (va_Pc [.ref (ad 0), .int p0, .int p1, .int p2] (qPre D xS ad cy sa va (eX ad cy) I J)) (va_Qi (S := Unit) (fun x _ => x = r) (fun _ t => qP D xS ad (eX ad cy) Ie J t.heap) (qA xS ad)) 0 0 (qA xS ad) := by
  refine Met.ofW (cc := cX8_bind) (maxL := 5) (ret := (some .int)) (by decide) rfl ?_
  intro p e s m args below meth c s₁ B hml hv
  obtain ⟨rfl, hP, hK, hE, hN⟩ := hv
  have C : qC p s m _ meth c cX8_bind 5 RX8 wsX8_bind (some .int) := ⟨⟨B.exec, B.bytes, hml, findClass_of_methodNamed B.named, atoms_spec (ws := wsX8_bind) B.pre⟩, B.returns, B.notSynchronized⟩
  have C0 := C
  obtain ⟨⟨hx, hb, hml, hown, hts⟩, hr, hlocks⟩ := C0
  have hS : va_S (qA xS ad) s.heap s.heap [] := va_S.rf
  have hl := lv_entry ([.ref (ad 0), .int p0, .int p1, .int p2]) (n := 5) (Nat.le_of_ble_eq_true rfl)
  rw [lg_entry_eq]
  generalize (lg_sl ([.ref (ad 0), .int p0, .int p1, .int p2]) ++ List.replicate (5 - (lg_sl ([.ref (ad 0), .int p0, .int p1, .int p2])).length) Slot.unset).toArray = ls at hl ⊢
  have hl : lv_has ls 5 [(0, .ref (ad 0)), (1, .int p0), (2, .int p1), (3, .int p2)] := hl
  unfold f_X8_bind at hf
  refine lv_aload_n hx hb dX8_bind_0 rfl (lv_at hl 0 rfl) ?_
  refine q_get (C := RX8) (T := TX8) (N := 12) (ci := 8) (v := .ref (ad 1)) hx hb hts in_X8_bind_X8 hown hK hP oX8 rfl 0 (by decide) (hts (.fieldLink RX8 12 "RowsOnlyPrimes" "now" "LRowsOnlyPrimes$Bank;") (by decide +kernel)) (fun _ h9 => h9) rfl dX8_bind_1 ?_
  refine lv_iload_n hx hb dX8_bind_4 rfl (lv_at hl 1 rfl) ?_
  refine lv_iload_n hx hb dX8_bind_5 rfl (lv_at hl 2 rfl) ?_
  obtain ⟨v1, h2, hf⟩ := bd_ok hf
  refine q_cSi (va_runV (As := [.int p0, .int p1]) (rest := []) ⟨hx, hb, hml, hown, hts⟩ (c_X2_hasTwo l (D := D) (ad := ad) (cy := cy) (sa := sa) (va := va) (I := I) (J := J) 1 isB_1 p0 p1 h2) (cwV 2 hts gX8_bind_X2_hasTwo rfl rfl rfl (by decide +kernel) ⟨Nat.le_of_ble_eq_true rfl, Nat.le_of_ble_eq_true rfl⟩) ⟨qPre_blind _, q_recv hK hP (oX2 isB_1) rfl, fun U hU hW => ⟨rfl, qPre_of hP hK hE hN hS U hU hW⟩⟩ rfl rfl hl.1 rfl (lv_room (Nat.le_of_ble_eq_true rfl)) dX8_bind_6 ⟨Nat.le_of_ble_eq_true rfl, Nat.le_of_ble_eq_true rfl⟩) ?_
  refine lv_if_eq (tgt := 21) hx hb dX8_bind_9 (by decide) (fun cc => ?_) (fun cc => ?_)
  · have hf := (if_ok hf).1 cc
    exact w_X8_bind_21 C hK hE hN    I _ _ _ hf (lv_sub hl [0] rfl) hP hS
  · have hf := (if_ok hf).2 cc
    refine lv_iload_n hx hb dX8_bind_12 rfl (lv_at hl 3 rfl) ?_
    refine lv_iconst (v := 0) hx hb dX8_bind_13 (by decide) ?_
    refine lv_iconst (v := 2) hx hb dX8_bind_14 (by decide) ?_
    obtain ⟨v3, h4, hf⟩ := bd_ok hf
    refine q_cSi (va_runS (As := [.int p2, .int (0 : Int32), .int (2 : Int32)]) (rest := []) ⟨hx, hb, hml, hown, hts⟩ (c_X8_within l (D := D) (ad := ad) (cy := cy) (sa := sa) (va := va) (I := I) (J := J) p2 (0 : Int32) (2 : Int32) h4) (va_cwS 3 hts gX8_bind_X8_within rfl rfl rfl (by decide +kernel) ⟨Nat.le_of_ble_eq_true rfl, Nat.le_of_ble_eq_true rfl⟩) ⟨qPre_blind _, fun U hU hW => ⟨rfl, qPre_of hP hK hE hN hS U hU hW⟩⟩ rfl rfl hl.1 rfl (lv_room (Nat.le_of_ble_eq_true rfl)) dX8_bind_15 ⟨Nat.le_of_ble_eq_true rfl, Nat.le_of_ble_eq_true rfl⟩) ?_
    refine lv_if_ne (tgt := 29) hx hb dX8_bind_18 (by decide) (fun cc => ?_) (fun cc => ?_)
    · have hf := (if_ok hf).2 cc
      refine lv_aload_n hx hb dX8_bind_29 rfl (lv_at hl 0 rfl) ?_
      refine q_get (C := RX8) (T := TX8) (N := 12) (ci := 8) (v := .ref (ad 1)) hx hb hts in_X8_bind_X8 hown hK hP oX8 rfl 0 (by decide) (hts (.fieldLink RX8 12 "RowsOnlyPrimes" "now" "LRowsOnlyPrimes$Bank;") (by decide +kernel)) (fun _ h9 => h9) rfl dX8_bind_30 ?_
      refine lv_iload_n hx hb dX8_bind_33 rfl (lv_at hl 1 rfl) ?_
      refine lv_iload_n hx hb dX8_bind_34 rfl (lv_at hl 2 rfl) ?_
      obtain ⟨v5, h6, hf⟩ := bd_ok hf
      refine q_cSi (va_runV (As := [.int p0, .int p1]) (rest := []) ⟨hx, hb, hml, hown, hts⟩ (c_X2_relation l (D := D) (ad := ad) (cy := cy) (sa := sa) (va := va) (I := I) (J := J) 1 isB_1 p0 p1 h6) (cwV 2 hts gX8_bind_X2_relation rfl rfl rfl (by decide +kernel) ⟨Nat.le_of_ble_eq_true rfl, Nat.le_of_ble_eq_true rfl⟩) ⟨qPre_blind _, q_recv hK hP (oX2 isB_1) rfl, fun U hU hW => ⟨rfl, qPre_of hP hK hE hN hS U hU hW⟩⟩ rfl rfl hl.1 rfl (lv_room (Nat.le_of_ble_eq_true rfl)) dX8_bind_35 ⟨Nat.le_of_ble_eq_true rfl, Nat.le_of_ble_eq_true rfl⟩) ?_
      refine lv_istore (lv' := [(4, .int v5), (0, .ref (ad 0)), (1, .int p0), (2, .int p1), (3, .int p2)]) hx hb dX8_bind_38 hl (by decide) rfl (fun ls hl => ?_)
      refine lv_aload_n hx hb dX8_bind_40 rfl (lv_at hl 1 rfl) ?_
      refine q_get (C := RX8) (T := TX8) (N := 12) (ci := 8) (v := .ref (ad 1)) hx hb hts in_X8_bind_X8 hown hK hP oX8 rfl 0 (by decide) (hts (.fieldLink RX8 12 "RowsOnlyPrimes" "now" "LRowsOnlyPrimes$Bank;") (by decide +kernel)) (fun _ h9 => h9) rfl dX8_bind_41 ?_
      refine lv_iload_n hx hb dX8_bind_44 rfl (lv_at hl 2 rfl) ?_
      refine lv_iload_n hx hb dX8_bind_45 rfl (lv_at hl 3 rfl) ?_
      refine lv_iload_n hx hb dX8_bind_46 rfl (lv_at hl 4 rfl) ?_
      obtain ⟨I7, h8, hf⟩ := bd_ok hf
      refine q_cEv (va_runV (As := [.int p0, .int p1, .int p2]) (rest := []) ⟨hx, hb, hml, hown, hts⟩ (c_X2_relate l (D := D) (ad := ad) (cy := cy) (sa := sa) (va := va) (I := I) (J := J) 1 isB_1 p0 p1 p2 h8) (cwV 3 hts gX8_bind_X2_relate rfl rfl rfl (by decide +kernel) ⟨Nat.le_of_ble_eq_true rfl, Nat.le_of_ble_eq_true rfl⟩) ⟨qPre_blind _, q_recv hK hP (oX2 isB_1) rfl, fun U hU hW => ⟨rfl, qPre_of hP hK hE hN hS U hU hW⟩⟩ rfl rfl hl.1 rfl (lv_room (Nat.le_of_ble_eq_true rfl)) dX8_bind_47 ⟨Nat.le_of_ble_eq_true rfl, Nat.le_of_ble_eq_true rfl⟩) hS (fun H locs hP hS => ?_)
      refine lv_iload hx hb dX8_bind_50 (lv_at hl 0 rfl) ?_
      have e9 := Option.some.inj hf
      have eI9 : I7 = Ie := (congrArg Prod.snd e9)
      exact W.iret hx hb hr (fun t ht _ => ⟨⟨_, (), rfl, (congrArg Prod.fst e9), by show qP D _ ad _ _ _ t.heap; rw [ht, ← eI9]; exact hP⟩, hS.F ht⟩) hS.2.2 dX8_bind_52
    · have hf := (if_ok hf).1 cc
      exact w_X8_bind_21 C hK hE hN    I _ _ _ hf (lv_sub hl [0] rfl) hP hS
abbrev r_X8_tell : Room := { frames := 2, cells := 0, slots := 0, locals := 44 }
theorem in_X8_tell_X2 : ∀ w ∈ u_ws RX2 TX2 13, w ∈ wsX8_tell := by decide +kernel
theorem in_X8_tell_X8 : ∀ w ∈ u_ws RX8 TX8 12, w ∈ wsX8_tell := by decide +kernel
set_option maxHeartbeats 4000000 in
set_option maxRecDepth 100000 in
theorem w_X8_tell_26 (C : qC p s m args meth c cX8_tell 4 RX8 wsX8_tell (some .int)) (hK : qK D cy sa s) (hE : qEnv sa va (qA xS ad) s s.heap) (hN : qN xS ad)   {J : qJ} {r : Int32} {Ie : qI} : ∀   (I : qI) (ls : Array Slot) (H : Heap) (locs : List Loc), f_X8_tell_26 I = some (r, Ie) → lv_has ls 4 [(0, .ref (ad 0))] → qP D xS ad (eX ad cy) I J H → va_S (qA xS ad) s.heap H locs → W p l e (headSpec wsX8_tell r_X8_tell).room s m args below meth c H locs 0 0 (MQ below (va_Qi (S := Unit) (fun x _ => x = r) (fun _ t => qP D xS ad (eX ad cy) Ie J t.heap) (qA xS ad)) args s 0 0 (qA xS ad)) (F0 m 26 ls []) := by
  have C0 := C
  obtain ⟨⟨hx, hb, hml, hown, hts⟩, hr, hlocks⟩ := C0
  intro I ls H locs hf hl hP hS
  unfold f_X8_tell_26 at hf
  refine lv_aload_n hx hb dX8_tell_26 rfl (lv_at hl 0 rfl) ?_
  refine lv_sipush (v := -1002) hx hb dX8_tell_27 (by decide) ?_
  obtain ⟨v1, I2, h3, hf⟩ := bd2_ok hf
  refine q_cEi (va_runV (As := [.int (-1002 : Int32)]) (rest := []) ⟨hx, hb, hml, hown, hts⟩ (c_X8_refuse l (D := D) (ad := ad) (cy := cy) (sa := sa) (va := va) (I := I) (J := J) (-1002 : Int32) h3) (cwV 1 hts gX8_tell_X8_refuse rfl rfl rfl (by decide +kernel) ⟨Nat.le_of_ble_eq_true rfl, Nat.le_of_ble_eq_true rfl⟩) ⟨qPre_blind _, q_recv hK hP oX8 rfl, fun U hU hW => ⟨rfl, qPre_of hP hK hE hN hS U hU hW⟩⟩ rfl rfl hl.1 rfl (lv_room (Nat.le_of_ble_eq_true rfl)) dX8_tell_30 ⟨Nat.le_of_ble_eq_true rfl, Nat.le_of_ble_eq_true rfl⟩) hS (fun H locs hP hS => ?_)
  have e9 := Option.some.inj hf
  have eI9 : I2 = Ie := (congrArg Prod.snd e9)
  exact W.iret hx hb hr (fun t ht _ => ⟨⟨_, (), rfl, (congrArg Prod.fst e9), by show qP D _ ad _ _ _ t.heap; rw [ht, ← eI9]; exact hP⟩, hS.F ht⟩) hS.2.2 dX8_tell_33
set_option maxHeartbeats 4000000 in
set_option maxRecDepth 100000 in
theorem c_X8_tell (l : Launch) {D : va_G} {ad : Nat → Nat} {cy : Nat → ClassId} {sa va : Nat → Nat} {I : qI} {J : qJ}   (p0 : Int32) (p1 : Int32) {r : Int32} {Ie : qI} (hf : f_X8_tell p0 p1 I = some (r, Ie)) : Met l yX8_tell wsX8_tell r_X8_tell (va_Pc [.ref (ad 0), .int p0, .int p1] (qPre D xS ad cy sa va (eX ad cy) I J)) (va_Qi (S := Unit) (fun x _ => x = r) (fun _ t => qP D xS ad (eX ad cy) Ie J t.heap) (qA xS ad)) 0 0 (qA xS ad) := by
  refine Met.ofW (cc := cX8_tell) (maxL := 4) (ret := (some .int)) (by decide) rfl ?_
  intro p e s m args below meth c s₁ B hml hv
  obtain ⟨rfl, hP, hK, hE, hN⟩ := hv
  have C : qC p s m _ meth c cX8_tell 4 RX8 wsX8_tell (some .int) := ⟨⟨B.exec, B.bytes, hml, findClass_of_methodNamed B.named, atoms_spec (ws := wsX8_tell) B.pre⟩, B.returns, B.notSynchronized⟩
  have C0 := C
  obtain ⟨⟨hx, hb, hml, hown, hts⟩, hr, hlocks⟩ := C0
  obtain ⟨tTOLD_LEAST, hZTOLD_LEAST, hTTOLD_LEAST⟩ := hE.1.2.2.1
  obtain ⟨tTOLD_MOST, hZTOLD_MOST, hTTOLD_MOST⟩ := hE.1.2.2.2
  have hS : va_S (qA xS ad) s.heap s.heap [] := va_S.rf
  have hl := lv_entry ([.ref (ad 0), .int p0, .int p1]) (n := 4) (Nat.le_of_ble_eq_true rfl)
  rw [lg_entry_eq]
  generalize (lg_sl ([.ref (ad 0), .int p0, .int p1]) ++ List.replicate (4 - (lg_sl ([.ref (ad 0), .int p0, .int p1])).length) Slot.unset).toArray = ls at hl ⊢
  have hl : lv_has ls 4 [(0, .ref (ad 0)), (1, .int p0), (2, .int p1)] := hl
  unfold f_X8_tell at hf
  refine lv_iload_n hx hb dX8_tell_0 rfl (lv_at hl 1 rfl) ?_
  refine lv_iconst (v := 0) hx hb dX8_tell_1 (by decide) ?_
  refine lv_iconst (v := 4) hx hb dX8_tell_2 (by decide) ?_
  obtain ⟨v1, h2, hf⟩ := bd_ok hf
  refine q_cSi (va_runS (As := [.int p0, .int (0 : Int32), .int (4 : Int32)]) (rest := []) ⟨hx, hb, hml, hown, hts⟩ (c_X8_within l (D := D) (ad := ad) (cy := cy) (sa := sa) (va := va) (I := I) (J := J) p0 (0 : Int32) (4 : Int32) h2) (va_cwS 3 hts gX8_tell_X8_within rfl rfl rfl (by decide +kernel) ⟨Nat.le_of_ble_eq_true rfl, Nat.le_of_ble_eq_true rfl⟩) ⟨qPre_blind _, fun U hU hW => ⟨rfl, qPre_of hP hK hE hN hS U hU hW⟩⟩ rfl rfl hl.1 rfl (lv_room (Nat.le_of_ble_eq_true rfl)) dX8_tell_3 ⟨Nat.le_of_ble_eq_true rfl, Nat.le_of_ble_eq_true rfl⟩) ?_
  refine lv_if_eq (tgt := 26) hx hb dX8_tell_6 (by decide) (fun cc => ?_) (fun cc => ?_)
  · have hf := (if_ok hf).1 cc
    exact w_X8_tell_26 C hK hE hN    I _ _ _ hf (lv_sub hl [0] rfl) hP hS
  · have hf := (if_ok hf).2 cc
    refine lv_iload_n hx hb dX8_tell_9 rfl (lv_at hl 2 rfl) ?_
    refine va_gets (C := RX8) (v := .ref tTOLD_LEAST) hx hb hZTOLD_LEAST hS hown (hts (.fieldLink RX8 173 "RowsOnlyPrimes" "TOLD_LEAST" "[I") (by decide +kernel)) (fun _ h9 => h9) dX8_tell_10 ?_
    refine lv_iload_n hx hb dX8_tell_13 rfl (lv_at hl 1 rfl) ?_
    obtain ⟨g3, hf⟩ := gd_ok hf
    refine q_stat (tab := qTab2) hx hb hTTOLD_LEAST hS g3 dX8_tell_14 ?_
    refine va_gets (C := RX8) (v := .ref tTOLD_MOST) hx hb hZTOLD_MOST hS hown (hts (.fieldLink RX8 176 "RowsOnlyPrimes" "TOLD_MOST" "[I") (by decide +kernel)) (fun _ h9 => h9) dX8_tell_15 ?_
    refine lv_iload_n hx hb dX8_tell_18 rfl (lv_at hl 1 rfl) ?_
    obtain ⟨g4, hf⟩ := gd_ok hf
    refine q_stat (tab := qTab3) hx hb hTTOLD_MOST hS g4 dX8_tell_19 ?_
    obtain ⟨v5, h6, hf⟩ := bd_ok hf
    refine q_cSi (va_runS (As := [.int p1, .int (qTab2.getD p0.toNatClampNeg 0), .int (qTab3.getD p0.toNatClampNeg 0)]) (rest := []) ⟨hx, hb, hml, hown, hts⟩ (c_X8_within l (D := D) (ad := ad) (cy := cy) (sa := sa) (va := va) (I := I) (J := J) p1 (qTab2.getD p0.toNatClampNeg 0) (qTab3.getD p0.toNatClampNeg 0) h6) (va_cwS 3 hts gX8_tell_X8_within rfl rfl rfl (by decide +kernel) ⟨Nat.le_of_ble_eq_true rfl, Nat.le_of_ble_eq_true rfl⟩) ⟨qPre_blind _, fun U hU hW => ⟨rfl, qPre_of hP hK hE hN hS U hU hW⟩⟩ rfl rfl hl.1 rfl (lv_room (Nat.le_of_ble_eq_true rfl)) dX8_tell_20 ⟨Nat.le_of_ble_eq_true rfl, Nat.le_of_ble_eq_true rfl⟩) ?_
    refine lv_if_ne (tgt := 34) hx hb dX8_tell_23 (by decide) (fun cc => ?_) (fun cc => ?_)
    · have hf := (if_ok hf).2 cc
      refine lv_aload_n hx hb dX8_tell_34 rfl (lv_at hl 0 rfl) ?_
      refine q_get (C := RX8) (T := TX8) (N := 12) (ci := 8) (v := .ref (ad 1)) hx hb hts in_X8_tell_X8 hown hK hP oX8 rfl 0 (by decide) (hts (.fieldLink RX8 12 "RowsOnlyPrimes" "now" "LRowsOnlyPrimes$Bank;") (by decide +kernel)) (fun _ h9 => h9) rfl dX8_tell_35 ?_
      refine q_get (C := RX2) (T := TX2) (N := 13) (ci := 2) (v := .ref (ad (1 + 7))) hx hb hts in_X8_tell_X2 hown hK hP (oX2 isB_1) rfl 6 (by decide) (hts (.fieldLink RX8 179 "RowsOnlyPrimes$Bank" "told" "[I") (by decide +kernel)) (fun _ h9 => h9) rfl dX8_tell_38 ?_
      refine lv_iload_n hx hb dX8_tell_41 rfl (lv_at hl 1 rfl) ?_
      obtain ⟨g7, hf⟩ := gd_ok hf
      refine q_iald hx hb hK hP (aX2_7 isB_1) g7 dX8_tell_42 ?_
      refine lv_istore_n (lv' := [(3, .int (I (1 + 7) p0.toNatClampNeg)), (0, .ref (ad 0)), (1, .int p0), (2, .int p1)]) hx hb dX8_tell_43 rfl hl (by decide) rfl (fun ls hl => ?_)
      refine lv_aload_n hx hb dX8_tell_44 rfl (lv_at hl 1 rfl) ?_
      refine q_get (C := RX8) (T := TX8) (N := 12) (ci := 8) (v := .ref (ad 1)) hx hb hts in_X8_tell_X8 hown hK hP oX8 rfl 0 (by decide) (hts (.fieldLink RX8 12 "RowsOnlyPrimes" "now" "LRowsOnlyPrimes$Bank;") (by decide +kernel)) (fun _ h9 => h9) rfl dX8_tell_45 ?_
      refine q_get (C := RX2) (T := TX2) (N := 13) (ci := 2) (v := .ref (ad (1 + 7))) hx hb hts in_X8_tell_X2 hown hK hP (oX2 isB_1) rfl 6 (by decide) (hts (.fieldLink RX8 179 "RowsOnlyPrimes$Bank" "told" "[I") (by decide +kernel)) (fun _ h9 => h9) rfl dX8_tell_48 ?_
      refine lv_iload_n hx hb dX8_tell_51 rfl (lv_at hl 2 rfl) ?_
      refine lv_iload_n hx hb dX8_tell_52 rfl (lv_at hl 3 rfl) ?_
      obtain ⟨g8, hf⟩ := gd_ok hf
      obtain ⟨I9, eI9, hf⟩ := lt_ok hf
      refine q_iast hx hb hK hP hN hS (aX2_7 isB_1) g8 dX8_tell_53 (fun H locs hP hS => ?_)
      have hP : qP D xS ad (eX ad cy) I9 J H := by rw [eI9]; exact hP
      refine lv_iload_n hx hb dX8_tell_54 rfl (lv_at hl 0 rfl) ?_
      have e9 := Option.some.inj hf
      have eI9 : I9 = Ie := (congrArg Prod.snd e9)
      exact W.iret hx hb hr (fun t ht _ => ⟨⟨_, (), rfl, (congrArg Prod.fst e9), by show qP D _ ad _ _ _ t.heap; rw [ht, ← eI9]; exact hP⟩, hS.F ht⟩) hS.2.2 dX8_tell_55
    · have hf := (if_ok hf).1 cc
      exact w_X8_tell_26 C hK hE hN    I _ _ _ hf (lv_sub hl [0] rfl) hP hS
abbrev r_X8_feed : Room := { frames := 2, cells := 0, slots := 0, locals := 44 }
theorem in_X8_feed_X7 : ∀ w ∈ u_ws RX7 TX7 6, w ∈ wsX8_feed := by decide +kernel
theorem in_X8_feed_X8 : ∀ w ∈ u_ws RX8 TX8 12, w ∈ wsX8_feed := by decide +kernel
set_option maxHeartbeats 4000000 in
set_option maxRecDepth 100000 in
theorem c_X8_feed (l : Launch) {D : va_G} {ad : Nat → Nat} {cy : Nat → ClassId} {sa va : Nat → Nat} {I : qI} {J : qJ}   (p0 : Int32) {r : Int32} {Ie : qI} (hf : f_X8_feed p0 I = some (r, Ie)) : Met l yX8_feed wsX8_feed r_X8_feed (va_Pc [.ref (ad 0), .int p0] (qPre D xS ad cy sa va (eX ad cy) I J)) (va_Qi (S := Unit) (fun x _ => x = r) (fun _ t => qP D xS ad (eX ad cy) Ie J t.heap) (qA xS ad)) 0 0 (qA xS ad) := by
  refine Met.ofW (cc := cX8_feed) (maxL := 2) (ret := (some .int)) (by decide) rfl ?_
  intro p e s m args below meth c s₁ B hml hv
  obtain ⟨rfl, hP, hK, hE, hN⟩ := hv
  have C : qC p s m _ meth c cX8_feed 2 RX8 wsX8_feed (some .int) := ⟨⟨B.exec, B.bytes, hml, findClass_of_methodNamed B.named, atoms_spec (ws := wsX8_feed) B.pre⟩, B.returns, B.notSynchronized⟩
  have C0 := C
  obtain ⟨⟨hx, hb, hml, hown, hts⟩, hr, hlocks⟩ := C0
  have hS : va_S (qA xS ad) s.heap s.heap [] := va_S.rf
  have hl := lv_entry ([.ref (ad 0), .int p0]) (n := 2) (Nat.le_of_ble_eq_true rfl)
  rw [lg_entry_eq]
  generalize (lg_sl ([.ref (ad 0), .int p0]) ++ List.replicate (2 - (lg_sl ([.ref (ad 0), .int p0])).length) Slot.unset).toArray = ls at hl ⊢
  have hl : lv_has ls 2 [(0, .ref (ad 0)), (1, .int p0)] := hl
  unfold f_X8_feed at hf
  refine lv_iload_n hx hb dX8_feed_0 rfl (lv_at hl 1 rfl) ?_
  refine lv_iconst (v := 0) hx hb dX8_feed_1 (by decide) ?_
  refine lv_sipush (v := 255) hx hb dX8_feed_2 (by decide) ?_
  obtain ⟨v1, h2, hf⟩ := bd_ok hf
  refine q_cSi (va_runS (As := [.int p0, .int (0 : Int32), .int (255 : Int32)]) (rest := []) ⟨hx, hb, hml, hown, hts⟩ (c_X8_within l (D := D) (ad := ad) (cy := cy) (sa := sa) (va := va) (I := I) (J := J) p0 (0 : Int32) (255 : Int32) h2) (va_cwS 3 hts gX8_feed_X8_within rfl rfl rfl (by decide +kernel) ⟨Nat.le_of_ble_eq_true rfl, Nat.le_of_ble_eq_true rfl⟩) ⟨qPre_blind _, fun U hU hW => ⟨rfl, qPre_of hP hK hE hN hS U hU hW⟩⟩ rfl rfl hl.1 rfl (lv_room (Nat.le_of_ble_eq_true rfl)) dX8_feed_5 ⟨Nat.le_of_ble_eq_true rfl, Nat.le_of_ble_eq_true rfl⟩) ?_
  refine lv_if_ne (tgt := 19) hx hb dX8_feed_8 (by decide) (fun cc => ?_) (fun cc => ?_)
  · have hf := (if_ok hf).2 cc
    refine lv_aload_n hx hb dX8_feed_19 rfl (lv_at hl 0 rfl) ?_
    refine q_get (C := RX8) (T := TX8) (N := 12) (ci := 8) (v := .ref (ad 25)) hx hb hts in_X8_feed_X8 hown hK hP oX8 rfl 3 (by decide) (hts (.fieldLink RX8 25 "RowsOnlyPrimes" "tape" "LRowsOnlyPrimes$Tape;") (by decide +kernel)) (fun _ h9 => h9) rfl dX8_feed_20 ?_
    refine lv_iload_n hx hb dX8_feed_23 rfl (lv_at hl 1 rfl) ?_
    obtain ⟨v3, I4, h5, hf⟩ := bd2_ok hf
    refine q_cEi (va_runV (As := [.int p0]) (rest := []) ⟨hx, hb, hml, hown, hts⟩ (c_X7_append l (D := D) (ad := ad) (cy := cy) (sa := sa) (va := va) (I := I) (J := J) p0 h5) (cwV 1 hts gX8_feed_X7_append rfl rfl rfl (by decide +kernel) ⟨Nat.le_of_ble_eq_true rfl, Nat.le_of_ble_eq_true rfl⟩) ⟨qPre_blind _, q_recv hK hP oX7 rfl, fun U hU hW => ⟨rfl, qPre_of hP hK hE hN hS U hU hW⟩⟩ rfl rfl hl.1 rfl (lv_room (Nat.le_of_ble_eq_true rfl)) dX8_feed_24 ⟨Nat.le_of_ble_eq_true rfl, Nat.le_of_ble_eq_true rfl⟩) hS (fun H locs hP hS => ?_)
    refine lv_if_eq (tgt := 40) hx hb dX8_feed_27 (by decide) (fun cc => ?_) (fun cc => ?_)
    · have hf := (if_ok hf).1 cc
      refine lv_aload_n hx hb dX8_feed_40 rfl (lv_at hl 0 rfl) ?_
      refine lv_sipush (v := -1006) hx hb dX8_feed_41 (by decide) ?_
      obtain ⟨v6, I7, h8, hf⟩ := bd2_ok hf
      refine q_cEi (va_runV (As := [.int (-1006 : Int32)]) (rest := []) ⟨hx, hb, hml, hown, hts⟩ (c_X8_refuse l (D := D) (ad := ad) (cy := cy) (sa := sa) (va := va) (I := I4) (J := J) (-1006 : Int32) h8) (cwV 1 hts gX8_feed_X8_refuse rfl rfl rfl (by decide +kernel) ⟨Nat.le_of_ble_eq_true rfl, Nat.le_of_ble_eq_true rfl⟩) ⟨qPre_blind _, q_recv hK hP oX8 rfl, fun U hU hW => ⟨rfl, qPre_of hP hK hE hN hS U hU hW⟩⟩ rfl rfl hl.1 rfl (lv_room (Nat.le_of_ble_eq_true rfl)) dX8_feed_44 ⟨Nat.le_of_ble_eq_true rfl, Nat.le_of_ble_eq_true rfl⟩) hS (fun H locs hP hS => ?_)
      have e9 := Option.some.inj hf
      have eI9 : I7 = Ie := (congrArg Prod.snd e9)
      exact W.iret hx hb hr (fun t ht _ => ⟨⟨_, (), rfl, (congrArg Prod.fst e9), by show qP D _ ad _ _ _ t.heap; rw [ht, ← eI9]; exact hP⟩, hS.F ht⟩) hS.2.2 dX8_feed_47
    · have hf := (if_ok hf).2 cc
      refine lv_aload_n hx hb dX8_feed_30 rfl (lv_at hl 0 rfl) ?_
      refine q_get (C := RX8) (T := TX8) (N := 12) (ci := 8) (v := .ref (ad 25)) hx hb hts in_X8_feed_X8 hown hK hP oX8 rfl 3 (by decide) (hts (.fieldLink RX8 25 "RowsOnlyPrimes" "tape" "LRowsOnlyPrimes$Tape;") (by decide +kernel)) (fun _ h9 => h9) rfl dX8_feed_31 ?_
      refine q_get (C := RX7) (T := TX7) (N := 6) (ci := 7) (v := .int (I4 25 1)) hx hb hts in_X8_feed_X7 hown hK hP oX7 rfl 1 (by decide) (hts (.fieldLink RX8 185 "RowsOnlyPrimes$Tape" "length" "I") (by decide +kernel)) (fun _ h9 => h9) rfl dX8_feed_34 ?_
      refine lv_goto (tgt := 47) hx hb dX8_feed_37 (by decide) ?_
      have e9 := Option.some.inj hf
      have eI9 : I4 = Ie := (congrArg Prod.snd e9)
      exact W.iret hx hb hr (fun t ht _ => ⟨⟨_, (), rfl, (congrArg Prod.fst e9), by show qP D _ ad _ _ _ t.heap; rw [ht, ← eI9]; exact hP⟩, hS.F ht⟩) hS.2.2 dX8_feed_47
  · have hf := (if_ok hf).1 cc
    refine lv_aload_n hx hb dX8_feed_11 rfl (lv_at hl 0 rfl) ?_
    refine lv_sipush (v := -1002) hx hb dX8_feed_12 (by decide) ?_
    obtain ⟨v9, I10, h11, hf⟩ := bd2_ok hf
    refine q_cEi (va_runV (As := [.int (-1002 : Int32)]) (rest := []) ⟨hx, hb, hml, hown, hts⟩ (c_X8_refuse l (D := D) (ad := ad) (cy := cy) (sa := sa) (va := va) (I := I) (J := J) (-1002 : Int32) h11) (cwV 1 hts gX8_feed_X8_refuse rfl rfl rfl (by decide +kernel) ⟨Nat.le_of_ble_eq_true rfl, Nat.le_of_ble_eq_true rfl⟩) ⟨qPre_blind _, q_recv hK hP oX8 rfl, fun U hU hW => ⟨rfl, qPre_of hP hK hE hN hS U hU hW⟩⟩ rfl rfl hl.1 rfl (lv_room (Nat.le_of_ble_eq_true rfl)) dX8_feed_15 ⟨Nat.le_of_ble_eq_true rfl, Nat.le_of_ble_eq_true rfl⟩) hS (fun H locs hP hS => ?_)
    have e9 := Option.some.inj hf
    have eI9 : I10 = Ie := (congrArg Prod.snd e9)
    exact W.iret hx hb hr (fun t ht _ => ⟨⟨_, (), rfl, (congrArg Prod.fst e9), by show qP D _ ad _ _ _ t.heap; rw [ht, ← eI9]; exact hP⟩, hS.F ht⟩) hS.2.2 dX8_feed_18
abbrev r_X8_wipe : Room := { frames := 0, cells := 0, slots := 0, locals := 0 }
theorem in_X8_wipe_X7 : ∀ w ∈ u_ws RX7 TX7 6, w ∈ wsX8_wipe := by decide +kernel
theorem in_X8_wipe_X8 : ∀ w ∈ u_ws RX8 TX8 12, w ∈ wsX8_wipe := by decide +kernel
set_option maxHeartbeats 4000000 in
set_option maxRecDepth 100000 in
theorem c_X8_wipe (l : Launch) {D : va_G} {ad : Nat → Nat} {cy : Nat → ClassId} {sa va : Nat → Nat} {I : qI} {J : qJ}    {r : Int32} {Ie : qI} (hf : f_X8_wipe I = some (r, Ie)) : Met l yX8_wipe wsX8_wipe r_X8_wipe (va_Pc [.ref (ad 0)] (qPre D xS ad cy sa va (eX ad cy) I J)) (va_Qi (S := Unit) (fun x _ => x = r) (fun _ t => qP D xS ad (eX ad cy) Ie J t.heap) (qA xS ad)) 0 0 (qA xS ad) := by
  refine Met.ofW (cc := cX8_wipe) (maxL := 2) (ret := (some .int)) (by decide) rfl ?_
  intro p e s m args below meth c s₁ B hml hv
  obtain ⟨rfl, hP, hK, hE, hN⟩ := hv
  have C : qC p s m _ meth c cX8_wipe 2 RX8 wsX8_wipe (some .int) := ⟨⟨B.exec, B.bytes, hml, findClass_of_methodNamed B.named, atoms_spec (ws := wsX8_wipe) B.pre⟩, B.returns, B.notSynchronized⟩
  have C0 := C
  obtain ⟨⟨hx, hb, hml, hown, hts⟩, hr, hlocks⟩ := C0
  have hS : va_S (qA xS ad) s.heap s.heap [] := va_S.rf
  have hl := lv_entry ([.ref (ad 0)]) (n := 2) (Nat.le_of_ble_eq_true rfl)
  rw [lg_entry_eq]
  generalize (lg_sl ([.ref (ad 0)]) ++ List.replicate (2 - (lg_sl ([.ref (ad 0)])).length) Slot.unset).toArray = ls at hl ⊢
  have hl : lv_has ls 2 [(0, .ref (ad 0))] := hl
  unfold f_X8_wipe at hf
  refine lv_aload_n hx hb dX8_wipe_0 rfl (lv_at hl 0 rfl) ?_
  refine q_get (C := RX8) (T := TX8) (N := 12) (ci := 8) (v := .ref (ad 25)) hx hb hts in_X8_wipe_X8 hown hK hP oX8 rfl 3 (by decide) (hts (.fieldLink RX8 25 "RowsOnlyPrimes" "tape" "LRowsOnlyPrimes$Tape;") (by decide +kernel)) (fun _ h9 => h9) rfl dX8_wipe_1 ?_
  refine q_get (C := RX7) (T := TX7) (N := 6) (ci := 7) (v := .int (I 25 1)) hx hb hts in_X8_wipe_X7 hown hK hP oX7 rfl 1 (by decide) (hts (.fieldLink RX8 185 "RowsOnlyPrimes$Tape" "length" "I") (by decide +kernel)) (fun _ h9 => h9) rfl dX8_wipe_4 ?_
  refine lv_istore_n (lv' := [(1, .int (I 25 1)), (0, .ref (ad 0))]) hx hb dX8_wipe_7 rfl hl (by decide) rfl (fun ls hl => ?_)
  refine lv_aload_n hx hb dX8_wipe_8 rfl (lv_at hl 1 rfl) ?_
  refine q_get (C := RX8) (T := TX8) (N := 12) (ci := 8) (v := .ref (ad 25)) hx hb hts in_X8_wipe_X8 hown hK hP oX8 rfl 3 (by decide) (hts (.fieldLink RX8 25 "RowsOnlyPrimes" "tape" "LRowsOnlyPrimes$Tape;") (by decide +kernel)) (fun _ h9 => h9) rfl dX8_wipe_9 ?_
  refine lv_iconst (v := 0) hx hb dX8_wipe_12 (by decide) ?_
  obtain ⟨I1, eI1, hf⟩ := lt_ok hf
  refine q_put (C := RX7) (T := TX7) (N := 6) (ci := 7) (v := .int (0 : Int32)) (x := (0 : Int32)) (ty := .int) hx hb hts in_X8_wipe_X7 tyX7 tyX7_ok nmX7 hown hK hP hN hS oX7 rfl 1 (by decide) (hts (.fieldLink RX8 185 "RowsOnlyPrimes$Tape" "length" "I") (by decide +kernel)) (fun _ h9 => h9) rfl (by decide +kernel) rfl rfl (fun _ _ => rfl) (fun _ _ => Nat.le_of_ble_eq_true rfl) dX8_wipe_13 (fun H locs hP hS => ?_)
  rw [← eI1] at hP
  refine lv_iload_n hx hb dX8_wipe_16 rfl (lv_at hl 0 rfl) ?_
  have e9 := Option.some.inj hf
  have eI9 : I1 = Ie := (congrArg Prod.snd e9)
  exact W.iret hx hb hr (fun t ht _ => ⟨⟨_, (), rfl, (congrArg Prod.fst e9), by show qP D _ ad _ _ _ t.heap; rw [ht, ← eI9]; exact hP⟩, hS.F ht⟩) hS.2.2 dX8_wipe_17
abbrev r_X8_bank : Room := { frames := 9, cells := 0, slots := 0, locals := 191 }
theorem in_X8_bank_X7 : ∀ w ∈ u_ws RX7 TX7 6, w ∈ wsX8_bank := by decide +kernel
theorem in_X8_bank_X8 : ∀ w ∈ u_ws RX8 TX8 12, w ∈ wsX8_bank := by decide +kernel
set_option maxHeartbeats 4000000 in
set_option maxRecDepth 100000 in
theorem w_X8_bank_43 (C : qC p s m args meth c cX8_bank 3 RX8 wsX8_bank (some .int)) (hK : qK D cy sa s) (hE : qEnv sa va (qA xS ad) s s.heap) (hN : qN xS ad)   {J : qJ} {r : Int32} {Ie : qI} : ∀ (x1 : Int32) (xs0 : Int32)  (I : qI) (ls : Array Slot) (H : Heap) (locs : List Loc), f_X8_bank_43 x1 xs0 I = some (r, Ie) → lv_has ls 3 [(0, .ref (ad 0)), (1, .int x1)] → qP D xS ad (eX ad cy) I J H → va_S (qA xS ad) s.heap H locs → W p l e (headSpec wsX8_bank r_X8_bank).room s m args below meth c H locs 0 0 (MQ below (va_Qi (S := Unit) (fun x _ => x = r) (fun _ t => qP D xS ad (eX ad cy) Ie J t.heap) (qA xS ad)) args s 0 0 (qA xS ad)) (F0 m 43 ls [.int xs0]) := by
  have C0 := C
  obtain ⟨⟨hx, hb, hml, hown, hts⟩, hr, hlocks⟩ := C0
  intro x1 xs0 I ls H locs hf hl hP hS
  unfold f_X8_bank_43 at hf
  refine lv_istore_n (lv' := [(2, .int xs0), (0, .ref (ad 0)), (1, .int x1)]) hx hb dX8_bank_43 rfl hl (by decide) rfl (fun ls hl => ?_)
  refine lv_aload_n hx hb dX8_bank_44 rfl (lv_at hl 1 rfl) ?_
  refine q_get (C := RX8) (T := TX8) (N := 12) (ci := 8) (v := .ref (ad 25)) hx hb hts in_X8_bank_X8 hown hK hP oX8 rfl 3 (by decide) (hts (.fieldLink RX8 25 "RowsOnlyPrimes" "tape" "LRowsOnlyPrimes$Tape;") (by decide +kernel)) (fun _ h9 => h9) rfl dX8_bank_45 ?_
  refine lv_iconst (v := 0) hx hb dX8_bank_48 (by decide) ?_
  obtain ⟨I1, eI1, hf⟩ := lt_ok hf
  refine q_put (C := RX7) (T := TX7) (N := 6) (ci := 7) (v := .int (0 : Int32)) (x := (0 : Int32)) (ty := .int) hx hb hts in_X8_bank_X7 tyX7 tyX7_ok nmX7 hown hK hP hN hS oX7 rfl 1 (by decide) (hts (.fieldLink RX8 185 "RowsOnlyPrimes$Tape" "length" "I") (by decide +kernel)) (fun _ h9 => h9) rfl (by decide +kernel) rfl rfl (fun _ _ => rfl) (fun _ _ => Nat.le_of_ble_eq_true rfl) dX8_bank_49 (fun H locs hP hS => ?_)
  rw [← eI1] at hP
  refine lv_iload_n hx hb dX8_bank_52 rfl (lv_at hl 2 rfl) ?_
  refine lv_iconst (v := -1) hx hb dX8_bank_53 (by decide) ?_
  refine lv_icmp_ne (tgt := 68) hx hb dX8_bank_54 (by decide) (fun cc => ?_) (fun cc => ?_)
  · have hf := (if_ok hf).2 cc
    refine lv_aload_n hx hb dX8_bank_68 rfl (lv_at hl 1 rfl) ?_
    refine q_get (C := RX8) (T := TX8) (N := 12) (ci := 8) (v := .ref (ad 1)) hx hb hts in_X8_bank_X8 hown hK hP oX8 rfl 0 (by decide) (hts (.fieldLink RX8 12 "RowsOnlyPrimes" "now" "LRowsOnlyPrimes$Bank;") (by decide +kernel)) (fun _ h9 => h9) rfl dX8_bank_69 ?_
    refine lv_aload_n hx hb dX8_bank_72 rfl (lv_at hl 1 rfl) ?_
    refine q_get (C := RX8) (T := TX8) (N := 12) (ci := 8) (v := .ref (ad 17)) hx hb hts in_X8_bank_X8 hown hK hP oX8 rfl 2 (by decide) (hts (.fieldLink RX8 19 "RowsOnlyPrimes" "draft" "LRowsOnlyPrimes$Bank;") (by decide +kernel)) (fun _ h9 => h9) rfl dX8_bank_73 ?_
    obtain ⟨I2, h3, hf⟩ := bd_ok hf
    refine q_cEv (va_runV (As := [.ref (ad 17)]) (rest := []) ⟨hx, hb, hml, hown, hts⟩ (c_X2_become l (D := D) (ad := ad) (cy := cy) (sa := sa) (va := va) (I := I1) (J := J) 1 17 isB_1 isB_17 h3) (cwV 1 hts gX8_bank_X2_become rfl rfl rfl (by decide +kernel) ⟨Nat.le_of_ble_eq_true rfl, Nat.le_of_ble_eq_true rfl⟩) ⟨qPre_blind _, q_recv hK hP (oX2 isB_1) rfl, fun U hU hW => ⟨rfl, qPre_of hP hK hE hN hS U hU hW⟩⟩ rfl rfl hl.1 rfl (lv_room (Nat.le_of_ble_eq_true rfl)) dX8_bank_76 ⟨Nat.le_of_ble_eq_true rfl, Nat.le_of_ble_eq_true rfl⟩) hS (fun H locs hP hS => ?_)
    refine lv_iload_n hx hb dX8_bank_79 rfl (lv_at hl 0 rfl) ?_
    have e9 := Option.some.inj hf
    have eI9 : I2 = Ie := (congrArg Prod.snd e9)
    exact W.iret hx hb hr (fun t ht _ => ⟨⟨_, (), rfl, (congrArg Prod.fst e9), by show qP D _ ad _ _ _ t.heap; rw [ht, ← eI9]; exact hP⟩, hS.F ht⟩) hS.2.2 dX8_bank_80
  · have hf := (if_ok hf).1 cc
    refine lv_aload_n hx hb dX8_bank_57 rfl (lv_at hl 1 rfl) ?_
    refine lv_sipush (v := -1002) hx hb dX8_bank_58 (by decide) ?_
    obtain ⟨v4, I5, h6, hf⟩ := bd2_ok hf
    refine q_cEi (va_runV (As := [.int (-1002 : Int32)]) (rest := []) ⟨hx, hb, hml, hown, hts⟩ (c_X8_refuse l (D := D) (ad := ad) (cy := cy) (sa := sa) (va := va) (I := I1) (J := J) (-1002 : Int32) h6) (cwV 1 hts gX8_bank_X8_refuse rfl rfl rfl (by decide +kernel) ⟨Nat.le_of_ble_eq_true rfl, Nat.le_of_ble_eq_true rfl⟩) ⟨qPre_blind _, q_recv hK hP oX8 rfl, fun U hU hW => ⟨rfl, qPre_of hP hK hE hN hS U hU hW⟩⟩ rfl rfl hl.1 rfl (lv_room (Nat.le_of_ble_eq_true rfl)) dX8_bank_61 ⟨Nat.le_of_ble_eq_true rfl, Nat.le_of_ble_eq_true rfl⟩) hS (fun H locs hP hS => ?_)
    refine lv_pop hx hb dX8_bank_64 rfl ?_
    refine lv_goto (tgt := 79) hx hb dX8_bank_65 (by decide) ?_
    refine lv_iload_n hx hb dX8_bank_79 rfl (lv_at hl 0 rfl) ?_
    have e9 := Option.some.inj hf
    have eI9 : I5 = Ie := (congrArg Prod.snd e9)
    exact W.iret hx hb hr (fun t ht _ => ⟨⟨_, (), rfl, (congrArg Prod.fst e9), by show qP D _ ad _ _ _ t.heap; rw [ht, ← eI9]; exact hP⟩, hS.F ht⟩) hS.2.2 dX8_bank_80
set_option maxHeartbeats 4000000 in
set_option maxRecDepth 100000 in
theorem c_X8_bank (l : Launch) {D : va_G} {ad : Nat → Nat} {cy : Nat → ClassId} {sa va : Nat → Nat} {I : qI} {J : qJ}    {r : Int32} {Ie : qI} (hf : f_X8_bank I = some (r, Ie)) : Met l yX8_bank wsX8_bank r_X8_bank (va_Pc [.ref (ad 0)] (qPre D xS ad cy sa va (eX ad cy) I J)) (va_Qi (S := Unit) (fun x _ => x = r) (fun _ t => qP D xS ad (eX ad cy) Ie J t.heap) (qA xS ad)) 0 0 (qA xS ad) := by
  refine Met.ofW (cc := cX8_bank) (maxL := 3) (ret := (some .int)) (by decide) rfl ?_
  intro p e s m args below meth c s₁ B hml hv
  obtain ⟨rfl, hP, hK, hE, hN⟩ := hv
  have C : qC p s m _ meth c cX8_bank 3 RX8 wsX8_bank (some .int) := ⟨⟨B.exec, B.bytes, hml, findClass_of_methodNamed B.named, atoms_spec (ws := wsX8_bank) B.pre⟩, B.returns, B.notSynchronized⟩
  have C0 := C
  obtain ⟨⟨hx, hb, hml, hown, hts⟩, hr, hlocks⟩ := C0
  have hS : va_S (qA xS ad) s.heap s.heap [] := va_S.rf
  have hl := lv_entry ([.ref (ad 0)]) (n := 3) (Nat.le_of_ble_eq_true rfl)
  rw [lg_entry_eq]
  generalize (lg_sl ([.ref (ad 0)]) ++ List.replicate (3 - (lg_sl ([.ref (ad 0)])).length) Slot.unset).toArray = ls at hl ⊢
  have hl : lv_has ls 3 [(0, .ref (ad 0))] := hl
  unfold f_X8_bank at hf
  refine lv_aload_n hx hb dX8_bank_0 rfl (lv_at hl 0 rfl) ?_
  refine q_get (C := RX8) (T := TX8) (N := 12) (ci := 8) (v := .ref (ad 17)) hx hb hts in_X8_bank_X8 hown hK hP oX8 rfl 2 (by decide) (hts (.fieldLink RX8 19 "RowsOnlyPrimes" "draft" "LRowsOnlyPrimes$Bank;") (by decide +kernel)) (fun _ h9 => h9) rfl dX8_bank_1 ?_
  refine lv_aload_n hx hb dX8_bank_4 rfl (lv_at hl 0 rfl) ?_
  refine q_get (C := RX8) (T := TX8) (N := 12) (ci := 8) (v := .ref (ad 1)) hx hb hts in_X8_bank_X8 hown hK hP oX8 rfl 0 (by decide) (hts (.fieldLink RX8 12 "RowsOnlyPrimes" "now" "LRowsOnlyPrimes$Bank;") (by decide +kernel)) (fun _ h9 => h9) rfl dX8_bank_5 ?_
  obtain ⟨I1, h2, hf⟩ := bd_ok hf
  refine q_cEv (va_runV (As := [.ref (ad 1)]) (rest := []) ⟨hx, hb, hml, hown, hts⟩ (c_X2_become l (D := D) (ad := ad) (cy := cy) (sa := sa) (va := va) (I := I) (J := J) 17 1 isB_17 isB_1 h2) (cwV 1 hts gX8_bank_X2_become rfl rfl rfl (by decide +kernel) ⟨Nat.le_of_ble_eq_true rfl, Nat.le_of_ble_eq_true rfl⟩) ⟨qPre_blind _, q_recv hK hP (oX2 isB_17) rfl, fun U hU hW => ⟨rfl, qPre_of hP hK hE hN hS U hU hW⟩⟩ rfl rfl hl.1 rfl (lv_room (Nat.le_of_ble_eq_true rfl)) dX8_bank_8 ⟨Nat.le_of_ble_eq_true rfl, Nat.le_of_ble_eq_true rfl⟩) hS (fun H locs hP hS => ?_)
  refine lv_aload_n hx hb dX8_bank_11 rfl (lv_at hl 0 rfl) ?_
  refine q_get (C := RX8) (T := TX8) (N := 12) (ci := 8) (v := .ref (ad 25)) hx hb hts in_X8_bank_X8 hown hK hP oX8 rfl 3 (by decide) (hts (.fieldLink RX8 25 "RowsOnlyPrimes" "tape" "LRowsOnlyPrimes$Tape;") (by decide +kernel)) (fun _ h9 => h9) rfl dX8_bank_12 ?_
  refine lv_aload_n hx hb dX8_bank_15 rfl (lv_at hl 0 rfl) ?_
  refine q_get (C := RX8) (T := TX8) (N := 12) (ci := 8) (v := .ref (ad 17)) hx hb hts in_X8_bank_X8 hown hK hP oX8 rfl 2 (by decide) (hts (.fieldLink RX8 19 "RowsOnlyPrimes" "draft" "LRowsOnlyPrimes$Bank;") (by decide +kernel)) (fun _ h9 => h9) rfl dX8_bank_16 ?_
  obtain ⟨v3, I4, h5, hf⟩ := bd2_ok hf
  refine q_cEi (va_runV (As := [.ref (ad 17)]) (rest := []) ⟨hx, hb, hml, hown, hts⟩ (c_X7_readInto l (D := D) (ad := ad) (cy := cy) (sa := sa) (va := va) (I := I1) (J := J) 17 isB_17 h5) (cwV 1 hts gX8_bank_X7_readInto rfl rfl rfl (by decide +kernel) ⟨Nat.le_of_ble_eq_true rfl, Nat.le_of_ble_eq_true rfl⟩) ⟨qPre_blind _, q_recv hK hP oX7 rfl, fun U hU hW => ⟨rfl, qPre_of hP hK hE hN hS U hU hW⟩⟩ rfl rfl hl.1 rfl (lv_room (Nat.le_of_ble_eq_true rfl)) dX8_bank_19 ⟨Nat.le_of_ble_eq_true rfl, Nat.le_of_ble_eq_true rfl⟩) hS (fun H locs hP hS => ?_)
  refine lv_istore_n (lv' := [(1, .int v3), (0, .ref (ad 0))]) hx hb dX8_bank_22 rfl hl (by decide) rfl (fun ls hl => ?_)
  refine lv_iload_n hx hb dX8_bank_23 rfl (lv_at hl 0 rfl) ?_
  refine lv_iconst (v := -1) hx hb dX8_bank_24 (by decide) ?_
  refine lv_icmp_ne (tgt := 42) hx hb dX8_bank_25 (by decide) (fun cc => ?_) (fun cc => ?_)
  · have hf := (if_ok hf).2 cc
    refine lv_iload_n hx hb dX8_bank_42 rfl (lv_at hl 0 rfl) ?_
    exact w_X8_bank_43 C hK hE hN    v3 v3 I4 _ _ _ hf (lv_sub hl [1, 0] rfl) hP hS
  · have hf := (if_ok hf).1 cc
    refine lv_sipush (v := -2000) hx hb dX8_bank_28 (by decide) ?_
    refine lv_aload_n hx hb dX8_bank_31 rfl (lv_at hl 1 rfl) ?_
    refine q_get (C := RX8) (T := TX8) (N := 12) (ci := 8) (v := .ref (ad 25)) hx hb hts in_X8_bank_X8 hown hK hP oX8 rfl 3 (by decide) (hts (.fieldLink RX8 25 "RowsOnlyPrimes" "tape" "LRowsOnlyPrimes$Tape;") (by decide +kernel)) (fun _ h9 => h9) rfl dX8_bank_32 ?_
    refine q_get (C := RX7) (T := TX7) (N := 6) (ci := 7) (v := .int (I4 25 2)) hx hb hts in_X8_bank_X7 hown hK hP oX7 rfl 2 (by decide) (hts (.fieldLink RX8 196 "RowsOnlyPrimes$Tape" "place" "I") (by decide +kernel)) (fun _ h9 => h9) rfl dX8_bank_35 ?_
    refine lv_isub hx hb dX8_bank_38 ?_
    refine lv_goto (tgt := 43) hx hb dX8_bank_39 (by decide) ?_
    exact w_X8_bank_43 C hK hE hN    v3 ((-2000 : Int32) - (I4 25 2)) I4 _ _ _ hf (lv_sub hl [1, 0] rfl) hP hS
end
