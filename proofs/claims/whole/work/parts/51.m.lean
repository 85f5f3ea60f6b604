/-! machine: X9_heads X9_hire X9_lacks X9_fare X9_spare X9_purses X9_waiting X9_many X9_stranded X9_together X9_alone X9_fullest X9_noWaiting X9_along X9_cheapest X9_fit_ X9_knotOf (written by wip/gen/gen.py) -/
section
variable {p : Program} {l : Launch} {e : Env} {s : State} {m : MethodId} {args : Array Value} {below : List Frame} {meth : Method} {c : Code} {D : va_G} {ad : Nat → Nat} {cy : Nat → ClassId} {sa va : Nat → Nat}
abbrev r_X9_heads : Room := { frames := 2, cells := 0, slots := 0, locals := 47 }
set_option maxHeartbeats 4000000 in
set_option maxRecDepth 100000 in
theorem c_X9_heads (l : Launch) {D : va_G} {ad : Nat → Nat} {cy : Nat → ClassId} {sa va : Nat → Nat} {I : qI} {J : qJ} {S : Nat → Prop} (h0 : isM0 S)   (p0 : Int32) {r : Int32} {Ie : qI} (hf : f_X9_heads p0 I = some (r, Ie)) : Met l yX9_heads wsX9_heads r_X9_heads (va_Pc [.ref (ad 0), .int p0] (qPre D S ad cy sa va (eM ad cy) I J)) (va_Qi (S := Unit) (fun x _ => x = r) (fun _ t => qP D S ad (eM ad cy) Ie J t.heap) (qA S ad)) 0 0 (qA S ad) := by
  refine Met.ofW (cc := cX9_heads) (maxL := 2) (ret := (some .int)) (by decide) rfl ?_
  intro p e s m args below meth c s₁ B hml hv
  obtain ⟨rfl, hP, hK, hE, hN⟩ := hv
  have C : qC p s m _ meth c cX9_heads 2 RX9 wsX9_heads (some .int) := ⟨⟨B.exec, B.bytes, hml, findClass_of_methodNamed B.named, atoms_spec (ws := wsX9_heads) B.pre⟩, B.returns, B.notSynchronized⟩
  have C0 := C
  obtain ⟨⟨hx, hb, hml, hown, hts⟩, hr, hlocks⟩ := C0
  have hS : va_S (qA S ad) s.heap s.heap [] := va_S.rf
  have hl := lv_entry ([.ref (ad 0), .int p0]) (n := 2) (Nat.le_of_ble_eq_true rfl)
  rw [lg_entry_eq]
  generalize (lg_sl ([.ref (ad 0), .int p0]) ++ List.replicate (2 - (lg_sl ([.ref (ad 0), .int p0])).length) Slot.unset).toArray = ls at hl ⊢
  have hl : lv_has ls 2 [(0, .ref (ad 0)), (1, .int p0)] := hl
  unfold f_X9_heads at hf
  refine lv_aload_n hx hb dX9_heads_0 rfl (lv_at hl 0 rfl) ?_
  refine lv_iload_n hx hb dX9_heads_1 rfl (lv_at hl 1 rfl) ?_
  refine lv_i2l hx hb dX9_heads_2 rfl ?_
  obtain ⟨v1, h2, hf⟩ := bd_ok hf
  refine q_cSi (va_runV (As := [.long p0.toInt64]) (rest := []) ⟨hx, hb, hml, hown, hts⟩ (c_X9_isGroup l (D := D) (ad := ad) (cy := cy) (sa := sa) (va := va) (I := I) (J := J) (S := S) h0 p0.toInt64 h2) (cwV 1 hts gX9_heads_X9_isGroup rfl rfl rfl (by decide +kernel) ⟨Nat.le_of_ble_eq_true rfl, Nat.le_of_ble_eq_true rfl⟩) ⟨qPre_blind _, q_recv hK hP (oX9 h0) rfl, fun U hU hW => ⟨rfl, qPre_of hP hK hE hN hS U hU hW⟩⟩ rfl rfl hl.1 rfl (lv_room (Nat.le_of_ble_eq_true rfl)) dX9_heads_3 ⟨Nat.le_of_ble_eq_true rfl, Nat.le_of_ble_eq_true rfl⟩) ?_
  refine lv_if_eq (tgt := 17) hx hb dX9_heads_6 (by decide) (fun cc => ?_) (fun cc => ?_)
  · have hf := (if_ok hf).1 cc
    refine lv_aload_n hx hb dX9_heads_17 rfl (lv_at hl 0 rfl) ?_
    refine lv_sipush (v := -1002) hx hb dX9_heads_18 (by decide) ?_
    obtain ⟨v3, I4, h5, hf⟩ := bd2_ok hf
    refine q_cEi (va_runV (As := [.int (-1002 : Int32)]) (rest := []) ⟨hx, hb, hml, hown, hts⟩ (c_X9_refuse l (D := D) (ad := ad) (cy := cy) (sa := sa) (va := va) (I := I) (J := J) (S := S) h0 (-1002 : Int32) h5) (cwV 1 hts gX9_heads_X9_refuse rfl rfl rfl (by decide +kernel) ⟨Nat.le_of_ble_eq_true rfl, Nat.le_of_ble_eq_true rfl⟩) ⟨qPre_blind _, q_recv hK hP (oX9 h0) rfl, fun U hU hW => ⟨rfl, qPre_of hP hK hE hN hS U hU hW⟩⟩ rfl rfl hl.1 rfl (lv_room (Nat.le_of_ble_eq_true rfl)) dX9_heads_21 ⟨Nat.le_of_ble_eq_true rfl, Nat.le_of_ble_eq_true rfl⟩) hS (fun H locs hP hS => ?_)
    have e9 := Option.some.inj hf
    have eI9 : I4 = Ie := (congrArg Prod.snd e9)
    exact W.iret hx hb hr (fun t ht _ => ⟨⟨_, (), rfl, (congrArg Prod.fst e9), by show qP D _ ad _ _ _ t.heap; rw [ht, ← eI9]; exact hP⟩, hS.F ht⟩) hS.2.2 dX9_heads_24
  · have hf := (if_ok hf).2 cc
    refine lv_aload_n hx hb dX9_heads_9 rfl (lv_at hl 0 rfl) ?_
    refine lv_iload_n hx hb dX9_heads_10 rfl (lv_at hl 1 rfl) ?_
    obtain ⟨v6, h7, hf⟩ := bd_ok hf
    refine q_cSi (va_runV (As := [.int p0]) (rest := []) ⟨hx, hb, hml, hown, hts⟩ (c_X9_headsTogether l (D := D) (ad := ad) (cy := cy) (sa := sa) (va := va) (I := I) (J := J) (S := S) h0 p0 h7) (cwV 1 hts gX9_heads_X9_headsTogether rfl rfl rfl (by decide +kernel) ⟨Nat.le_of_ble_eq_true rfl, Nat.le_of_ble_eq_true rfl⟩) ⟨qPre_blind _, q_recv hK hP (oX9 h0) rfl, fun U hU hW => ⟨rfl, qPre_of hP hK hE hN hS U hU hW⟩⟩ rfl rfl hl.1 rfl (lv_room (Nat.le_of_ble_eq_true rfl)) dX9_heads_11 ⟨Nat.le_of_ble_eq_true rfl, Nat.le_of_ble_eq_true rfl⟩) ?_
    refine lv_goto (tgt := 24) hx hb dX9_heads_14 (by decide) ?_
    have e9 := Option.some.inj hf
    have eI9 : I = Ie := (congrArg Prod.snd e9)
    exact W.iret hx hb hr (fun t ht _ => ⟨⟨_, (), rfl, (congrArg Prod.fst e9), by show qP D _ ad _ _ _ t.heap; rw [ht, ← eI9]; exact hP⟩, hS.F ht⟩) hS.2.2 dX9_heads_24
abbrev r_X9_hire : Room := { frames := 4, cells := 0, slots := 0, locals := 93 }
set_option maxHeartbeats 4000000 in
set_option maxRecDepth 100000 in
theorem c_X9_hire (l : Launch) {D : va_G} {ad : Nat → Nat} {cy : Nat → ClassId} {sa va : Nat → Nat} {I : qI} {J : qJ} {S : Nat → Prop} (h0 : isM0 S)   (p0 : Int32) {r : Int32} {Ie : qI} (hf : f_X9_hire p0 I = some (r, Ie)) : Met l yX9_hire wsX9_hire r_X9_hire (va_Pc [.ref (ad 0), .int p0] (qPre D S ad cy sa va (eM ad cy) I J)) (va_Qi (S := Unit) (fun x _ => x = r) (fun _ t => qP D S ad (eM ad cy) Ie J t.heap) (qA S ad)) 0 0 (qA S ad) := by
  refine Met.ofW (cc := cX9_hire) (maxL := 2) (ret := (some .int)) (by decide) rfl ?_
  intro p e s m args below meth c s₁ B hml hv
  obtain ⟨rfl, hP, hK, hE, hN⟩ := hv
  have C : qC p s m _ meth c cX9_hire 2 RX9 wsX9_hire (some .int) := ⟨⟨B.exec, B.bytes, hml, findClass_of_methodNamed B.named, atoms_spec (ws := wsX9_hire) B.pre⟩, B.returns, B.notSynchronized⟩
  have C0 := C
  obtain ⟨⟨hx, hb, hml, hown, hts⟩, hr, hlocks⟩ := C0
  have hS : va_S (qA S ad) s.heap s.heap [] := va_S.rf
  have hl := lv_entry ([.ref (ad 0), .int p0]) (n := 2) (Nat.le_of_ble_eq_true rfl)
  rw [lg_entry_eq]
  generalize (lg_sl ([.ref (ad 0), .int p0]) ++ List.replicate (2 - (lg_sl ([.ref (ad 0), .int p0])).length) Slot.unset).toArray = ls at hl ⊢
  have hl : lv_has ls 2 [(0, .ref (ad 0)), (1, .int p0)] := hl
  unfold f_X9_hire at hf
  refine lv_aload_n hx hb dX9_hire_0 rfl (lv_at hl 0 rfl) ?_
  refine lv_iload_n hx hb dX9_hire_1 rfl (lv_at hl 1 rfl) ?_
  refine lv_i2l hx hb dX9_hire_2 rfl ?_
  obtain ⟨v1, h2, hf⟩ := bd_ok hf
  refine q_cSi (va_runV (As := [.long p0.toInt64]) (rest := []) ⟨hx, hb, hml, hown, hts⟩ (c_X9_isGroup l (D := D) (ad := ad) (cy := cy) (sa := sa) (va := va) (I := I) (J := J) (S := S) h0 p0.toInt64 h2) (cwV 1 hts gX9_hire_X9_isGroup rfl rfl rfl (by decide +kernel) ⟨Nat.le_of_ble_eq_true rfl, Nat.le_of_ble_eq_true rfl⟩) ⟨qPre_blind _, q_recv hK hP (oX9 h0) rfl, fun U hU hW => ⟨rfl, qPre_of hP hK hE hN hS U hU hW⟩⟩ rfl rfl hl.1 rfl (lv_room (Nat.le_of_ble_eq_true rfl)) dX9_hire_3 ⟨Nat.le_of_ble_eq_true rfl, Nat.le_of_ble_eq_true rfl⟩) ?_
  refine lv_if_eq (tgt := 17) hx hb dX9_hire_6 (by decide) (fun cc => ?_) (fun cc => ?_)
  · have hf := (if_ok hf).1 cc
    refine lv_aload_n hx hb dX9_hire_17 rfl (lv_at hl 0 rfl) ?_
    refine lv_sipush (v := -1002) hx hb dX9_hire_18 (by decide) ?_
    obtain ⟨v3, I4, h5, hf⟩ := bd2_ok hf
    refine q_cEi (va_runV (As := [.int (-1002 : Int32)]) (rest := []) ⟨hx, hb, hml, hown, hts⟩ (c_X9_refuse l (D := D) (ad := ad) (cy := cy) (sa := sa) (va := va) (I := I) (J := J) (S := S) h0 (-1002 : Int32) h5) (cwV 1 hts gX9_hire_X9_refuse rfl rfl rfl (by decide +kernel) ⟨Nat.le_of_ble_eq_true rfl, Nat.le_of_ble_eq_true rfl⟩) ⟨qPre_blind _, q_recv hK hP (oX9 h0) rfl, fun U hU hW => ⟨rfl, qPre_of hP hK hE hN hS U hU hW⟩⟩ rfl rfl hl.1 rfl (lv_room (Nat.le_of_ble_eq_true rfl)) dX9_hire_21 ⟨Nat.le_of_ble_eq_true rfl, Nat.le_of_ble_eq_true rfl⟩) hS (fun H locs hP hS => ?_)
    have e9 := Option.some.inj hf
    have eI9 : I4 = Ie := (congrArg Prod.snd e9)
    exact W.iret hx hb hr (fun t ht _ => ⟨⟨_, (), rfl, (congrArg Prod.fst e9), by show qP D _ ad _ _ _ t.heap; rw [ht, ← eI9]; exact hP⟩, hS.F ht⟩) hS.2.2 dX9_hire_24
  · have hf := (if_ok hf).2 cc
    refine lv_aload_n hx hb dX9_hire_9 rfl (lv_at hl 0 rfl) ?_
    refine lv_iload_n hx hb dX9_hire_10 rfl (lv_at hl 1 rfl) ?_
    obtain ⟨v6, h7, hf⟩ := bd_ok hf
    refine q_cSi (va_runV (As := [.int p0]) (rest := []) ⟨hx, hb, hml, hown, hts⟩ (c_X9_hireOf l (D := D) (ad := ad) (cy := cy) (sa := sa) (va := va) (I := I) (J := J) (S := S) h0 p0 h7) (cwV 1 hts gX9_hire_X9_hireOf rfl rfl rfl (by decide +kernel) ⟨Nat.le_of_ble_eq_true rfl, Nat.le_of_ble_eq_true rfl⟩) ⟨qPre_blind _, q_recv hK hP (oX9 h0) rfl, fun U hU hW => ⟨rfl, qPre_of hP hK hE hN hS U hU hW⟩⟩ rfl rfl hl.1 rfl (lv_room (Nat.le_of_ble_eq_true rfl)) dX9_hire_11 ⟨Nat.le_of_ble_eq_true rfl, Nat.le_of_ble_eq_true rfl⟩) ?_
    refine lv_goto (tgt := 24) hx hb dX9_hire_14 (by decide) ?_
    have e9 := Option.some.inj hf
    have eI9 : I = Ie := (congrArg Prod.snd e9)
    exact W.iret hx hb hr (fun t ht _ => ⟨⟨_, (), rfl, (congrArg Prod.fst e9), by show qP D _ ad _ _ _ t.heap; rw [ht, ← eI9]; exact hP⟩, hS.F ht⟩) hS.2.2 dX9_hire_24
abbrev r_X9_lacks : Room := { frames := 3, cells := 0, slots := 0, locals := 72 }
set_option maxHeartbeats 4000000 in
set_option maxRecDepth 100000 in
theorem c_X9_lacks (l : Launch) {D : va_G} {ad : Nat → Nat} {cy : Nat → ClassId} {sa va : Nat → Nat} {I : qI} {J : qJ} {S : Nat → Prop} (h0 : isM0 S)   (p0 : Int32) {r : Int32} {Ie : qI} (hf : f_X9_lacks p0 I = some (r, Ie)) : Met l yX9_lacks wsX9_lacks r_X9_lacks (va_Pc [.ref (ad 0), .int p0] (qPre D S ad cy sa va (eM ad cy) I J)) (va_Qi (S := Unit) (fun x _ => x = r) (fun _ t => qP D S ad (eM ad cy) Ie J t.heap) (qA S ad)) 0 0 (qA S ad) := by
  refine Met.ofW (cc := cX9_lacks) (maxL := 2) (ret := (some .int)) (by decide) rfl ?_
  intro p e s m args below meth c s₁ B hml hv
  obtain ⟨rfl, hP, hK, hE, hN⟩ := hv
  have C : qC p s m _ meth c cX9_lacks 2 RX9 wsX9_lacks (some .int) := ⟨⟨B.exec, B.bytes, hml, findClass_of_methodNamed B.named, atoms_spec (ws := wsX9_lacks) B.pre⟩, B.returns, B.notSynchronized⟩
  have C0 := C
  obtain ⟨⟨hx, hb, hml, hown, hts⟩, hr, hlocks⟩ := C0
  have hS : va_S (qA S ad) s.heap s.heap [] := va_S.rf
  have hl := lv_entry ([.ref (ad 0), .int p0]) (n := 2) (Nat.le_of_ble_eq_true rfl)
  rw [lg_entry_eq]
  generalize (lg_sl ([.ref (ad 0), .int p0]) ++ List.replicate (2 - (lg_sl ([.ref (ad 0), .int p0])).length) Slot.unset).toArray = ls at hl ⊢
  have hl : lv_has ls 2 [(0, .ref (ad 0)), (1, .int p0)] := hl
  unfold f_X9_lacks at hf
  refine lv_aload_n hx hb dX9_lacks_0 rfl (lv_at hl 0 rfl) ?_
  refine lv_iload_n hx hb dX9_lacks_1 rfl (lv_at hl 1 rfl) ?_
  refine lv_i2l hx hb dX9_lacks_2 rfl ?_
  obtain ⟨v1, h2, hf⟩ := bd_ok hf
  refine q_cSi (va_runV (As := [.long p0.toInt64]) (rest := []) ⟨hx, hb, hml, hown, hts⟩ (c_X9_isGroup l (D := D) (ad := ad) (cy := cy) (sa := sa) (va := va) (I := I) (J := J) (S := S) h0 p0.toInt64 h2) (cwV 1 hts gX9_lacks_X9_isGroup rfl rfl rfl (by decide +kernel) ⟨Nat.le_of_ble_eq_true rfl, Nat.le_of_ble_eq_true rfl⟩) ⟨qPre_blind _, q_recv hK hP (oX9 h0) rfl, fun U hU hW => ⟨rfl, qPre_of hP hK hE hN hS U hU hW⟩⟩ rfl rfl hl.1 rfl (lv_room (Nat.le_of_ble_eq_true rfl)) dX9_lacks_3 ⟨Nat.le_of_ble_eq_true rfl, Nat.le_of_ble_eq_true rfl⟩) ?_
  refine lv_if_eq (tgt := 19) hx hb dX9_lacks_6 (by decide) (fun cc => ?_) (fun cc => ?_)
  · have hf := (if_ok hf).1 cc
    refine lv_aload_n hx hb dX9_lacks_19 rfl (lv_at hl 0 rfl) ?_
    refine lv_sipush (v := -1002) hx hb dX9_lacks_20 (by decide) ?_
    obtain ⟨v3, I4, h5, hf⟩ := bd2_ok hf
    refine q_cEi (va_runV (As := [.int (-1002 : Int32)]) (rest := []) ⟨hx, hb, hml, hown, hts⟩ (c_X9_refuse l (D := D) (ad := ad) (cy := cy) (sa := sa) (va := va) (I := I) (J := J) (S := S) h0 (-1002 : Int32) h5) (cwV 1 hts gX9_lacks_X9_refuse rfl rfl rfl (by decide +kernel) ⟨Nat.le_of_ble_eq_true rfl, Nat.le_of_ble_eq_true rfl⟩) ⟨qPre_blind _, q_recv hK hP (oX9 h0) rfl, fun U hU hW => ⟨rfl, qPre_of hP hK hE hN hS U hU hW⟩⟩ rfl rfl hl.1 rfl (lv_room (Nat.le_of_ble_eq_true rfl)) dX9_lacks_23 ⟨Nat.le_of_ble_eq_true rfl, Nat.le_of_ble_eq_true rfl⟩) hS (fun H locs hP hS => ?_)
    have e9 := Option.some.inj hf
    have eI9 : I4 = Ie := (congrArg Prod.snd e9)
    exact W.iret hx hb hr (fun t ht _ => ⟨⟨_, (), rfl, (congrArg Prod.fst e9), by show qP D _ ad _ _ _ t.heap; rw [ht, ← eI9]; exact hP⟩, hS.F ht⟩) hS.2.2 dX9_lacks_26
  · have hf := (if_ok hf).2 cc
    refine lv_aload_n hx hb dX9_lacks_9 rfl (lv_at hl 0 rfl) ?_
    refine lv_iload_n hx hb dX9_lacks_10 rfl (lv_at hl 1 rfl) ?_
    refine lv_bipush (v := 99) hx hb dX9_lacks_11 (by decide) ?_
    obtain ⟨v6, h7, hf⟩ := bd_ok hf
    refine q_cSi (va_runV (As := [.int p0, .int (99 : Int32)]) (rest := []) ⟨hx, hb, hml, hown, hts⟩ (c_X9_hireUpTo l (D := D) (ad := ad) (cy := cy) (sa := sa) (va := va) (I := I) (J := J) (S := S) h0 p0 (99 : Int32) h7) (cwV 2 hts gX9_lacks_X9_hireUpTo rfl rfl rfl (by decide +kernel) ⟨Nat.le_of_ble_eq_true rfl, Nat.le_of_ble_eq_true rfl⟩) ⟨qPre_blind _, q_recv hK hP (oX9 h0) rfl, fun U hU hW => ⟨rfl, qPre_of hP hK hE hN hS U hU hW⟩⟩ rfl rfl hl.1 rfl (lv_room (Nat.le_of_ble_eq_true rfl)) dX9_lacks_13 ⟨Nat.le_of_ble_eq_true rfl, Nat.le_of_ble_eq_true rfl⟩) ?_
    refine lv_goto (tgt := 26) hx hb dX9_lacks_16 (by decide) ?_
    have e9 := Option.some.inj hf
    have eI9 : I = Ie := (congrArg Prod.snd e9)
    exact W.iret hx hb hr (fun t ht _ => ⟨⟨_, (), rfl, (congrArg Prod.fst e9), by show qP D _ ad _ _ _ t.heap; rw [ht, ← eI9]; exact hP⟩, hS.F ht⟩) hS.2.2 dX9_lacks_26
abbrev r_X9_fare : Room := { frames := 4, cells := 0, slots := 0, locals := 93 }
theorem in_X9_fare_X9 : ∀ w ∈ u_ws RX9 TX9 42, w ∈ wsX9_fare := by decide +kernel
set_option maxHeartbeats 4000000 in
set_option maxRecDepth 100000 in
theorem c_X9_fare (l : Launch) {D : va_G} {ad : Nat → Nat} {cy : Nat → ClassId} {sa va : Nat → Nat} {I : qI} {J : qJ} {S : Nat → Prop} (h0 : isM0 S)   (p0 : Int32) {r : Int32} {Ie : qI} (hf : f_X9_fare p0 I = some (r, Ie)) : Met l yX9_fare wsX9_fare r_X9_fare (va_Pc [.ref (ad 0), .int p0] (qPre D S ad cy sa va (eM ad cy) I J)) (va_Qi (S := Unit) (fun x _ => x = r) (fun _ t => qP D S ad (eM ad cy) Ie J t.heap) (qA S ad)) 0 0 (qA S ad) := by
  refine Met.ofW (cc := cX9_fare) (maxL := 3) (ret := (some .int)) (by decide) rfl ?_
  intro p e s m args below meth c s₁ B hml hv
  obtain ⟨rfl, hP, hK, hE, hN⟩ := hv
  have C : qC p s m _ meth c cX9_fare 3 RX9 wsX9_fare (some .int) := ⟨⟨B.exec, B.bytes, hml, findClass_of_methodNamed B.named, atoms_spec (ws := wsX9_fare) B.pre⟩, B.returns, B.notSynchronized⟩
  have C0 := C
  obtain ⟨⟨hx, hb, hml, hown, hts⟩, hr, hlocks⟩ := C0
  have hS : va_S (qA S ad) s.heap s.heap [] := va_S.rf
  have hl := lv_entry ([.ref (ad 0), .int p0]) (n := 3) (Nat.le_of_ble_eq_true rfl)
  rw [lg_entry_eq]
  generalize (lg_sl ([.ref (ad 0), .int p0]) ++ List.replicate (3 - (lg_sl ([.ref (ad 0), .int p0])).length) Slot.unset).toArray = ls at hl ⊢
  have hl : lv_has ls 3 [(0, .ref (ad 0)), (1, .int p0)] := hl
  unfold f_X9_fare at hf
  refine lv_aload_n hx hb dX9_fare_0 rfl (lv_at hl 0 rfl) ?_
  refine lv_iload_n hx hb dX9_fare_1 rfl (lv_at hl 1 rfl) ?_
  refine lv_i2l hx hb dX9_fare_2 rfl ?_
  obtain ⟨v1, h2, hf⟩ := bd_ok hf
  refine q_cSi (va_runV (As := [.long p0.toInt64]) (rest := []) ⟨hx, hb, hml, hown, hts⟩ (c_X9_isGroup l (D := D) (ad := ad) (cy := cy) (sa := sa) (va := va) (I := I) (J := J) (S := S) h0 p0.toInt64 h2) (cwV 1 hts gX9_fare_X9_isGroup rfl rfl rfl (by decide +kernel) ⟨Nat.le_of_ble_eq_true rfl, Nat.le_of_ble_eq_true rfl⟩) ⟨qPre_blind _, q_recv hK hP (oX9 h0) rfl, fun U hU hW => ⟨rfl, qPre_of hP hK hE hN hS U hU hW⟩⟩ rfl rfl hl.1 rfl (lv_room (Nat.le_of_ble_eq_true rfl)) dX9_fare_3 ⟨Nat.le_of_ble_eq_true rfl, Nat.le_of_ble_eq_true rfl⟩) ?_
  refine lv_if_ne (tgt := 17) hx hb dX9_fare_6 (by decide) (fun cc => ?_) (fun cc => ?_)
  · have hf := (if_ok hf).2 cc
    refine lv_aload_n hx hb dX9_fare_17 rfl (lv_at hl 0 rfl) ?_
    refine lv_iload_n hx hb dX9_fare_18 rfl (lv_at hl 1 rfl) ?_
    obtain ⟨v3, h4, hf⟩ := bd_ok hf
    refine q_cSi (va_runV (As := [.int p0]) (rest := []) ⟨hx, hb, hml, hown, hts⟩ (c_X9_hireOf l (D := D) (ad := ad) (cy := cy) (sa := sa) (va := va) (I := I) (J := J) (S := S) h0 p0 h4) (cwV 1 hts gX9_fare_X9_hireOf rfl rfl rfl (by decide +kernel) ⟨Nat.le_of_ble_eq_true rfl, Nat.le_of_ble_eq_true rfl⟩) ⟨qPre_blind _, q_recv hK hP (oX9 h0) rfl, fun U hU hW => ⟨rfl, qPre_of hP hK hE hN hS U hU hW⟩⟩ rfl rfl hl.1 rfl (lv_room (Nat.le_of_ble_eq_true rfl)) dX9_fare_19 ⟨Nat.le_of_ble_eq_true rfl, Nat.le_of_ble_eq_true rfl⟩) ?_
    refine lv_istore_n (lv' := [(2, .int v3), (0, .ref (ad 0)), (1, .int p0)]) hx hb dX9_fare_22 rfl hl (by decide) rfl (fun ls hl => ?_)
    refine lv_iload_n hx hb dX9_fare_23 rfl (lv_at hl 0 rfl) ?_
    refine lv_iconst (v := -1) hx hb dX9_fare_24 (by decide) ?_
    refine lv_icmp_ne (tgt := 32) hx hb dX9_fare_25 (by decide) (fun cc => ?_) (fun cc => ?_)
    · have hf := (if_ok hf).2 cc
      refine lv_iload_n hx hb dX9_fare_32 rfl (lv_at hl 0 rfl) ?_
      refine lv_aload_n hx hb dX9_fare_33 rfl (lv_at hl 1 rfl) ?_
      refine q_get (C := RX9) (T := TX9) (N := 42) (ci := 9) (v := .int (I 0 13)) hx hb hts in_X9_fare_X9 hown hK hP (oX9 h0) rfl 13 (by decide) (hts (.fieldLink RX9 47 "RowsOnlyPrimesModel" "cost" "I") (by decide +kernel)) (fun _ h9 => h9) rfl dX9_fare_34 ?_
      refine lv_imul hx hb dX9_fare_37 ?_
      have e9 := Option.some.inj hf
      have eI9 : I = Ie := (congrArg Prod.snd e9)
      exact W.iret hx hb hr (fun t ht _ => ⟨⟨_, (), rfl, (congrArg Prod.fst e9), by show qP D _ ad _ _ _ t.heap; rw [ht, ← eI9]; exact hP⟩, hS.F ht⟩) hS.2.2 dX9_fare_38
    · have hf := (if_ok hf).1 cc
      refine lv_iconst (v := -1) hx hb dX9_fare_28 (by decide) ?_
      refine lv_goto (tgt := 38) hx hb dX9_fare_29 (by decide) ?_
      have e9 := Option.some.inj hf
      have eI9 : I = Ie := (congrArg Prod.snd e9)
      exact W.iret hx hb hr (fun t ht _ => ⟨⟨_, (), rfl, (congrArg Prod.fst e9), by show qP D _ ad _ _ _ t.heap; rw [ht, ← eI9]; exact hP⟩, hS.F ht⟩) hS.2.2 dX9_fare_38
  · have hf := (if_ok hf).1 cc
    refine lv_aload_n hx hb dX9_fare_9 rfl (lv_at hl 0 rfl) ?_
    refine lv_sipush (v := -1002) hx hb dX9_fare_10 (by decide) ?_
    obtain ⟨v5, I6, h7, hf⟩ := bd2_ok hf
    refine q_cEi (va_runV (As := [.int (-1002 : Int32)]) (rest := []) ⟨hx, hb, hml, hown, hts⟩ (c_X9_refuse l (D := D) (ad := ad) (cy := cy) (sa := sa) (va := va) (I := I) (J := J) (S := S) h0 (-1002 : Int32) h7) (cwV 1 hts gX9_fare_X9_refuse rfl rfl rfl (by decide +kernel) ⟨Nat.le_of_ble_eq_true rfl, Nat.le_of_ble_eq_true rfl⟩) ⟨qPre_blind _, q_recv hK hP (oX9 h0) rfl, fun U hU hW => ⟨rfl, qPre_of hP hK hE hN hS U hU hW⟩⟩ rfl rfl hl.1 rfl (lv_room (Nat.le_of_ble_eq_true rfl)) dX9_fare_13 ⟨Nat.le_of_ble_eq_true rfl, Nat.le_of_ble_eq_true rfl⟩) hS (fun H locs hP hS => ?_)
    have e9 := Option.some.inj hf
    have eI9 : I6 = Ie := (congrArg Prod.snd e9)
    exact W.iret hx hb hr (fun t ht _ => ⟨⟨_, (), rfl, (congrArg Prod.fst e9), by show qP D _ ad _ _ _ t.heap; rw [ht, ← eI9]; exact hP⟩, hS.F ht⟩) hS.2.2 dX9_fare_16
abbrev r_X9_spare : Room := { frames := 4, cells := 0, slots := 0, locals := 93 }
theorem in_X9_spare_X9 : ∀ w ∈ u_ws RX9 TX9 42, w ∈ wsX9_spare := by decide +kernel
set_option maxHeartbeats 4000000 in
set_option maxRecDepth 100000 in
theorem c_X9_spare (l : Launch) {D : va_G} {ad : Nat → Nat} {cy : Nat → ClassId} {sa va : Nat → Nat} {I : qI} {J : qJ} {S : Nat → Prop} (h0 : isM0 S)   (p0 : Int32) {r : Int32} {Ie : qI} (hf : f_X9_spare p0 I = some (r, Ie)) : Met l yX9_spare wsX9_spare r_X9_spare (va_Pc [.ref (ad 0), .int p0] (qPre D S ad cy sa va (eM ad cy) I J)) (va_Qi (S := Unit) (fun x _ => x = r) (fun _ t => qP D S ad (eM ad cy) Ie J t.heap) (qA S ad)) 0 0 (qA S ad) := by
  refine Met.ofW (cc := cX9_spare) (maxL := 3) (ret := (some .int)) (by decide) rfl ?_
  intro p e s m args below meth c s₁ B hml hv
  obtain ⟨rfl, hP, hK, hE, hN⟩ := hv
  have C : qC p s m _ meth c cX9_spare 3 RX9 wsX9_spare (some .int) := ⟨⟨B.exec, B.bytes, hml, findClass_of_methodNamed B.named, atoms_spec (ws := wsX9_spare) B.pre⟩, B.returns, B.notSynchronized⟩
  have C0 := C
  obtain ⟨⟨hx, hb, hml, hown, hts⟩, hr, hlocks⟩ := C0
  have hS : va_S (qA S ad) s.heap s.heap [] := va_S.rf
  have hl := lv_entry ([.ref (ad 0), .int p0]) (n := 3) (Nat.le_of_ble_eq_true rfl)
  rw [lg_entry_eq]
  generalize (lg_sl ([.ref (ad 0), .int p0]) ++ List.replicate (3 - (lg_sl ([.ref (ad 0), .int p0])).length) Slot.unset).toArray = ls at hl ⊢
  have hl : lv_has ls 3 [(0, .ref (ad 0)), (1, .int p0)] := hl
  unfold f_X9_spare at hf
  refine lv_aload_n hx hb dX9_spare_0 rfl (lv_at hl 0 rfl) ?_
  refine lv_iload_n hx hb dX9_spare_1 rfl (lv_at hl 1 rfl) ?_
  refine lv_i2l hx hb dX9_spare_2 rfl ?_
  obtain ⟨v1, h2, hf⟩ := bd_ok hf
  refine q_cSi (va_runV (As := [.long p0.toInt64]) (rest := []) ⟨hx, hb, hml, hown, hts⟩ (c_X9_isGroup l (D := D) (ad := ad) (cy := cy) (sa := sa) (va := va) (I := I) (J := J) (S := S) h0 p0.toInt64 h2) (cwV 1 hts gX9_spare_X9_isGroup rfl rfl rfl (by decide +kernel) ⟨Nat.le_of_ble_eq_true rfl, Nat.le_of_ble_eq_true rfl⟩) ⟨qPre_blind _, q_recv hK hP (oX9 h0) rfl, fun U hU hW => ⟨rfl, qPre_of hP hK hE hN hS U hU hW⟩⟩ rfl rfl hl.1 rfl (lv_room (Nat.le_of_ble_eq_true rfl)) dX9_spare_3 ⟨Nat.le_of_ble_eq_true rfl, Nat.le_of_ble_eq_true rfl⟩) ?_
  refine lv_if_ne (tgt := 17) hx hb dX9_spare_6 (by decide) (fun cc => ?_) (fun cc => ?_)
  · have hf := (if_ok hf).2 cc
    refine lv_aload_n hx hb dX9_spare_17 rfl (lv_at hl 0 rfl) ?_
    refine lv_iload_n hx hb dX9_spare_18 rfl (lv_at hl 1 rfl) ?_
    obtain ⟨v3, h4, hf⟩ := bd_ok hf
    refine q_cSi (va_runV (As := [.int p0]) (rest := []) ⟨hx, hb, hml, hown, hts⟩ (c_X9_hireOf l (D := D) (ad := ad) (cy := cy) (sa := sa) (va := va) (I := I) (J := J) (S := S) h0 p0 h4) (cwV 1 hts gX9_spare_X9_hireOf rfl rfl rfl (by decide +kernel) ⟨Nat.le_of_ble_eq_true rfl, Nat.le_of_ble_eq_true rfl⟩) ⟨qPre_blind _, q_recv hK hP (oX9 h0) rfl, fun U hU hW => ⟨rfl, qPre_of hP hK hE hN hS U hU hW⟩⟩ rfl rfl hl.1 rfl (lv_room (Nat.le_of_ble_eq_true rfl)) dX9_spare_19 ⟨Nat.le_of_ble_eq_true rfl, Nat.le_of_ble_eq_true rfl⟩) ?_
    refine lv_istore_n (lv' := [(2, .int v3), (0, .ref (ad 0)), (1, .int p0)]) hx hb dX9_spare_22 rfl hl (by decide) rfl (fun ls hl => ?_)
    refine lv_iload_n hx hb dX9_spare_23 rfl (lv_at hl 0 rfl) ?_
    refine lv_iconst (v := -1) hx hb dX9_spare_24 (by decide) ?_
    refine lv_icmp_ne (tgt := 32) hx hb dX9_spare_25 (by decide) (fun cc => ?_) (fun cc => ?_)
    · have hf := (if_ok hf).2 cc
      refine lv_aload_n hx hb dX9_spare_32 rfl (lv_at hl 1 rfl) ?_
      refine q_get (C := RX9) (T := TX9) (N := 42) (ci := 9) (v := .int (I 0 9)) hx hb hts in_X9_spare_X9 hown hK hP (oX9 h0) rfl 9 (by decide) (hts (.fieldLink RX9 37 "RowsOnlyPrimesModel" "seats" "I") (by decide +kernel)) (fun _ h9 => h9) rfl dX9_spare_33 ?_
      refine lv_aload_n hx hb dX9_spare_36 rfl (lv_at hl 1 rfl) ?_
      refine lv_iload_n hx hb dX9_spare_37 rfl (lv_at hl 2 rfl) ?_
      obtain ⟨v5, h6, hf⟩ := bd_ok hf
      refine q_cSi (va_runV (As := [.int p0]) (rest := [.int (I 0 9)]) ⟨hx, hb, hml, hown, hts⟩ (c_X9_headsTogether l (D := D) (ad := ad) (cy := cy) (sa := sa) (va := va) (I := I) (J := J) (S := S) h0 p0 h6) (cwV 1 hts gX9_spare_X9_headsTogether rfl rfl rfl (by decide +kernel) ⟨Nat.le_of_ble_eq_true rfl, Nat.le_of_ble_eq_true rfl⟩) ⟨qPre_blind _, q_recv hK hP (oX9 h0) rfl, fun U hU hW => ⟨rfl, qPre_of hP hK hE hN hS U hU hW⟩⟩ rfl rfl hl.1 rfl (lv_room (Nat.le_of_ble_eq_true rfl)) dX9_spare_38 ⟨Nat.le_of_ble_eq_true rfl, Nat.le_of_ble_eq_true rfl⟩) ?_
      refine lv_isub hx hb dX9_spare_41 ?_
      refine lv_iload_n hx hb dX9_spare_42 rfl (lv_at hl 0 rfl) ?_
      refine lv_isub hx hb dX9_spare_43 ?_
      have e9 := Option.some.inj hf
      have eI9 : I = Ie := (congrArg Prod.snd e9)
      exact W.iret hx hb hr (fun t ht _ => ⟨⟨_, (), rfl, (congrArg Prod.fst e9), by show qP D _ ad _ _ _ t.heap; rw [ht, ← eI9]; exact hP⟩, hS.F ht⟩) hS.2.2 dX9_spare_44
    · have hf := (if_ok hf).1 cc
      refine lv_iconst (v := -1) hx hb dX9_spare_28 (by decide) ?_
      refine lv_goto (tgt := 44) hx hb dX9_spare_29 (by decide) ?_
      have e9 := Option.some.inj hf
      have eI9 : I = Ie := (congrArg Prod.snd e9)
      exact W.iret hx hb hr (fun t ht _ => ⟨⟨_, (), rfl, (congrArg Prod.fst e9), by show qP D _ ad _ _ _ t.heap; rw [ht, ← eI9]; exact hP⟩, hS.F ht⟩) hS.2.2 dX9_spare_44
  · have hf := (if_ok hf).1 cc
    refine lv_aload_n hx hb dX9_spare_9 rfl (lv_at hl 0 rfl) ?_
    refine lv_sipush (v := -1002) hx hb dX9_spare_10 (by decide) ?_
    obtain ⟨v7, I8, h9, hf⟩ := bd2_ok hf
    refine q_cEi (va_runV (As := [.int (-1002 : Int32)]) (rest := []) ⟨hx, hb, hml, hown, hts⟩ (c_X9_refuse l (D := D) (ad := ad) (cy := cy) (sa := sa) (va := va) (I := I) (J := J) (S := S) h0 (-1002 : Int32) h9) (cwV 1 hts gX9_spare_X9_refuse rfl rfl rfl (by decide +kernel) ⟨Nat.le_of_ble_eq_true rfl, Nat.le_of_ble_eq_true rfl⟩) ⟨qPre_blind _, q_recv hK hP (oX9 h0) rfl, fun U hU hW => ⟨rfl, qPre_of hP hK hE hN hS U hU hW⟩⟩ rfl rfl hl.1 rfl (lv_room (Nat.le_of_ble_eq_true rfl)) dX9_spare_13 ⟨Nat.le_of_ble_eq_true rfl, Nat.le_of_ble_eq_true rfl⟩) hS (fun H locs hP hS => ?_)
    have e9 := Option.some.inj hf
    have eI9 : I8 = Ie := (congrArg Prod.snd e9)
    exact W.iret hx hb hr (fun t ht _ => ⟨⟨_, (), rfl, (congrArg Prod.fst e9), by show qP D _ ad _ _ _ t.heap; rw [ht, ← eI9]; exact hP⟩, hS.F ht⟩) hS.2.2 dX9_spare_16
abbrev r_X9_purses : Room := { frames := 2, cells := 0, slots := 0, locals := 47 }
theorem in_X9_purses_X9 : ∀ w ∈ u_ws RX9 TX9 42, w ∈ wsX9_purses := by decide +kernel
set_option maxHeartbeats 4000000 in
set_option maxRecDepth 100000 in
theorem w_X9_purses_21 {S : Nat → Prop} (C : qC p s m args meth c cX9_purses 4 RX9 wsX9_purses (some .int)) (hK : qK D cy sa s) (hE : qEnv sa va (qA S ad) s s.heap) (hN : qN S ad) (h0 : isM0 S)   {J : qJ} {r : Int32} {Ie : qI} : ∀ (n : Nat) (x1 : Int32) (x2 : Int32) (x3 : Int32)  (I : qI) (ls : Array Slot) (H : Heap) (locs : List Loc), f_X9_purses_21 n x1 x2 x3 I = some (r, Ie) → lv_has ls 4 [(0, .ref (ad 0)), (1, .int x1), (2, .int x2), (3, .int x3)] → qP D S ad (eM ad cy) I J H → va_S (qA S ad) s.heap H locs → W p l e (headSpec wsX9_purses r_X9_purses).room s m args below meth c H locs 0 0 (MQ below (va_Qi (S := Unit) (fun x _ => x = r) (fun _ t => qP D S ad (eM ad cy) Ie J t.heap) (qA S ad)) args s 0 0 (qA S ad)) (F0 m 21 ls []) := by
  have C0 := C
  obtain ⟨⟨hx, hb, hml, hown, hts⟩, hr, hlocks⟩ := C0
  intro n
  induction n with
  | zero =>
    intro x1 x2 x3 I ls H locs hf hl hP hS
    rw [f_X9_purses_21] at hf
    cases hf
  | succ n ih =>
    intro x1 x2 x3 I ls H locs hf hl hP hS
    rw [f_X9_purses_21] at hf
    refine lv_iload_n hx hb dX9_purses_21 rfl (lv_at hl 3 rfl) ?_
    refine lv_aload_n hx hb dX9_purses_22 rfl (lv_at hl 0 rfl) ?_
    refine q_get (C := RX9) (T := TX9) (N := 42) (ci := 9) (v := .int (I 0 17)) hx hb hts in_X9_purses_X9 hown hK hP (oX9 h0) rfl 17 (by decide) (hts (.fieldLink RX9 93 "RowsOnlyPrimesModel" "parties" "I") (by decide +kernel)) (fun _ h9 => h9) rfl dX9_purses_23 ?_
    refine lv_icmp_ge (tgt := 57) hx hb dX9_purses_26 (by decide) (fun cc => ?_) (fun cc => ?_)
    · have hf := (if_ok hf).1 cc
      refine lv_iload_n hx hb dX9_purses_57 rfl (lv_at hl 2 rfl) ?_
      have e9 := Option.some.inj hf
      have eI9 : I = Ie := (congrArg Prod.snd e9)
      exact W.iret hx hb hr (fun t ht _ => ⟨⟨_, (), rfl, (congrArg Prod.fst e9), by show qP D _ ad _ _ _ t.heap; rw [ht, ← eI9]; exact hP⟩, hS.F ht⟩) hS.2.2 dX9_purses_58
    · have hf := (if_ok hf).2 cc
      refine lv_iload_n hx hb dX9_purses_29 rfl (lv_at hl 2 rfl) ?_
      refine lv_iload_n hx hb dX9_purses_30 rfl (lv_at hl 1 rfl) ?_
      refine lv_iload_n hx hb dX9_purses_31 rfl (lv_at hl 3 rfl) ?_
      refine lv_ishr hx hb dX9_purses_32 ?_
      refine lv_iconst (v := 1) hx hb dX9_purses_33 (by decide) ?_
      refine lv_iand hx hb dX9_purses_34 ?_
      refine lv_iconst (v := 1) hx hb dX9_purses_35 (by decide) ?_
      refine lv_icmp_ne (tgt := 48) hx hb dX9_purses_36 (by decide) (fun cc => ?_) (fun cc => ?_)
      · have hf := (if_ok hf).2 cc
        refine lv_iconst (v := 0) hx hb dX9_purses_48 (by decide) ?_
        refine lv_iadd hx hb dX9_purses_49 ?_
        refine lv_istore_n (lv' := [(2, .int (x2 + (0 : Int32))), (0, .ref (ad 0)), (1, .int x1), (3, .int x3)]) hx hb dX9_purses_50 rfl hl (by decide) rfl (fun ls hl => ?_)
        refine lv_iinc (v := (x3 + (1 : Int32))) (lv' := [(3, .int (x3 + (1 : Int32))), (2, .int (x2 + (0 : Int32))), (0, .ref (ad 0)), (1, .int x1)]) hx hb dX9_purses_51 hl (k := 3) rfl rfl (by decide) rfl (fun ls hl => ?_)
        refine lv_goto (tgt := 21) hx hb dX9_purses_54 (by decide) ?_
        exact ih x1 (x2 + (0 : Int32)) (x3 + (1 : Int32)) I _ _ _ hf (lv_sub hl [2, 3, 1, 0] rfl) hP hS
      · have hf := (if_ok hf).1 cc
        refine lv_aload_n hx hb dX9_purses_39 rfl (lv_at hl 0 rfl) ?_
        refine q_get (C := RX9) (T := TX9) (N := 42) (ci := 9) (v := .ref (ad 20)) hx hb hts in_X9_purses_X9 hown hK hP (oX9 h0) rfl 22 (by decide) (hts (.fieldLink RX9 59 "RowsOnlyPrimesModel" "purse" "[I") (by decide +kernel)) (fun _ h9 => h9) rfl dX9_purses_40 ?_
        refine lv_iload_n hx hb dX9_purses_43 rfl (lv_at hl 3 rfl) ?_
        obtain ⟨g1, hf⟩ := gd_ok hf
        refine q_iald hx hb hK hP (a0X9_20 h0) g1 dX9_purses_44 ?_
        refine lv_goto (tgt := 49) hx hb dX9_purses_45 (by decide) ?_
        refine lv_iadd hx hb dX9_purses_49 ?_
        refine lv_istore_n (lv' := [(2, .int (x2 + (I 20 x3.toNatClampNeg))), (0, .ref (ad 0)), (1, .int x1), (3, .int x3)]) hx hb dX9_purses_50 rfl hl (by decide) rfl (fun ls hl => ?_)
        refine lv_iinc (v := (x3 + (1 : Int32))) (lv' := [(3, .int (x3 + (1 : Int32))), (2, .int (x2 + (I 20 x3.toNatClampNeg))), (0, .ref (ad 0)), (1, .int x1)]) hx hb dX9_purses_51 hl (k := 3) rfl rfl (by decide) rfl (fun ls hl => ?_)
        refine lv_goto (tgt := 21) hx hb dX9_purses_54 (by decide) ?_
        exact ih x1 (x2 + (I 20 x3.toNatClampNeg)) (x3 + (1 : Int32)) I _ _ _ hf (lv_sub hl [2, 3, 1, 0] rfl) hP hS
set_option maxHeartbeats 4000000 in
set_option maxRecDepth 100000 in
theorem c_X9_purses (l : Launch) {D : va_G} {ad : Nat → Nat} {cy : Nat → ClassId} {sa va : Nat → Nat} {I : qI} {J : qJ} {S : Nat → Prop} (h0 : isM0 S)   (p0 : Int32) {r : Int32} {Ie : qI} (hf : f_X9_purses p0 I = some (r, Ie)) : Met l yX9_purses wsX9_purses r_X9_purses (va_Pc [.ref (ad 0), .int p0] (qPre D S ad cy sa va (eM ad cy) I J)) (va_Qi (S := Unit) (fun x _ => x = r) (fun _ t => qP D S ad (eM ad cy) Ie J t.heap) (qA S ad)) 0 0 (qA S ad) := by
  refine Met.ofW (cc := cX9_purses) (maxL := 4) (ret := (some .int)) (by decide) rfl ?_
  intro p e s m args below meth c s₁ B hml hv
  obtain ⟨rfl, hP, hK, hE, hN⟩ := hv
  have C : qC p s m _ meth c cX9_purses 4 RX9 wsX9_purses (some .int) := ⟨⟨B.exec, B.bytes, hml, findClass_of_methodNamed B.named, atoms_spec (ws := wsX9_purses) B.pre⟩, B.returns, B.notSynchronized⟩
  have C0 := C
  obtain ⟨⟨hx, hb, hml, hown, hts⟩, hr, hlocks⟩ := C0
  have hS : va_S (qA S ad) s.heap s.heap [] := va_S.rf
  have hl := lv_entry ([.ref (ad 0), .int p0]) (n := 4) (Nat.le_of_ble_eq_true rfl)
  rw [lg_entry_eq]
  generalize (lg_sl ([.ref (ad 0), .int p0]) ++ List.replicate (4 - (lg_sl ([.ref (ad 0), .int p0])).length) Slot.unset).toArray = ls at hl ⊢
  have hl : lv_has ls 4 [(0, .ref (ad 0)), (1, .int p0)] := hl
  unfold f_X9_purses at hf
  refine lv_aload_n hx hb dX9_purses_0 rfl (lv_at hl 0 rfl) ?_
  refine lv_iload_n hx hb dX9_purses_1 rfl (lv_at hl 1 rfl) ?_
  refine lv_i2l hx hb dX9_purses_2 rfl ?_
  obtain ⟨v1, h2, hf⟩ := bd_ok hf
  refine q_cSi (va_runV (As := [.long p0.toInt64]) (rest := []) ⟨hx, hb, hml, hown, hts⟩ (c_X9_isGroup l (D := D) (ad := ad) (cy := cy) (sa := sa) (va := va) (I := I) (J := J) (S := S) h0 p0.toInt64 h2) (cwV 1 hts gX9_purses_X9_isGroup rfl rfl rfl (by decide +kernel) ⟨Nat.le_of_ble_eq_true rfl, Nat.le_of_ble_eq_true rfl⟩) ⟨qPre_blind _, q_recv hK hP (oX9 h0) rfl, fun U hU hW => ⟨rfl, qPre_of hP hK hE hN hS U hU hW⟩⟩ rfl rfl hl.1 rfl (lv_room (Nat.le_of_ble_eq_true rfl)) dX9_purses_3 ⟨Nat.le_of_ble_eq_true rfl, Nat.le_of_ble_eq_true rfl⟩) ?_
  refine lv_if_ne (tgt := 17) hx hb dX9_purses_6 (by decide) (fun cc => ?_) (fun cc => ?_)
  · have hf := (if_ok hf).2 cc
    refine lv_iconst (v := 0) hx hb dX9_purses_17 (by decide) ?_
    refine lv_istore_n (lv' := [(2, .int (0 : Int32)), (0, .ref (ad 0)), (1, .int p0)]) hx hb dX9_purses_18 rfl hl (by decide) rfl (fun ls hl => ?_)
    refine lv_iconst (v := 0) hx hb dX9_purses_19 (by decide) ?_
    refine lv_istore_n (lv' := [(3, .int (0 : Int32)), (2, .int (0 : Int32)), (0, .ref (ad 0)), (1, .int p0)]) hx hb dX9_purses_20 rfl hl (by decide) rfl (fun ls hl => ?_)
    exact w_X9_purses_21 C hK hE hN h0  1000 p0 (0 : Int32) (0 : Int32) I _ _ _ hf (lv_sub hl [2, 3, 1, 0] rfl) hP hS
  · have hf := (if_ok hf).1 cc
    refine lv_aload_n hx hb dX9_purses_9 rfl (lv_at hl 0 rfl) ?_
    refine lv_sipush (v := -1002) hx hb dX9_purses_10 (by decide) ?_
    obtain ⟨v3, I4, h5, hf⟩ := bd2_ok hf
    refine q_cEi (va_runV (As := [.int (-1002 : Int32)]) (rest := []) ⟨hx, hb, hml, hown, hts⟩ (c_X9_refuse l (D := D) (ad := ad) (cy := cy) (sa := sa) (va := va) (I := I) (J := J) (S := S) h0 (-1002 : Int32) h5) (cwV 1 hts gX9_purses_X9_refuse rfl rfl rfl (by decide +kernel) ⟨Nat.le_of_ble_eq_true rfl, Nat.le_of_ble_eq_true rfl⟩) ⟨qPre_blind _, q_recv hK hP (oX9 h0) rfl, fun U hU hW => ⟨rfl, qPre_of hP hK hE hN hS U hU hW⟩⟩ rfl rfl hl.1 rfl (lv_room (Nat.le_of_ble_eq_true rfl)) dX9_purses_13 ⟨Nat.le_of_ble_eq_true rfl, Nat.le_of_ble_eq_true rfl⟩) hS (fun H locs hP hS => ?_)
    have e9 := Option.some.inj hf
    have eI9 : I4 = Ie := (congrArg Prod.snd e9)
    exact W.iret hx hb hr (fun t ht _ => ⟨⟨_, (), rfl, (congrArg Prod.fst e9), by show qP D _ ad _ _ _ t.heap; rw [ht, ← eI9]; exact hP⟩, hS.F ht⟩) hS.2.2 dX9_purses_16
abbrev r_X9_waiting : Room := { frames := 2, cells := 0, slots := 0, locals := 46 }
theorem in_X9_waiting_X9 : ∀ w ∈ u_ws RX9 TX9 42, w ∈ wsX9_waiting := by decide +kernel
set_option maxHeartbeats 4000000 in
set_option maxRecDepth 100000 in
theorem c_X9_waiting (l : Launch) {D : va_G} {ad : Nat → Nat} {cy : Nat → ClassId} {sa va : Nat → Nat} {I : qI} {J : qJ} {S : Nat → Prop} (h0 : isM0 S)    {r : Int32} (hf : f_X9_waiting I = some r) : Met l yX9_waiting wsX9_waiting r_X9_waiting (va_Pc [.ref (ad 0)] (qPre D S ad cy sa va (eM ad cy) I J)) (vp_Si (fun x => x = r)) 0 0 (fun _ => False) := by
  refine Met.ofW (cc := cX9_waiting) (maxL := 1) (ret := (some .int)) (by decide) rfl ?_
  intro p e s m args below meth c s₁ B hml hv
  obtain ⟨rfl, hP, hK, hE, hN⟩ := hv
  have C : qC p s m _ meth c cX9_waiting 1 RX9 wsX9_waiting (some .int) := ⟨⟨B.exec, B.bytes, hml, findClass_of_methodNamed B.named, atoms_spec (ws := wsX9_waiting) B.pre⟩, B.returns, B.notSynchronized⟩
  have C0 := C
  obtain ⟨⟨hx, hb, hml, hown, hts⟩, hr, hlocks⟩ := C0
  have hl := lv_entry ([.ref (ad 0)]) (n := 1) (Nat.le_of_ble_eq_true rfl)
  rw [lg_entry_eq]
  generalize (lg_sl ([.ref (ad 0)]) ++ List.replicate (1 - (lg_sl ([.ref (ad 0)])).length) Slot.unset).toArray = ls at hl ⊢
  have hl : lv_has ls 1 [(0, .ref (ad 0))] := hl
  unfold f_X9_waiting at hf
  refine lv_aload_n hx hb dX9_waiting_0 rfl (lv_at hl 0 rfl) ?_
  refine lv_iconst (v := 1) hx hb dX9_waiting_1 (by decide) ?_
  refine lv_aload_n hx hb dX9_waiting_2 rfl (lv_at hl 0 rfl) ?_
  refine q_get (C := RX9) (T := TX9) (N := 42) (ci := 9) (v := .int (I 0 17)) hx hb hts in_X9_waiting_X9 hown hK hP (oX9 h0) rfl 17 (by decide) (hts (.fieldLink RX9 93 "RowsOnlyPrimesModel" "parties" "I") (by decide +kernel)) (fun _ h9 => h9) rfl dX9_waiting_3 ?_
  refine lv_ishl hx hb dX9_waiting_6 ?_
  refine lv_iconst (v := 1) hx hb dX9_waiting_7 (by decide) ?_
  refine lv_isub hx hb dX9_waiting_8 ?_
  refine lv_aload_n hx hb dX9_waiting_9 rfl (lv_at hl 0 rfl) ?_
  refine q_get (C := RX9) (T := TX9) (N := 42) (ci := 9) (v := .int (I 0 18)) hx hb hts in_X9_waiting_X9 hown hK hP (oX9 h0) rfl 18 (by decide) (hts (.fieldLink RX9 100 "RowsOnlyPrimesModel" "over" "I") (by decide +kernel)) (fun _ h9 => h9) rfl dX9_waiting_10 ?_
  refine lv_iconst (v := -1) hx hb dX9_waiting_13 (by decide) ?_
  refine lv_ixor hx hb dX9_waiting_14 ?_
  refine lv_iand hx hb dX9_waiting_15 ?_
  obtain ⟨v1, h2, hf⟩ := bd_ok hf
  refine q_cSi (va_runV (As := [.int ((((1 : Int32) <<< ((I 0 17) &&& (31 : Int32))) - (1 : Int32)) &&& ((I 0 18) ^^^ (-1 : Int32)))]) (rest := []) ⟨hx, hb, hml, hown, hts⟩ (c_X9_headsTogether l (D := D) (ad := ad) (cy := cy) (sa := sa) (va := va) (I := I) (J := J) (S := S) h0 ((((1 : Int32) <<< ((I 0 17) &&& (31 : Int32))) - (1 : Int32)) &&& ((I 0 18) ^^^ (-1 : Int32))) h2) (cwV 1 hts gX9_waiting_X9_headsTogether rfl rfl rfl (by decide +kernel) ⟨Nat.le_of_ble_eq_true rfl, Nat.le_of_ble_eq_true rfl⟩) ⟨qPre_blind _, q_recv hK hP (oX9 h0) rfl, fun U hU hW => ⟨rfl, qPre_of hP hK hE hN va_S.rf U hU hW⟩⟩ rfl rfl hl.1 rfl (lv_room (Nat.le_of_ble_eq_true rfl)) dX9_waiting_16 ⟨Nat.le_of_ble_eq_true rfl, Nat.le_of_ble_eq_true rfl⟩) ?_
  exact W.iret hx hb hr (fun t ht _ => ⟨_, rfl, Option.some.inj hf, ht⟩) (fun _ h => by cases h) dX9_waiting_19
abbrev r_X9_many : Room := { frames := 4, cells := 0, slots := 0, locals := 93 }
theorem in_X9_many_X9 : ∀ w ∈ u_ws RX9 TX9 42, w ∈ wsX9_many := by decide +kernel
set_option maxHeartbeats 4000000 in
set_option maxRecDepth 100000 in
theorem w_X9_many_4 {S : Nat → Prop} (C : qC p s m args meth c cX9_many 3 RX9 wsX9_many (some .int)) (hK : qK D cy sa s) (hE : qEnv sa va (qA S ad) s s.heap) (hN : qN S ad) (h0 : isM0 S)   {I : qI} {J : qJ} (hP : qP D S ad (eM ad cy) I J s.heap) {r : Int32} : ∀ (n : Nat) (x1 : Int32) (x2 : Int32)  (ls : Array Slot), f_X9_many_4 I n x1 x2 = some r → lv_has ls 3 [(0, .ref (ad 0)), (1, .int x1), (2, .int x2)] → W p l e (headSpec wsX9_many r_X9_many).room s m args below meth c s.heap [] 0 0 (MQ below (vp_Si (fun x => x = r)) args s 0 0 (fun _ => False)) (F0 m 4 ls []) := by
  have C0 := C
  obtain ⟨⟨hx, hb, hml, hown, hts⟩, hr, hlocks⟩ := C0
  intro n
  induction n with
  | zero =>
    intro x1 x2 ls hf hl
    rw [f_X9_many_4] at hf
    cases hf
  | succ n ih =>
    intro x1 x2 ls hf hl
    rw [f_X9_many_4] at hf
    refine lv_iload_n hx hb dX9_many_4 rfl (lv_at hl 2 rfl) ?_
    refine lv_iconst (v := 1) hx hb dX9_many_5 (by decide) ?_
    refine lv_aload_n hx hb dX9_many_6 rfl (lv_at hl 0 rfl) ?_
    refine q_get (C := RX9) (T := TX9) (N := 42) (ci := 9) (v := .int (I 0 17)) hx hb hts in_X9_many_X9 hown hK hP (oX9 h0) rfl 17 (by decide) (hts (.fieldLink RX9 93 "RowsOnlyPrimesModel" "parties" "I") (by decide +kernel)) (fun _ h9 => h9) rfl dX9_many_7 ?_
    refine lv_ishl hx hb dX9_many_10 ?_
    refine lv_icmp_ge (tgt := 37) hx hb dX9_many_11 (by decide) (fun cc => ?_) (fun cc => ?_)
    · have hf := (if_ok hf).1 cc
      refine lv_iload_n hx hb dX9_many_37 rfl (lv_at hl 1 rfl) ?_
      exact W.iret hx hb hr (fun t ht _ => ⟨_, rfl, Option.some.inj hf, ht⟩) (fun _ h => by cases h) dX9_many_38
    · have hf := (if_ok hf).2 cc
      refine lv_iload_n hx hb dX9_many_14 rfl (lv_at hl 1 rfl) ?_
      refine lv_aload_n hx hb dX9_many_15 rfl (lv_at hl 0 rfl) ?_
      refine lv_iload_n hx hb dX9_many_16 rfl (lv_at hl 2 rfl) ?_
      obtain ⟨v1, h2, hf⟩ := bd_ok hf
      refine q_cSi (va_runV (As := [.int x2]) (rest := [.int x1]) ⟨hx, hb, hml, hown, hts⟩ (c_X9_hireOf l (D := D) (ad := ad) (cy := cy) (sa := sa) (va := va) (I := I) (J := J) (S := S) h0 x2 h2) (cwV 1 hts gX9_many_X9_hireOf rfl rfl rfl (by decide +kernel) ⟨Nat.le_of_ble_eq_true rfl, Nat.le_of_ble_eq_true rfl⟩) ⟨qPre_blind _, q_recv hK hP (oX9 h0) rfl, fun U hU hW => ⟨rfl, qPre_of hP hK hE hN va_S.rf U hU hW⟩⟩ rfl rfl hl.1 rfl (lv_room (Nat.le_of_ble_eq_true rfl)) dX9_many_17 ⟨Nat.le_of_ble_eq_true rfl, Nat.le_of_ble_eq_true rfl⟩) ?_
      refine lv_iconst (v := -1) hx hb dX9_many_20 (by decide) ?_
      refine lv_icmp_ne (tgt := 28) hx hb dX9_many_21 (by decide) (fun cc => ?_) (fun cc => ?_)
      · have hf := (if_ok hf).2 cc
        refine lv_iconst (v := 1) hx hb dX9_many_28 (by decide) ?_
        refine lv_iadd hx hb dX9_many_29 ?_
        refine lv_istore_n (lv' := [(1, .int (x1 + (1 : Int32))), (0, .ref (ad 0)), (2, .int x2)]) hx hb dX9_many_30 rfl hl (by decide) rfl (fun ls hl => ?_)
        refine lv_iinc (v := (x2 + (1 : Int32))) (lv' := [(2, .int (x2 + (1 : Int32))), (1, .int (x1 + (1 : Int32))), (0, .ref (ad 0))]) hx hb dX9_many_31 hl (k := 2) rfl rfl (by decide) rfl (fun ls hl => ?_)
        refine lv_goto (tgt := 4) hx hb dX9_many_34 (by decide) ?_
        exact ih (x1 + (1 : Int32)) (x2 + (1 : Int32)) _ hf (lv_sub hl [2, 1, 0] rfl)
      · have hf := (if_ok hf).1 cc
        refine lv_iconst (v := 0) hx hb dX9_many_24 (by decide) ?_
        refine lv_goto (tgt := 29) hx hb dX9_many_25 (by decide) ?_
        refine lv_iadd hx hb dX9_many_29 ?_
        refine lv_istore_n (lv' := [(1, .int (x1 + (0 : Int32))), (0, .ref (ad 0)), (2, .int x2)]) hx hb dX9_many_30 rfl hl (by decide) rfl (fun ls hl => ?_)
        refine lv_iinc (v := (x2 + (1 : Int32))) (lv' := [(2, .int (x2 + (1 : Int32))), (1, .int (x1 + (0 : Int32))), (0, .ref (ad 0))]) hx hb dX9_many_31 hl (k := 2) rfl rfl (by decide) rfl (fun ls hl => ?_)
        refine lv_goto (tgt := 4) hx hb dX9_many_34 (by decide) ?_
        exact ih (x1 + (0 : Int32)) (x2 + (1 : Int32)) _ hf (lv_sub hl [2, 1, 0] rfl)
set_option maxHeartbeats 4000000 in
set_option maxRecDepth 100000 in
theorem c_X9_many (l : Launch) {D : va_G} {ad : Nat → Nat} {cy : Nat → ClassId} {sa va : Nat → Nat} {I : qI} {J : qJ} {S : Nat → Prop} (h0 : isM0 S)    {r : Int32} (hf : f_X9_many I = some r) : Met l yX9_many wsX9_many r_X9_many (va_Pc [.ref (ad 0)] (qPre D S ad cy sa va (eM ad cy) I J)) (vp_Si (fun x => x = r)) 0 0 (fun _ => False) := by
  refine Met.ofW (cc := cX9_many) (maxL := 3) (ret := (some .int)) (by decide) rfl ?_
  intro p e s m args below meth c s₁ B hml hv
  obtain ⟨rfl, hP, hK, hE, hN⟩ := hv
  have C : qC p s m _ meth c cX9_many 3 RX9 wsX9_many (some .int) := ⟨⟨B.exec, B.bytes, hml, findClass_of_methodNamed B.named, atoms_spec (ws := wsX9_many) B.pre⟩, B.returns, B.notSynchronized⟩
  have C0 := C
  obtain ⟨⟨hx, hb, hml, hown, hts⟩, hr, hlocks⟩ := C0
  have hl := lv_entry ([.ref (ad 0)]) (n := 3) (Nat.le_of_ble_eq_true rfl)
  rw [lg_entry_eq]
  generalize (lg_sl ([.ref (ad 0)]) ++ List.replicate (3 - (lg_sl ([.ref (ad 0)])).length) Slot.unset).toArray = ls at hl ⊢
  have hl : lv_has ls 3 [(0, .ref (ad 0))] := hl
  unfold f_X9_many at hf
  refine lv_iconst (v := 0) hx hb dX9_many_0 (by decide) ?_
  refine lv_istore_n (lv' := [(1, .int (0 : Int32)), (0, .ref (ad 0))]) hx hb dX9_many_1 rfl hl (by decide) rfl (fun ls hl => ?_)
  refine lv_iconst (v := 1) hx hb dX9_many_2 (by decide) ?_
  refine lv_istore_n (lv' := [(2, .int (1 : Int32)), (1, .int (0 : Int32)), (0, .ref (ad 0))]) hx hb dX9_many_3 rfl hl (by decide) rfl (fun ls hl => ?_)
  exact w_X9_many_4 C hK hE hN h0 hP  1000 (0 : Int32) (1 : Int32) _ hf (lv_sub hl [2, 1, 0] rfl)
abbrev r_X9_stranded : Room := { frames := 4, cells := 0, slots := 0, locals := 93 }
theorem in_X9_stranded_X9 : ∀ w ∈ u_ws RX9 TX9 42, w ∈ wsX9_stranded := by decide +kernel
set_option maxHeartbeats 4000000 in
set_option maxRecDepth 100000 in
theorem w_X9_stranded_18 {S : Nat → Prop} (C : qC p s m args meth c cX9_stranded 3 RX9 wsX9_stranded (some .int)) (hK : qK D cy sa s) (hE : qEnv sa va (qA S ad) s s.heap) (hN : qN S ad) (h0 : isM0 S)   {I : qI} {J : qJ} (hP : qP D S ad (eM ad cy) I J s.heap) {r : Int32} : ∀ (n : Nat) (x1 : Int32) (x2 : Int32)  (ls : Array Slot), f_X9_stranded_18 I n x1 x2 = some r → lv_has ls 3 [(0, .ref (ad 0)), (1, .int x1), (2, .int x2)] → W p l e (headSpec wsX9_stranded r_X9_stranded).room s m args below meth c s.heap [] 0 0 (MQ below (vp_Si (fun x => x = r)) args s 0 0 (fun _ => False)) (F0 m 18 ls []) := by
  have C0 := C
  obtain ⟨⟨hx, hb, hml, hown, hts⟩, hr, hlocks⟩ := C0
  intro n
  induction n with
  | zero =>
    intro x1 x2 ls hf hl
    rw [f_X9_stranded_18] at hf
    cases hf
  | succ n ih =>
    intro x1 x2 ls hf hl
    rw [f_X9_stranded_18] at hf
    refine lv_iload_n hx hb dX9_stranded_18 rfl (lv_at hl 2 rfl) ?_
    refine lv_iconst (v := 1) hx hb dX9_stranded_19 (by decide) ?_
    refine lv_aload_n hx hb dX9_stranded_20 rfl (lv_at hl 0 rfl) ?_
    refine q_get (C := RX9) (T := TX9) (N := 42) (ci := 9) (v := .int (I 0 17)) hx hb hts in_X9_stranded_X9 hown hK hP (oX9 h0) rfl 17 (by decide) (hts (.fieldLink RX9 93 "RowsOnlyPrimesModel" "parties" "I") (by decide +kernel)) (fun _ h9 => h9) rfl dX9_stranded_21 ?_
    refine lv_ishl hx hb dX9_stranded_24 ?_
    refine lv_icmp_ge (tgt := 53) hx hb dX9_stranded_25 (by decide) (fun cc => ?_) (fun cc => ?_)
    · have hf := (if_ok hf).1 cc
      refine lv_iload_n hx hb dX9_stranded_53 rfl (lv_at hl 1 rfl) ?_
      exact W.iret hx hb hr (fun t ht _ => ⟨_, rfl, Option.some.inj hf, ht⟩) (fun _ h => by cases h) dX9_stranded_54
    · have hf := (if_ok hf).2 cc
      refine lv_iload_n hx hb dX9_stranded_28 rfl (lv_at hl 1 rfl) ?_
      refine lv_aload_n hx hb dX9_stranded_29 rfl (lv_at hl 0 rfl) ?_
      refine lv_iload_n hx hb dX9_stranded_30 rfl (lv_at hl 2 rfl) ?_
      obtain ⟨v1, h2, hf⟩ := bd_ok hf
      refine q_cSi (va_runV (As := [.int x2]) (rest := [.int x1]) ⟨hx, hb, hml, hown, hts⟩ (c_X9_hireOf l (D := D) (ad := ad) (cy := cy) (sa := sa) (va := va) (I := I) (J := J) (S := S) h0 x2 h2) (cwV 1 hts gX9_stranded_X9_hireOf rfl rfl rfl (by decide +kernel) ⟨Nat.le_of_ble_eq_true rfl, Nat.le_of_ble_eq_true rfl⟩) ⟨qPre_blind _, q_recv hK hP (oX9 h0) rfl, fun U hU hW => ⟨rfl, qPre_of hP hK hE hN va_S.rf U hU hW⟩⟩ rfl rfl hl.1 rfl (lv_room (Nat.le_of_ble_eq_true rfl)) dX9_stranded_31 ⟨Nat.le_of_ble_eq_true rfl, Nat.le_of_ble_eq_true rfl⟩) ?_
      refine lv_iconst (v := -1) hx hb dX9_stranded_34 (by decide) ?_
      refine lv_icmp_ne (tgt := 42) hx hb dX9_stranded_35 (by decide) (fun cc => ?_) (fun cc => ?_)
      · have hf := (if_ok hf).2 cc
        refine lv_iload_n hx hb dX9_stranded_42 rfl (lv_at hl 2 rfl) ?_
        refine lv_iconst (v := -1) hx hb dX9_stranded_43 (by decide) ?_
        refine lv_ixor hx hb dX9_stranded_44 ?_
        refine lv_iand hx hb dX9_stranded_45 ?_
        refine lv_istore_n (lv' := [(1, .int (x1 &&& (x2 ^^^ (-1 : Int32)))), (0, .ref (ad 0)), (2, .int x2)]) hx hb dX9_stranded_46 rfl hl (by decide) rfl (fun ls hl => ?_)
        refine lv_iinc (v := (x2 + (1 : Int32))) (lv' := [(2, .int (x2 + (1 : Int32))), (1, .int (x1 &&& (x2 ^^^ (-1 : Int32)))), (0, .ref (ad 0))]) hx hb dX9_stranded_47 hl (k := 2) rfl rfl (by decide) rfl (fun ls hl => ?_)
        refine lv_goto (tgt := 18) hx hb dX9_stranded_50 (by decide) ?_
        exact ih (x1 &&& (x2 ^^^ (-1 : Int32))) (x2 + (1 : Int32)) _ hf (lv_sub hl [2, 1, 0] rfl)
      · have hf := (if_ok hf).1 cc
        refine lv_iload_n hx hb dX9_stranded_38 rfl (lv_at hl 1 rfl) ?_
        refine lv_goto (tgt := 45) hx hb dX9_stranded_39 (by decide) ?_
        refine lv_iand hx hb dX9_stranded_45 ?_
        refine lv_istore_n (lv' := [(1, .int (x1 &&& x1)), (0, .ref (ad 0)), (2, .int x2)]) hx hb dX9_stranded_46 rfl hl (by decide) rfl (fun ls hl => ?_)
        refine lv_iinc (v := (x2 + (1 : Int32))) (lv' := [(2, .int (x2 + (1 : Int32))), (1, .int (x1 &&& x1)), (0, .ref (ad 0))]) hx hb dX9_stranded_47 hl (k := 2) rfl rfl (by decide) rfl (fun ls hl => ?_)
        refine lv_goto (tgt := 18) hx hb dX9_stranded_50 (by decide) ?_
        exact ih (x1 &&& x1) (x2 + (1 : Int32)) _ hf (lv_sub hl [2, 1, 0] rfl)
set_option maxHeartbeats 4000000 in
set_option maxRecDepth 100000 in
theorem c_X9_stranded (l : Launch) {D : va_G} {ad : Nat → Nat} {cy : Nat → ClassId} {sa va : Nat → Nat} {I : qI} {J : qJ} {S : Nat → Prop} (h0 : isM0 S)    {r : Int32} (hf : f_X9_stranded I = some r) : Met l yX9_stranded wsX9_stranded r_X9_stranded (va_Pc [.ref (ad 0)] (qPre D S ad cy sa va (eM ad cy) I J)) (vp_Si (fun x => x = r)) 0 0 (fun _ => False) := by
  refine Met.ofW (cc := cX9_stranded) (maxL := 3) (ret := (some .int)) (by decide) rfl ?_
  intro p e s m args below meth c s₁ B hml hv
  obtain ⟨rfl, hP, hK, hE, hN⟩ := hv
  have C : qC p s m _ meth c cX9_stranded 3 RX9 wsX9_stranded (some .int) := ⟨⟨B.exec, B.bytes, hml, findClass_of_methodNamed B.named, atoms_spec (ws := wsX9_stranded) B.pre⟩, B.returns, B.notSynchronized⟩
  have C0 := C
  obtain ⟨⟨hx, hb, hml, hown, hts⟩, hr, hlocks⟩ := C0
  have hl := lv_entry ([.ref (ad 0)]) (n := 3) (Nat.le_of_ble_eq_true rfl)
  rw [lg_entry_eq]
  generalize (lg_sl ([.ref (ad 0)]) ++ List.replicate (3 - (lg_sl ([.ref (ad 0)])).length) Slot.unset).toArray = ls at hl ⊢
  have hl : lv_has ls 3 [(0, .ref (ad 0))] := hl
  unfold f_X9_stranded at hf
  refine lv_iconst (v := 1) hx hb dX9_stranded_0 (by decide) ?_
  refine lv_aload_n hx hb dX9_stranded_1 rfl (lv_at hl 0 rfl) ?_
  refine q_get (C := RX9) (T := TX9) (N := 42) (ci := 9) (v := .int (I 0 17)) hx hb hts in_X9_stranded_X9 hown hK hP (oX9 h0) rfl 17 (by decide) (hts (.fieldLink RX9 93 "RowsOnlyPrimesModel" "parties" "I") (by decide +kernel)) (fun _ h9 => h9) rfl dX9_stranded_2 ?_
  refine lv_ishl hx hb dX9_stranded_5 ?_
  refine lv_iconst (v := 1) hx hb dX9_stranded_6 (by decide) ?_
  refine lv_isub hx hb dX9_stranded_7 ?_
  refine lv_aload_n hx hb dX9_stranded_8 rfl (lv_at hl 0 rfl) ?_
  refine q_get (C := RX9) (T := TX9) (N := 42) (ci := 9) (v := .int (I 0 18)) hx hb hts in_X9_stranded_X9 hown hK hP (oX9 h0) rfl 18 (by decide) (hts (.fieldLink RX9 100 "RowsOnlyPrimesModel" "over" "I") (by decide +kernel)) (fun _ h9 => h9) rfl dX9_stranded_9 ?_
  refine lv_iconst (v := -1) hx hb dX9_stranded_12 (by decide) ?_
  refine lv_ixor hx hb dX9_stranded_13 ?_
  refine lv_iand hx hb dX9_stranded_14 ?_
  obtain ⟨v1, ev1, hf⟩ := lt_ok hf
  refine q_top ev1 ?_
  refine lv_istore_n (lv' := [(1, .int v1), (0, .ref (ad 0))]) hx hb dX9_stranded_15 rfl hl (by decide) rfl (fun ls hl => ?_)
  refine lv_iconst (v := 1) hx hb dX9_stranded_16 (by decide) ?_
  refine lv_istore_n (lv' := [(2, .int (1 : Int32)), (1, .int v1), (0, .ref (ad 0))]) hx hb dX9_stranded_17 rfl hl (by decide) rfl (fun ls hl => ?_)
  exact w_X9_stranded_18 C hK hE hN h0 hP  1000 v1 (1 : Int32) _ hf (lv_sub hl [2, 1, 0] rfl)
abbrev r_X9_together : Room := { frames := 4, cells := 0, slots := 0, locals := 93 }
theorem in_X9_together_X9 : ∀ w ∈ u_ws RX9 TX9 42, w ∈ wsX9_together := by decide +kernel
set_option maxHeartbeats 4000000 in
set_option maxRecDepth 100000 in
theorem w_X9_together_78 {S : Nat → Prop} (C : qC p s m args meth c cX9_together 6 RX9 wsX9_together (some .int)) (hK : qK D cy sa s) (hE : qEnv sa va (qA S ad) s s.heap) (hN : qN S ad) (h0 : isM0 S)   {J : qJ} {r : Int32} {Ie : qI} (k43 : Int32 → Int32 → Int32 → qI → Option (Int32 × qI)) (hk43 : ∀ (x3 : Int32) (x4 : Int32) (x5 : Int32)  (I : qI) (ls : Array Slot) (H : Heap) (locs : List Loc), k43 x3 x4 x5 I = some (r, Ie) → lv_has ls 6 [(0, .ref (ad 0)), (3, .int x3), (4, .int x4), (5, .int x5)] → qP D S ad (eM ad cy) I J H → va_S (qA S ad) s.heap H locs → W p l e (headSpec wsX9_together r_X9_together).room s m args below meth c H locs 0 0 (MQ below (va_Qi (S := Unit) (fun x _ => x = r) (fun _ t => qP D S ad (eM ad cy) Ie J t.heap) (qA S ad)) args s 0 0 (qA S ad)) (F0 m 43 ls [])) : ∀ (x3 : Int32) (x5 : Int32) (xs0 : Int32)  (I : qI) (ls : Array Slot) (H : Heap) (locs : List Loc), f_X9_together_78 k43 x3 x5 xs0 I = some (r, Ie) → lv_has ls 6 [(0, .ref (ad 0)), (3, .int x3), (5, .int x5)] → qP D S ad (eM ad cy) I J H → va_S (qA S ad) s.heap H locs → W p l e (headSpec wsX9_together r_X9_together).room s m args below meth c H locs 0 0 (MQ below (va_Qi (S := Unit) (fun x _ => x = r) (fun _ t => qP D S ad (eM ad cy) Ie J t.heap) (qA S ad)) args s 0 0 (qA S ad)) (F0 m 78 ls [.int xs0]) := by
  have C0 := C
  obtain ⟨⟨hx, hb, hml, hown, hts⟩, hr, hlocks⟩ := C0
  intro x3 x5 xs0 I ls H locs hf hl hP hS
  unfold f_X9_together_78 at hf
  refine lv_iconst (v := 0) hx hb dX9_together_78 (by decide) ?_
  refine lv_iadd hx hb dX9_together_79 ?_
  refine lv_istore (lv' := [(4, .int (xs0 + (0 : Int32))), (0, .ref (ad 0)), (3, .int x3), (5, .int x5)]) hx hb dX9_together_80 hl (by decide) rfl (fun ls hl => ?_)
  refine lv_iinc (v := (x5 + (1 : Int32))) (lv' := [(5, .int (x5 + (1 : Int32))), (4, .int (xs0 + (0 : Int32))), (0, .ref (ad 0)), (3, .int x3)]) hx hb dX9_together_82 hl (k := 3) rfl rfl (by decide) rfl (fun ls hl => ?_)
  refine lv_goto (tgt := 43) hx hb dX9_together_85 (by decide) ?_
  exact hk43 x3 (xs0 + (0 : Int32)) (x5 + (1 : Int32)) I _ _ _ hf (lv_sub hl [2, 3, 1, 0] rfl) hP hS
set_option maxHeartbeats 4000000 in
set_option maxRecDepth 100000 in
theorem w_X9_together_43 {S : Nat → Prop} (C : qC p s m args meth c cX9_together 6 RX9 wsX9_together (some .int)) (hK : qK D cy sa s) (hE : qEnv sa va (qA S ad) s s.heap) (hN : qN S ad) (h0 : isM0 S)   {J : qJ} {r : Int32} {Ie : qI} : ∀ (n : Nat) (x3 : Int32) (x4 : Int32) (x5 : Int32)  (I : qI) (ls : Array Slot) (H : Heap) (locs : List Loc), f_X9_together_43 n x3 x4 x5 I = some (r, Ie) → lv_has ls 6 [(0, .ref (ad 0)), (3, .int x3), (4, .int x4), (5, .int x5)] → qP D S ad (eM ad cy) I J H → va_S (qA S ad) s.heap H locs → W p l e (headSpec wsX9_together r_X9_together).room s m args below meth c H locs 0 0 (MQ below (va_Qi (S := Unit) (fun x _ => x = r) (fun _ t => qP D S ad (eM ad cy) Ie J t.heap) (qA S ad)) args s 0 0 (qA S ad)) (F0 m 43 ls []) := by
  have C0 := C
  obtain ⟨⟨hx, hb, hml, hown, hts⟩, hr, hlocks⟩ := C0
  intro n
  induction n with
  | zero =>
    intro x3 x4 x5 I ls H locs hf hl hP hS
    rw [f_X9_together_43] at hf
    cases hf
  | succ n ih =>
    intro x3 x4 x5 I ls H locs hf hl hP hS
    rw [f_X9_together_43] at hf
    refine lv_iload hx hb dX9_together_43 (lv_at hl 3 rfl) ?_
    refine lv_iconst (v := 1) hx hb dX9_together_45 (by decide) ?_
    refine lv_aload_n hx hb dX9_together_46 rfl (lv_at hl 0 rfl) ?_
    refine q_get (C := RX9) (T := TX9) (N := 42) (ci := 9) (v := .int (I 0 17)) hx hb hts in_X9_together_X9 hown hK hP (oX9 h0) rfl 17 (by decide) (hts (.fieldLink RX9 93 "RowsOnlyPrimesModel" "parties" "I") (by decide +kernel)) (fun _ h9 => h9) rfl dX9_together_47 ?_
    refine lv_ishl hx hb dX9_together_50 ?_
    refine lv_icmp_ge (tgt := 88) hx hb dX9_together_51 (by decide) (fun cc => ?_) (fun cc => ?_)
    · have hf := (if_ok hf).1 cc
      refine lv_iload hx hb dX9_together_88 (lv_at hl 2 rfl) ?_
      have e9 := Option.some.inj hf
      have eI9 : I = Ie := (congrArg Prod.snd e9)
      exact W.iret hx hb hr (fun t ht _ => ⟨⟨_, (), rfl, (congrArg Prod.fst e9), by show qP D _ ad _ _ _ t.heap; rw [ht, ← eI9]; exact hP⟩, hS.F ht⟩) hS.2.2 dX9_together_90
    · have hf := (if_ok hf).2 cc
      refine lv_iload hx hb dX9_together_54 (lv_at hl 2 rfl) ?_
      refine lv_iload hx hb dX9_together_56 (lv_at hl 3 rfl) ?_
      refine lv_iload_n hx hb dX9_together_58 rfl (lv_at hl 1 rfl) ?_
      refine lv_iand hx hb dX9_together_59 ?_
      refine lv_iload_n hx hb dX9_together_60 rfl (lv_at hl 1 rfl) ?_
      refine lv_icmp_ne (tgt := 78) hx hb dX9_together_61 (by decide) (fun cc => ?_) (fun cc => ?_)
      · have hf := (if_ok hf).2 cc
        exact w_X9_together_78 C hK hE hN h0 (f_X9_together_43 n) ih  x3 x5 x4 I _ _ _ hf (lv_sub hl [0, 1, 3] rfl) hP hS
      · have hf := (if_ok hf).1 cc
        refine lv_aload_n hx hb dX9_together_64 rfl (lv_at hl 0 rfl) ?_
        refine lv_iload hx hb dX9_together_65 (lv_at hl 3 rfl) ?_
        obtain ⟨v1, h2, hf⟩ := bd_ok hf
        refine q_cSi (va_runV (As := [.int x5]) (rest := [.int x4]) ⟨hx, hb, hml, hown, hts⟩ (c_X9_hireOf l (D := D) (ad := ad) (cy := cy) (sa := sa) (va := va) (I := I) (J := J) (S := S) h0 x5 h2) (cwV 1 hts gX9_together_X9_hireOf rfl rfl rfl (by decide +kernel) ⟨Nat.le_of_ble_eq_true rfl, Nat.le_of_ble_eq_true rfl⟩) ⟨qPre_blind _, q_recv hK hP (oX9 h0) rfl, fun U hU hW => ⟨rfl, qPre_of hP hK hE hN hS U hU hW⟩⟩ rfl rfl hl.1 rfl (lv_room (Nat.le_of_ble_eq_true rfl)) dX9_together_67 ⟨Nat.le_of_ble_eq_true rfl, Nat.le_of_ble_eq_true rfl⟩) ?_
        refine lv_iconst (v := -1) hx hb dX9_together_70 (by decide) ?_
        refine lv_icmp_eq (tgt := 78) hx hb dX9_together_71 (by decide) (fun cc => ?_) (fun cc => ?_)
        · have hf := (if_ok hf).1 cc
          exact w_X9_together_78 C hK hE hN h0 (f_X9_together_43 n) ih  x3 x5 x4 I _ _ _ hf (lv_sub hl [0, 1, 3] rfl) hP hS
        · have hf := (if_ok hf).2 cc
          refine lv_iconst (v := 1) hx hb dX9_together_74 (by decide) ?_
          refine lv_goto (tgt := 79) hx hb dX9_together_75 (by decide) ?_
          refine lv_iadd hx hb dX9_together_79 ?_
          refine lv_istore (lv' := [(4, .int (x4 + (1 : Int32))), (0, .ref (ad 0)), (3, .int x3), (5, .int x5)]) hx hb dX9_together_80 hl (by decide) rfl (fun ls hl => ?_)
          refine lv_iinc (v := (x5 + (1 : Int32))) (lv' := [(5, .int (x5 + (1 : Int32))), (4, .int (x4 + (1 : Int32))), (0, .ref (ad 0)), (3, .int x3)]) hx hb dX9_together_82 hl (k := 3) rfl rfl (by decide) rfl (fun ls hl => ?_)
          refine lv_goto (tgt := 43) hx hb dX9_together_85 (by decide) ?_
          exact ih x3 (x4 + (1 : Int32)) (x5 + (1 : Int32)) I _ _ _ hf (lv_sub hl [2, 3, 1, 0] rfl) hP hS
set_option maxHeartbeats 4000000 in
set_option maxRecDepth 100000 in
theorem w_X9_together_21 {S : Nat → Prop} (C : qC p s m args meth c cX9_together 6 RX9 wsX9_together (some .int)) (hK : qK D cy sa s) (hE : qEnv sa va (qA S ad) s s.heap) (hN : qN S ad) (h0 : isM0 S)   {J : qJ} {r : Int32} {Ie : qI} : ∀   (I : qI) (ls : Array Slot) (H : Heap) (locs : List Loc), f_X9_together_21 I = some (r, Ie) → lv_has ls 6 [(0, .ref (ad 0))] → qP D S ad (eM ad cy) I J H → va_S (qA S ad) s.heap H locs → W p l e (headSpec wsX9_together r_X9_together).room s m args below meth c H locs 0 0 (MQ below (va_Qi (S := Unit) (fun x _ => x = r) (fun _ t => qP D S ad (eM ad cy) Ie J t.heap) (qA S ad)) args s 0 0 (qA S ad)) (F0 m 21 ls []) := by
  have C0 := C
  obtain ⟨⟨hx, hb, hml, hown, hts⟩, hr, hlocks⟩ := C0
  intro I ls H locs hf hl hP hS
  unfold f_X9_together_21 at hf
  refine lv_aload_n hx hb dX9_together_21 rfl (lv_at hl 0 rfl) ?_
  refine lv_sipush (v := -1002) hx hb dX9_together_22 (by decide) ?_
  obtain ⟨v1, I2, h3, hf⟩ := bd2_ok hf
  refine q_cEi (va_runV (As := [.int (-1002 : Int32)]) (rest := []) ⟨hx, hb, hml, hown, hts⟩ (c_X9_refuse l (D := D) (ad := ad) (cy := cy) (sa := sa) (va := va) (I := I) (J := J) (S := S) h0 (-1002 : Int32) h3) (cwV 1 hts gX9_together_X9_refuse rfl rfl rfl (by decide +kernel) ⟨Nat.le_of_ble_eq_true rfl, Nat.le_of_ble_eq_true rfl⟩) ⟨qPre_blind _, q_recv hK hP (oX9 h0) rfl, fun U hU hW => ⟨rfl, qPre_of hP hK hE hN hS U hU hW⟩⟩ rfl rfl hl.1 rfl (lv_room (Nat.le_of_ble_eq_true rfl)) dX9_together_25 ⟨Nat.le_of_ble_eq_true rfl, Nat.le_of_ble_eq_true rfl⟩) hS (fun H locs hP hS => ?_)
  have e9 := Option.some.inj hf
  have eI9 : I2 = Ie := (congrArg Prod.snd e9)
  exact W.iret hx hb hr (fun t ht _ => ⟨⟨_, (), rfl, (congrArg Prod.fst e9), by show qP D _ ad _ _ _ t.heap; rw [ht, ← eI9]; exact hP⟩, hS.F ht⟩) hS.2.2 dX9_together_28
set_option maxHeartbeats 4000000 in
set_option maxRecDepth 100000 in
theorem c_X9_together (l : Launch) {D : va_G} {ad : Nat → Nat} {cy : Nat → ClassId} {sa va : Nat → Nat} {I : qI} {J : qJ} {S : Nat → Prop} (h0 : isM0 S)   (p0 : Int32) (p1 : Int32) {r : Int32} {Ie : qI} (hf : f_X9_together p0 p1 I = some (r, Ie)) : Met l yX9_together wsX9_together r_X9_together (va_Pc [.ref (ad 0), .int p0, .int p1] (qPre D S ad cy sa va (eM ad cy) I J)) (va_Qi (S := Unit) (fun x _ => x = r) (fun _ t => qP D S ad (eM ad cy) Ie J t.heap) (qA S ad)) 0 0 (qA S ad) := by
  refine Met.ofW (cc := cX9_together) (maxL := 6) (ret := (some .int)) (by decide) rfl ?_
  intro p e s m args below meth c s₁ B hml hv
  obtain ⟨rfl, hP, hK, hE, hN⟩ := hv
  have C : qC p s m _ meth c cX9_together 6 RX9 wsX9_together (some .int) := ⟨⟨B.exec, B.bytes, hml, findClass_of_methodNamed B.named, atoms_spec (ws := wsX9_together) B.pre⟩, B.returns, B.notSynchronized⟩
  have C0 := C
  obtain ⟨⟨hx, hb, hml, hown, hts⟩, hr, hlocks⟩ := C0
  have hS : va_S (qA S ad) s.heap s.heap [] := va_S.rf
  have hl := lv_entry ([.ref (ad 0), .int p0, .int p1]) (n := 6) (Nat.le_of_ble_eq_true rfl)
  rw [lg_entry_eq]
  generalize (lg_sl ([.ref (ad 0), .int p0, .int p1]) ++ List.replicate (6 - (lg_sl ([.ref (ad 0), .int p0, .int p1])).length) Slot.unset).toArray = ls at hl ⊢
  have hl : lv_has ls 6 [(0, .ref (ad 0)), (1, .int p0), (2, .int p1)] := hl
  unfold f_X9_together at hf
  refine lv_aload_n hx hb dX9_together_0 rfl (lv_at hl 0 rfl) ?_
  refine lv_iload_n hx hb dX9_together_1 rfl (lv_at hl 1 rfl) ?_
  obtain ⟨v1, h2, hf⟩ := bd_ok hf
  refine q_cSi (va_runV (As := [.int p0]) (rest := []) ⟨hx, hb, hml, hown, hts⟩ (c_X9_isParty l (D := D) (ad := ad) (cy := cy) (sa := sa) (va := va) (I := I) (J := J) (S := S) h0 p0 h2) (cwV 1 hts gX9_together_X9_isParty rfl rfl rfl (by decide +kernel) ⟨Nat.le_of_ble_eq_true rfl, Nat.le_of_ble_eq_true rfl⟩) ⟨qPre_blind _, q_recv hK hP (oX9 h0) rfl, fun U hU hW => ⟨rfl, qPre_of hP hK hE hN hS U hU hW⟩⟩ rfl rfl hl.1 rfl (lv_room (Nat.le_of_ble_eq_true rfl)) dX9_together_2 ⟨Nat.le_of_ble_eq_true rfl, Nat.le_of_ble_eq_true rfl⟩) ?_
  refine lv_if_eq (tgt := 21) hx hb dX9_together_5 (by decide) (fun cc => ?_) (fun cc => ?_)
  · have hf := (if_ok hf).1 cc
    exact w_X9_together_21 C hK hE hN h0   I _ _ _ hf (lv_sub hl [0] rfl) hP hS
  · have hf := (if_ok hf).2 cc
    refine lv_aload_n hx hb dX9_together_8 rfl (lv_at hl 0 rfl) ?_
    refine lv_iload_n hx hb dX9_together_9 rfl (lv_at hl 2 rfl) ?_
    obtain ⟨v3, h4, hf⟩ := bd_ok hf
    refine q_cSi (va_runV (As := [.int p1]) (rest := []) ⟨hx, hb, hml, hown, hts⟩ (c_X9_isParty l (D := D) (ad := ad) (cy := cy) (sa := sa) (va := va) (I := I) (J := J) (S := S) h0 p1 h4) (cwV 1 hts gX9_together_X9_isParty rfl rfl rfl (by decide +kernel) ⟨Nat.le_of_ble_eq_true rfl, Nat.le_of_ble_eq_true rfl⟩) ⟨qPre_blind _, q_recv hK hP (oX9 h0) rfl, fun U hU hW => ⟨rfl, qPre_of hP hK hE hN hS U hU hW⟩⟩ rfl rfl hl.1 rfl (lv_room (Nat.le_of_ble_eq_true rfl)) dX9_together_10 ⟨Nat.le_of_ble_eq_true rfl, Nat.le_of_ble_eq_true rfl⟩) ?_
    refine lv_if_eq (tgt := 21) hx hb dX9_together_13 (by decide) (fun cc => ?_) (fun cc => ?_)
    · have hf := (if_ok hf).1 cc
      exact w_X9_together_21 C hK hE hN h0   I _ _ _ hf (lv_sub hl [0] rfl) hP hS
    · have hf := (if_ok hf).2 cc
      refine lv_iload_n hx hb dX9_together_16 rfl (lv_at hl 1 rfl) ?_
      refine lv_iload_n hx hb dX9_together_17 rfl (lv_at hl 2 rfl) ?_
      refine lv_icmp_ne (tgt := 29) hx hb dX9_together_18 (by decide) (fun cc => ?_) (fun cc => ?_)
      · have hf := (if_ok hf).2 cc
        refine lv_iconst (v := 1) hx hb dX9_together_29 (by decide) ?_
        refine lv_iload_n hx hb dX9_together_30 rfl (lv_at hl 1 rfl) ?_
        refine lv_ishl hx hb dX9_together_31 ?_
        refine lv_iconst (v := 1) hx hb dX9_together_32 (by decide) ?_
        refine lv_iload_n hx hb dX9_together_33 rfl (lv_at hl 2 rfl) ?_
        refine lv_ishl hx hb dX9_together_34 ?_
        refine lv_ior hx hb dX9_together_35 ?_
        obtain ⟨v5, ev5, hf⟩ := lt_ok hf
        refine q_top ev5 ?_
        refine lv_istore_n (lv' := [(3, .int v5), (0, .ref (ad 0)), (1, .int p0), (2, .int p1)]) hx hb dX9_together_36 rfl hl (by decide) rfl (fun ls hl => ?_)
        refine lv_iconst (v := 0) hx hb dX9_together_37 (by decide) ?_
        refine lv_istore (lv' := [(4, .int (0 : Int32)), (3, .int v5), (0, .ref (ad 0)), (1, .int p0), (2, .int p1)]) hx hb dX9_together_38 hl (by decide) rfl (fun ls hl => ?_)
        refine lv_iconst (v := 1) hx hb dX9_together_40 (by decide) ?_
        refine lv_istore (lv' := [(5, .int (1 : Int32)), (4, .int (0 : Int32)), (3, .int v5), (0, .ref (ad 0)), (1, .int p0), (2, .int p1)]) hx hb dX9_together_41 hl (by decide) rfl (fun ls hl => ?_)
        exact w_X9_together_43 C hK hE hN h0  1000 v5 (0 : Int32) (1 : Int32) I _ _ _ hf (lv_sub hl [3, 2, 1, 0] rfl) hP hS
      · have hf := (if_ok hf).1 cc
        exact w_X9_together_21 C hK hE hN h0   I _ _ _ hf (lv_sub hl [0] rfl) hP hS
abbrev r_X9_alone : Room := { frames := 3, cells := 0, slots := 0, locals := 72 }
theorem in_X9_alone_X9 : ∀ w ∈ u_ws RX9 TX9 42, w ∈ wsX9_alone := by decide +kernel
set_option maxHeartbeats 4000000 in
set_option maxRecDepth 100000 in
theorem w_X9_alone_4 {S : Nat → Prop} (C : qC p s m args meth c cX9_alone 3 RX9 wsX9_alone (some .int)) (hK : qK D cy sa s) (hE : qEnv sa va (qA S ad) s s.heap) (hN : qN S ad) (h0 : isM0 S)   {I : qI} {J : qJ} (hP : qP D S ad (eM ad cy) I J s.heap) {r : Int32} : ∀ (n : Nat) (x1 : Int32) (x2 : Int32)  (ls : Array Slot), f_X9_alone_4 I n x1 x2 = some r → lv_has ls 3 [(0, .ref (ad 0)), (1, .int x1), (2, .int x2)] → W p l e (headSpec wsX9_alone r_X9_alone).room s m args below meth c s.heap [] 0 0 (MQ below (vp_Si (fun x => x = r)) args s 0 0 (fun _ => False)) (F0 m 4 ls []) := by
  have C0 := C
  obtain ⟨⟨hx, hb, hml, hown, hts⟩, hr, hlocks⟩ := C0
  intro n
  induction n with
  | zero =>
    intro x1 x2 ls hf hl
    rw [f_X9_alone_4] at hf
    cases hf
  | succ n ih =>
    intro x1 x2 ls hf hl
    rw [f_X9_alone_4] at hf
    refine lv_iload_n hx hb dX9_alone_4 rfl (lv_at hl 2 rfl) ?_
    refine lv_aload_n hx hb dX9_alone_5 rfl (lv_at hl 0 rfl) ?_
    refine q_get (C := RX9) (T := TX9) (N := 42) (ci := 9) (v := .int (I 0 17)) hx hb hts in_X9_alone_X9 hown hK hP (oX9 h0) rfl 17 (by decide) (hts (.fieldLink RX9 93 "RowsOnlyPrimesModel" "parties" "I") (by decide +kernel)) (fun _ h9 => h9) rfl dX9_alone_6 ?_
    refine lv_icmp_ge (tgt := 39) hx hb dX9_alone_9 (by decide) (fun cc => ?_) (fun cc => ?_)
    · have hf := (if_ok hf).1 cc
      refine lv_iload_n hx hb dX9_alone_39 rfl (lv_at hl 1 rfl) ?_
      exact W.iret hx hb hr (fun t ht _ => ⟨_, rfl, Option.some.inj hf, ht⟩) (fun _ h => by cases h) dX9_alone_40
    · have hf := (if_ok hf).2 cc
      refine lv_iload_n hx hb dX9_alone_12 rfl (lv_at hl 1 rfl) ?_
      refine lv_aload_n hx hb dX9_alone_13 rfl (lv_at hl 0 rfl) ?_
      refine lv_iconst (v := 1) hx hb dX9_alone_14 (by decide) ?_
      refine lv_iload_n hx hb dX9_alone_15 rfl (lv_at hl 2 rfl) ?_
      refine lv_ishl hx hb dX9_alone_16 ?_
      refine lv_iconst (v := 0) hx hb dX9_alone_17 (by decide) ?_
      obtain ⟨v1, h2, hf⟩ := bd_ok hf
      refine q_cSi (va_runV (As := [.int ((1 : Int32) <<< (x2 &&& (31 : Int32))), .int (0 : Int32)]) (rest := [.int x1]) ⟨hx, hb, hml, hown, hts⟩ (c_X9_hireUpTo l (D := D) (ad := ad) (cy := cy) (sa := sa) (va := va) (I := I) (J := J) (S := S) h0 ((1 : Int32) <<< (x2 &&& (31 : Int32))) (0 : Int32) h2) (cwV 2 hts gX9_alone_X9_hireUpTo rfl rfl rfl (by decide +kernel) ⟨Nat.le_of_ble_eq_true rfl, Nat.le_of_ble_eq_true rfl⟩) ⟨qPre_blind _, q_recv hK hP (oX9 h0) rfl, fun U hU hW => ⟨rfl, qPre_of hP hK hE hN va_S.rf U hU hW⟩⟩ rfl rfl hl.1 rfl (lv_room (Nat.le_of_ble_eq_true rfl)) dX9_alone_18 ⟨Nat.le_of_ble_eq_true rfl, Nat.le_of_ble_eq_true rfl⟩) ?_
      refine lv_if_ne (tgt := 30) hx hb dX9_alone_21 (by decide) (fun cc => ?_) (fun cc => ?_)
      · have hf := (if_ok hf).2 cc
        refine lv_iconst (v := 0) hx hb dX9_alone_30 (by decide) ?_
        refine lv_ior hx hb dX9_alone_31 ?_
        refine lv_istore_n (lv' := [(1, .int (x1 ||| (0 : Int32))), (0, .ref (ad 0)), (2, .int x2)]) hx hb dX9_alone_32 rfl hl (by decide) rfl (fun ls hl => ?_)
        refine lv_iinc (v := (x2 + (1 : Int32))) (lv' := [(2, .int (x2 + (1 : Int32))), (1, .int (x1 ||| (0 : Int32))), (0, .ref (ad 0))]) hx hb dX9_alone_33 hl (k := 2) rfl rfl (by decide) rfl (fun ls hl => ?_)
        refine lv_goto (tgt := 4) hx hb dX9_alone_36 (by decide) ?_
        exact ih (x1 ||| (0 : Int32)) (x2 + (1 : Int32)) _ hf (lv_sub hl [2, 1, 0] rfl)
      · have hf := (if_ok hf).1 cc
        refine lv_iconst (v := 1) hx hb dX9_alone_24 (by decide) ?_
        refine lv_iload_n hx hb dX9_alone_25 rfl (lv_at hl 2 rfl) ?_
        refine lv_ishl hx hb dX9_alone_26 ?_
        refine lv_goto (tgt := 31) hx hb dX9_alone_27 (by decide) ?_
        refine lv_ior hx hb dX9_alone_31 ?_
        obtain ⟨v3, ev3, hf⟩ := lt_ok hf
        refine q_top ev3 ?_
        refine lv_istore_n (lv' := [(1, .int v3), (0, .ref (ad 0)), (2, .int x2)]) hx hb dX9_alone_32 rfl hl (by decide) rfl (fun ls hl => ?_)
        refine lv_iinc (v := (x2 + (1 : Int32))) (lv' := [(2, .int (x2 + (1 : Int32))), (1, .int v3), (0, .ref (ad 0))]) hx hb dX9_alone_33 hl (k := 2) rfl rfl (by decide) rfl (fun ls hl => ?_)
        refine lv_goto (tgt := 4) hx hb dX9_alone_36 (by decide) ?_
        exact ih v3 (x2 + (1 : Int32)) _ hf (lv_sub hl [2, 1, 0] rfl)
set_option maxHeartbeats 4000000 in
set_option maxRecDepth 100000 in
theorem c_X9_alone (l : Launch) {D : va_G} {ad : Nat → Nat} {cy : Nat → ClassId} {sa va : Nat → Nat} {I : qI} {J : qJ} {S : Nat → Prop} (h0 : isM0 S)    {r : Int32} (hf : f_X9_alone I = some r) : Met l yX9_alone wsX9_alone r_X9_alone (va_Pc [.ref (ad 0)] (qPre D S ad cy sa va (eM ad cy) I J)) (vp_Si (fun x => x = r)) 0 0 (fun _ => False) := by
  refine Met.ofW (cc := cX9_alone) (maxL := 3) (ret := (some .int)) (by decide) rfl ?_
  intro p e s m args below meth c s₁ B hml hv
  obtain ⟨rfl, hP, hK, hE, hN⟩ := hv
  have C : qC p s m _ meth c cX9_alone 3 RX9 wsX9_alone (some .int) := ⟨⟨B.exec, B.bytes, hml, findClass_of_methodNamed B.named, atoms_spec (ws := wsX9_alone) B.pre⟩, B.returns, B.notSynchronized⟩
  have C0 := C
  obtain ⟨⟨hx, hb, hml, hown, hts⟩, hr, hlocks⟩ := C0
  have hl := lv_entry ([.ref (ad 0)]) (n := 3) (Nat.le_of_ble_eq_true rfl)
  rw [lg_entry_eq]
  generalize (lg_sl ([.ref (ad 0)]) ++ List.replicate (3 - (lg_sl ([.ref (ad 0)])).length) Slot.unset).toArray = ls at hl ⊢
  have hl : lv_has ls 3 [(0, .ref (ad 0))] := hl
  unfold f_X9_alone at hf
  refine lv_iconst (v := 0) hx hb dX9_alone_0 (by decide) ?_
  refine lv_istore_n (lv' := [(1, .int (0 : Int32)), (0, .ref (ad 0))]) hx hb dX9_alone_1 rfl hl (by decide) rfl (fun ls hl => ?_)
  refine lv_iconst (v := 0) hx hb dX9_alone_2 (by decide) ?_
  refine lv_istore_n (lv' := [(2, .int (0 : Int32)), (1, .int (0 : Int32)), (0, .ref (ad 0))]) hx hb dX9_alone_3 rfl hl (by decide) rfl (fun ls hl => ?_)
  exact w_X9_alone_4 C hK hE hN h0 hP  1000 (0 : Int32) (0 : Int32) _ hf (lv_sub hl [2, 1, 0] rfl)
abbrev r_X9_fullest : Room := { frames := 4, cells := 0, slots := 0, locals := 93 }
theorem in_X9_fullest_X9 : ∀ w ∈ u_ws RX9 TX9 42, w ∈ wsX9_fullest := by decide +kernel
set_option maxHeartbeats 4000000 in
set_option maxRecDepth 100000 in
theorem w_X9_fullest_70 {S : Nat → Prop} (C : qC p s m args meth c cX9_fullest 6 RX9 wsX9_fullest (some .int)) (hK : qK D cy sa s) (hE : qEnv sa va (qA S ad) s s.heap) (hN : qN S ad) (h0 : isM0 S)   {J : qJ} {r : Int32} {Ie : qI} (k25 : Int32 → Int32 → Int32 → Int32 → qI → Option (Int32 × qI)) (hk25 : ∀ (x1 : Int32) (x2 : Int32) (x3 : Int32) (x4 : Int32)  (I : qI) (ls : Array Slot) (H : Heap) (locs : List Loc), k25 x1 x2 x3 x4 I = some (r, Ie) → lv_has ls 6 [(0, .ref (ad 0)), (1, .int x1), (2, .int x2), (3, .int x3), (4, .int x4)] → qP D S ad (eM ad cy) I J H → va_S (qA S ad) s.heap H locs → W p l e (headSpec wsX9_fullest r_X9_fullest).room s m args below meth c H locs 0 0 (MQ below (va_Qi (S := Unit) (fun x _ => x = r) (fun _ t => qP D S ad (eM ad cy) Ie J t.heap) (qA S ad)) args s 0 0 (qA S ad)) (F0 m 25 ls [])) : ∀ (x1 : Int32) (x3 : Int32) (x4 : Int32) (x5 : Int32) (xs0 : Int32)  (I : qI) (ls : Array Slot) (H : Heap) (locs : List Loc), f_X9_fullest_70 k25 x1 x3 x4 x5 xs0 I = some (r, Ie) → lv_has ls 6 [(0, .ref (ad 0)), (1, .int x1), (3, .int x3), (4, .int x4), (5, .int x5)] → qP D S ad (eM ad cy) I J H → va_S (qA S ad) s.heap H locs → W p l e (headSpec wsX9_fullest r_X9_fullest).room s m args below meth c H locs 0 0 (MQ below (va_Qi (S := Unit) (fun x _ => x = r) (fun _ t => qP D S ad (eM ad cy) Ie J t.heap) (qA S ad)) args s 0 0 (qA S ad)) (F0 m 70 ls [.int xs0]) := by
  have C0 := C
  obtain ⟨⟨hx, hb, hml, hown, hts⟩, hr, hlocks⟩ := C0
  intro x1 x3 x4 x5 xs0 I ls H locs hf hl hP hS
  unfold f_X9_fullest_70 at hf
  refine lv_istore_n (lv' := [(2, .int xs0), (0, .ref (ad 0)), (1, .int x1), (3, .int x3), (4, .int x4), (5, .int x5)]) hx hb dX9_fullest_70 rfl hl (by decide) rfl (fun ls hl => ?_)
  refine lv_iload hx hb dX9_fullest_71 (lv_at hl 5 rfl) ?_
  refine lv_iload_n hx hb dX9_fullest_73 rfl (lv_at hl 3 rfl) ?_
  refine lv_icmp_le (tgt := 82) hx hb dX9_fullest_74 (by decide) (fun cc => ?_) (fun cc => ?_)
  · have hf := (if_ok hf).1 cc
    refine lv_iload_n hx hb dX9_fullest_82 rfl (lv_at hl 3 rfl) ?_
    refine lv_istore_n (lv' := [(3, .int x3), (2, .int xs0), (0, .ref (ad 0)), (1, .int x1), (4, .int x4), (5, .int x5)]) hx hb dX9_fullest_83 rfl hl (by decide) rfl (fun ls hl => ?_)
    refine lv_iinc (v := (x4 + (1 : Int32))) (lv' := [(4, .int (x4 + (1 : Int32))), (3, .int x3), (2, .int xs0), (0, .ref (ad 0)), (1, .int x1), (5, .int x5)]) hx hb dX9_fullest_84 hl (k := 4) rfl rfl (by decide) rfl (fun ls hl => ?_)
    refine lv_goto (tgt := 25) hx hb dX9_fullest_87 (by decide) ?_
    exact hk25 x1 xs0 x3 (x4 + (1 : Int32)) I _ _ _ hf (lv_sub hl [3, 4, 2, 1, 0] rfl) hP hS
  · have hf := (if_ok hf).2 cc
    refine lv_iload hx hb dX9_fullest_77 (lv_at hl 5 rfl) ?_
    refine lv_goto (tgt := 83) hx hb dX9_fullest_79 (by decide) ?_
    refine lv_istore_n (lv' := [(3, .int x5), (2, .int xs0), (0, .ref (ad 0)), (1, .int x1), (4, .int x4), (5, .int x5)]) hx hb dX9_fullest_83 rfl hl (by decide) rfl (fun ls hl => ?_)
    refine lv_iinc (v := (x4 + (1 : Int32))) (lv' := [(4, .int (x4 + (1 : Int32))), (3, .int x5), (2, .int xs0), (0, .ref (ad 0)), (1, .int x1), (5, .int x5)]) hx hb dX9_fullest_84 hl (k := 4) rfl rfl (by decide) rfl (fun ls hl => ?_)
    refine lv_goto (tgt := 25) hx hb dX9_fullest_87 (by decide) ?_
    exact hk25 x1 xs0 x5 (x4 + (1 : Int32)) I _ _ _ hf (lv_sub hl [3, 4, 2, 1, 0] rfl) hP hS
set_option maxHeartbeats 4000000 in
set_option maxRecDepth 100000 in
theorem w_X9_fullest_56 {S : Nat → Prop} (C : qC p s m args meth c cX9_fullest 6 RX9 wsX9_fullest (some .int)) (hK : qK D cy sa s) (hE : qEnv sa va (qA S ad) s s.heap) (hN : qN S ad) (h0 : isM0 S)   {J : qJ} {r : Int32} {Ie : qI} (k25 : Int32 → Int32 → Int32 → Int32 → qI → Option (Int32 × qI)) (hk25 : ∀ (x1 : Int32) (x2 : Int32) (x3 : Int32) (x4 : Int32)  (I : qI) (ls : Array Slot) (H : Heap) (locs : List Loc), k25 x1 x2 x3 x4 I = some (r, Ie) → lv_has ls 6 [(0, .ref (ad 0)), (1, .int x1), (2, .int x2), (3, .int x3), (4, .int x4)] → qP D S ad (eM ad cy) I J H → va_S (qA S ad) s.heap H locs → W p l e (headSpec wsX9_fullest r_X9_fullest).room s m args below meth c H locs 0 0 (MQ below (va_Qi (S := Unit) (fun x _ => x = r) (fun _ t => qP D S ad (eM ad cy) Ie J t.heap) (qA S ad)) args s 0 0 (qA S ad)) (F0 m 25 ls [])) : ∀ (x1 : Int32) (x2 : Int32) (x3 : Int32) (x4 : Int32) (xs0 : Int32)  (I : qI) (ls : Array Slot) (H : Heap) (locs : List Loc), f_X9_fullest_56 k25 x1 x2 x3 x4 xs0 I = some (r, Ie) → lv_has ls 6 [(0, .ref (ad 0)), (1, .int x1), (2, .int x2), (3, .int x3), (4, .int x4)] → qP D S ad (eM ad cy) I J H → va_S (qA S ad) s.heap H locs → W p l e (headSpec wsX9_fullest r_X9_fullest).room s m args below meth c H locs 0 0 (MQ below (va_Qi (S := Unit) (fun x _ => x = r) (fun _ t => qP D S ad (eM ad cy) Ie J t.heap) (qA S ad)) args s 0 0 (qA S ad)) (F0 m 56 ls [.int xs0]) := by
  have C0 := C
  obtain ⟨⟨hx, hb, hml, hown, hts⟩, hr, hlocks⟩ := C0
  intro x1 x2 x3 x4 xs0 I ls H locs hf hl hP hS
  unfold f_X9_fullest_56 at hf
  refine lv_istore (lv' := [(5, .int xs0), (0, .ref (ad 0)), (1, .int x1), (2, .int x2), (3, .int x3), (4, .int x4)]) hx hb dX9_fullest_56 hl (by decide) rfl (fun ls hl => ?_)
  refine lv_iload hx hb dX9_fullest_58 (lv_at hl 0 rfl) ?_
  refine lv_iload_n hx hb dX9_fullest_60 rfl (lv_at hl 4 rfl) ?_
  refine lv_icmp_le (tgt := 69) hx hb dX9_fullest_61 (by decide) (fun cc => ?_) (fun cc => ?_)
  · have hf := (if_ok hf).1 cc
    refine lv_iload_n hx hb dX9_fullest_69 rfl (lv_at hl 3 rfl) ?_
    exact w_X9_fullest_70 C hK hE hN h0 k25 hk25  x1 x3 x4 xs0 x2 I _ _ _ hf (lv_sub hl [1, 2, 4, 5, 0] rfl) hP hS
  · have hf := (if_ok hf).2 cc
    refine lv_iload hx hb dX9_fullest_64 (lv_at hl 5 rfl) ?_
    refine lv_goto (tgt := 70) hx hb dX9_fullest_66 (by decide) ?_
    exact w_X9_fullest_70 C hK hE hN h0 k25 hk25  x1 x3 x4 xs0 x4 I _ _ _ hf (lv_sub hl [1, 2, 4, 5, 0] rfl) hP hS
set_option maxHeartbeats 4000000 in
set_option maxRecDepth 100000 in
theorem w_X9_fullest_25 {S : Nat → Prop} (C : qC p s m args meth c cX9_fullest 6 RX9 wsX9_fullest (some .int)) (hK : qK D cy sa s) (hE : qEnv sa va (qA S ad) s s.heap) (hN : qN S ad) (h0 : isM0 S)   {J : qJ} {r : Int32} {Ie : qI} : ∀ (n : Nat) (x1 : Int32) (x2 : Int32) (x3 : Int32) (x4 : Int32)  (I : qI) (ls : Array Slot) (H : Heap) (locs : List Loc), f_X9_fullest_25 n x1 x2 x3 x4 I = some (r, Ie) → lv_has ls 6 [(0, .ref (ad 0)), (1, .int x1), (2, .int x2), (3, .int x3), (4, .int x4)] → qP D S ad (eM ad cy) I J H → va_S (qA S ad) s.heap H locs → W p l e (headSpec wsX9_fullest r_X9_fullest).room s m args below meth c H locs 0 0 (MQ below (va_Qi (S := Unit) (fun x _ => x = r) (fun _ t => qP D S ad (eM ad cy) Ie J t.heap) (qA S ad)) args s 0 0 (qA S ad)) (F0 m 25 ls []) := by
  have C0 := C
  obtain ⟨⟨hx, hb, hml, hown, hts⟩, hr, hlocks⟩ := C0
  intro n
  induction n with
  | zero =>
    intro x1 x2 x3 x4 I ls H locs hf hl hP hS
    rw [f_X9_fullest_25] at hf
    cases hf
  | succ n ih =>
    intro x1 x2 x3 x4 I ls H locs hf hl hP hS
    rw [f_X9_fullest_25] at hf
    refine lv_iload hx hb dX9_fullest_25 (lv_at hl 4 rfl) ?_
    refine lv_iconst (v := 1) hx hb dX9_fullest_27 (by decide) ?_
    refine lv_aload_n hx hb dX9_fullest_28 rfl (lv_at hl 0 rfl) ?_
    refine q_get (C := RX9) (T := TX9) (N := 42) (ci := 9) (v := .int (I 0 17)) hx hb hts in_X9_fullest_X9 hown hK hP (oX9 h0) rfl 17 (by decide) (hts (.fieldLink RX9 93 "RowsOnlyPrimesModel" "parties" "I") (by decide +kernel)) (fun _ h9 => h9) rfl dX9_fullest_29 ?_
    refine lv_ishl hx hb dX9_fullest_32 ?_
    refine lv_icmp_ge (tgt := 90) hx hb dX9_fullest_33 (by decide) (fun cc => ?_) (fun cc => ?_)
    · have hf := (if_ok hf).1 cc
      refine lv_iload_n hx hb dX9_fullest_90 rfl (lv_at hl 1 rfl) ?_
      refine lv_if_ne (tgt := 98) hx hb dX9_fullest_91 (by decide) (fun cc => ?_) (fun cc => ?_)
      · have hf := (if_ok hf).2 cc
        refine lv_iload_n hx hb dX9_fullest_98 rfl (lv_at hl 3 rfl) ?_
        have e9 := Option.some.inj hf
        have eI9 : I = Ie := (congrArg Prod.snd e9)
        exact W.iret hx hb hr (fun t ht _ => ⟨⟨_, (), rfl, (congrArg Prod.fst e9), by show qP D _ ad _ _ _ t.heap; rw [ht, ← eI9]; exact hP⟩, hS.F ht⟩) hS.2.2 dX9_fullest_99
      · have hf := (if_ok hf).1 cc
        refine lv_iload_n hx hb dX9_fullest_94 rfl (lv_at hl 2 rfl) ?_
        refine lv_goto (tgt := 99) hx hb dX9_fullest_95 (by decide) ?_
        have e9 := Option.some.inj hf
        have eI9 : I = Ie := (congrArg Prod.snd e9)
        exact W.iret hx hb hr (fun t ht _ => ⟨⟨_, (), rfl, (congrArg Prod.fst e9), by show qP D _ ad _ _ _ t.heap; rw [ht, ← eI9]; exact hP⟩, hS.F ht⟩) hS.2.2 dX9_fullest_99
    · have hf := (if_ok hf).2 cc
      refine lv_aload_n hx hb dX9_fullest_36 rfl (lv_at hl 0 rfl) ?_
      refine lv_iload hx hb dX9_fullest_37 (lv_at hl 4 rfl) ?_
      obtain ⟨v1, h2, hf⟩ := bd_ok hf
      refine q_cSi (va_runV (As := [.int x4]) (rest := []) ⟨hx, hb, hml, hown, hts⟩ (c_X9_hireOf l (D := D) (ad := ad) (cy := cy) (sa := sa) (va := va) (I := I) (J := J) (S := S) h0 x4 h2) (cwV 1 hts gX9_fullest_X9_hireOf rfl rfl rfl (by decide +kernel) ⟨Nat.le_of_ble_eq_true rfl, Nat.le_of_ble_eq_true rfl⟩) ⟨qPre_blind _, q_recv hK hP (oX9 h0) rfl, fun U hU hW => ⟨rfl, qPre_of hP hK hE hN hS U hU hW⟩⟩ rfl rfl hl.1 rfl (lv_room (Nat.le_of_ble_eq_true rfl)) dX9_fullest_39 ⟨Nat.le_of_ble_eq_true rfl, Nat.le_of_ble_eq_true rfl⟩) ?_
      refine lv_iconst (v := -1) hx hb dX9_fullest_42 (by decide) ?_
      refine lv_icmp_ne (tgt := 50) hx hb dX9_fullest_43 (by decide) (fun cc => ?_) (fun cc => ?_)
      · have hf := (if_ok hf).2 cc
        refine lv_aload_n hx hb dX9_fullest_50 rfl (lv_at hl 0 rfl) ?_
        refine lv_iload hx hb dX9_fullest_51 (lv_at hl 4 rfl) ?_
        obtain ⟨v3, h4, hf⟩ := bd_ok hf
        refine q_cSi (va_runV (As := [.int x4]) (rest := []) ⟨hx, hb, hml, hown, hts⟩ (c_X9_headsTogether l (D := D) (ad := ad) (cy := cy) (sa := sa) (va := va) (I := I) (J := J) (S := S) h0 x4 h4) (cwV 1 hts gX9_fullest_X9_headsTogether rfl rfl rfl (by decide +kernel) ⟨Nat.le_of_ble_eq_true rfl, Nat.le_of_ble_eq_true rfl⟩) ⟨qPre_blind _, q_recv hK hP (oX9 h0) rfl, fun U hU hW => ⟨rfl, qPre_of hP hK hE hN hS U hU hW⟩⟩ rfl rfl hl.1 rfl (lv_room (Nat.le_of_ble_eq_true rfl)) dX9_fullest_53 ⟨Nat.le_of_ble_eq_true rfl, Nat.le_of_ble_eq_true rfl⟩) ?_
        exact w_X9_fullest_56 C hK hE hN h0 (f_X9_fullest_25 n) ih  x1 x2 x3 x4 v3 I _ _ _ hf (lv_sub hl [0, 1, 2, 3, 4] rfl) hP hS
      · have hf := (if_ok hf).1 cc
        refine lv_iconst (v := -1) hx hb dX9_fullest_46 (by decide) ?_
        refine lv_goto (tgt := 56) hx hb dX9_fullest_47 (by decide) ?_
        exact w_X9_fullest_56 C hK hE hN h0 (f_X9_fullest_25 n) ih  x1 x2 x3 x4 (-1 : Int32) I _ _ _ hf (lv_sub hl [0, 1, 2, 3, 4] rfl) hP hS
set_option maxHeartbeats 4000000 in
set_option maxRecDepth 100000 in
theorem c_X9_fullest (l : Launch) {D : va_G} {ad : Nat → Nat} {cy : Nat → ClassId} {sa va : Nat → Nat} {I : qI} {J : qJ} {S : Nat → Prop} (h0 : isM0 S)   (p0 : Int32) {r : Int32} {Ie : qI} (hf : f_X9_fullest p0 I = some (r, Ie)) : Met l yX9_fullest wsX9_fullest r_X9_fullest (va_Pc [.ref (ad 0), .int p0] (qPre D S ad cy sa va (eM ad cy) I J)) (va_Qi (S := Unit) (fun x _ => x = r) (fun _ t => qP D S ad (eM ad cy) Ie J t.heap) (qA S ad)) 0 0 (qA S ad) := by
  refine Met.ofW (cc := cX9_fullest) (maxL := 6) (ret := (some .int)) (by decide) rfl ?_
  intro p e s m args below meth c s₁ B hml hv
  obtain ⟨rfl, hP, hK, hE, hN⟩ := hv
  have C : qC p s m _ meth c cX9_fullest 6 RX9 wsX9_fullest (some .int) := ⟨⟨B.exec, B.bytes, hml, findClass_of_methodNamed B.named, atoms_spec (ws := wsX9_fullest) B.pre⟩, B.returns, B.notSynchronized⟩
  have C0 := C
  obtain ⟨⟨hx, hb, hml, hown, hts⟩, hr, hlocks⟩ := C0
  have hS : va_S (qA S ad) s.heap s.heap [] := va_S.rf
  have hl := lv_entry ([.ref (ad 0), .int p0]) (n := 6) (Nat.le_of_ble_eq_true rfl)
  rw [lg_entry_eq]
  generalize (lg_sl ([.ref (ad 0), .int p0]) ++ List.replicate (6 - (lg_sl ([.ref (ad 0), .int p0])).length) Slot.unset).toArray = ls at hl ⊢
  have hl : lv_has ls 6 [(0, .ref (ad 0)), (1, .int p0)] := hl
  unfold f_X9_fullest at hf
  refine lv_iload_n hx hb dX9_fullest_0 rfl (lv_at hl 1 rfl) ?_
  refine lv_i2l hx hb dX9_fullest_1 rfl ?_
  refine lv_lconst (v := 0) hx hb dX9_fullest_2 (by decide) ?_
  refine lv_lconst (v := 1) hx hb dX9_fullest_3 (by decide) ?_
  obtain ⟨v1, h2, hf⟩ := bd_ok hf
  refine q_cSi (va_runS (As := [.long p0.toInt64, .long (0 : Int64), .long (1 : Int64)]) (rest := []) ⟨hx, hb, hml, hown, hts⟩ (c_X9_in l (D := D) (ad := ad) (cy := cy) (sa := sa) (va := va) (I := I) (J := J) (S := S) h0 p0.toInt64 (0 : Int64) (1 : Int64) h2) (va_cwS 3 hts gX9_fullest_X9_in rfl rfl rfl (by decide +kernel) ⟨Nat.le_of_ble_eq_true rfl, Nat.le_of_ble_eq_true rfl⟩) ⟨qPre_blind _, fun U hU hW => ⟨rfl, qPre_of hP hK hE hN hS U hU hW⟩⟩ rfl rfl hl.1 rfl (lv_room (Nat.le_of_ble_eq_true rfl)) dX9_fullest_4 ⟨Nat.le_of_ble_eq_true rfl, Nat.le_of_ble_eq_true rfl⟩) ?_
  refine lv_if_ne (tgt := 18) hx hb dX9_fullest_7 (by decide) (fun cc => ?_) (fun cc => ?_)
  · have hf := (if_ok hf).2 cc
    refine lv_iconst (v := -1) hx hb dX9_fullest_18 (by decide) ?_
    refine lv_istore_n (lv' := [(2, .int (-1 : Int32)), (0, .ref (ad 0)), (1, .int p0)]) hx hb dX9_fullest_19 rfl hl (by decide) rfl (fun ls hl => ?_)
    refine lv_iconst (v := -1) hx hb dX9_fullest_20 (by decide) ?_
    refine lv_istore_n (lv' := [(3, .int (-1 : Int32)), (2, .int (-1 : Int32)), (0, .ref (ad 0)), (1, .int p0)]) hx hb dX9_fullest_21 rfl hl (by decide) rfl (fun ls hl => ?_)
    refine lv_iconst (v := 1) hx hb dX9_fullest_22 (by decide) ?_
    refine lv_istore (lv' := [(4, .int (1 : Int32)), (3, .int (-1 : Int32)), (2, .int (-1 : Int32)), (0, .ref (ad 0)), (1, .int p0)]) hx hb dX9_fullest_23 hl (by decide) rfl (fun ls hl => ?_)
    exact w_X9_fullest_25 C hK hE hN h0  1000 p0 (-1 : Int32) (-1 : Int32) (1 : Int32) I _ _ _ hf (lv_sub hl [3, 4, 2, 1, 0] rfl) hP hS
  · have hf := (if_ok hf).1 cc
    refine lv_aload_n hx hb dX9_fullest_10 rfl (lv_at hl 0 rfl) ?_
    refine lv_sipush (v := -1002) hx hb dX9_fullest_11 (by decide) ?_
    obtain ⟨v3, I4, h5, hf⟩ := bd2_ok hf
    refine q_cEi (va_runV (As := [.int (-1002 : Int32)]) (rest := []) ⟨hx, hb, hml, hown, hts⟩ (c_X9_refuse l (D := D) (ad := ad) (cy := cy) (sa := sa) (va := va) (I := I) (J := J) (S := S) h0 (-1002 : Int32) h5) (cwV 1 hts gX9_fullest_X9_refuse rfl rfl rfl (by decide +kernel) ⟨Nat.le_of_ble_eq_true rfl, Nat.le_of_ble_eq_true rfl⟩) ⟨qPre_blind _, q_recv hK hP (oX9 h0) rfl, fun U hU hW => ⟨rfl, qPre_of hP hK hE hN hS U hU hW⟩⟩ rfl rfl hl.1 rfl (lv_room (Nat.le_of_ble_eq_true rfl)) dX9_fullest_14 ⟨Nat.le_of_ble_eq_true rfl, Nat.le_of_ble_eq_true rfl⟩) hS (fun H locs hP hS => ?_)
    have e9 := Option.some.inj hf
    have eI9 : I4 = Ie := (congrArg Prod.snd e9)
    exact W.iret hx hb hr (fun t ht _ => ⟨⟨_, (), rfl, (congrArg Prod.fst e9), by show qP D _ ad _ _ _ t.heap; rw [ht, ← eI9]; exact hP⟩, hS.F ht⟩) hS.2.2 dX9_fullest_17
abbrev r_X9_noWaiting : Room := { frames := 2, cells := 0, slots := 0, locals := 46 }
set_option maxHeartbeats 4000000 in
set_option maxRecDepth 100000 in
theorem c_X9_noWaiting (l : Launch) {D : va_G} {ad : Nat → Nat} {cy : Nat → ClassId} {sa va : Nat → Nat} {I : qI} {J : qJ} {S : Nat → Prop} (h0 : isM0 S)   (p0 : Int32) {r : Int32} {Ie : qI} (hf : f_X9_noWaiting p0 I = some (r, Ie)) : Met l yX9_noWaiting wsX9_noWaiting r_X9_noWaiting (va_Pc [.ref (ad 0), .int p0] (qPre D S ad cy sa va (eM ad cy) I J)) (va_Qi (S := Unit) (fun x _ => x = r) (fun _ t => qP D S ad (eM ad cy) Ie J t.heap) (qA S ad)) 0 0 (qA S ad) := by
  refine Met.ofW (cc := cX9_noWaiting) (maxL := 2) (ret := (some .int)) (by decide) rfl ?_
  intro p e s m args below meth c s₁ B hml hv
  obtain ⟨rfl, hP, hK, hE, hN⟩ := hv
  have C : qC p s m _ meth c cX9_noWaiting 2 RX9 wsX9_noWaiting (some .int) := ⟨⟨B.exec, B.bytes, hml, findClass_of_methodNamed B.named, atoms_spec (ws := wsX9_noWaiting) B.pre⟩, B.returns, B.notSynchronized⟩
  have C0 := C
  obtain ⟨⟨hx, hb, hml, hown, hts⟩, hr, hlocks⟩ := C0
  have hS : va_S (qA S ad) s.heap s.heap [] := va_S.rf
  have hl := lv_entry ([.ref (ad 0), .int p0]) (n := 2) (Nat.le_of_ble_eq_true rfl)
  rw [lg_entry_eq]
  generalize (lg_sl ([.ref (ad 0), .int p0]) ++ List.replicate (2 - (lg_sl ([.ref (ad 0), .int p0])).length) Slot.unset).toArray = ls at hl ⊢
  have hl : lv_has ls 2 [(0, .ref (ad 0)), (1, .int p0)] := hl
  unfold f_X9_noWaiting at hf
  refine lv_aload_n hx hb dX9_noWaiting_0 rfl (lv_at hl 0 rfl) ?_
  refine lv_iload_n hx hb dX9_noWaiting_1 rfl (lv_at hl 1 rfl) ?_
  obtain ⟨v1, h2, hf⟩ := bd_ok hf
  refine q_cSi (va_runV (As := [.int p0]) (rest := []) ⟨hx, hb, hml, hown, hts⟩ (c_X9_isParty l (D := D) (ad := ad) (cy := cy) (sa := sa) (va := va) (I := I) (J := J) (S := S) h0 p0 h2) (cwV 1 hts gX9_noWaiting_X9_isParty rfl rfl rfl (by decide +kernel) ⟨Nat.le_of_ble_eq_true rfl, Nat.le_of_ble_eq_true rfl⟩) ⟨qPre_blind _, q_recv hK hP (oX9 h0) rfl, fun U hU hW => ⟨rfl, qPre_of hP hK hE hN hS U hU hW⟩⟩ rfl rfl hl.1 rfl (lv_room (Nat.le_of_ble_eq_true rfl)) dX9_noWaiting_2 ⟨Nat.le_of_ble_eq_true rfl, Nat.le_of_ble_eq_true rfl⟩) ?_
  refine lv_if_ne (tgt := 18) hx hb dX9_noWaiting_5 (by decide) (fun cc => ?_) (fun cc => ?_)
  · have hf := (if_ok hf).2 cc
    refine lv_aload_n hx hb dX9_noWaiting_18 rfl (lv_at hl 0 rfl) ?_
    refine lv_iload_n hx hb dX9_noWaiting_19 rfl (lv_at hl 1 rfl) ?_
    obtain ⟨v3, h4, hf⟩ := bd_ok hf
    refine q_cSi (va_runV (As := [.int p0]) (rest := []) ⟨hx, hb, hml, hown, hts⟩ (c_X9_isOver l (D := D) (ad := ad) (cy := cy) (sa := sa) (va := va) (I := I) (J := J) (S := S) h0 p0 h4) (cwV 1 hts gX9_noWaiting_X9_isOver rfl rfl rfl (by decide +kernel) ⟨Nat.le_of_ble_eq_true rfl, Nat.le_of_ble_eq_true rfl⟩) ⟨qPre_blind _, q_recv hK hP (oX9 h0) rfl, fun U hU hW => ⟨rfl, qPre_of hP hK hE hN hS U hU hW⟩⟩ rfl rfl hl.1 rfl (lv_room (Nat.le_of_ble_eq_true rfl)) dX9_noWaiting_20 ⟨Nat.le_of_ble_eq_true rfl, Nat.le_of_ble_eq_true rfl⟩) ?_
    refine lv_if_eq (tgt := 36) hx hb dX9_noWaiting_23 (by decide) (fun cc => ?_) (fun cc => ?_)
    · have hf := (if_ok hf).1 cc
      refine lv_iconst (v := 0) hx hb dX9_noWaiting_36 (by decide) ?_
      have e9 := Option.some.inj hf
      have eI9 : I = Ie := (congrArg Prod.snd e9)
      exact W.iret hx hb hr (fun t ht _ => ⟨⟨_, (), rfl, (congrArg Prod.fst e9), by show qP D _ ad _ _ _ t.heap; rw [ht, ← eI9]; exact hP⟩, hS.F ht⟩) hS.2.2 dX9_noWaiting_37
    · have hf := (if_ok hf).2 cc
      refine lv_aload_n hx hb dX9_noWaiting_26 rfl (lv_at hl 0 rfl) ?_
      refine lv_sipush (v := -1005) hx hb dX9_noWaiting_27 (by decide) ?_
      obtain ⟨v5, I6, h7, hf⟩ := bd2_ok hf
      refine q_cEi (va_runV (As := [.int (-1005 : Int32)]) (rest := []) ⟨hx, hb, hml, hown, hts⟩ (c_X9_refuse l (D := D) (ad := ad) (cy := cy) (sa := sa) (va := va) (I := I) (J := J) (S := S) h0 (-1005 : Int32) h7) (cwV 1 hts gX9_noWaiting_X9_refuse rfl rfl rfl (by decide +kernel) ⟨Nat.le_of_ble_eq_true rfl, Nat.le_of_ble_eq_true rfl⟩) ⟨qPre_blind _, q_recv hK hP (oX9 h0) rfl, fun U hU hW => ⟨rfl, qPre_of hP hK hE hN hS U hU hW⟩⟩ rfl rfl hl.1 rfl (lv_room (Nat.le_of_ble_eq_true rfl)) dX9_noWaiting_30 ⟨Nat.le_of_ble_eq_true rfl, Nat.le_of_ble_eq_true rfl⟩) hS (fun H locs hP hS => ?_)
      refine lv_goto (tgt := 37) hx hb dX9_noWaiting_33 (by decide) ?_
      have e9 := Option.some.inj hf
      have eI9 : I6 = Ie := (congrArg Prod.snd e9)
      exact W.iret hx hb hr (fun t ht _ => ⟨⟨_, (), rfl, (congrArg Prod.fst e9), by show qP D _ ad _ _ _ t.heap; rw [ht, ← eI9]; exact hP⟩, hS.F ht⟩) hS.2.2 dX9_noWaiting_37
  · have hf := (if_ok hf).1 cc
    refine lv_aload_n hx hb dX9_noWaiting_8 rfl (lv_at hl 0 rfl) ?_
    refine lv_sipush (v := -1002) hx hb dX9_noWaiting_9 (by decide) ?_
    obtain ⟨v8, I9, h10, hf⟩ := bd2_ok hf
    refine q_cEi (va_runV (As := [.int (-1002 : Int32)]) (rest := []) ⟨hx, hb, hml, hown, hts⟩ (c_X9_refuse l (D := D) (ad := ad) (cy := cy) (sa := sa) (va := va) (I := I) (J := J) (S := S) h0 (-1002 : Int32) h10) (cwV 1 hts gX9_noWaiting_X9_refuse rfl rfl rfl (by decide +kernel) ⟨Nat.le_of_ble_eq_true rfl, Nat.le_of_ble_eq_true rfl⟩) ⟨qPre_blind _, q_recv hK hP (oX9 h0) rfl, fun U hU hW => ⟨rfl, qPre_of hP hK hE hN hS U hU hW⟩⟩ rfl rfl hl.1 rfl (lv_room (Nat.le_of_ble_eq_true rfl)) dX9_noWaiting_12 ⟨Nat.le_of_ble_eq_true rfl, Nat.le_of_ble_eq_true rfl⟩) hS (fun H locs hP hS => ?_)
    refine lv_goto (tgt := 37) hx hb dX9_noWaiting_15 (by decide) ?_
    have e9 := Option.some.inj hf
    have eI9 : I9 = Ie := (congrArg Prod.snd e9)
    exact W.iret hx hb hr (fun t ht _ => ⟨⟨_, (), rfl, (congrArg Prod.fst e9), by show qP D _ ad _ _ _ t.heap; rw [ht, ← eI9]; exact hP⟩, hS.F ht⟩) hS.2.2 dX9_noWaiting_37
abbrev r_X9_along : Room := { frames := 4, cells := 0, slots := 0, locals := 93 }
theorem in_X9_along_X9 : ∀ w ∈ u_ws RX9 TX9 42, w ∈ wsX9_along := by decide +kernel
set_option maxHeartbeats 4000000 in
set_option maxRecDepth 100000 in
theorem w_X9_along_89 {S : Nat → Prop} (C : qC p s m args meth c cX9_along 8 RX9 wsX9_along (some .int)) (hK : qK D cy sa s) (hE : qEnv sa va (qA S ad) s s.heap) (hN : qN S ad) (h0 : isM0 S)   {J : qJ} {r : Int32} {Ie : qI} (k20 : Int32 → Int32 → Int32 → Int32 → qI → Option (Int32 × qI)) (hk20 : ∀ (x1 : Int32) (x3 : Int32) (x4 : Int32) (x5 : Int32)  (I : qI) (ls : Array Slot) (H : Heap) (locs : List Loc), k20 x1 x3 x4 x5 I = some (r, Ie) → lv_has ls 8 [(0, .ref (ad 0)), (1, .int x1), (3, .int x3), (4, .int x4), (5, .int x5)] → qP D S ad (eM ad cy) I J H → va_S (qA S ad) s.heap H locs → W p l e (headSpec wsX9_along r_X9_along).room s m args below meth c H locs 0 0 (MQ below (va_Qi (S := Unit) (fun x _ => x = r) (fun _ t => qP D S ad (eM ad cy) Ie J t.heap) (qA S ad)) args s 0 0 (qA S ad)) (F0 m 20 ls [])) : ∀ (x1 : Int32) (x4 : Int32) (x5 : Int32) (x6 : Int32) (x7 : Int32) (xs0 : Int32)  (I : qI) (ls : Array Slot) (H : Heap) (locs : List Loc), f_X9_along_89 k20 x1 x4 x5 x6 x7 xs0 I = some (r, Ie) → lv_has ls 8 [(0, .ref (ad 0)), (1, .int x1), (4, .int x4), (5, .int x5), (6, .int x6), (7, .int x7)] → qP D S ad (eM ad cy) I J H → va_S (qA S ad) s.heap H locs → W p l e (headSpec wsX9_along r_X9_along).room s m args below meth c H locs 0 0 (MQ below (va_Qi (S := Unit) (fun x _ => x = r) (fun _ t => qP D S ad (eM ad cy) Ie J t.heap) (qA S ad)) args s 0 0 (qA S ad)) (F0 m 89 ls [.int xs0]) := by
  have C0 := C
  obtain ⟨⟨hx, hb, hml, hown, hts⟩, hr, hlocks⟩ := C0
  intro x1 x4 x5 x6 x7 xs0 I ls H locs hf hl hP hS
  unfold f_X9_along_89 at hf
  refine lv_istore_n (lv' := [(3, .int xs0), (0, .ref (ad 0)), (1, .int x1), (4, .int x4), (5, .int x5), (6, .int x6), (7, .int x7)]) hx hb dX9_along_89 rfl hl (by decide) rfl (fun ls hl => ?_)
  refine lv_iload hx hb dX9_along_90 (lv_at hl 6 rfl) ?_
  refine lv_if_eq (tgt := 100) hx hb dX9_along_92 (by decide) (fun cc => ?_) (fun cc => ?_)
  · have hf := (if_ok hf).1 cc
    refine lv_iload hx hb dX9_along_100 (lv_at hl 3 rfl) ?_
    refine lv_istore (lv' := [(4, .int x4), (3, .int xs0), (0, .ref (ad 0)), (1, .int x1), (5, .int x5), (6, .int x6), (7, .int x7)]) hx hb dX9_along_102 hl (by decide) rfl (fun ls hl => ?_)
    refine lv_iinc (v := (x5 + (1 : Int32))) (lv' := [(5, .int (x5 + (1 : Int32))), (4, .int x4), (3, .int xs0), (0, .ref (ad 0)), (1, .int x1), (6, .int x6), (7, .int x7)]) hx hb dX9_along_104 hl (k := 4) rfl rfl (by decide) rfl (fun ls hl => ?_)
    refine lv_goto (tgt := 20) hx hb dX9_along_107 (by decide) ?_
    exact hk20 x1 xs0 x4 (x5 + (1 : Int32)) I _ _ _ hf (lv_sub hl [3, 4, 2, 1, 0] rfl) hP hS
  · have hf := (if_ok hf).2 cc
    refine lv_iload hx hb dX9_along_95 (lv_at hl 5 rfl) ?_
    refine lv_goto (tgt := 102) hx hb dX9_along_97 (by decide) ?_
    refine lv_istore (lv' := [(4, .int x6), (3, .int xs0), (0, .ref (ad 0)), (1, .int x1), (5, .int x5), (6, .int x6), (7, .int x7)]) hx hb dX9_along_102 hl (by decide) rfl (fun ls hl => ?_)
    refine lv_iinc (v := (x5 + (1 : Int32))) (lv' := [(5, .int (x5 + (1 : Int32))), (4, .int x6), (3, .int xs0), (0, .ref (ad 0)), (1, .int x1), (6, .int x6), (7, .int x7)]) hx hb dX9_along_104 hl (k := 4) rfl rfl (by decide) rfl (fun ls hl => ?_)
    refine lv_goto (tgt := 20) hx hb dX9_along_107 (by decide) ?_
    exact hk20 x1 xs0 x6 (x5 + (1 : Int32)) I _ _ _ hf (lv_sub hl [3, 4, 2, 1, 0] rfl) hP hS
set_option maxHeartbeats 4000000 in
set_option maxRecDepth 100000 in
theorem w_X9_along_76 {S : Nat → Prop} (C : qC p s m args meth c cX9_along 8 RX9 wsX9_along (some .int)) (hK : qK D cy sa s) (hE : qEnv sa va (qA S ad) s s.heap) (hN : qN S ad) (h0 : isM0 S)   {J : qJ} {r : Int32} {Ie : qI} (k20 : Int32 → Int32 → Int32 → Int32 → qI → Option (Int32 × qI)) (hk20 : ∀ (x1 : Int32) (x3 : Int32) (x4 : Int32) (x5 : Int32)  (I : qI) (ls : Array Slot) (H : Heap) (locs : List Loc), k20 x1 x3 x4 x5 I = some (r, Ie) → lv_has ls 8 [(0, .ref (ad 0)), (1, .int x1), (3, .int x3), (4, .int x4), (5, .int x5)] → qP D S ad (eM ad cy) I J H → va_S (qA S ad) s.heap H locs → W p l e (headSpec wsX9_along r_X9_along).room s m args below meth c H locs 0 0 (MQ below (va_Qi (S := Unit) (fun x _ => x = r) (fun _ t => qP D S ad (eM ad cy) Ie J t.heap) (qA S ad)) args s 0 0 (qA S ad)) (F0 m 20 ls [])) : ∀ (x1 : Int32) (x3 : Int32) (x4 : Int32) (x5 : Int32) (x6 : Int32) (xs0 : Int32)  (I : qI) (ls : Array Slot) (H : Heap) (locs : List Loc), f_X9_along_76 k20 x1 x3 x4 x5 x6 xs0 I = some (r, Ie) → lv_has ls 8 [(0, .ref (ad 0)), (1, .int x1), (3, .int x3), (4, .int x4), (5, .int x5), (6, .int x6)] → qP D S ad (eM ad cy) I J H → va_S (qA S ad) s.heap H locs → W p l e (headSpec wsX9_along r_X9_along).room s m args below meth c H locs 0 0 (MQ below (va_Qi (S := Unit) (fun x _ => x = r) (fun _ t => qP D S ad (eM ad cy) Ie J t.heap) (qA S ad)) args s 0 0 (qA S ad)) (F0 m 76 ls [.int xs0]) := by
  have C0 := C
  obtain ⟨⟨hx, hb, hml, hown, hts⟩, hr, hlocks⟩ := C0
  intro x1 x3 x4 x5 x6 xs0 I ls H locs hf hl hP hS
  unfold f_X9_along_76 at hf
  refine lv_istore (lv' := [(7, .int xs0), (0, .ref (ad 0)), (1, .int x1), (3, .int x3), (4, .int x4), (5, .int x5), (6, .int x6)]) hx hb dX9_along_76 hl (by decide) rfl (fun ls hl => ?_)
  refine lv_iload hx hb dX9_along_78 (lv_at hl 0 rfl) ?_
  refine lv_if_eq (tgt := 88) hx hb dX9_along_80 (by decide) (fun cc => ?_) (fun cc => ?_)
  · have hf := (if_ok hf).1 cc
    refine lv_iload_n hx hb dX9_along_88 rfl (lv_at hl 3 rfl) ?_
    exact w_X9_along_89 C hK hE hN h0 k20 hk20  x1 x4 x5 x6 xs0 x3 I _ _ _ hf (lv_sub hl [1, 2, 4, 5, 6, 0] rfl) hP hS
  · have hf := (if_ok hf).2 cc
    refine lv_iload hx hb dX9_along_83 (lv_at hl 5 rfl) ?_
    refine lv_goto (tgt := 89) hx hb dX9_along_85 (by decide) ?_
    exact w_X9_along_89 C hK hE hN h0 k20 hk20  x1 x4 x5 x6 xs0 x5 I _ _ _ hf (lv_sub hl [1, 2, 4, 5, 6, 0] rfl) hP hS
set_option maxHeartbeats 4000000 in
set_option maxRecDepth 100000 in
theorem w_X9_along_75 {S : Nat → Prop} (C : qC p s m args meth c cX9_along 8 RX9 wsX9_along (some .int)) (hK : qK D cy sa s) (hE : qEnv sa va (qA S ad) s s.heap) (hN : qN S ad) (h0 : isM0 S)   {J : qJ} {r : Int32} {Ie : qI} (k20 : Int32 → Int32 → Int32 → Int32 → qI → Option (Int32 × qI)) (hk20 : ∀ (x1 : Int32) (x3 : Int32) (x4 : Int32) (x5 : Int32)  (I : qI) (ls : Array Slot) (H : Heap) (locs : List Loc), k20 x1 x3 x4 x5 I = some (r, Ie) → lv_has ls 8 [(0, .ref (ad 0)), (1, .int x1), (3, .int x3), (4, .int x4), (5, .int x5)] → qP D S ad (eM ad cy) I J H → va_S (qA S ad) s.heap H locs → W p l e (headSpec wsX9_along r_X9_along).room s m args below meth c H locs 0 0 (MQ below (va_Qi (S := Unit) (fun x _ => x = r) (fun _ t => qP D S ad (eM ad cy) Ie J t.heap) (qA S ad)) args s 0 0 (qA S ad)) (F0 m 20 ls [])) : ∀ (x1 : Int32) (x3 : Int32) (x4 : Int32) (x5 : Int32) (x6 : Int32)  (I : qI) (ls : Array Slot) (H : Heap) (locs : List Loc), f_X9_along_75 k20 x1 x3 x4 x5 x6 I = some (r, Ie) → lv_has ls 8 [(0, .ref (ad 0)), (1, .int x1), (3, .int x3), (4, .int x4), (5, .int x5), (6, .int x6)] → qP D S ad (eM ad cy) I J H → va_S (qA S ad) s.heap H locs → W p l e (headSpec wsX9_along r_X9_along).room s m args below meth c H locs 0 0 (MQ below (va_Qi (S := Unit) (fun x _ => x = r) (fun _ t => qP D S ad (eM ad cy) Ie J t.heap) (qA S ad)) args s 0 0 (qA S ad)) (F0 m 75 ls []) := by
  have C0 := C
  obtain ⟨⟨hx, hb, hml, hown, hts⟩, hr, hlocks⟩ := C0
  intro x1 x3 x4 x5 x6 I ls H locs hf hl hP hS
  unfold f_X9_along_75 at hf
  refine lv_iconst (v := 0) hx hb dX9_along_75 (by decide) ?_
  exact w_X9_along_76 C hK hE hN h0 k20 hk20  x1 x3 x4 x5 x6 (0 : Int32) I _ _ _ hf (lv_sub hl [0, 1, 2, 3, 4, 5] rfl) hP hS
set_option maxHeartbeats 4000000 in
set_option maxRecDepth 100000 in
theorem w_X9_along_71 {S : Nat → Prop} (C : qC p s m args meth c cX9_along 8 RX9 wsX9_along (some .int)) (hK : qK D cy sa s) (hE : qEnv sa va (qA S ad) s s.heap) (hN : qN S ad) (h0 : isM0 S)   {J : qJ} {r : Int32} {Ie : qI} (k20 : Int32 → Int32 → Int32 → Int32 → qI → Option (Int32 × qI)) (hk20 : ∀ (x1 : Int32) (x3 : Int32) (x4 : Int32) (x5 : Int32)  (I : qI) (ls : Array Slot) (H : Heap) (locs : List Loc), k20 x1 x3 x4 x5 I = some (r, Ie) → lv_has ls 8 [(0, .ref (ad 0)), (1, .int x1), (3, .int x3), (4, .int x4), (5, .int x5)] → qP D S ad (eM ad cy) I J H → va_S (qA S ad) s.heap H locs → W p l e (headSpec wsX9_along r_X9_along).room s m args below meth c H locs 0 0 (MQ below (va_Qi (S := Unit) (fun x _ => x = r) (fun _ t => qP D S ad (eM ad cy) Ie J t.heap) (qA S ad)) args s 0 0 (qA S ad)) (F0 m 20 ls [])) : ∀ (x1 : Int32) (x3 : Int32) (x4 : Int32) (x5 : Int32) (x6 : Int32)  (I : qI) (ls : Array Slot) (H : Heap) (locs : List Loc), f_X9_along_71 k20 x1 x3 x4 x5 x6 I = some (r, Ie) → lv_has ls 8 [(0, .ref (ad 0)), (1, .int x1), (3, .int x3), (4, .int x4), (5, .int x5), (6, .int x6)] → qP D S ad (eM ad cy) I J H → va_S (qA S ad) s.heap H locs → W p l e (headSpec wsX9_along r_X9_along).room s m args below meth c H locs 0 0 (MQ below (va_Qi (S := Unit) (fun x _ => x = r) (fun _ t => qP D S ad (eM ad cy) Ie J t.heap) (qA S ad)) args s 0 0 (qA S ad)) (F0 m 71 ls []) := by
  have C0 := C
  obtain ⟨⟨hx, hb, hml, hown, hts⟩, hr, hlocks⟩ := C0
  intro x1 x3 x4 x5 x6 I ls H locs hf hl hP hS
  unfold f_X9_along_71 at hf
  refine lv_iconst (v := 1) hx hb dX9_along_71 (by decide) ?_
  refine lv_goto (tgt := 76) hx hb dX9_along_72 (by decide) ?_
  exact w_X9_along_76 C hK hE hN h0 k20 hk20  x1 x3 x4 x5 x6 (1 : Int32) I _ _ _ hf (lv_sub hl [0, 1, 2, 3, 4, 5] rfl) hP hS
set_option maxHeartbeats 4000000 in
set_option maxRecDepth 100000 in
theorem w_X9_along_51 {S : Nat → Prop} (C : qC p s m args meth c cX9_along 8 RX9 wsX9_along (some .int)) (hK : qK D cy sa s) (hE : qEnv sa va (qA S ad) s s.heap) (hN : qN S ad) (h0 : isM0 S)   {J : qJ} {r : Int32} {Ie : qI} (k20 : Int32 → Int32 → Int32 → Int32 → qI → Option (Int32 × qI)) (hk20 : ∀ (x1 : Int32) (x3 : Int32) (x4 : Int32) (x5 : Int32)  (I : qI) (ls : Array Slot) (H : Heap) (locs : List Loc), k20 x1 x3 x4 x5 I = some (r, Ie) → lv_has ls 8 [(0, .ref (ad 0)), (1, .int x1), (3, .int x3), (4, .int x4), (5, .int x5)] → qP D S ad (eM ad cy) I J H → va_S (qA S ad) s.heap H locs → W p l e (headSpec wsX9_along r_X9_along).room s m args below meth c H locs 0 0 (MQ below (va_Qi (S := Unit) (fun x _ => x = r) (fun _ t => qP D S ad (eM ad cy) Ie J t.heap) (qA S ad)) args s 0 0 (qA S ad)) (F0 m 20 ls [])) : ∀ (x1 : Int32) (x3 : Int32) (x4 : Int32) (x5 : Int32) (xs0 : Int32)  (I : qI) (ls : Array Slot) (H : Heap) (locs : List Loc), f_X9_along_51 k20 x1 x3 x4 x5 xs0 I = some (r, Ie) → lv_has ls 8 [(0, .ref (ad 0)), (1, .int x1), (3, .int x3), (4, .int x4), (5, .int x5)] → qP D S ad (eM ad cy) I J H → va_S (qA S ad) s.heap H locs → W p l e (headSpec wsX9_along r_X9_along).room s m args below meth c H locs 0 0 (MQ below (va_Qi (S := Unit) (fun x _ => x = r) (fun _ t => qP D S ad (eM ad cy) Ie J t.heap) (qA S ad)) args s 0 0 (qA S ad)) (F0 m 51 ls [.int xs0]) := by
  have C0 := C
  obtain ⟨⟨hx, hb, hml, hown, hts⟩, hr, hlocks⟩ := C0
  intro x1 x3 x4 x5 xs0 I ls H locs hf hl hP hS
  unfold f_X9_along_51 at hf
  refine lv_istore (lv' := [(6, .int xs0), (0, .ref (ad 0)), (1, .int x1), (3, .int x3), (4, .int x4), (5, .int x5)]) hx hb dX9_along_51 hl (by decide) rfl (fun ls hl => ?_)
  refine lv_iload hx hb dX9_along_53 (lv_at hl 0 rfl) ?_
  refine lv_iconst (v := -1) hx hb dX9_along_55 (by decide) ?_
  refine lv_icmp_eq (tgt := 75) hx hb dX9_along_56 (by decide) (fun cc => ?_) (fun cc => ?_)
  · have hf := (if_ok hf).1 cc
    exact w_X9_along_75 C hK hE hN h0 k20 hk20  x1 x3 x4 x5 xs0 I _ _ _ hf (lv_sub hl [1, 2, 3, 4, 5, 0] rfl) hP hS
  · have hf := (if_ok hf).2 cc
    refine lv_iload_n hx hb dX9_along_59 rfl (lv_at hl 3 rfl) ?_
    refine lv_iconst (v := -1) hx hb dX9_along_60 (by decide) ?_
    refine lv_icmp_eq (tgt := 71) hx hb dX9_along_61 (by decide) (fun cc => ?_) (fun cc => ?_)
    · have hf := (if_ok hf).1 cc
      exact w_X9_along_71 C hK hE hN h0 k20 hk20  x1 x3 x4 x5 xs0 I _ _ _ hf (lv_sub hl [1, 2, 3, 4, 5, 0] rfl) hP hS
    · have hf := (if_ok hf).2 cc
      refine lv_iload hx hb dX9_along_64 (lv_at hl 0 rfl) ?_
      refine lv_iload hx hb dX9_along_66 (lv_at hl 4 rfl) ?_
      refine lv_icmp_ge (tgt := 75) hx hb dX9_along_68 (by decide) (fun cc => ?_) (fun cc => ?_)
      · have hf := (if_ok hf).1 cc
        exact w_X9_along_75 C hK hE hN h0 k20 hk20  x1 x3 x4 x5 xs0 I _ _ _ hf (lv_sub hl [1, 2, 3, 4, 5, 0] rfl) hP hS
      · have hf := (if_ok hf).2 cc
        exact w_X9_along_71 C hK hE hN h0 k20 hk20  x1 x3 x4 x5 xs0 I _ _ _ hf (lv_sub hl [1, 2, 3, 4, 5, 0] rfl) hP hS
set_option maxHeartbeats 4000000 in
set_option maxRecDepth 100000 in
theorem w_X9_along_20 {S : Nat → Prop} (C : qC p s m args meth c cX9_along 8 RX9 wsX9_along (some .int)) (hK : qK D cy sa s) (hE : qEnv sa va (qA S ad) s s.heap) (hN : qN S ad) (h0 : isM0 S)   {J : qJ} {r : Int32} {Ie : qI} : ∀ (n : Nat) (x1 : Int32) (x3 : Int32) (x4 : Int32) (x5 : Int32)  (I : qI) (ls : Array Slot) (H : Heap) (locs : List Loc), f_X9_along_20 n x1 x3 x4 x5 I = some (r, Ie) → lv_has ls 8 [(0, .ref (ad 0)), (1, .int x1), (3, .int x3), (4, .int x4), (5, .int x5)] → qP D S ad (eM ad cy) I J H → va_S (qA S ad) s.heap H locs → W p l e (headSpec wsX9_along r_X9_along).room s m args below meth c H locs 0 0 (MQ below (va_Qi (S := Unit) (fun x _ => x = r) (fun _ t => qP D S ad (eM ad cy) Ie J t.heap) (qA S ad)) args s 0 0 (qA S ad)) (F0 m 20 ls []) := by
  have C0 := C
  obtain ⟨⟨hx, hb, hml, hown, hts⟩, hr, hlocks⟩ := C0
  intro n
  induction n with
  | zero =>
    intro x1 x3 x4 x5 I ls H locs hf hl hP hS
    rw [f_X9_along_20] at hf
    cases hf
  | succ n ih =>
    intro x1 x3 x4 x5 I ls H locs hf hl hP hS
    rw [f_X9_along_20] at hf
    refine lv_iload hx hb dX9_along_20 (lv_at hl 4 rfl) ?_
    refine lv_aload_n hx hb dX9_along_22 rfl (lv_at hl 0 rfl) ?_
    refine q_get (C := RX9) (T := TX9) (N := 42) (ci := 9) (v := .int (I 0 17)) hx hb hts in_X9_along_X9 hown hK hP (oX9 h0) rfl 17 (by decide) (hts (.fieldLink RX9 93 "RowsOnlyPrimesModel" "parties" "I") (by decide +kernel)) (fun _ h9 => h9) rfl dX9_along_23 ?_
    refine lv_icmp_ge (tgt := 110) hx hb dX9_along_26 (by decide) (fun cc => ?_) (fun cc => ?_)
    · have hf := (if_ok hf).1 cc
      refine lv_iload_n hx hb dX9_along_110 rfl (lv_at hl 2 rfl) ?_
      have e9 := Option.some.inj hf
      have eI9 : I = Ie := (congrArg Prod.snd e9)
      exact W.iret hx hb hr (fun t ht _ => ⟨⟨_, (), rfl, (congrArg Prod.fst e9), by show qP D _ ad _ _ _ t.heap; rw [ht, ← eI9]; exact hP⟩, hS.F ht⟩) hS.2.2 dX9_along_111
    · have hf := (if_ok hf).2 cc
      refine lv_iload hx hb dX9_along_29 (lv_at hl 4 rfl) ?_
      refine lv_iload_n hx hb dX9_along_31 rfl (lv_at hl 1 rfl) ?_
      refine lv_icmp_ne (tgt := 39) hx hb dX9_along_32 (by decide) (fun cc => ?_) (fun cc => ?_)
      · have hf := (if_ok hf).2 cc
        refine lv_aload_n hx hb dX9_along_39 rfl (lv_at hl 0 rfl) ?_
        refine lv_iconst (v := 1) hx hb dX9_along_40 (by decide) ?_
        refine lv_iload_n hx hb dX9_along_41 rfl (lv_at hl 1 rfl) ?_
        refine lv_ishl hx hb dX9_along_42 ?_
        refine lv_iconst (v := 1) hx hb dX9_along_43 (by decide) ?_
        refine lv_iload hx hb dX9_along_44 (lv_at hl 4 rfl) ?_
        refine lv_ishl hx hb dX9_along_46 ?_
        refine lv_ior hx hb dX9_along_47 ?_
        obtain ⟨v1, h2, hf⟩ := bd_ok hf
        refine q_cSi (va_runV (As := [.int (((1 : Int32) <<< (x1 &&& (31 : Int32))) ||| ((1 : Int32) <<< (x5 &&& (31 : Int32))))]) (rest := []) ⟨hx, hb, hml, hown, hts⟩ (c_X9_hireOf l (D := D) (ad := ad) (cy := cy) (sa := sa) (va := va) (I := I) (J := J) (S := S) h0 (((1 : Int32) <<< (x1 &&& (31 : Int32))) ||| ((1 : Int32) <<< (x5 &&& (31 : Int32)))) h2) (cwV 1 hts gX9_along_X9_hireOf rfl rfl rfl (by decide +kernel) ⟨Nat.le_of_ble_eq_true rfl, Nat.le_of_ble_eq_true rfl⟩) ⟨qPre_blind _, q_recv hK hP (oX9 h0) rfl, fun U hU hW => ⟨rfl, qPre_of hP hK hE hN hS U hU hW⟩⟩ rfl rfl hl.1 rfl (lv_room (Nat.le_of_ble_eq_true rfl)) dX9_along_48 ⟨Nat.le_of_ble_eq_true rfl, Nat.le_of_ble_eq_true rfl⟩) ?_
        exact w_X9_along_51 C hK hE hN h0 (f_X9_along_20 n) ih  x1 x3 x4 x5 v1 I _ _ _ hf (lv_sub hl [0, 1, 2, 3, 4] rfl) hP hS
      · have hf := (if_ok hf).1 cc
        refine lv_iconst (v := -1) hx hb dX9_along_35 (by decide) ?_
        refine lv_goto (tgt := 51) hx hb dX9_along_36 (by decide) ?_
        exact w_X9_along_51 C hK hE hN h0 (f_X9_along_20 n) ih  x1 x3 x4 x5 (-1 : Int32) I _ _ _ hf (lv_sub hl [0, 1, 2, 3, 4] rfl) hP hS
set_option maxHeartbeats 4000000 in
set_option maxRecDepth 100000 in
theorem c_X9_along (l : Launch) {D : va_G} {ad : Nat → Nat} {cy : Nat → ClassId} {sa va : Nat → Nat} {I : qI} {J : qJ} {S : Nat → Prop} (h0 : isM0 S)   (p0 : Int32) {r : Int32} {Ie : qI} (hf : f_X9_along p0 I = some (r, Ie)) : Met l yX9_along wsX9_along r_X9_along (va_Pc [.ref (ad 0), .int p0] (qPre D S ad cy sa va (eM ad cy) I J)) (va_Qi (S := Unit) (fun x _ => x = r) (fun _ t => qP D S ad (eM ad cy) Ie J t.heap) (qA S ad)) 0 0 (qA S ad) := by
  refine Met.ofW (cc := cX9_along) (maxL := 8) (ret := (some .int)) (by decide) rfl ?_
  intro p e s m args below meth c s₁ B hml hv
  obtain ⟨rfl, hP, hK, hE, hN⟩ := hv
  have C : qC p s m _ meth c cX9_along 8 RX9 wsX9_along (some .int) := ⟨⟨B.exec, B.bytes, hml, findClass_of_methodNamed B.named, atoms_spec (ws := wsX9_along) B.pre⟩, B.returns, B.notSynchronized⟩
  have C0 := C
  obtain ⟨⟨hx, hb, hml, hown, hts⟩, hr, hlocks⟩ := C0
  have hS : va_S (qA S ad) s.heap s.heap [] := va_S.rf
  have hl := lv_entry ([.ref (ad 0), .int p0]) (n := 8) (Nat.le_of_ble_eq_true rfl)
  rw [lg_entry_eq]
  generalize (lg_sl ([.ref (ad 0), .int p0]) ++ List.replicate (8 - (lg_sl ([.ref (ad 0), .int p0])).length) Slot.unset).toArray = ls at hl ⊢
  have hl : lv_has ls 8 [(0, .ref (ad 0)), (1, .int p0)] := hl
  unfold f_X9_along at hf
  refine lv_aload_n hx hb dX9_along_0 rfl (lv_at hl 0 rfl) ?_
  refine lv_iload_n hx hb dX9_along_1 rfl (lv_at hl 1 rfl) ?_
  obtain ⟨v1, I2, h3, hf⟩ := bd2_ok hf
  refine q_cEi (va_runV (As := [.int p0]) (rest := []) ⟨hx, hb, hml, hown, hts⟩ (c_X9_noWaiting l (D := D) (ad := ad) (cy := cy) (sa := sa) (va := va) (I := I) (J := J) (S := S) h0 p0 h3) (cwV 1 hts gX9_along_X9_noWaiting rfl rfl rfl (by decide +kernel) ⟨Nat.le_of_ble_eq_true rfl, Nat.le_of_ble_eq_true rfl⟩) ⟨qPre_blind _, q_recv hK hP (oX9 h0) rfl, fun U hU hW => ⟨rfl, qPre_of hP hK hE hN hS U hU hW⟩⟩ rfl rfl hl.1 rfl (lv_room (Nat.le_of_ble_eq_true rfl)) dX9_along_2 ⟨Nat.le_of_ble_eq_true rfl, Nat.le_of_ble_eq_true rfl⟩) hS (fun H locs hP hS => ?_)
  refine lv_istore_n (lv' := [(2, .int v1), (0, .ref (ad 0)), (1, .int p0)]) hx hb dX9_along_5 rfl hl (by decide) rfl (fun ls hl => ?_)
  refine lv_iload_n hx hb dX9_along_6 rfl (lv_at hl 0 rfl) ?_
  refine lv_if_eq (tgt := 12) hx hb dX9_along_7 (by decide) (fun cc => ?_) (fun cc => ?_)
  · have hf := (if_ok hf).1 cc
    refine lv_iconst (v := -1) hx hb dX9_along_12 (by decide) ?_
    refine lv_istore_n (lv' := [(3, .int (-1 : Int32)), (2, .int v1), (0, .ref (ad 0)), (1, .int p0)]) hx hb dX9_along_13 rfl hl (by decide) rfl (fun ls hl => ?_)
    refine lv_iconst (v := 0) hx hb dX9_along_14 (by decide) ?_
    refine lv_istore (lv' := [(4, .int (0 : Int32)), (3, .int (-1 : Int32)), (2, .int v1), (0, .ref (ad 0)), (1, .int p0)]) hx hb dX9_along_15 hl (by decide) rfl (fun ls hl => ?_)
    refine lv_iconst (v := 0) hx hb dX9_along_17 (by decide) ?_
    refine lv_istore (lv' := [(5, .int (0 : Int32)), (4, .int (0 : Int32)), (3, .int (-1 : Int32)), (2, .int v1), (0, .ref (ad 0)), (1, .int p0)]) hx hb dX9_along_18 hl (by decide) rfl (fun ls hl => ?_)
    exact w_X9_along_20 C hK hE hN h0  1000 p0 (-1 : Int32) (0 : Int32) (0 : Int32) I2 _ _ _ hf (lv_sub hl [4, 5, 2, 1, 0] rfl) hP hS
  · have hf := (if_ok hf).2 cc
    refine lv_iload_n hx hb dX9_along_10 rfl (lv_at hl 0 rfl) ?_
    have e9 := Option.some.inj hf
    have eI9 : I2 = Ie := (congrArg Prod.snd e9)
    exact W.iret hx hb hr (fun t ht _ => ⟨⟨_, (), rfl, (congrArg Prod.fst e9), by show qP D _ ad _ _ _ t.heap; rw [ht, ← eI9]; exact hP⟩, hS.F ht⟩) hS.2.2 dX9_along_11
abbrev r_X9_cheapest : Room := { frames := 4, cells := 0, slots := 0, locals := 93 }
theorem in_X9_cheapest_X9 : ∀ w ∈ u_ws RX9 TX9 42, w ∈ wsX9_cheapest := by decide +kernel
set_option maxHeartbeats 4000000 in
set_option maxRecDepth 100000 in
theorem w_X9_cheapest_89 {S : Nat → Prop} (C : qC p s m args meth c cX9_cheapest 8 RX9 wsX9_cheapest (some .int)) (hK : qK D cy sa s) (hE : qEnv sa va (qA S ad) s s.heap) (hN : qN S ad) (h0 : isM0 S)   {J : qJ} {r : Int32} {Ie : qI} (k20 : Int32 → Int32 → Int32 → Int32 → qI → Option (Int32 × qI)) (hk20 : ∀ (x1 : Int32) (x3 : Int32) (x4 : Int32) (x5 : Int32)  (I : qI) (ls : Array Slot) (H : Heap) (locs : List Loc), k20 x1 x3 x4 x5 I = some (r, Ie) → lv_has ls 8 [(0, .ref (ad 0)), (1, .int x1), (3, .int x3), (4, .int x4), (5, .int x5)] → qP D S ad (eM ad cy) I J H → va_S (qA S ad) s.heap H locs → W p l e (headSpec wsX9_cheapest r_X9_cheapest).room s m args below meth c H locs 0 0 (MQ below (va_Qi (S := Unit) (fun x _ => x = r) (fun _ t => qP D S ad (eM ad cy) Ie J t.heap) (qA S ad)) args s 0 0 (qA S ad)) (F0 m 20 ls [])) : ∀ (x1 : Int32) (x4 : Int32) (x5 : Int32) (x6 : Int32) (x7 : Int32) (xs0 : Int32)  (I : qI) (ls : Array Slot) (H : Heap) (locs : List Loc), f_X9_cheapest_89 k20 x1 x4 x5 x6 x7 xs0 I = some (r, Ie) → lv_has ls 8 [(0, .ref (ad 0)), (1, .int x1), (4, .int x4), (5, .int x5), (6, .int x6), (7, .int x7)] → qP D S ad (eM ad cy) I J H → va_S (qA S ad) s.heap H locs → W p l e (headSpec wsX9_cheapest r_X9_cheapest).room s m args below meth c H locs 0 0 (MQ below (va_Qi (S := Unit) (fun x _ => x = r) (fun _ t => qP D S ad (eM ad cy) Ie J t.heap) (qA S ad)) args s 0 0 (qA S ad)) (F0 m 89 ls [.int xs0]) := by
  have C0 := C
  obtain ⟨⟨hx, hb, hml, hown, hts⟩, hr, hlocks⟩ := C0
  intro x1 x4 x5 x6 x7 xs0 I ls H locs hf hl hP hS
  unfold f_X9_cheapest_89 at hf
  refine lv_istore_n (lv' := [(3, .int xs0), (0, .ref (ad 0)), (1, .int x1), (4, .int x4), (5, .int x5), (6, .int x6), (7, .int x7)]) hx hb dX9_cheapest_89 rfl hl (by decide) rfl (fun ls hl => ?_)
  refine lv_iload hx hb dX9_cheapest_90 (lv_at hl 6 rfl) ?_
  refine lv_if_eq (tgt := 100) hx hb dX9_cheapest_92 (by decide) (fun cc => ?_) (fun cc => ?_)
  · have hf := (if_ok hf).1 cc
    refine lv_iload hx hb dX9_cheapest_100 (lv_at hl 3 rfl) ?_
    refine lv_istore (lv' := [(4, .int x4), (3, .int xs0), (0, .ref (ad 0)), (1, .int x1), (5, .int x5), (6, .int x6), (7, .int x7)]) hx hb dX9_cheapest_102 hl (by decide) rfl (fun ls hl => ?_)
    refine lv_iinc (v := (x5 + (1 : Int32))) (lv' := [(5, .int (x5 + (1 : Int32))), (4, .int x4), (3, .int xs0), (0, .ref (ad 0)), (1, .int x1), (6, .int x6), (7, .int x7)]) hx hb dX9_cheapest_104 hl (k := 4) rfl rfl (by decide) rfl (fun ls hl => ?_)
    refine lv_goto (tgt := 20) hx hb dX9_cheapest_107 (by decide) ?_
    exact hk20 x1 xs0 x4 (x5 + (1 : Int32)) I _ _ _ hf (lv_sub hl [3, 4, 2, 1, 0] rfl) hP hS
  · have hf := (if_ok hf).2 cc
    refine lv_iload hx hb dX9_cheapest_95 (lv_at hl 5 rfl) ?_
    refine lv_goto (tgt := 102) hx hb dX9_cheapest_97 (by decide) ?_
    refine lv_istore (lv' := [(4, .int x6), (3, .int xs0), (0, .ref (ad 0)), (1, .int x1), (5, .int x5), (6, .int x6), (7, .int x7)]) hx hb dX9_cheapest_102 hl (by decide) rfl (fun ls hl => ?_)
    refine lv_iinc (v := (x5 + (1 : Int32))) (lv' := [(5, .int (x5 + (1 : Int32))), (4, .int x6), (3, .int xs0), (0, .ref (ad 0)), (1, .int x1), (6, .int x6), (7, .int x7)]) hx hb dX9_cheapest_104 hl (k := 4) rfl rfl (by decide) rfl (fun ls hl => ?_)
    refine lv_goto (tgt := 20) hx hb dX9_cheapest_107 (by decide) ?_
    exact hk20 x1 xs0 x6 (x5 + (1 : Int32)) I _ _ _ hf (lv_sub hl [3, 4, 2, 1, 0] rfl) hP hS
set_option maxHeartbeats 4000000 in
set_option maxRecDepth 100000 in
theorem w_X9_cheapest_76 {S : Nat → Prop} (C : qC p s m args meth c cX9_cheapest 8 RX9 wsX9_cheapest (some .int)) (hK : qK D cy sa s) (hE : qEnv sa va (qA S ad) s s.heap) (hN : qN S ad) (h0 : isM0 S)   {J : qJ} {r : Int32} {Ie : qI} (k20 : Int32 → Int32 → Int32 → Int32 → qI → Option (Int32 × qI)) (hk20 : ∀ (x1 : Int32) (x3 : Int32) (x4 : Int32) (x5 : Int32)  (I : qI) (ls : Array Slot) (H : Heap) (locs : List Loc), k20 x1 x3 x4 x5 I = some (r, Ie) → lv_has ls 8 [(0, .ref (ad 0)), (1, .int x1), (3, .int x3), (4, .int x4), (5, .int x5)] → qP D S ad (eM ad cy) I J H → va_S (qA S ad) s.heap H locs → W p l e (headSpec wsX9_cheapest r_X9_cheapest).room s m args below meth c H locs 0 0 (MQ below (va_Qi (S := Unit) (fun x _ => x = r) (fun _ t => qP D S ad (eM ad cy) Ie J t.heap) (qA S ad)) args s 0 0 (qA S ad)) (F0 m 20 ls [])) : ∀ (x1 : Int32) (x3 : Int32) (x4 : Int32) (x5 : Int32) (x6 : Int32) (xs0 : Int32)  (I : qI) (ls : Array Slot) (H : Heap) (locs : List Loc), f_X9_cheapest_76 k20 x1 x3 x4 x5 x6 xs0 I = some (r, Ie) → lv_has ls 8 [(0, .ref (ad 0)), (1, .int x1), (3, .int x3), (4, .int x4), (5, .int x5), (6, .int x6)] → qP D S ad (eM ad cy) I J H → va_S (qA S ad) s.heap H locs → W p l e (headSpec wsX9_cheapest r_X9_cheapest).room s m args below meth c H locs 0 0 (MQ below (va_Qi (S := Unit) (fun x _ => x = r) (fun _ t => qP D S ad (eM ad cy) Ie J t.heap) (qA S ad)) args s 0 0 (qA S ad)) (F0 m 76 ls [.int xs0]) := by
  have C0 := C
  obtain ⟨⟨hx, hb, hml, hown, hts⟩, hr, hlocks⟩ := C0
  intro x1 x3 x4 x5 x6 xs0 I ls H locs hf hl hP hS
  unfold f_X9_cheapest_76 at hf
  refine lv_istore (lv' := [(7, .int xs0), (0, .ref (ad 0)), (1, .int x1), (3, .int x3), (4, .int x4), (5, .int x5), (6, .int x6)]) hx hb dX9_cheapest_76 hl (by decide) rfl (fun ls hl => ?_)
  refine lv_iload hx hb dX9_cheapest_78 (lv_at hl 0 rfl) ?_
  refine lv_if_eq (tgt := 88) hx hb dX9_cheapest_80 (by decide) (fun cc => ?_) (fun cc => ?_)
  · have hf := (if_ok hf).1 cc
    refine lv_iload_n hx hb dX9_cheapest_88 rfl (lv_at hl 3 rfl) ?_
    exact w_X9_cheapest_89 C hK hE hN h0 k20 hk20  x1 x4 x5 x6 xs0 x3 I _ _ _ hf (lv_sub hl [1, 2, 4, 5, 6, 0] rfl) hP hS
  · have hf := (if_ok hf).2 cc
    refine lv_iload hx hb dX9_cheapest_83 (lv_at hl 5 rfl) ?_
    refine lv_goto (tgt := 89) hx hb dX9_cheapest_85 (by decide) ?_
    exact w_X9_cheapest_89 C hK hE hN h0 k20 hk20  x1 x4 x5 x6 xs0 x5 I _ _ _ hf (lv_sub hl [1, 2, 4, 5, 6, 0] rfl) hP hS
set_option maxHeartbeats 4000000 in
set_option maxRecDepth 100000 in
theorem w_X9_cheapest_75 {S : Nat → Prop} (C : qC p s m args meth c cX9_cheapest 8 RX9 wsX9_cheapest (some .int)) (hK : qK D cy sa s) (hE : qEnv sa va (qA S ad) s s.heap) (hN : qN S ad) (h0 : isM0 S)   {J : qJ} {r : Int32} {Ie : qI} (k20 : Int32 → Int32 → Int32 → Int32 → qI → Option (Int32 × qI)) (hk20 : ∀ (x1 : Int32) (x3 : Int32) (x4 : Int32) (x5 : Int32)  (I : qI) (ls : Array Slot) (H : Heap) (locs : List Loc), k20 x1 x3 x4 x5 I = some (r, Ie) → lv_has ls 8 [(0, .ref (ad 0)), (1, .int x1), (3, .int x3), (4, .int x4), (5, .int x5)] → qP D S ad (eM ad cy) I J H → va_S (qA S ad) s.heap H locs → W p l e (headSpec wsX9_cheapest r_X9_cheapest).room s m args below meth c H locs 0 0 (MQ below (va_Qi (S := Unit) (fun x _ => x = r) (fun _ t => qP D S ad (eM ad cy) Ie J t.heap) (qA S ad)) args s 0 0 (qA S ad)) (F0 m 20 ls [])) : ∀ (x1 : Int32) (x3 : Int32) (x4 : Int32) (x5 : Int32) (x6 : Int32)  (I : qI) (ls : Array Slot) (H : Heap) (locs : List Loc), f_X9_cheapest_75 k20 x1 x3 x4 x5 x6 I = some (r, Ie) → lv_has ls 8 [(0, .ref (ad 0)), (1, .int x1), (3, .int x3), (4, .int x4), (5, .int x5), (6, .int x6)] → qP D S ad (eM ad cy) I J H → va_S (qA S ad) s.heap H locs → W p l e (headSpec wsX9_cheapest r_X9_cheapest).room s m args below meth c H locs 0 0 (MQ below (va_Qi (S := Unit) (fun x _ => x = r) (fun _ t => qP D S ad (eM ad cy) Ie J t.heap) (qA S ad)) args s 0 0 (qA S ad)) (F0 m 75 ls []) := by
  have C0 := C
  obtain ⟨⟨hx, hb, hml, hown, hts⟩, hr, hlocks⟩ := C0
  intro x1 x3 x4 x5 x6 I ls H locs hf hl hP hS
  unfold f_X9_cheapest_75 at hf
  refine lv_iconst (v := 0) hx hb dX9_cheapest_75 (by decide) ?_
  exact w_X9_cheapest_76 C hK hE hN h0 k20 hk20  x1 x3 x4 x5 x6 (0 : Int32) I _ _ _ hf (lv_sub hl [0, 1, 2, 3, 4, 5] rfl) hP hS
set_option maxHeartbeats 4000000 in
set_option maxRecDepth 100000 in
theorem w_X9_cheapest_71 {S : Nat → Prop} (C : qC p s m args meth c cX9_cheapest 8 RX9 wsX9_cheapest (some .int)) (hK : qK D cy sa s) (hE : qEnv sa va (qA S ad) s s.heap) (hN : qN S ad) (h0 : isM0 S)   {J : qJ} {r : Int32} {Ie : qI} (k20 : Int32 → Int32 → Int32 → Int32 → qI → Option (Int32 × qI)) (hk20 : ∀ (x1 : Int32) (x3 : Int32) (x4 : Int32) (x5 : Int32)  (I : qI) (ls : Array Slot) (H : Heap) (locs : List Loc), k20 x1 x3 x4 x5 I = some (r, Ie) → lv_has ls 8 [(0, .ref (ad 0)), (1, .int x1), (3, .int x3), (4, .int x4), (5, .int x5)] → qP D S ad (eM ad cy) I J H → va_S (qA S ad) s.heap H locs → W p l e (headSpec wsX9_cheapest r_X9_cheapest).room s m args below meth c H locs 0 0 (MQ below (va_Qi (S := Unit) (fun x _ => x = r) (fun _ t => qP D S ad (eM ad cy) Ie J t.heap) (qA S ad)) args s 0 0 (qA S ad)) (F0 m 20 ls [])) : ∀ (x1 : Int32) (x3 : Int32) (x4 : Int32) (x5 : Int32) (x6 : Int32)  (I : qI) (ls : Array Slot) (H : Heap) (locs : List Loc), f_X9_cheapest_71 k20 x1 x3 x4 x5 x6 I = some (r, Ie) → lv_has ls 8 [(0, .ref (ad 0)), (1, .int x1), (3, .int x3), (4, .int x4), (5, .int x5), (6, .int x6)] → qP D S ad (eM ad cy) I J H → va_S (qA S ad) s.heap H locs → W p l e (headSpec wsX9_cheapest r_X9_cheapest).room s m args below meth c H locs 0 0 (MQ below (va_Qi (S := Unit) (fun x _ => x = r) (fun _ t => qP D S ad (eM ad cy) Ie J t.heap) (qA S ad)) args s 0 0 (qA S ad)) (F0 m 71 ls []) := by
  have C0 := C
  obtain ⟨⟨hx, hb, hml, hown, hts⟩, hr, hlocks⟩ := C0
  intro x1 x3 x4 x5 x6 I ls H locs hf hl hP hS
  unfold f_X9_cheapest_71 at hf
  refine lv_iconst (v := 1) hx hb dX9_cheapest_71 (by decide) ?_
  refine lv_goto (tgt := 76) hx hb dX9_cheapest_72 (by decide) ?_
  exact w_X9_cheapest_76 C hK hE hN h0 k20 hk20  x1 x3 x4 x5 x6 (1 : Int32) I _ _ _ hf (lv_sub hl [0, 1, 2, 3, 4, 5] rfl) hP hS
set_option maxHeartbeats 4000000 in
set_option maxRecDepth 100000 in
theorem w_X9_cheapest_51 {S : Nat → Prop} (C : qC p s m args meth c cX9_cheapest 8 RX9 wsX9_cheapest (some .int)) (hK : qK D cy sa s) (hE : qEnv sa va (qA S ad) s s.heap) (hN : qN S ad) (h0 : isM0 S)   {J : qJ} {r : Int32} {Ie : qI} (k20 : Int32 → Int32 → Int32 → Int32 → qI → Option (Int32 × qI)) (hk20 : ∀ (x1 : Int32) (x3 : Int32) (x4 : Int32) (x5 : Int32)  (I : qI) (ls : Array Slot) (H : Heap) (locs : List Loc), k20 x1 x3 x4 x5 I = some (r, Ie) → lv_has ls 8 [(0, .ref (ad 0)), (1, .int x1), (3, .int x3), (4, .int x4), (5, .int x5)] → qP D S ad (eM ad cy) I J H → va_S (qA S ad) s.heap H locs → W p l e (headSpec wsX9_cheapest r_X9_cheapest).room s m args below meth c H locs 0 0 (MQ below (va_Qi (S := Unit) (fun x _ => x = r) (fun _ t => qP D S ad (eM ad cy) Ie J t.heap) (qA S ad)) args s 0 0 (qA S ad)) (F0 m 20 ls [])) : ∀ (x1 : Int32) (x3 : Int32) (x4 : Int32) (x5 : Int32) (xs0 : Int32)  (I : qI) (ls : Array Slot) (H : Heap) (locs : List Loc), f_X9_cheapest_51 k20 x1 x3 x4 x5 xs0 I = some (r, Ie) → lv_has ls 8 [(0, .ref (ad 0)), (1, .int x1), (3, .int x3), (4, .int x4), (5, .int x5)] → qP D S ad (eM ad cy) I J H → va_S (qA S ad) s.heap H locs → W p l e (headSpec wsX9_cheapest r_X9_cheapest).room s m args below meth c H locs 0 0 (MQ below (va_Qi (S := Unit) (fun x _ => x = r) (fun _ t => qP D S ad (eM ad cy) Ie J t.heap) (qA S ad)) args s 0 0 (qA S ad)) (F0 m 51 ls [.int xs0]) := by
  have C0 := C
  obtain ⟨⟨hx, hb, hml, hown, hts⟩, hr, hlocks⟩ := C0
  intro x1 x3 x4 x5 xs0 I ls H locs hf hl hP hS
  unfold f_X9_cheapest_51 at hf
  refine lv_istore (lv' := [(6, .int xs0), (0, .ref (ad 0)), (1, .int x1), (3, .int x3), (4, .int x4), (5, .int x5)]) hx hb dX9_cheapest_51 hl (by decide) rfl (fun ls hl => ?_)
  refine lv_iload hx hb dX9_cheapest_53 (lv_at hl 0 rfl) ?_
  refine lv_iconst (v := -1) hx hb dX9_cheapest_55 (by decide) ?_
  refine lv_icmp_eq (tgt := 75) hx hb dX9_cheapest_56 (by decide) (fun cc => ?_) (fun cc => ?_)
  · have hf := (if_ok hf).1 cc
    exact w_X9_cheapest_75 C hK hE hN h0 k20 hk20  x1 x3 x4 x5 xs0 I _ _ _ hf (lv_sub hl [1, 2, 3, 4, 5, 0] rfl) hP hS
  · have hf := (if_ok hf).2 cc
    refine lv_iload_n hx hb dX9_cheapest_59 rfl (lv_at hl 3 rfl) ?_
    refine lv_iconst (v := -1) hx hb dX9_cheapest_60 (by decide) ?_
    refine lv_icmp_eq (tgt := 71) hx hb dX9_cheapest_61 (by decide) (fun cc => ?_) (fun cc => ?_)
    · have hf := (if_ok hf).1 cc
      exact w_X9_cheapest_71 C hK hE hN h0 k20 hk20  x1 x3 x4 x5 xs0 I _ _ _ hf (lv_sub hl [1, 2, 3, 4, 5, 0] rfl) hP hS
    · have hf := (if_ok hf).2 cc
      refine lv_iload hx hb dX9_cheapest_64 (lv_at hl 0 rfl) ?_
      refine lv_iload hx hb dX9_cheapest_66 (lv_at hl 4 rfl) ?_
      refine lv_icmp_ge (tgt := 75) hx hb dX9_cheapest_68 (by decide) (fun cc => ?_) (fun cc => ?_)
      · have hf := (if_ok hf).1 cc
        exact w_X9_cheapest_75 C hK hE hN h0 k20 hk20  x1 x3 x4 x5 xs0 I _ _ _ hf (lv_sub hl [1, 2, 3, 4, 5, 0] rfl) hP hS
      · have hf := (if_ok hf).2 cc
        exact w_X9_cheapest_71 C hK hE hN h0 k20 hk20  x1 x3 x4 x5 xs0 I _ _ _ hf (lv_sub hl [1, 2, 3, 4, 5, 0] rfl) hP hS
set_option maxHeartbeats 4000000 in
set_option maxRecDepth 100000 in
theorem w_X9_cheapest_20 {S : Nat → Prop} (C : qC p s m args meth c cX9_cheapest 8 RX9 wsX9_cheapest (some .int)) (hK : qK D cy sa s) (hE : qEnv sa va (qA S ad) s s.heap) (hN : qN S ad) (h0 : isM0 S)   {J : qJ} {r : Int32} {Ie : qI} : ∀ (n : Nat) (x1 : Int32) (x3 : Int32) (x4 : Int32) (x5 : Int32)  (I : qI) (ls : Array Slot) (H : Heap) (locs : List Loc), f_X9_cheapest_20 n x1 x3 x4 x5 I = some (r, Ie) → lv_has ls 8 [(0, .ref (ad 0)), (1, .int x1), (3, .int x3), (4, .int x4), (5, .int x5)] → qP D S ad (eM ad cy) I J H → va_S (qA S ad) s.heap H locs → W p l e (headSpec wsX9_cheapest r_X9_cheapest).room s m args below meth c H locs 0 0 (MQ below (va_Qi (S := Unit) (fun x _ => x = r) (fun _ t => qP D S ad (eM ad cy) Ie J t.heap) (qA S ad)) args s 0 0 (qA S ad)) (F0 m 20 ls []) := by
  have C0 := C
  obtain ⟨⟨hx, hb, hml, hown, hts⟩, hr, hlocks⟩ := C0
  intro n
  induction n with
  | zero =>
    intro x1 x3 x4 x5 I ls H locs hf hl hP hS
    rw [f_X9_cheapest_20] at hf
    cases hf
  | succ n ih =>
    intro x1 x3 x4 x5 I ls H locs hf hl hP hS
    rw [f_X9_cheapest_20] at hf
    refine lv_iload hx hb dX9_cheapest_20 (lv_at hl 4 rfl) ?_
    refine lv_iconst (v := 1) hx hb dX9_cheapest_22 (by decide) ?_
    refine lv_aload_n hx hb dX9_cheapest_23 rfl (lv_at hl 0 rfl) ?_
    refine q_get (C := RX9) (T := TX9) (N := 42) (ci := 9) (v := .int (I 0 17)) hx hb hts in_X9_cheapest_X9 hown hK hP (oX9 h0) rfl 17 (by decide) (hts (.fieldLink RX9 93 "RowsOnlyPrimesModel" "parties" "I") (by decide +kernel)) (fun _ h9 => h9) rfl dX9_cheapest_24 ?_
    refine lv_ishl hx hb dX9_cheapest_27 ?_
    refine lv_icmp_ge (tgt := 110) hx hb dX9_cheapest_28 (by decide) (fun cc => ?_) (fun cc => ?_)
    · have hf := (if_ok hf).1 cc
      refine lv_iload_n hx hb dX9_cheapest_110 rfl (lv_at hl 2 rfl) ?_
      have e9 := Option.some.inj hf
      have eI9 : I = Ie := (congrArg Prod.snd e9)
      exact W.iret hx hb hr (fun t ht _ => ⟨⟨_, (), rfl, (congrArg Prod.fst e9), by show qP D _ ad _ _ _ t.heap; rw [ht, ← eI9]; exact hP⟩, hS.F ht⟩) hS.2.2 dX9_cheapest_111
    · have hf := (if_ok hf).2 cc
      refine lv_iload hx hb dX9_cheapest_31 (lv_at hl 4 rfl) ?_
      refine lv_iload_n hx hb dX9_cheapest_33 rfl (lv_at hl 1 rfl) ?_
      refine lv_ishr hx hb dX9_cheapest_34 ?_
      refine lv_iconst (v := 1) hx hb dX9_cheapest_35 (by decide) ?_
      refine lv_iand hx hb dX9_cheapest_36 ?_
      refine lv_iconst (v := 1) hx hb dX9_cheapest_37 (by decide) ?_
      refine lv_icmp_ne (tgt := 50) hx hb dX9_cheapest_38 (by decide) (fun cc => ?_) (fun cc => ?_)
      · have hf := (if_ok hf).2 cc
        refine lv_iconst (v := -1) hx hb dX9_cheapest_50 (by decide) ?_
        exact w_X9_cheapest_51 C hK hE hN h0 (f_X9_cheapest_20 n) ih  x1 x3 x4 x5 (-1 : Int32) I _ _ _ hf (lv_sub hl [0, 1, 2, 3, 4] rfl) hP hS
      · have hf := (if_ok hf).1 cc
        refine lv_aload_n hx hb dX9_cheapest_41 rfl (lv_at hl 0 rfl) ?_
        refine lv_iload hx hb dX9_cheapest_42 (lv_at hl 4 rfl) ?_
        obtain ⟨v1, h2, hf⟩ := bd_ok hf
        refine q_cSi (va_runV (As := [.int x5]) (rest := []) ⟨hx, hb, hml, hown, hts⟩ (c_X9_hireOf l (D := D) (ad := ad) (cy := cy) (sa := sa) (va := va) (I := I) (J := J) (S := S) h0 x5 h2) (cwV 1 hts gX9_cheapest_X9_hireOf rfl rfl rfl (by decide +kernel) ⟨Nat.le_of_ble_eq_true rfl, Nat.le_of_ble_eq_true rfl⟩) ⟨qPre_blind _, q_recv hK hP (oX9 h0) rfl, fun U hU hW => ⟨rfl, qPre_of hP hK hE hN hS U hU hW⟩⟩ rfl rfl hl.1 rfl (lv_room (Nat.le_of_ble_eq_true rfl)) dX9_cheapest_44 ⟨Nat.le_of_ble_eq_true rfl, Nat.le_of_ble_eq_true rfl⟩) ?_
        refine lv_goto (tgt := 51) hx hb dX9_cheapest_47 (by decide) ?_
        exact w_X9_cheapest_51 C hK hE hN h0 (f_X9_cheapest_20 n) ih  x1 x3 x4 x5 v1 I _ _ _ hf (lv_sub hl [0, 1, 2, 3, 4] rfl) hP hS
set_option maxHeartbeats 4000000 in
set_option maxRecDepth 100000 in
theorem c_X9_cheapest (l : Launch) {D : va_G} {ad : Nat → Nat} {cy : Nat → ClassId} {sa va : Nat → Nat} {I : qI} {J : qJ} {S : Nat → Prop} (h0 : isM0 S)   (p0 : Int32) {r : Int32} {Ie : qI} (hf : f_X9_cheapest p0 I = some (r, Ie)) : Met l yX9_cheapest wsX9_cheapest r_X9_cheapest (va_Pc [.ref (ad 0), .int p0] (qPre D S ad cy sa va (eM ad cy) I J)) (va_Qi (S := Unit) (fun x _ => x = r) (fun _ t => qP D S ad (eM ad cy) Ie J t.heap) (qA S ad)) 0 0 (qA S ad) := by
  refine Met.ofW (cc := cX9_cheapest) (maxL := 8) (ret := (some .int)) (by decide) rfl ?_
  intro p e s m args below meth c s₁ B hml hv
  obtain ⟨rfl, hP, hK, hE, hN⟩ := hv
  have C : qC p s m _ meth c cX9_cheapest 8 RX9 wsX9_cheapest (some .int) := ⟨⟨B.exec, B.bytes, hml, findClass_of_methodNamed B.named, atoms_spec (ws := wsX9_cheapest) B.pre⟩, B.returns, B.notSynchronized⟩
  have C0 := C
  obtain ⟨⟨hx, hb, hml, hown, hts⟩, hr, hlocks⟩ := C0
  have hS : va_S (qA S ad) s.heap s.heap [] := va_S.rf
  have hl := lv_entry ([.ref (ad 0), .int p0]) (n := 8) (Nat.le_of_ble_eq_true rfl)
  rw [lg_entry_eq]
  generalize (lg_sl ([.ref (ad 0), .int p0]) ++ List.replicate (8 - (lg_sl ([.ref (ad 0), .int p0])).length) Slot.unset).toArray = ls at hl ⊢
  have hl : lv_has ls 8 [(0, .ref (ad 0)), (1, .int p0)] := hl
  unfold f_X9_cheapest at hf
  refine lv_aload_n hx hb dX9_cheapest_0 rfl (lv_at hl 0 rfl) ?_
  refine lv_iload_n hx hb dX9_cheapest_1 rfl (lv_at hl 1 rfl) ?_
  obtain ⟨v1, I2, h3, hf⟩ := bd2_ok hf
  refine q_cEi (va_runV (As := [.int p0]) (rest := []) ⟨hx, hb, hml, hown, hts⟩ (c_X9_noWaiting l (D := D) (ad := ad) (cy := cy) (sa := sa) (va := va) (I := I) (J := J) (S := S) h0 p0 h3) (cwV 1 hts gX9_cheapest_X9_noWaiting rfl rfl rfl (by decide +kernel) ⟨Nat.le_of_ble_eq_true rfl, Nat.le_of_ble_eq_true rfl⟩) ⟨qPre_blind _, q_recv hK hP (oX9 h0) rfl, fun U hU hW => ⟨rfl, qPre_of hP hK hE hN hS U hU hW⟩⟩ rfl rfl hl.1 rfl (lv_room (Nat.le_of_ble_eq_true rfl)) dX9_cheapest_2 ⟨Nat.le_of_ble_eq_true rfl, Nat.le_of_ble_eq_true rfl⟩) hS (fun H locs hP hS => ?_)
  refine lv_istore_n (lv' := [(2, .int v1), (0, .ref (ad 0)), (1, .int p0)]) hx hb dX9_cheapest_5 rfl hl (by decide) rfl (fun ls hl => ?_)
  refine lv_iload_n hx hb dX9_cheapest_6 rfl (lv_at hl 0 rfl) ?_
  refine lv_if_eq (tgt := 12) hx hb dX9_cheapest_7 (by decide) (fun cc => ?_) (fun cc => ?_)
  · have hf := (if_ok hf).1 cc
    refine lv_iconst (v := -1) hx hb dX9_cheapest_12 (by decide) ?_
    refine lv_istore_n (lv' := [(3, .int (-1 : Int32)), (2, .int v1), (0, .ref (ad 0)), (1, .int p0)]) hx hb dX9_cheapest_13 rfl hl (by decide) rfl (fun ls hl => ?_)
    refine lv_iconst (v := 0) hx hb dX9_cheapest_14 (by decide) ?_
    refine lv_istore (lv' := [(4, .int (0 : Int32)), (3, .int (-1 : Int32)), (2, .int v1), (0, .ref (ad 0)), (1, .int p0)]) hx hb dX9_cheapest_15 hl (by decide) rfl (fun ls hl => ?_)
    refine lv_iconst (v := 1) hx hb dX9_cheapest_17 (by decide) ?_
    refine lv_istore (lv' := [(5, .int (1 : Int32)), (4, .int (0 : Int32)), (3, .int (-1 : Int32)), (2, .int v1), (0, .ref (ad 0)), (1, .int p0)]) hx hb dX9_cheapest_18 hl (by decide) rfl (fun ls hl => ?_)
    exact w_X9_cheapest_20 C hK hE hN h0  1000 p0 (-1 : Int32) (0 : Int32) (1 : Int32) I2 _ _ _ hf (lv_sub hl [4, 5, 2, 1, 0] rfl) hP hS
  · have hf := (if_ok hf).2 cc
    refine lv_iload_n hx hb dX9_cheapest_10 rfl (lv_at hl 0 rfl) ?_
    have e9 := Option.some.inj hf
    have eI9 : I2 = Ie := (congrArg Prod.snd e9)
    exact W.iret hx hb hr (fun t ht _ => ⟨⟨_, (), rfl, (congrArg Prod.fst e9), by show qP D _ ad _ _ _ t.heap; rw [ht, ← eI9]; exact hP⟩, hS.F ht⟩) hS.2.2 dX9_cheapest_11
abbrev r_X9_fit_ : Room := { frames := 3, cells := 0, slots := 0, locals := 72 }
theorem in_X9_fit__X9 : ∀ w ∈ u_ws RX9 TX9 42, w ∈ wsX9_fit_ := by decide +kernel
set_option maxHeartbeats 4000000 in
set_option maxRecDepth 100000 in
theorem w_X9_fit__26 {S : Nat → Prop} (C : qC p s m args meth c cX9_fit_ 6 RX9 wsX9_fit_ (some .int)) (hK : qK D cy sa s) (hE : qEnv sa va (qA S ad) s s.heap) (hN : qN S ad) (h0 : isM0 S)   {J : qJ} {r : Int32} {Ie : qI} : ∀ (n : Nat) (x1 : Int32) (x3 : Int32) (x4 : Int32) (x5 : Int32)  (I : qI) (ls : Array Slot) (H : Heap) (locs : List Loc), f_X9_fit__26 n x1 x3 x4 x5 I = some (r, Ie) → lv_has ls 6 [(0, .ref (ad 0)), (1, .int x1), (3, .int x3), (4, .int x4), (5, .int x5)] → qP D S ad (eM ad cy) I J H → va_S (qA S ad) s.heap H locs → W p l e (headSpec wsX9_fit_ r_X9_fit_).room s m args below meth c H locs 0 0 (MQ below (va_Qi (S := Unit) (fun x _ => x = r) (fun _ t => qP D S ad (eM ad cy) Ie J t.heap) (qA S ad)) args s 0 0 (qA S ad)) (F0 m 26 ls []) := by
  have C0 := C
  obtain ⟨⟨hx, hb, hml, hown, hts⟩, hr, hlocks⟩ := C0
  intro n
  induction n with
  | zero =>
    intro x1 x3 x4 x5 I ls H locs hf hl hP hS
    rw [f_X9_fit__26] at hf
    cases hf
  | succ n ih =>
    intro x1 x3 x4 x5 I ls H locs hf hl hP hS
    rw [f_X9_fit__26] at hf
    refine lv_iload hx hb dX9_fit__26 (lv_at hl 4 rfl) ?_
    refine lv_iconst (v := 1) hx hb dX9_fit__28 (by decide) ?_
    refine lv_icmp_lt (tgt := 66) hx hb dX9_fit__29 (by decide) (fun cc => ?_) (fun cc => ?_)
    · have hf := (if_ok hf).1 cc
      refine lv_aload_n hx hb dX9_fit__66 rfl (lv_at hl 0 rfl) ?_
      refine q_get (C := RX9) (T := TX9) (N := 42) (ci := 9) (v := .ref (ad 19)) hx hb hts in_X9_fit__X9 hown hK hP (oX9 h0) rfl 21 (by decide) (hts (.fieldLink RX9 56 "RowsOnlyPrimesModel" "size" "[I") (by decide +kernel)) (fun _ h9 => h9) rfl dX9_fit__67 ?_
      refine lv_iload_n hx hb dX9_fit__70 rfl (lv_at hl 1 rfl) ?_
      refine lv_iload_n hx hb dX9_fit__71 rfl (lv_at hl 2 rfl) ?_
      obtain ⟨g1, hf⟩ := gd_ok hf
      obtain ⟨I2, eI2, hf⟩ := lt_ok hf
      refine q_iast hx hb hK hP hN hS (a0X9_19 h0) g1 dX9_fit__72 (fun H locs hP hS => ?_)
      have hP : qP D S ad (eM ad cy) I2 J H := by rw [eI2]; exact hP
      refine lv_iload hx hb dX9_fit__73 (lv_at hl 3 rfl) ?_
      have e9 := Option.some.inj hf
      have eI9 : I2 = Ie := (congrArg Prod.snd e9)
      exact W.iret hx hb hr (fun t ht _ => ⟨⟨_, (), rfl, (congrArg Prod.fst e9), by show qP D _ ad _ _ _ t.heap; rw [ht, ← eI9]; exact hP⟩, hS.F ht⟩) hS.2.2 dX9_fit__75
    · have hf := (if_ok hf).2 cc
      refine lv_aload_n hx hb dX9_fit__32 rfl (lv_at hl 0 rfl) ?_
      refine q_get (C := RX9) (T := TX9) (N := 42) (ci := 9) (v := .ref (ad 19)) hx hb hts in_X9_fit__X9 hown hK hP (oX9 h0) rfl 21 (by decide) (hts (.fieldLink RX9 56 "RowsOnlyPrimesModel" "size" "[I") (by decide +kernel)) (fun _ h9 => h9) rfl dX9_fit__33 ?_
      refine lv_iload_n hx hb dX9_fit__36 rfl (lv_at hl 1 rfl) ?_
      refine lv_iload hx hb dX9_fit__37 (lv_at hl 4 rfl) ?_
      obtain ⟨g3, hf⟩ := gd_ok hf
      obtain ⟨I4, eI4, hf⟩ := lt_ok hf
      refine q_iast hx hb hK hP hN hS (a0X9_19 h0) g3 dX9_fit__39 (fun H locs hP hS => ?_)
      have hP : qP D S ad (eM ad cy) I4 J H := by rw [eI4]; exact hP
      refine lv_aload_n hx hb dX9_fit__40 rfl (lv_at hl 0 rfl) ?_
      refine lv_iconst (v := 1) hx hb dX9_fit__41 (by decide) ?_
      refine lv_iload_n hx hb dX9_fit__42 rfl (lv_at hl 1 rfl) ?_
      refine lv_ishl hx hb dX9_fit__43 ?_
      refine lv_iconst (v := 0) hx hb dX9_fit__44 (by decide) ?_
      obtain ⟨v5, h6, hf⟩ := bd_ok hf
      refine q_cSi (va_runV (As := [.int ((1 : Int32) <<< (x1 &&& (31 : Int32))), .int (0 : Int32)]) (rest := []) ⟨hx, hb, hml, hown, hts⟩ (c_X9_hireUpTo l (D := D) (ad := ad) (cy := cy) (sa := sa) (va := va) (I := I4) (J := J) (S := S) h0 ((1 : Int32) <<< (x1 &&& (31 : Int32))) (0 : Int32) h6) (cwV 2 hts gX9_fit__X9_hireUpTo rfl rfl rfl (by decide +kernel) ⟨Nat.le_of_ble_eq_true rfl, Nat.le_of_ble_eq_true rfl⟩) ⟨qPre_blind _, q_recv hK hP (oX9 h0) rfl, fun U hU hW => ⟨rfl, qPre_of hP hK hE hN hS U hU hW⟩⟩ rfl rfl hl.1 rfl (lv_room (Nat.le_of_ble_eq_true rfl)) dX9_fit__45 ⟨Nat.le_of_ble_eq_true rfl, Nat.le_of_ble_eq_true rfl⟩) ?_
      refine lv_if_ne (tgt := 56) hx hb dX9_fit__48 (by decide) (fun cc => ?_) (fun cc => ?_)
      · have hf := (if_ok hf).2 cc
        refine lv_iload hx hb dX9_fit__56 (lv_at hl 3 rfl) ?_
        refine lv_istore (lv' := [(4, .int x4), (0, .ref (ad 0)), (1, .int x1), (3, .int x3), (5, .int x5)]) hx hb dX9_fit__58 hl (by decide) rfl (fun ls hl => ?_)
        refine lv_iinc (v := (x5 + (-1 : Int32))) (lv' := [(5, .int (x5 + (-1 : Int32))), (4, .int x4), (0, .ref (ad 0)), (1, .int x1), (3, .int x3)]) hx hb dX9_fit__60 hl (k := 4) rfl rfl (by decide) rfl (fun ls hl => ?_)
        refine lv_goto (tgt := 26) hx hb dX9_fit__63 (by decide) ?_
        exact ih x1 x3 x4 (x5 + (-1 : Int32)) I4 _ _ _ hf (lv_sub hl [2, 3, 4, 1, 0] rfl) hP hS
      · have hf := (if_ok hf).1 cc
        refine lv_iload hx hb dX9_fit__51 (lv_at hl 4 rfl) ?_
        refine lv_goto (tgt := 58) hx hb dX9_fit__53 (by decide) ?_
        refine lv_istore (lv' := [(4, .int x5), (0, .ref (ad 0)), (1, .int x1), (3, .int x3), (5, .int x5)]) hx hb dX9_fit__58 hl (by decide) rfl (fun ls hl => ?_)
        refine lv_iinc (v := (x5 + (-1 : Int32))) (lv' := [(5, .int (x5 + (-1 : Int32))), (4, .int x5), (0, .ref (ad 0)), (1, .int x1), (3, .int x3)]) hx hb dX9_fit__60 hl (k := 4) rfl rfl (by decide) rfl (fun ls hl => ?_)
        refine lv_goto (tgt := 26) hx hb dX9_fit__63 (by decide) ?_
        exact ih x1 x3 x5 (x5 + (-1 : Int32)) I4 _ _ _ hf (lv_sub hl [2, 3, 4, 1, 0] rfl) hP hS
set_option maxHeartbeats 4000000 in
set_option maxRecDepth 100000 in
theorem c_X9_fit_ (l : Launch) {D : va_G} {ad : Nat → Nat} {cy : Nat → ClassId} {sa va : Nat → Nat} {I : qI} {J : qJ} {S : Nat → Prop} (h0 : isM0 S)   (p0 : Int32) {r : Int32} {Ie : qI} (hf : f_X9_fit_ p0 I = some (r, Ie)) : Met l yX9_fit_ wsX9_fit_ r_X9_fit_ (va_Pc [.ref (ad 0), .int p0] (qPre D S ad cy sa va (eM ad cy) I J)) (va_Qi (S := Unit) (fun x _ => x = r) (fun _ t => qP D S ad (eM ad cy) Ie J t.heap) (qA S ad)) 0 0 (qA S ad) := by
  refine Met.ofW (cc := cX9_fit_) (maxL := 6) (ret := (some .int)) (by decide) rfl ?_
  intro p e s m args below meth c s₁ B hml hv
  obtain ⟨rfl, hP, hK, hE, hN⟩ := hv
  have C : qC p s m _ meth c cX9_fit_ 6 RX9 wsX9_fit_ (some .int) := ⟨⟨B.exec, B.bytes, hml, findClass_of_methodNamed B.named, atoms_spec (ws := wsX9_fit_) B.pre⟩, B.returns, B.notSynchronized⟩
  have C0 := C
  obtain ⟨⟨hx, hb, hml, hown, hts⟩, hr, hlocks⟩ := C0
  have hS : va_S (qA S ad) s.heap s.heap [] := va_S.rf
  have hl := lv_entry ([.ref (ad 0), .int p0]) (n := 6) (Nat.le_of_ble_eq_true rfl)
  rw [lg_entry_eq]
  generalize (lg_sl ([.ref (ad 0), .int p0]) ++ List.replicate (6 - (lg_sl ([.ref (ad 0), .int p0])).length) Slot.unset).toArray = ls at hl ⊢
  have hl : lv_has ls 6 [(0, .ref (ad 0)), (1, .int p0)] := hl
  unfold f_X9_fit_ at hf
  refine lv_aload_n hx hb dX9_fit__0 rfl (lv_at hl 0 rfl) ?_
  refine lv_iload_n hx hb dX9_fit__1 rfl (lv_at hl 1 rfl) ?_
  obtain ⟨v1, I2, h3, hf⟩ := bd2_ok hf
  refine q_cEi (va_runV (As := [.int p0]) (rest := []) ⟨hx, hb, hml, hown, hts⟩ (c_X9_noWaiting l (D := D) (ad := ad) (cy := cy) (sa := sa) (va := va) (I := I) (J := J) (S := S) h0 p0 h3) (cwV 1 hts gX9_fit__X9_noWaiting rfl rfl rfl (by decide +kernel) ⟨Nat.le_of_ble_eq_true rfl, Nat.le_of_ble_eq_true rfl⟩) ⟨qPre_blind _, q_recv hK hP (oX9 h0) rfl, fun U hU hW => ⟨rfl, qPre_of hP hK hE hN hS U hU hW⟩⟩ rfl rfl hl.1 rfl (lv_room (Nat.le_of_ble_eq_true rfl)) dX9_fit__2 ⟨Nat.le_of_ble_eq_true rfl, Nat.le_of_ble_eq_true rfl⟩) hS (fun H locs hP hS => ?_)
  refine lv_istore_n (lv' := [(2, .int v1), (0, .ref (ad 0)), (1, .int p0)]) hx hb dX9_fit__5 rfl hl (by decide) rfl (fun ls hl => ?_)
  refine lv_iload_n hx hb dX9_fit__6 rfl (lv_at hl 0 rfl) ?_
  refine lv_if_eq (tgt := 12) hx hb dX9_fit__7 (by decide) (fun cc => ?_) (fun cc => ?_)
  · have hf := (if_ok hf).1 cc
    refine lv_aload_n hx hb dX9_fit__12 rfl (lv_at hl 1 rfl) ?_
    refine q_get (C := RX9) (T := TX9) (N := 42) (ci := 9) (v := .ref (ad 19)) hx hb hts in_X9_fit__X9 hown hK hP (oX9 h0) rfl 21 (by decide) (hts (.fieldLink RX9 56 "RowsOnlyPrimesModel" "size" "[I") (by decide +kernel)) (fun _ h9 => h9) rfl dX9_fit__13 ?_
    refine lv_iload_n hx hb dX9_fit__16 rfl (lv_at hl 2 rfl) ?_
    obtain ⟨g4, hf⟩ := gd_ok hf
    refine q_iald hx hb hK hP (a0X9_19 h0) g4 dX9_fit__17 ?_
    refine lv_istore_n (lv' := [(3, .int (I2 19 p0.toNatClampNeg)), (2, .int v1), (0, .ref (ad 0)), (1, .int p0)]) hx hb dX9_fit__18 rfl hl (by decide) rfl (fun ls hl => ?_)
    refine lv_iconst (v := -1) hx hb dX9_fit__19 (by decide) ?_
    refine lv_istore (lv' := [(4, .int (-1 : Int32)), (3, .int (I2 19 p0.toNatClampNeg)), (2, .int v1), (0, .ref (ad 0)), (1, .int p0)]) hx hb dX9_fit__20 hl (by decide) rfl (fun ls hl => ?_)
    refine lv_bipush (v := 40) hx hb dX9_fit__22 (by decide) ?_
    refine lv_istore (lv' := [(5, .int (40 : Int32)), (4, .int (-1 : Int32)), (3, .int (I2 19 p0.toNatClampNeg)), (2, .int v1), (0, .ref (ad 0)), (1, .int p0)]) hx hb dX9_fit__24 hl (by decide) rfl (fun ls hl => ?_)
    exact w_X9_fit__26 C hK hE hN h0  1000 p0 (I2 19 p0.toNatClampNeg) (-1 : Int32) (40 : Int32) I2 _ _ _ hf (lv_sub hl [4, 5, 2, 1, 0] rfl) hP hS
  · have hf := (if_ok hf).2 cc
    refine lv_iload_n hx hb dX9_fit__10 rfl (lv_at hl 0 rfl) ?_
    have e9 := Option.some.inj hf
    have eI9 : I2 = Ie := (congrArg Prod.snd e9)
    exact W.iret hx hb hr (fun t ht _ => ⟨⟨_, (), rfl, (congrArg Prod.fst e9), by show qP D _ ad _ _ _ t.heap; rw [ht, ← eI9]; exact hP⟩, hS.F ht⟩) hS.2.2 dX9_fit__11
abbrev r_X9_knotOf : Room := { frames := 0, cells := 0, slots := 0, locals := 0 }
theorem in_X9_knotOf_X9 : ∀ w ∈ u_ws RX9 TX9 42, w ∈ wsX9_knotOf := by decide +kernel
set_option maxHeartbeats 4000000 in
set_option maxRecDepth 100000 in
theorem w_X9_knotOf_17 {S : Nat → Prop} (C : qC p s m args meth c cX9_knotOf 5 RX9 wsX9_knotOf (some .int)) (hK : qK D cy sa s) (hE : qEnv sa va (qA S ad) s s.heap) (hN : qN S ad) (h0 : isM0 S)   {I : qI} {J : qJ} (hP : qP D S ad (eM ad cy) I J s.heap) {r : Int32} (k6 : Int32 → Int32 → Option Int32) (hk6 : ∀ (x2 : Int32) (x3 : Int32)  (ls : Array Slot), k6 x2 x3 = some r → lv_has ls 5 [(0, .ref (ad 0)), (2, .int x2), (3, .int x3)] → W p l e (headSpec wsX9_knotOf r_X9_knotOf).room s m args below meth c s.heap [] 0 0 (MQ below (vp_Si (fun x => x = r)) args s 0 0 (fun _ => False)) (F0 m 6 ls [])) : ∀ (n : Nat) (x2 : Int32) (x3 : Int32) (x4 : Int32)  (ls : Array Slot), f_X9_knotOf_17 I k6 n x2 x3 x4 = some r → lv_has ls 5 [(0, .ref (ad 0)), (2, .int x2), (3, .int x3), (4, .int x4)] → W p l e (headSpec wsX9_knotOf r_X9_knotOf).room s m args below meth c s.heap [] 0 0 (MQ below (vp_Si (fun x => x = r)) args s 0 0 (fun _ => False)) (F0 m 17 ls []) := by
  have C0 := C
  obtain ⟨⟨hx, hb, hml, hown, hts⟩, hr, hlocks⟩ := C0
  intro n
  induction n with
  | zero =>
    intro x2 x3 x4 ls hf hl
    rw [f_X9_knotOf_17] at hf
    cases hf
  | succ n ih =>
    intro x2 x3 x4 ls hf hl
    rw [f_X9_knotOf_17] at hf
    refine lv_iload hx hb dX9_knotOf_17 (lv_at hl 3 rfl) ?_
    refine lv_aload_n hx hb dX9_knotOf_19 rfl (lv_at hl 0 rfl) ?_
    refine q_get (C := RX9) (T := TX9) (N := 42) (ci := 9) (v := .int (I 0 17)) hx hb hts in_X9_knotOf_X9 hown hK hP (oX9 h0) rfl 17 (by decide) (hts (.fieldLink RX9 93 "RowsOnlyPrimesModel" "parties" "I") (by decide +kernel)) (fun _ h9 => h9) rfl dX9_knotOf_20 ?_
    refine lv_icmp_ge (tgt := 56) hx hb dX9_knotOf_23 (by decide) (fun cc => ?_) (fun cc => ?_)
    · have hf := (if_ok hf).1 cc
      refine lv_iinc (v := (x3 + (1 : Int32))) (lv' := [(3, .int (x3 + (1 : Int32))), (0, .ref (ad 0)), (2, .int x2), (4, .int x4)]) hx hb dX9_knotOf_56 hl (k := 2) rfl rfl (by decide) rfl (fun ls hl => ?_)
      refine lv_goto (tgt := 6) hx hb dX9_knotOf_59 (by decide) ?_
      exact hk6 x2 (x3 + (1 : Int32)) _ hf (lv_sub hl [1, 2, 0] rfl)
    · have hf := (if_ok hf).2 cc
      refine lv_iload_n hx hb dX9_knotOf_26 rfl (lv_at hl 1 rfl) ?_
      refine lv_iload_n hx hb dX9_knotOf_27 rfl (lv_at hl 1 rfl) ?_
      refine lv_iload hx hb dX9_knotOf_28 (lv_at hl 3 rfl) ?_
      refine lv_ishr hx hb dX9_knotOf_30 ?_
      refine lv_iconst (v := 1) hx hb dX9_knotOf_31 (by decide) ?_
      refine lv_iand hx hb dX9_knotOf_32 ?_
      refine lv_iconst (v := 1) hx hb dX9_knotOf_33 (by decide) ?_
      refine lv_icmp_ne (tgt := 47) hx hb dX9_knotOf_34 (by decide) (fun cc => ?_) (fun cc => ?_)
      · have hf := (if_ok hf).2 cc
        refine lv_iconst (v := 0) hx hb dX9_knotOf_47 (by decide) ?_
        refine lv_ior hx hb dX9_knotOf_48 ?_
        refine lv_istore_n (lv' := [(2, .int (x2 ||| (0 : Int32))), (0, .ref (ad 0)), (3, .int x3), (4, .int x4)]) hx hb dX9_knotOf_49 rfl hl (by decide) rfl (fun ls hl => ?_)
        refine lv_iinc (v := (x4 + (1 : Int32))) (lv' := [(4, .int (x4 + (1 : Int32))), (2, .int (x2 ||| (0 : Int32))), (0, .ref (ad 0)), (3, .int x3)]) hx hb dX9_knotOf_50 hl (k := 3) rfl rfl (by decide) rfl (fun ls hl => ?_)
        refine lv_goto (tgt := 17) hx hb dX9_knotOf_53 (by decide) ?_
        exact ih (x2 ||| (0 : Int32)) x3 (x4 + (1 : Int32)) _ hf (lv_sub hl [2, 1, 3, 0] rfl)
      · have hf := (if_ok hf).1 cc
        refine lv_aload_n hx hb dX9_knotOf_37 rfl (lv_at hl 0 rfl) ?_
        refine q_get (C := RX9) (T := TX9) (N := 42) (ci := 9) (v := .ref (ad 21)) hx hb hts in_X9_knotOf_X9 hown hK hP (oX9 h0) rfl 23 (by decide) (hts (.fieldLink RX9 62 "RowsOnlyPrimesModel" "tied" "[I") (by decide +kernel)) (fun _ h9 => h9) rfl dX9_knotOf_38 ?_
        refine lv_iload hx hb dX9_knotOf_41 (lv_at hl 3 rfl) ?_
        obtain ⟨g1, hf⟩ := gd_ok hf
        refine q_iald hx hb hK hP (a0X9_21 h0) g1 dX9_knotOf_43 ?_
        refine lv_goto (tgt := 48) hx hb dX9_knotOf_44 (by decide) ?_
        refine lv_ior hx hb dX9_knotOf_48 ?_
        refine lv_istore_n (lv' := [(2, .int (x2 ||| (I 21 x4.toNatClampNeg))), (0, .ref (ad 0)), (3, .int x3), (4, .int x4)]) hx hb dX9_knotOf_49 rfl hl (by decide) rfl (fun ls hl => ?_)
        refine lv_iinc (v := (x4 + (1 : Int32))) (lv' := [(4, .int (x4 + (1 : Int32))), (2, .int (x2 ||| (I 21 x4.toNatClampNeg))), (0, .ref (ad 0)), (3, .int x3)]) hx hb dX9_knotOf_50 hl (k := 3) rfl rfl (by decide) rfl (fun ls hl => ?_)
        refine lv_goto (tgt := 17) hx hb dX9_knotOf_53 (by decide) ?_
        exact ih (x2 ||| (I 21 x4.toNatClampNeg)) x3 (x4 + (1 : Int32)) _ hf (lv_sub hl [2, 1, 3, 0] rfl)
set_option maxHeartbeats 4000000 in
set_option maxRecDepth 100000 in
theorem w_X9_knotOf_6 {S : Nat → Prop} (C : qC p s m args meth c cX9_knotOf 5 RX9 wsX9_knotOf (some .int)) (hK : qK D cy sa s) (hE : qEnv sa va (qA S ad) s s.heap) (hN : qN S ad) (h0 : isM0 S)   {I : qI} {J : qJ} (hP : qP D S ad (eM ad cy) I J s.heap) {r : Int32} : ∀ (n : Nat) (x2 : Int32) (x3 : Int32)  (ls : Array Slot), f_X9_knotOf_6 I n x2 x3 = some r → lv_has ls 5 [(0, .ref (ad 0)), (2, .int x2), (3, .int x3)] → W p l e (headSpec wsX9_knotOf r_X9_knotOf).room s m args below meth c s.heap [] 0 0 (MQ below (vp_Si (fun x => x = r)) args s 0 0 (fun _ => False)) (F0 m 6 ls []) := by
  have C0 := C
  obtain ⟨⟨hx, hb, hml, hown, hts⟩, hr, hlocks⟩ := C0
  intro n
  induction n with
  | zero =>
    intro x2 x3 ls hf hl
    rw [f_X9_knotOf_6] at hf
    cases hf
  | succ n ih =>
    intro x2 x3 ls hf hl
    rw [f_X9_knotOf_6] at hf
    refine lv_iload_n hx hb dX9_knotOf_6 rfl (lv_at hl 2 rfl) ?_
    refine lv_aload_n hx hb dX9_knotOf_7 rfl (lv_at hl 0 rfl) ?_
    refine q_get (C := RX9) (T := TX9) (N := 42) (ci := 9) (v := .int (I 0 17)) hx hb hts in_X9_knotOf_X9 hown hK hP (oX9 h0) rfl 17 (by decide) (hts (.fieldLink RX9 93 "RowsOnlyPrimesModel" "parties" "I") (by decide +kernel)) (fun _ h9 => h9) rfl dX9_knotOf_8 ?_
    refine lv_icmp_ge (tgt := 62) hx hb dX9_knotOf_11 (by decide) (fun cc => ?_) (fun cc => ?_)
    · have hf := (if_ok hf).1 cc
      refine lv_iload_n hx hb dX9_knotOf_62 rfl (lv_at hl 1 rfl) ?_
      exact W.iret hx hb hr (fun t ht _ => ⟨_, rfl, Option.some.inj hf, ht⟩) (fun _ h => by cases h) dX9_knotOf_63
    · have hf := (if_ok hf).2 cc
      refine lv_iconst (v := 0) hx hb dX9_knotOf_14 (by decide) ?_
      refine lv_istore (lv' := [(4, .int (0 : Int32)), (0, .ref (ad 0)), (2, .int x2), (3, .int x3)]) hx hb dX9_knotOf_15 hl (by decide) rfl (fun ls hl => ?_)
      exact w_X9_knotOf_17 C hK hE hN h0 hP (f_X9_knotOf_6 I n) ih 1000 x2 x3 (0 : Int32) _ hf (lv_sub hl [1, 2, 3, 0] rfl)
set_option maxHeartbeats 4000000 in
set_option maxRecDepth 100000 in
theorem c_X9_knotOf (l : Launch) {D : va_G} {ad : Nat → Nat} {cy : Nat → ClassId} {sa va : Nat → Nat} {I : qI} {J : qJ} {S : Nat → Prop} (h0 : isM0 S)   (p0 : Int32) {r : Int32} (hf : f_X9_knotOf p0 I = some r) : Met l yX9_knotOf wsX9_knotOf r_X9_knotOf (va_Pc [.ref (ad 0), .int p0] (qPre D S ad cy sa va (eM ad cy) I J)) (vp_Si (fun x => x = r)) 0 0 (fun _ => False) := by
  refine Met.ofW (cc := cX9_knotOf) (maxL := 5) (ret := (some .int)) (by decide) rfl ?_
  intro p e s m args below meth c s₁ B hml hv
  obtain ⟨rfl, hP, hK, hE, hN⟩ := hv
  have C : qC p s m _ meth c cX9_knotOf 5 RX9 wsX9_knotOf (some .int) := ⟨⟨B.exec, B.bytes, hml, findClass_of_methodNamed B.named, atoms_spec (ws := wsX9_knotOf) B.pre⟩, B.returns, B.notSynchronized⟩
  have C0 := C
  obtain ⟨⟨hx, hb, hml, hown, hts⟩, hr, hlocks⟩ := C0
  have hl := lv_entry ([.ref (ad 0), .int p0]) (n := 5) (Nat.le_of_ble_eq_true rfl)
  rw [lg_entry_eq]
  generalize (lg_sl ([.ref (ad 0), .int p0]) ++ List.replicate (5 - (lg_sl ([.ref (ad 0), .int p0])).length) Slot.unset).toArray = ls at hl ⊢
  have hl : lv_has ls 5 [(0, .ref (ad 0)), (1, .int p0)] := hl
  unfold f_X9_knotOf at hf
  refine lv_iconst (v := 1) hx hb dX9_knotOf_0 (by decide) ?_
  refine lv_iload_n hx hb dX9_knotOf_1 rfl (lv_at hl 1 rfl) ?_
  refine lv_ishl hx hb dX9_knotOf_2 ?_
  refine lv_istore_n (lv' := [(2, .int ((1 : Int32) <<< (p0 &&& (31 : Int32)))), (0, .ref (ad 0)), (1, .int p0)]) hx hb dX9_knotOf_3 rfl hl (by decide) rfl (fun ls hl => ?_)
  refine lv_iconst (v := 0) hx hb dX9_knotOf_4 (by decide) ?_
  refine lv_istore_n (lv' := [(3, .int (0 : Int32)), (2, .int ((1 : Int32) <<< (p0 &&& (31 : Int32)))), (0, .ref (ad 0)), (1, .int p0)]) hx hb dX9_knotOf_5 rfl hl (by decide) rfl (fun ls hl => ?_)
  exact w_X9_knotOf_6 C hK hE hN h0 hP  1000 ((1 : Int32) <<< (p0 &&& (31 : Int32))) (0 : Int32) _ hf (lv_sub hl [2, 1, 0] rfl)
end
