/-! machine: X9_refuse X9_in X9_isParty X9_isOver X9_row X9_fit X9_noRow X9_set X9_copy X9_element X9_holds X9_show X9_isUnder X9_headsOf X9_says X9_addParty X9_party (written by wip/gen/gen.py) -/
section
variable {p : Program} {l : Launch} {e : Env} {s : State} {m : MethodId} {args : Array Value} {below : List Frame} {meth : Method} {c : Code} {D : va_G} {ad : Nat → Nat} {cy : Nat → ClassId} {sa va : Nat → Nat}
abbrev r_X9_refuse : Room := { frames := 0, cells := 0, slots := 0, locals := 0 }
theorem in_X9_refuse_X9 : ∀ w ∈ u_ws RX9 TX9 42, w ∈ wsX9_refuse := by decide +kernel
set_option maxHeartbeats 4000000 in
set_option maxRecDepth 100000 in
theorem c_X9_refuse (l : Launch) {D : va_G} {ad : Nat → Nat} {cy : Nat → ClassId} {sa va : Nat → Nat} {I : qI} {J : qJ} {S : Nat → Prop} (h0 : isM0 S)   (p0 : Int32) {r : Int32} {Ie : qI} (hf : f_X9_refuse p0 I = some (r, Ie)) : Met l yX9_refuse wsX9_refuse r_X9_refuse (va_Pc [.ref (ad 0), .int p0] (qPre D S ad cy sa va (eM ad cy) I J)) (va_Qi (S := Unit) (fun x _ => x = r) (fun _ t => qP D S ad (eM ad cy) Ie J t.heap) (qA S ad)) 0 0 (qA S ad) := by
  refine Met.ofW (cc := cX9_refuse) (maxL := 2) (ret := (some .int)) (by decide) rfl ?_
  intro p e s m args below meth c s₁ B hml hv
  obtain ⟨rfl, hP, hK, hE, hN⟩ := hv
  have C : qC p s m _ meth c cX9_refuse 2 RX9 wsX9_refuse (some .int) := ⟨⟨B.exec, B.bytes, hml, findClass_of_methodNamed B.named, atoms_spec (ws := wsX9_refuse) B.pre⟩, B.returns, B.notSynchronized⟩
  have C0 := C
  obtain ⟨⟨hx, hb, hml, hown, hts⟩, hr, hlocks⟩ := C0
  have hS : va_S (qA S ad) s.heap s.heap [] := va_S.rf
  have hl := lv_entry ([.ref (ad 0), .int p0]) (n := 2) (Nat.le_of_ble_eq_true rfl)
  rw [lg_entry_eq]
  generalize (lg_sl ([.ref (ad 0), .int p0]) ++ List.replicate (2 - (lg_sl ([.ref (ad 0), .int p0])).length) Slot.unset).toArray = ls at hl ⊢
  have hl : lv_has ls 2 [(0, .ref (ad 0)), (1, .int p0)] := hl
  unfold f_X9_refuse at hf
  refine lv_aload_n hx hb dX9_refuse_0 rfl (lv_at hl 0 rfl) ?_
  refine q_get (C := RX9) (T := TX9) (N := 42) (ci := 9) (v := .ref (ad 16)) hx hb hts in_X9_refuse_X9 hown hK hP (oX9 h0) rfl 8 (by decide) (hts (.fieldLink RX9 34 "RowsOnlyPrimesModel" "refused" "[I") (by decide +kernel)) (fun _ h9 => h9) rfl dX9_refuse_1 ?_
  refine lv_iload_n hx hb dX9_refuse_4 rfl (lv_at hl 1 rfl) ?_
  refine lv_ineg hx hb dX9_refuse_5 ?_
  refine lv_sipush (v := 1000) hx hb dX9_refuse_6 (by decide) ?_
  refine lv_isub hx hb dX9_refuse_9 ?_
  refine lv_dup2_11 hx hb dX9_refuse_10 rfl rfl ?_
  obtain ⟨g1, hf⟩ := gd_ok hf
  refine q_iald hx hb hK hP (a0X9_16 h0) g1 dX9_refuse_11 ?_
  refine lv_iconst (v := 1) hx hb dX9_refuse_12 (by decide) ?_
  refine lv_iadd hx hb dX9_refuse_13 ?_
  obtain ⟨g2, hf⟩ := gd_ok hf
  obtain ⟨I3, eI3, hf⟩ := lt_ok hf
  refine q_iast hx hb hK hP hN hS (a0X9_16 h0) g2 dX9_refuse_14 (fun H locs hP hS => ?_)
  have hP : qP D S ad (eM ad cy) I3 J H := by rw [eI3]; exact hP
  refine lv_iload_n hx hb dX9_refuse_15 rfl (lv_at hl 1 rfl) ?_
  have e9 := Option.some.inj hf
  have eI9 : I3 = Ie := (congrArg Prod.snd e9)
  exact W.iret hx hb hr (fun t ht _ => ⟨⟨_, (), rfl, (congrArg Prod.fst e9), by show qP D _ ad _ _ _ t.heap; rw [ht, ← eI9]; exact hP⟩, hS.F ht⟩) hS.2.2 dX9_refuse_16
abbrev r_X9_in : Room := { frames := 0, cells := 0, slots := 0, locals := 0 }
set_option maxHeartbeats 4000000 in
set_option maxRecDepth 100000 in
theorem c_X9_in (l : Launch) {D : va_G} {ad : Nat → Nat} {cy : Nat → ClassId} {sa va : Nat → Nat} {I : qI} {J : qJ} {S : Nat → Prop} (h0 : isM0 S)   (p0 : Int64) (p1 : Int64) (p2 : Int64) {r : Int32} (hf : f_X9_in p0 p1 p2 = some r) : Met l yX9_in wsX9_in r_X9_in (va_Pc [.long p0, .long p1, .long p2] (qPre D S ad cy sa va (eM ad cy) I J)) (vp_Si (fun x => x = r)) 0 0 (fun _ => False) := by
  refine Met.ofW (cc := cX9_in) (maxL := 6) (ret := (some .boolean)) (by decide) rfl ?_
  intro p e s m args below meth c s₁ B hml hv
  obtain ⟨rfl, hP, hK, hE, hN⟩ := hv
  have C : qC p s m _ meth c cX9_in 6 RX9 wsX9_in (some .boolean) := ⟨⟨B.exec, B.bytes, hml, findClass_of_methodNamed B.named, atoms_spec (ws := wsX9_in) B.pre⟩, B.returns, B.notSynchronized⟩
  have C0 := C
  obtain ⟨⟨hx, hb, hml, hown, hts⟩, hr, hlocks⟩ := C0
  have hl := lv_entry ([.long p0, .long p1, .long p2]) (n := 6) (Nat.le_of_ble_eq_true rfl)
  rw [lg_entry_eq]
  generalize (lg_sl ([.long p0, .long p1, .long p2]) ++ List.replicate (6 - (lg_sl ([.long p0, .long p1, .long p2])).length) Slot.unset).toArray = ls at hl ⊢
  have hl : lv_has ls 6 [(0, .long p0), (2, .long p1), (4, .long p2)] := hl
  unfold f_X9_in at hf
  refine lv_lload_n hx hb dX9_in_0 rfl (lv_at hl 0 rfl) ?_
  refine lv_lload_n hx hb dX9_in_1 rfl (lv_at hl 1 rfl) ?_
  refine W.lcmp hx hb dX9_in_2 ?_
  refine lv_if_lt (tgt := 17) hx hb dX9_in_3 (by decide) (fun cc => ?_) (fun cc => ?_)
  · have hf := (if_ok hf).1 cc
    refine lv_iconst (v := 0) hx hb dX9_in_17 (by decide) ?_
    exact W.zret (ty := .boolean) hx hb hr rfl (fun t ht _ => ⟨_, rfl, Option.some.inj hf, ht⟩) (fun _ h => by cases h) dX9_in_18
  · have hf := (if_ok hf).2 cc
    refine lv_lload_n hx hb dX9_in_6 rfl (lv_at hl 0 rfl) ?_
    refine lv_lload hx hb dX9_in_7 (lv_at hl 2 rfl) ?_
    refine W.lcmp hx hb dX9_in_9 ?_
    refine lv_if_gt (tgt := 17) hx hb dX9_in_10 (by decide) (fun cc => ?_) (fun cc => ?_)
    · have hf := (if_ok hf).1 cc
      refine lv_iconst (v := 0) hx hb dX9_in_17 (by decide) ?_
      exact W.zret (ty := .boolean) hx hb hr rfl (fun t ht _ => ⟨_, rfl, Option.some.inj hf, ht⟩) (fun _ h => by cases h) dX9_in_18
    · have hf := (if_ok hf).2 cc
      refine lv_iconst (v := 1) hx hb dX9_in_13 (by decide) ?_
      refine lv_goto (tgt := 18) hx hb dX9_in_14 (by decide) ?_
      exact W.zret (ty := .boolean) hx hb hr rfl (fun t ht _ => ⟨_, rfl, Option.some.inj hf, ht⟩) (fun _ h => by cases h) dX9_in_18
abbrev r_X9_isParty : Room := { frames := 1, cells := 0, slots := 0, locals := 25 }
theorem in_X9_isParty_X9 : ∀ w ∈ u_ws RX9 TX9 42, w ∈ wsX9_isParty := by decide +kernel
set_option maxHeartbeats 4000000 in
set_option maxRecDepth 100000 in
theorem c_X9_isParty (l : Launch) {D : va_G} {ad : Nat → Nat} {cy : Nat → ClassId} {sa va : Nat → Nat} {I : qI} {J : qJ} {S : Nat → Prop} (h0 : isM0 S)   (p0 : Int32) {r : Int32} (hf : f_X9_isParty p0 I = some r) : Met l yX9_isParty wsX9_isParty r_X9_isParty (va_Pc [.ref (ad 0), .int p0] (qPre D S ad cy sa va (eM ad cy) I J)) (vp_Si (fun x => x = r)) 0 0 (fun _ => False) := by
  refine Met.ofW (cc := cX9_isParty) (maxL := 2) (ret := (some .boolean)) (by decide) rfl ?_
  intro p e s m args below meth c s₁ B hml hv
  obtain ⟨rfl, hP, hK, hE, hN⟩ := hv
  have C : qC p s m _ meth c cX9_isParty 2 RX9 wsX9_isParty (some .boolean) := ⟨⟨B.exec, B.bytes, hml, findClass_of_methodNamed B.named, atoms_spec (ws := wsX9_isParty) B.pre⟩, B.returns, B.notSynchronized⟩
  have C0 := C
  obtain ⟨⟨hx, hb, hml, hown, hts⟩, hr, hlocks⟩ := C0
  have hl := lv_entry ([.ref (ad 0), .int p0]) (n := 2) (Nat.le_of_ble_eq_true rfl)
  rw [lg_entry_eq]
  generalize (lg_sl ([.ref (ad 0), .int p0]) ++ List.replicate (2 - (lg_sl ([.ref (ad 0), .int p0])).length) Slot.unset).toArray = ls at hl ⊢
  have hl : lv_has ls 2 [(0, .ref (ad 0)), (1, .int p0)] := hl
  unfold f_X9_isParty at hf
  refine lv_iload_n hx hb dX9_isParty_0 rfl (lv_at hl 1 rfl) ?_
  refine lv_i2l hx hb dX9_isParty_1 rfl ?_
  refine lv_lconst (v := 0) hx hb dX9_isParty_2 (by decide) ?_
  refine lv_aload_n hx hb dX9_isParty_3 rfl (lv_at hl 0 rfl) ?_
  refine q_get (C := RX9) (T := TX9) (N := 42) (ci := 9) (v := .int (I 0 17)) hx hb hts in_X9_isParty_X9 hown hK hP (oX9 h0) rfl 17 (by decide) (hts (.fieldLink RX9 93 "RowsOnlyPrimesModel" "parties" "I") (by decide +kernel)) (fun _ h9 => h9) rfl dX9_isParty_4 ?_
  refine lv_iconst (v := 1) hx hb dX9_isParty_7 (by decide) ?_
  refine lv_isub hx hb dX9_isParty_8 ?_
  refine lv_i2l hx hb dX9_isParty_9 rfl ?_
  obtain ⟨v1, h2, hf⟩ := bd_ok hf
  refine q_cSi (va_runS (As := [.long p0.toInt64, .long (0 : Int64), .long (((I 0 17) - (1 : Int32)).toInt64)]) (rest := []) ⟨hx, hb, hml, hown, hts⟩ (c_X9_in l (D := D) (ad := ad) (cy := cy) (sa := sa) (va := va) (I := I) (J := J) (S := S) h0 p0.toInt64 (0 : Int64) (((I 0 17) - (1 : Int32)).toInt64) h2) (va_cwS 3 hts gX9_isParty_X9_in rfl rfl rfl (by decide +kernel) ⟨Nat.le_of_ble_eq_true rfl, Nat.le_of_ble_eq_true rfl⟩) ⟨qPre_blind _, fun U hU hW => ⟨rfl, qPre_of hP hK hE hN va_S.rf U hU hW⟩⟩ rfl rfl hl.1 rfl (lv_room (Nat.le_of_ble_eq_true rfl)) dX9_isParty_10 ⟨Nat.le_of_ble_eq_true rfl, Nat.le_of_ble_eq_true rfl⟩) ?_
  obtain ⟨g3, hf⟩ := gd_ok hf
  exact W.zret (ty := .boolean) hx hb hr (q_narZ g3) (fun t ht _ => ⟨_, rfl, Option.some.inj hf, ht⟩) (fun _ h => by cases h) dX9_isParty_13
abbrev r_X9_isOver : Room := { frames := 0, cells := 0, slots := 0, locals := 0 }
theorem in_X9_isOver_X9 : ∀ w ∈ u_ws RX9 TX9 42, w ∈ wsX9_isOver := by decide +kernel
set_option maxHeartbeats 4000000 in
set_option maxRecDepth 100000 in
theorem c_X9_isOver (l : Launch) {D : va_G} {ad : Nat → Nat} {cy : Nat → ClassId} {sa va : Nat → Nat} {I : qI} {J : qJ} {S : Nat → Prop} (h0 : isM0 S)   (p0 : Int32) {r : Int32} (hf : f_X9_isOver p0 I = some r) : Met l yX9_isOver wsX9_isOver r_X9_isOver (va_Pc [.ref (ad 0), .int p0] (qPre D S ad cy sa va (eM ad cy) I J)) (vp_Si (fun x => x = r)) 0 0 (fun _ => False) := by
  refine Met.ofW (cc := cX9_isOver) (maxL := 2) (ret := (some .boolean)) (by decide) rfl ?_
  intro p e s m args below meth c s₁ B hml hv
  obtain ⟨rfl, hP, hK, hE, hN⟩ := hv
  have C : qC p s m _ meth c cX9_isOver 2 RX9 wsX9_isOver (some .boolean) := ⟨⟨B.exec, B.bytes, hml, findClass_of_methodNamed B.named, atoms_spec (ws := wsX9_isOver) B.pre⟩, B.returns, B.notSynchronized⟩
  have C0 := C
  obtain ⟨⟨hx, hb, hml, hown, hts⟩, hr, hlocks⟩ := C0
  have hl := lv_entry ([.ref (ad 0), .int p0]) (n := 2) (Nat.le_of_ble_eq_true rfl)
  rw [lg_entry_eq]
  generalize (lg_sl ([.ref (ad 0), .int p0]) ++ List.replicate (2 - (lg_sl ([.ref (ad 0), .int p0])).length) Slot.unset).toArray = ls at hl ⊢
  have hl : lv_has ls 2 [(0, .ref (ad 0)), (1, .int p0)] := hl
  unfold f_X9_isOver at hf
  refine lv_aload_n hx hb dX9_isOver_0 rfl (lv_at hl 0 rfl) ?_
  refine q_get (C := RX9) (T := TX9) (N := 42) (ci := 9) (v := .int (I 0 18)) hx hb hts in_X9_isOver_X9 hown hK hP (oX9 h0) rfl 18 (by decide) (hts (.fieldLink RX9 100 "RowsOnlyPrimesModel" "over" "I") (by decide +kernel)) (fun _ h9 => h9) rfl dX9_isOver_1 ?_
  refine lv_iload_n hx hb dX9_isOver_4 rfl (lv_at hl 1 rfl) ?_
  refine lv_ishr hx hb dX9_isOver_5 ?_
  refine lv_iconst (v := 1) hx hb dX9_isOver_6 (by decide) ?_
  refine lv_iand hx hb dX9_isOver_7 ?_
  refine lv_iconst (v := 1) hx hb dX9_isOver_8 (by decide) ?_
  refine lv_icmp_ne (tgt := 16) hx hb dX9_isOver_9 (by decide) (fun cc => ?_) (fun cc => ?_)
  · have hf := (if_ok hf).2 cc
    refine lv_iconst (v := 0) hx hb dX9_isOver_16 (by decide) ?_
    exact W.zret (ty := .boolean) hx hb hr rfl (fun t ht _ => ⟨_, rfl, Option.some.inj hf, ht⟩) (fun _ h => by cases h) dX9_isOver_17
  · have hf := (if_ok hf).1 cc
    refine lv_iconst (v := 1) hx hb dX9_isOver_12 (by decide) ?_
    refine lv_goto (tgt := 17) hx hb dX9_isOver_13 (by decide) ?_
    exact W.zret (ty := .boolean) hx hb hr rfl (fun t ht _ => ⟨_, rfl, Option.some.inj hf, ht⟩) (fun _ h => by cases h) dX9_isOver_17
abbrev r_X9_row : Room := { frames := 1, cells := 0, slots := 0, locals := 25 }
theorem in_X9_row_X9 : ∀ w ∈ u_ws RX9 TX9 42, w ∈ wsX9_row := by decide +kernel
set_option maxHeartbeats 4000000 in
set_option maxRecDepth 100000 in
theorem w_X9_row_36 {S : Nat → Prop} (C : qC p s m args meth c cX9_row 5 RX9 wsX9_row (some .int)) (hK : qK D cy sa s) (hE : qEnv sa va (qA S ad) s s.heap) (hN : qN S ad) (h0 : isM0 S)   {r : Int32} {Ie : qI} {Je : qJ} : ∀   (I : qI) (J : qJ) (ls : Array Slot) (H : Heap) (locs : List Loc), f_X9_row_36 I J = some (r, Ie, Je) → lv_has ls 5 [(0, .ref (ad 0))] → qP D S ad (eM ad cy) I J H → va_S (qA S ad) s.heap H locs → W p l e (headSpec wsX9_row r_X9_row).room s m args below meth c H locs 0 0 (MQ below (va_Qi (S := Unit) (fun x _ => x = r) (fun _ t => qP D S ad (eM ad cy) Ie Je t.heap) (qA S ad)) args s 0 0 (qA S ad)) (F0 m 36 ls []) := by
  have C0 := C
  obtain ⟨⟨hx, hb, hml, hown, hts⟩, hr, hlocks⟩ := C0
  intro I J ls H locs hf hl hP hS
  unfold f_X9_row_36 at hf
  refine lv_aload_n hx hb dX9_row_36 rfl (lv_at hl 0 rfl) ?_
  refine lv_sipush (v := -1002) hx hb dX9_row_37 (by decide) ?_
  obtain ⟨v1, I2, h3, hf⟩ := bd2_ok hf
  refine q_cEi (va_runV (As := [.int (-1002 : Int32)]) (rest := []) ⟨hx, hb, hml, hown, hts⟩ (c_X9_refuse l (D := D) (ad := ad) (cy := cy) (sa := sa) (va := va) (I := I) (J := J) (S := S) h0 (-1002 : Int32) h3) (cwV 1 hts gX9_row_X9_refuse rfl rfl rfl (by decide +kernel) ⟨Nat.le_of_ble_eq_true rfl, Nat.le_of_ble_eq_true rfl⟩) ⟨qPre_blind _, q_recv hK hP (oX9 h0) rfl, fun U hU hW => ⟨rfl, qPre_of hP hK hE hN hS U hU hW⟩⟩ rfl rfl hl.1 rfl (lv_room (Nat.le_of_ble_eq_true rfl)) dX9_row_40 ⟨Nat.le_of_ble_eq_true rfl, Nat.le_of_ble_eq_true rfl⟩) hS (fun H locs hP hS => ?_)
  have e9 := Option.some.inj hf
  have eI9 : I2 = Ie := (congrArg Prod.fst (congrArg Prod.snd e9))
  have eJ9 : J = Je := (congrArg Prod.snd (congrArg Prod.snd e9))
  exact W.iret hx hb hr (fun t ht _ => ⟨⟨_, (), rfl, (congrArg Prod.fst e9), by show qP D _ ad _ _ _ t.heap; rw [ht, ← eI9, ← eJ9]; exact hP⟩, hS.F ht⟩) hS.2.2 dX9_row_43
set_option maxHeartbeats 4000000 in
set_option maxRecDepth 100000 in
theorem w_X9_row_68 {S : Nat → Prop} (C : qC p s m args meth c cX9_row 5 RX9 wsX9_row (some .int)) (hK : qK D cy sa s) (hE : qEnv sa va (qA S ad) s s.heap) (hN : qN S ad) (h0 : isM0 S)   {r : Int32} {Ie : qI} {Je : qJ} : ∀ (n : Nat) (x1 : Int32) (x4 : Int32)  (I : qI) (J : qJ) (ls : Array Slot) (H : Heap) (locs : List Loc), f_X9_row_68 n x1 x4 I J = some (r, Ie, Je) → lv_has ls 5 [(0, .ref (ad 0)), (1, .int x1), (4, .int x4)] → qP D S ad (eM ad cy) I J H → va_S (qA S ad) s.heap H locs → W p l e (headSpec wsX9_row r_X9_row).room s m args below meth c H locs 0 0 (MQ below (va_Qi (S := Unit) (fun x _ => x = r) (fun _ t => qP D S ad (eM ad cy) Ie Je t.heap) (qA S ad)) args s 0 0 (qA S ad)) (F0 m 68 ls []) := by
  have C0 := C
  obtain ⟨⟨hx, hb, hml, hown, hts⟩, hr, hlocks⟩ := C0
  intro n
  induction n with
  | zero =>
    intro x1 x4 I J ls H locs hf hl hP hS
    rw [f_X9_row_68] at hf
    cases hf
  | succ n ih =>
    intro x1 x4 I J ls H locs hf hl hP hS
    rw [f_X9_row_68] at hf
    refine lv_iload hx hb dX9_row_68 (lv_at hl 2 rfl) ?_
    refine lv_bipush (v := 40) hx hb dX9_row_70 (by decide) ?_
    refine lv_icmp_ge (tgt := 91) hx hb dX9_row_72 (by decide) (fun cc => ?_) (fun cc => ?_)
    · have hf := (if_ok hf).1 cc
      refine lv_iconst (v := 1) hx hb dX9_row_91 (by decide) ?_
      have e9 := Option.some.inj hf
      have eI9 : I = Ie := (congrArg Prod.fst (congrArg Prod.snd e9))
      have eJ9 : J = Je := (congrArg Prod.snd (congrArg Prod.snd e9))
      exact W.iret hx hb hr (fun t ht _ => ⟨⟨_, (), rfl, (congrArg Prod.fst e9), by show qP D _ ad _ _ _ t.heap; rw [ht, ← eI9, ← eJ9]; exact hP⟩, hS.F ht⟩) hS.2.2 dX9_row_92
    · have hf := (if_ok hf).2 cc
      refine lv_aload_n hx hb dX9_row_75 rfl (lv_at hl 0 rfl) ?_
      refine q_get (C := RX9) (T := TX9) (N := 42) (ci := 9) (v := .ref (ad 4)) hx hb hts in_X9_row_X9 hown hK hP (oX9 h0) rfl 3 (by decide) (hts (.fieldLink RX9 21 "RowsOnlyPrimesModel" "rows" "[[J") (by decide +kernel)) (fun _ h9 => h9) rfl dX9_row_76 ?_
      refine lv_iload_n hx hb dX9_row_79 rfl (lv_at hl 1 rfl) ?_
      obtain ⟨g1, hf⟩ := gd_ok hf
      refine q_aald (t := 5) hx hb hK hP (a0X9_4 h0) rfl rfl g1 dX9_row_80 ?_
      refine lv_iload hx hb dX9_row_81 (lv_at hl 2 rfl) ?_
      refine lv_lconst (v := 0) hx hb dX9_row_83 (by decide) ?_
      obtain ⟨g2, hf⟩ := gd_ok hf
      obtain ⟨J3, eJ3, hf⟩ := lt_ok hf
      refine q_last hx hb hK hP hN hS (aX9_4k h0 (j := x1.toNatClampNeg) (qin_lt g1)) g2 dX9_row_84 (fun H locs hP hS => ?_)
      have hP : qP D S ad (eM ad cy) I J3 H := by rw [eJ3]; exact hP
      refine lv_iinc (v := (x4 + (1 : Int32))) (lv' := [(4, .int (x4 + (1 : Int32))), (0, .ref (ad 0)), (1, .int x1)]) hx hb dX9_row_85 hl (k := 2) rfl rfl (by decide) rfl (fun ls hl => ?_)
      refine lv_goto (tgt := 68) hx hb dX9_row_88 (by decide) ?_
      exact ih x1 (x4 + (1 : Int32)) I J3 _ _ _ hf (lv_sub hl [1, 2, 0] rfl) hP hS
set_option maxHeartbeats 4000000 in
set_option maxRecDepth 100000 in
theorem c_X9_row (l : Launch) {D : va_G} {ad : Nat → Nat} {cy : Nat → ClassId} {sa va : Nat → Nat} {I : qI} {J : qJ} {S : Nat → Prop} (h0 : isM0 S)   (p0 : Int32) (p1 : Int32) (p2 : Int32) {r : Int32} {Ie : qI} {Je : qJ} (hf : f_X9_row p0 p1 p2 I J = some (r, Ie, Je)) : Met l yX9_row wsX9_row r_X9_row (va_Pc [.ref (ad 0), .int p0, .int p1, .int p2] (qPre D S ad cy sa va (eM ad cy) I J)) (va_Qi (S := Unit) (fun x _ => x = r) (fun _ t => qP D S ad (eM ad cy) Ie Je t.heap) (qA S ad)) 0 0 (qA S ad) := by
  refine Met.ofW (cc := cX9_row) (maxL := 5) (ret := (some .int)) (by decide) rfl ?_
  intro p e s m args below meth c s₁ B hml hv
  obtain ⟨rfl, hP, hK, hE, hN⟩ := hv
  have C : qC p s m _ meth c cX9_row 5 RX9 wsX9_row (some .int) := ⟨⟨B.exec, B.bytes, hml, findClass_of_methodNamed B.named, atoms_spec (ws := wsX9_row) B.pre⟩, B.returns, B.notSynchronized⟩
  have C0 := C
  obtain ⟨⟨hx, hb, hml, hown, hts⟩, hr, hlocks⟩ := C0
  have hS : va_S (qA S ad) s.heap s.heap [] := va_S.rf
  have hl := lv_entry ([.ref (ad 0), .int p0, .int p1, .int p2]) (n := 5) (Nat.le_of_ble_eq_true rfl)
  rw [lg_entry_eq]
  generalize (lg_sl ([.ref (ad 0), .int p0, .int p1, .int p2]) ++ List.replicate (5 - (lg_sl ([.ref (ad 0), .int p0, .int p1, .int p2])).length) Slot.unset).toArray = ls at hl ⊢
  have hl : lv_has ls 5 [(0, .ref (ad 0)), (1, .int p0), (2, .int p1), (3, .int p2)] := hl
  unfold f_X9_row at hf
  refine lv_iload_n hx hb dX9_row_0 rfl (lv_at hl 1 rfl) ?_
  refine lv_i2l hx hb dX9_row_1 rfl ?_
  refine lv_lconst (v := 0) hx hb dX9_row_2 (by decide) ?_
  refine lv_ldc2 (own := RX9) (v := 7) hx hb hown (hts (.constantLong RX9 103 (7)) (by decide +kernel)) dX9_row_3 ?_
  obtain ⟨v1, h2, hf⟩ := bd_ok hf
  refine q_cSi (va_runS (As := [.long p0.toInt64, .long (0 : Int64), .long (7 : Int64)]) (rest := []) ⟨hx, hb, hml, hown, hts⟩ (c_X9_in l (D := D) (ad := ad) (cy := cy) (sa := sa) (va := va) (I := I) (J := J) (S := S) h0 p0.toInt64 (0 : Int64) (7 : Int64) h2) (va_cwS 3 hts gX9_row_X9_in rfl rfl rfl (by decide +kernel) ⟨Nat.le_of_ble_eq_true rfl, Nat.le_of_ble_eq_true rfl⟩) ⟨qPre_blind _, fun U hU hW => ⟨rfl, qPre_of hP hK hE hN hS U hU hW⟩⟩ rfl rfl hl.1 rfl (lv_room (Nat.le_of_ble_eq_true rfl)) dX9_row_6 ⟨Nat.le_of_ble_eq_true rfl, Nat.le_of_ble_eq_true rfl⟩) ?_
  refine lv_if_eq (tgt := 36) hx hb dX9_row_9 (by decide) (fun cc => ?_) (fun cc => ?_)
  · have hf := (if_ok hf).1 cc
    exact w_X9_row_36 C hK hE hN h0   I J _ _ _ hf (lv_sub hl [0] rfl) hP hS
  · have hf := (if_ok hf).2 cc
    refine lv_iload_n hx hb dX9_row_12 rfl (lv_at hl 2 rfl) ?_
    refine lv_i2l hx hb dX9_row_13 rfl ?_
    refine lv_lconst (v := 0) hx hb dX9_row_14 (by decide) ?_
    refine lv_ldc2 (own := RX9) (v := 4) hx hb hown (hts (.constantLong RX9 105 (4)) (by decide +kernel)) dX9_row_15 ?_
    obtain ⟨v3, h4, hf⟩ := bd_ok hf
    refine q_cSi (va_runS (As := [.long p1.toInt64, .long (0 : Int64), .long (4 : Int64)]) (rest := []) ⟨hx, hb, hml, hown, hts⟩ (c_X9_in l (D := D) (ad := ad) (cy := cy) (sa := sa) (va := va) (I := I) (J := J) (S := S) h0 p1.toInt64 (0 : Int64) (4 : Int64) h4) (va_cwS 3 hts gX9_row_X9_in rfl rfl rfl (by decide +kernel) ⟨Nat.le_of_ble_eq_true rfl, Nat.le_of_ble_eq_true rfl⟩) ⟨qPre_blind _, fun U hU hW => ⟨rfl, qPre_of hP hK hE hN hS U hU hW⟩⟩ rfl rfl hl.1 rfl (lv_room (Nat.le_of_ble_eq_true rfl)) dX9_row_18 ⟨Nat.le_of_ble_eq_true rfl, Nat.le_of_ble_eq_true rfl⟩) ?_
    refine lv_if_eq (tgt := 36) hx hb dX9_row_21 (by decide) (fun cc => ?_) (fun cc => ?_)
    · have hf := (if_ok hf).1 cc
      exact w_X9_row_36 C hK hE hN h0   I J _ _ _ hf (lv_sub hl [0] rfl) hP hS
    · have hf := (if_ok hf).2 cc
      refine lv_iload_n hx hb dX9_row_24 rfl (lv_at hl 3 rfl) ?_
      refine lv_i2l hx hb dX9_row_25 rfl ?_
      refine lv_lconst (v := 0) hx hb dX9_row_26 (by decide) ?_
      refine lv_ldc2 (own := RX9) (v := 40) hx hb hown (hts (.constantLong RX9 107 (40)) (by decide +kernel)) dX9_row_27 ?_
      obtain ⟨v5, h6, hf⟩ := bd_ok hf
      refine q_cSi (va_runS (As := [.long p2.toInt64, .long (0 : Int64), .long (40 : Int64)]) (rest := []) ⟨hx, hb, hml, hown, hts⟩ (c_X9_in l (D := D) (ad := ad) (cy := cy) (sa := sa) (va := va) (I := I) (J := J) (S := S) h0 p2.toInt64 (0 : Int64) (40 : Int64) h6) (va_cwS 3 hts gX9_row_X9_in rfl rfl rfl (by decide +kernel) ⟨Nat.le_of_ble_eq_true rfl, Nat.le_of_ble_eq_true rfl⟩) ⟨qPre_blind _, fun U hU hW => ⟨rfl, qPre_of hP hK hE hN hS U hU hW⟩⟩ rfl rfl hl.1 rfl (lv_room (Nat.le_of_ble_eq_true rfl)) dX9_row_30 ⟨Nat.le_of_ble_eq_true rfl, Nat.le_of_ble_eq_true rfl⟩) ?_
      refine lv_if_ne (tgt := 44) hx hb dX9_row_33 (by decide) (fun cc => ?_) (fun cc => ?_)
      · have hf := (if_ok hf).2 cc
        refine lv_aload_n hx hb dX9_row_44 rfl (lv_at hl 0 rfl) ?_
        refine q_get (C := RX9) (T := TX9) (N := 42) (ci := 9) (v := .ref (ad 1)) hx hb hts in_X9_row_X9 hown hK hP (oX9 h0) rfl 0 (by decide) (hts (.fieldLink RX9 7 "RowsOnlyPrimesModel" "shelf" "[I") (by decide +kernel)) (fun _ h9 => h9) rfl dX9_row_45 ?_
        refine lv_iload_n hx hb dX9_row_48 rfl (lv_at hl 1 rfl) ?_
        refine lv_iconst (v := 1) hx hb dX9_row_49 (by decide) ?_
        obtain ⟨g7, hf⟩ := gd_ok hf
        obtain ⟨I8, eI8, hf⟩ := lt_ok hf
        refine q_iast hx hb hK hP hN hS (a0X9_1 h0) g7 dX9_row_50 (fun H locs hP hS => ?_)
        have hP : qP D S ad (eM ad cy) I8 J H := by rw [eI8]; exact hP
        refine lv_aload_n hx hb dX9_row_51 rfl (lv_at hl 0 rfl) ?_
        refine q_get (C := RX9) (T := TX9) (N := 42) (ci := 9) (v := .ref (ad 2)) hx hb hts in_X9_row_X9 hown hK hP (oX9 h0) rfl 1 (by decide) (hts (.fieldLink RX9 13 "RowsOnlyPrimesModel" "rowSort" "[I") (by decide +kernel)) (fun _ h9 => h9) rfl dX9_row_52 ?_
        refine lv_iload_n hx hb dX9_row_55 rfl (lv_at hl 1 rfl) ?_
        refine lv_iload_n hx hb dX9_row_56 rfl (lv_at hl 2 rfl) ?_
        obtain ⟨g9, hf⟩ := gd_ok hf
        obtain ⟨I10, eI10, hf⟩ := lt_ok hf
        refine q_iast hx hb hK hP hN hS (a0X9_2 h0) g9 dX9_row_57 (fun H locs hP hS => ?_)
        have hP : qP D S ad (eM ad cy) I10 J H := by rw [eI10]; exact hP
        refine lv_aload_n hx hb dX9_row_58 rfl (lv_at hl 0 rfl) ?_
        refine q_get (C := RX9) (T := TX9) (N := 42) (ci := 9) (v := .ref (ad 3)) hx hb hts in_X9_row_X9 hown hK hP (oX9 h0) rfl 2 (by decide) (hts (.fieldLink RX9 16 "RowsOnlyPrimesModel" "rowSize" "[I") (by decide +kernel)) (fun _ h9 => h9) rfl dX9_row_59 ?_
        refine lv_iload_n hx hb dX9_row_62 rfl (lv_at hl 1 rfl) ?_
        refine lv_iload_n hx hb dX9_row_63 rfl (lv_at hl 3 rfl) ?_
        obtain ⟨g11, hf⟩ := gd_ok hf
        obtain ⟨I12, eI12, hf⟩ := lt_ok hf
        refine q_iast hx hb hK hP hN hS (a0X9_3 h0) g11 dX9_row_64 (fun H locs hP hS => ?_)
        have hP : qP D S ad (eM ad cy) I12 J H := by rw [eI12]; exact hP
        refine lv_iconst (v := 0) hx hb dX9_row_65 (by decide) ?_
        refine lv_istore (lv' := [(4, .int (0 : Int32)), (0, .ref (ad 0)), (1, .int p0), (2, .int p1), (3, .int p2)]) hx hb dX9_row_66 hl (by decide) rfl (fun ls hl => ?_)
        exact w_X9_row_68 C hK hE hN h0  1000 p0 (0 : Int32) I12 J _ _ _ hf (lv_sub hl [1, 2, 0] rfl) hP hS
      · have hf := (if_ok hf).1 cc
        exact w_X9_row_36 C hK hE hN h0   I J _ _ _ hf (lv_sub hl [0] rfl) hP hS
abbrev r_X9_fit : Room := { frames := 0, cells := 0, slots := 0, locals := 0 }
set_option maxHeartbeats 4000000 in
set_option maxRecDepth 100000 in
theorem c_X9_fit (l : Launch) {D : va_G} {ad : Nat → Nat} {cy : Nat → ClassId} {sa va : Nat → Nat} {I : qI} {J : qJ} {S : Nat → Prop} (h0 : isM0 S)   (p0 : Int32) (p1 : Int64) {r : Int64} (hf : f_X9_fit p0 p1 = some r) : Met l yX9_fit wsX9_fit r_X9_fit (va_Pc [.int p0, .long p1] (qPre D S ad cy sa va (eM ad cy) I J)) (vp_Sl (fun x => x = r)) 0 0 (fun _ => False) := by
  refine Met.ofW (cc := cX9_fit) (maxL := 3) (ret := (some .long)) (by decide) rfl ?_
  intro p e s m args below meth c s₁ B hml hv
  obtain ⟨rfl, hP, hK, hE, hN⟩ := hv
  have C : qC p s m _ meth c cX9_fit 3 RX9 wsX9_fit (some .long) := ⟨⟨B.exec, B.bytes, hml, findClass_of_methodNamed B.named, atoms_spec (ws := wsX9_fit) B.pre⟩, B.returns, B.notSynchronized⟩
  have C0 := C
  obtain ⟨⟨hx, hb, hml, hown, hts⟩, hr, hlocks⟩ := C0
  have hl := lv_entry ([.int p0, .long p1]) (n := 3) (Nat.le_of_ble_eq_true rfl)
  rw [lg_entry_eq]
  generalize (lg_sl ([.int p0, .long p1]) ++ List.replicate (3 - (lg_sl ([.int p0, .long p1])).length) Slot.unset).toArray = ls at hl ⊢
  have hl : lv_has ls 3 [(0, .int p0), (1, .long p1)] := hl
  unfold f_X9_fit at hf
  refine lv_iload_n hx hb dX9_fit_0 rfl (lv_at hl 0 rfl) ?_
  by_cases c1 : p0 = (0 : Int32)
  · have hf := (if_ok hf).1 c1
    refine lv_tableIn (off := 31) (tgt := 32) hx hb dX9_fit_1 (by rw [c1]; decide) (by rw [c1]; decide) (by rw [c1]; rfl) (by decide) ?_
    refine lv_lload_n hx hb dX9_fit_32 rfl (lv_at hl 1 rfl) ?_
    refine lv_l2i hx hb dX9_fit_33 rfl ?_
    refine lv_i2b hx hb dX9_fit_34 rfl ?_
    refine lv_i2l hx hb dX9_fit_35 rfl ?_
    exact W.lret hx hb hr (fun t ht _ => ⟨_, rfl, Option.some.inj hf, ht⟩) (fun _ h => by cases h) dX9_fit_36
  have hf := (if_ok hf).2 c1
  by_cases c2 : p0 = (1 : Int32)
  · have hf := (if_ok hf).1 c2
    refine lv_tableIn (off := 36) (tgt := 37) hx hb dX9_fit_1 (by rw [c2]; decide) (by rw [c2]; decide) (by rw [c2]; rfl) (by decide) ?_
    refine lv_lload_n hx hb dX9_fit_37 rfl (lv_at hl 1 rfl) ?_
    refine lv_l2i hx hb dX9_fit_38 rfl ?_
    refine lv_i2s hx hb dX9_fit_39 rfl ?_
    refine lv_i2l hx hb dX9_fit_40 rfl ?_
    exact W.lret hx hb hr (fun t ht _ => ⟨_, rfl, Option.some.inj hf, ht⟩) (fun _ h => by cases h) dX9_fit_41
  have hf := (if_ok hf).2 c2
  by_cases c3 : p0 = (2 : Int32)
  · have hf := (if_ok hf).1 c3
    refine lv_tableIn (off := 41) (tgt := 42) hx hb dX9_fit_1 (by rw [c3]; decide) (by rw [c3]; decide) (by rw [c3]; rfl) (by decide) ?_
    refine lv_lload_n hx hb dX9_fit_42 rfl (lv_at hl 1 rfl) ?_
    refine lv_l2i hx hb dX9_fit_43 rfl ?_
    refine lv_i2l hx hb dX9_fit_44 rfl ?_
    exact W.lret hx hb hr (fun t ht _ => ⟨_, rfl, Option.some.inj hf, ht⟩) (fun _ h => by cases h) dX9_fit_45
  have hf := (if_ok hf).2 c3
  by_cases c4 : p0 = (3 : Int32)
  · have hf := (if_ok hf).1 c4
    refine lv_tableIn (off := 45) (tgt := 46) hx hb dX9_fit_1 (by rw [c4]; decide) (by rw [c4]; decide) (by rw [c4]; rfl) (by decide) ?_
    refine lv_lload_n hx hb dX9_fit_46 rfl (lv_at hl 1 rfl) ?_
    exact W.lret hx hb hr (fun t ht _ => ⟨_, rfl, Option.some.inj hf, ht⟩) (fun _ h => by cases h) dX9_fit_47
  have hf := (if_ok hf).2 c4
  refine lv_tableOut (tgt := 48) hx hb dX9_fit_1 (by have c1 := q_nt c1 (show ((0 : Int32)).toInt = 0 by decide); have c2 := q_nt c2 (show ((1 : Int32)).toInt = 1 by decide); have c3 := q_nt c3 (show ((2 : Int32)).toInt = 2 by decide); have c4 := q_nt c4 (show ((3 : Int32)).toInt = 3 by decide); omega) (by decide) ?_
  refine lv_lload_n hx hb dX9_fit_48 rfl (lv_at hl 1 rfl) ?_
  refine lv_lconst (v := 0) hx hb dX9_fit_49 (by decide) ?_
  refine W.lcmp hx hb dX9_fit_50 ?_
  refine lv_if_eq (tgt := 58) hx hb dX9_fit_51 (by decide) (fun cc => ?_) (fun cc => ?_)
  · have hf := (if_ok hf).1 cc
    refine lv_lconst (v := 0) hx hb dX9_fit_58 (by decide) ?_
    exact W.lret hx hb hr (fun t ht _ => ⟨_, rfl, Option.some.inj hf, ht⟩) (fun _ h => by cases h) dX9_fit_59
  · have hf := (if_ok hf).2 cc
    refine lv_lconst (v := 1) hx hb dX9_fit_54 (by decide) ?_
    refine lv_goto (tgt := 59) hx hb dX9_fit_55 (by decide) ?_
    exact W.lret hx hb hr (fun t ht _ => ⟨_, rfl, Option.some.inj hf, ht⟩) (fun _ h => by cases h) dX9_fit_59
abbrev r_X9_noRow : Room := { frames := 1, cells := 0, slots := 0, locals := 25 }
theorem in_X9_noRow_X9 : ∀ w ∈ u_ws RX9 TX9 42, w ∈ wsX9_noRow := by decide +kernel
set_option maxHeartbeats 4000000 in
set_option maxRecDepth 100000 in
theorem c_X9_noRow (l : Launch) {D : va_G} {ad : Nat → Nat} {cy : Nat → ClassId} {sa va : Nat → Nat} {I : qI} {J : qJ} {S : Nat → Prop} (h0 : isM0 S)   (p0 : Int32) {r : Int32} {Ie : qI} (hf : f_X9_noRow p0 I = some (r, Ie)) : Met l yX9_noRow wsX9_noRow r_X9_noRow (va_Pc [.ref (ad 0), .int p0] (qPre D S ad cy sa va (eM ad cy) I J)) (va_Qi (S := Unit) (fun x _ => x = r) (fun _ t => qP D S ad (eM ad cy) Ie J t.heap) (qA S ad)) 0 0 (qA S ad) := by
  refine Met.ofW (cc := cX9_noRow) (maxL := 2) (ret := (some .int)) (by decide) rfl ?_
  intro p e s m args below meth c s₁ B hml hv
  obtain ⟨rfl, hP, hK, hE, hN⟩ := hv
  have C : qC p s m _ meth c cX9_noRow 2 RX9 wsX9_noRow (some .int) := ⟨⟨B.exec, B.bytes, hml, findClass_of_methodNamed B.named, atoms_spec (ws := wsX9_noRow) B.pre⟩, B.returns, B.notSynchronized⟩
  have C0 := C
  obtain ⟨⟨hx, hb, hml, hown, hts⟩, hr, hlocks⟩ := C0
  have hS : va_S (qA S ad) s.heap s.heap [] := va_S.rf
  have hl := lv_entry ([.ref (ad 0), .int p0]) (n := 2) (Nat.le_of_ble_eq_true rfl)
  rw [lg_entry_eq]
  generalize (lg_sl ([.ref (ad 0), .int p0]) ++ List.replicate (2 - (lg_sl ([.ref (ad 0), .int p0])).length) Slot.unset).toArray = ls at hl ⊢
  have hl : lv_has ls 2 [(0, .ref (ad 0)), (1, .int p0)] := hl
  unfold f_X9_noRow at hf
  refine lv_iload_n hx hb dX9_noRow_0 rfl (lv_at hl 1 rfl) ?_
  refine lv_i2l hx hb dX9_noRow_1 rfl ?_
  refine lv_lconst (v := 0) hx hb dX9_noRow_2 (by decide) ?_
  refine lv_ldc2 (own := RX9) (v := 7) hx hb hown (hts (.constantLong RX9 103 (7)) (by decide +kernel)) dX9_noRow_3 ?_
  obtain ⟨v1, h2, hf⟩ := bd_ok hf
  refine q_cSi (va_runS (As := [.long p0.toInt64, .long (0 : Int64), .long (7 : Int64)]) (rest := []) ⟨hx, hb, hml, hown, hts⟩ (c_X9_in l (D := D) (ad := ad) (cy := cy) (sa := sa) (va := va) (I := I) (J := J) (S := S) h0 p0.toInt64 (0 : Int64) (7 : Int64) h2) (va_cwS 3 hts gX9_noRow_X9_in rfl rfl rfl (by decide +kernel) ⟨Nat.le_of_ble_eq_true rfl, Nat.le_of_ble_eq_true rfl⟩) ⟨qPre_blind _, fun U hU hW => ⟨rfl, qPre_of hP hK hE hN hS U hU hW⟩⟩ rfl rfl hl.1 rfl (lv_room (Nat.le_of_ble_eq_true rfl)) dX9_noRow_6 ⟨Nat.le_of_ble_eq_true rfl, Nat.le_of_ble_eq_true rfl⟩) ?_
  refine lv_if_ne (tgt := 20) hx hb dX9_noRow_9 (by decide) (fun cc => ?_) (fun cc => ?_)
  · have hf := (if_ok hf).2 cc
    refine lv_aload_n hx hb dX9_noRow_20 rfl (lv_at hl 0 rfl) ?_
    refine q_get (C := RX9) (T := TX9) (N := 42) (ci := 9) (v := .ref (ad 1)) hx hb hts in_X9_noRow_X9 hown hK hP (oX9 h0) rfl 0 (by decide) (hts (.fieldLink RX9 7 "RowsOnlyPrimesModel" "shelf" "[I") (by decide +kernel)) (fun _ h9 => h9) rfl dX9_noRow_21 ?_
    refine lv_iload_n hx hb dX9_noRow_24 rfl (lv_at hl 1 rfl) ?_
    obtain ⟨g3, hf⟩ := gd_ok hf
    refine q_iald hx hb hK hP (a0X9_1 h0) g3 dX9_noRow_25 ?_
    refine lv_iconst (v := 2) hx hb dX9_noRow_26 (by decide) ?_
    refine lv_icmp_ne (tgt := 38) hx hb dX9_noRow_27 (by decide) (fun cc => ?_) (fun cc => ?_)
    · have hf := (if_ok hf).2 cc
      refine lv_aload_n hx hb dX9_noRow_38 rfl (lv_at hl 0 rfl) ?_
      refine q_get (C := RX9) (T := TX9) (N := 42) (ci := 9) (v := .ref (ad 1)) hx hb hts in_X9_noRow_X9 hown hK hP (oX9 h0) rfl 0 (by decide) (hts (.fieldLink RX9 7 "RowsOnlyPrimesModel" "shelf" "[I") (by decide +kernel)) (fun _ h9 => h9) rfl dX9_noRow_39 ?_
      refine lv_iload_n hx hb dX9_noRow_42 rfl (lv_at hl 1 rfl) ?_
      obtain ⟨g4, hf⟩ := gd_ok hf
      refine q_iald hx hb hK hP (a0X9_1 h0) g4 dX9_noRow_43 ?_
      refine lv_if_ne (tgt := 57) hx hb dX9_noRow_44 (by decide) (fun cc => ?_) (fun cc => ?_)
      · have hf := (if_ok hf).2 cc
        refine lv_iconst (v := 0) hx hb dX9_noRow_57 (by decide) ?_
        have e9 := Option.some.inj hf
        have eI9 : I = Ie := (congrArg Prod.snd e9)
        exact W.iret hx hb hr (fun t ht _ => ⟨⟨_, (), rfl, (congrArg Prod.fst e9), by show qP D _ ad _ _ _ t.heap; rw [ht, ← eI9]; exact hP⟩, hS.F ht⟩) hS.2.2 dX9_noRow_58
      · have hf := (if_ok hf).1 cc
        refine lv_aload_n hx hb dX9_noRow_47 rfl (lv_at hl 0 rfl) ?_
        refine lv_sipush (v := -1004) hx hb dX9_noRow_48 (by decide) ?_
        obtain ⟨v5, I6, h7, hf⟩ := bd2_ok hf
        refine q_cEi (va_runV (As := [.int (-1004 : Int32)]) (rest := []) ⟨hx, hb, hml, hown, hts⟩ (c_X9_refuse l (D := D) (ad := ad) (cy := cy) (sa := sa) (va := va) (I := I) (J := J) (S := S) h0 (-1004 : Int32) h7) (cwV 1 hts gX9_noRow_X9_refuse rfl rfl rfl (by decide +kernel) ⟨Nat.le_of_ble_eq_true rfl, Nat.le_of_ble_eq_true rfl⟩) ⟨qPre_blind _, q_recv hK hP (oX9 h0) rfl, fun U hU hW => ⟨rfl, qPre_of hP hK hE hN hS U hU hW⟩⟩ rfl rfl hl.1 rfl (lv_room (Nat.le_of_ble_eq_true rfl)) dX9_noRow_51 ⟨Nat.le_of_ble_eq_true rfl, Nat.le_of_ble_eq_true rfl⟩) hS (fun H locs hP hS => ?_)
        refine lv_goto (tgt := 58) hx hb dX9_noRow_54 (by decide) ?_
        have e9 := Option.some.inj hf
        have eI9 : I6 = Ie := (congrArg Prod.snd e9)
        exact W.iret hx hb hr (fun t ht _ => ⟨⟨_, (), rfl, (congrArg Prod.fst e9), by show qP D _ ad _ _ _ t.heap; rw [ht, ← eI9]; exact hP⟩, hS.F ht⟩) hS.2.2 dX9_noRow_58
    · have hf := (if_ok hf).1 cc
      refine lv_aload_n hx hb dX9_noRow_30 rfl (lv_at hl 0 rfl) ?_
      refine lv_sipush (v := -1003) hx hb dX9_noRow_31 (by decide) ?_
      obtain ⟨v8, I9, h10, hf⟩ := bd2_ok hf
      refine q_cEi (va_runV (As := [.int (-1003 : Int32)]) (rest := []) ⟨hx, hb, hml, hown, hts⟩ (c_X9_refuse l (D := D) (ad := ad) (cy := cy) (sa := sa) (va := va) (I := I) (J := J) (S := S) h0 (-1003 : Int32) h10) (cwV 1 hts gX9_noRow_X9_refuse rfl rfl rfl (by decide +kernel) ⟨Nat.le_of_ble_eq_true rfl, Nat.le_of_ble_eq_true rfl⟩) ⟨qPre_blind _, q_recv hK hP (oX9 h0) rfl, fun U hU hW => ⟨rfl, qPre_of hP hK hE hN hS U hU hW⟩⟩ rfl rfl hl.1 rfl (lv_room (Nat.le_of_ble_eq_true rfl)) dX9_noRow_34 ⟨Nat.le_of_ble_eq_true rfl, Nat.le_of_ble_eq_true rfl⟩) hS (fun H locs hP hS => ?_)
      have e9 := Option.some.inj hf
      have eI9 : I9 = Ie := (congrArg Prod.snd e9)
      exact W.iret hx hb hr (fun t ht _ => ⟨⟨_, (), rfl, (congrArg Prod.fst e9), by show qP D _ ad _ _ _ t.heap; rw [ht, ← eI9]; exact hP⟩, hS.F ht⟩) hS.2.2 dX9_noRow_37
  · have hf := (if_ok hf).1 cc
    refine lv_aload_n hx hb dX9_noRow_12 rfl (lv_at hl 0 rfl) ?_
    refine lv_sipush (v := -1002) hx hb dX9_noRow_13 (by decide) ?_
    obtain ⟨v11, I12, h13, hf⟩ := bd2_ok hf
    refine q_cEi (va_runV (As := [.int (-1002 : Int32)]) (rest := []) ⟨hx, hb, hml, hown, hts⟩ (c_X9_refuse l (D := D) (ad := ad) (cy := cy) (sa := sa) (va := va) (I := I) (J := J) (S := S) h0 (-1002 : Int32) h13) (cwV 1 hts gX9_noRow_X9_refuse rfl rfl rfl (by decide +kernel) ⟨Nat.le_of_ble_eq_true rfl, Nat.le_of_ble_eq_true rfl⟩) ⟨qPre_blind _, q_recv hK hP (oX9 h0) rfl, fun U hU hW => ⟨rfl, qPre_of hP hK hE hN hS U hU hW⟩⟩ rfl rfl hl.1 rfl (lv_room (Nat.le_of_ble_eq_true rfl)) dX9_noRow_16 ⟨Nat.le_of_ble_eq_true rfl, Nat.le_of_ble_eq_true rfl⟩) hS (fun H locs hP hS => ?_)
    have e9 := Option.some.inj hf
    have eI9 : I12 = Ie := (congrArg Prod.snd e9)
    exact W.iret hx hb hr (fun t ht _ => ⟨⟨_, (), rfl, (congrArg Prod.fst e9), by show qP D _ ad _ _ _ t.heap; rw [ht, ← eI9]; exact hP⟩, hS.F ht⟩) hS.2.2 dX9_noRow_19
abbrev r_X9_set : Room := { frames := 2, cells := 0, slots := 0, locals := 46 }
theorem in_X9_set_X9 : ∀ w ∈ u_ws RX9 TX9 42, w ∈ wsX9_set := by decide +kernel
set_option maxHeartbeats 4000000 in
set_option maxRecDepth 100000 in
theorem c_X9_set (l : Launch) {D : va_G} {ad : Nat → Nat} {cy : Nat → ClassId} {sa va : Nat → Nat} {I : qI} {J : qJ} {S : Nat → Prop} (h0 : isM0 S)   (p0 : Int32) (p1 : Int32) (p2 : Int64) {r : Int32} {Ie : qI} {Je : qJ} (hf : f_X9_set p0 p1 p2 I J = some (r, Ie, Je)) : Met l yX9_set wsX9_set r_X9_set (va_Pc [.ref (ad 0), .int p0, .int p1, .long p2] (qPre D S ad cy sa va (eM ad cy) I J)) (va_Qi (S := Unit) (fun x _ => x = r) (fun _ t => qP D S ad (eM ad cy) Ie Je t.heap) (qA S ad)) 0 0 (qA S ad) := by
  refine Met.ofW (cc := cX9_set) (maxL := 6) (ret := (some .int)) (by decide) rfl ?_
  intro p e s m args below meth c s₁ B hml hv
  obtain ⟨rfl, hP, hK, hE, hN⟩ := hv
  have C : qC p s m _ meth c cX9_set 6 RX9 wsX9_set (some .int) := ⟨⟨B.exec, B.bytes, hml, findClass_of_methodNamed B.named, atoms_spec (ws := wsX9_set) B.pre⟩, B.returns, B.notSynchronized⟩
  have C0 := C
  obtain ⟨⟨hx, hb, hml, hown, hts⟩, hr, hlocks⟩ := C0
  have hS : va_S (qA S ad) s.heap s.heap [] := va_S.rf
  have hl := lv_entry ([.ref (ad 0), .int p0, .int p1, .long p2]) (n := 6) (Nat.le_of_ble_eq_true rfl)
  rw [lg_entry_eq]
  generalize (lg_sl ([.ref (ad 0), .int p0, .int p1, .long p2]) ++ List.replicate (6 - (lg_sl ([.ref (ad 0), .int p0, .int p1, .long p2])).length) Slot.unset).toArray = ls at hl ⊢
  have hl : lv_has ls 6 [(0, .ref (ad 0)), (1, .int p0), (2, .int p1), (3, .long p2)] := hl
  unfold f_X9_set at hf
  refine lv_aload_n hx hb dX9_set_0 rfl (lv_at hl 0 rfl) ?_
  refine lv_iload_n hx hb dX9_set_1 rfl (lv_at hl 1 rfl) ?_
  obtain ⟨v1, I2, h3, hf⟩ := bd2_ok hf
  refine q_cEi (va_runV (As := [.int p0]) (rest := []) ⟨hx, hb, hml, hown, hts⟩ (c_X9_noRow l (D := D) (ad := ad) (cy := cy) (sa := sa) (va := va) (I := I) (J := J) (S := S) h0 p0 h3) (cwV 1 hts gX9_set_X9_noRow rfl rfl rfl (by decide +kernel) ⟨Nat.le_of_ble_eq_true rfl, Nat.le_of_ble_eq_true rfl⟩) ⟨qPre_blind _, q_recv hK hP (oX9 h0) rfl, fun U hU hW => ⟨rfl, qPre_of hP hK hE hN hS U hU hW⟩⟩ rfl rfl hl.1 rfl (lv_room (Nat.le_of_ble_eq_true rfl)) dX9_set_2 ⟨Nat.le_of_ble_eq_true rfl, Nat.le_of_ble_eq_true rfl⟩) hS (fun H locs hP hS => ?_)
  refine lv_istore (lv' := [(5, .int v1), (0, .ref (ad 0)), (1, .int p0), (2, .int p1), (3, .long p2)]) hx hb dX9_set_5 hl (by decide) rfl (fun ls hl => ?_)
  refine lv_iload hx hb dX9_set_7 (lv_at hl 0 rfl) ?_
  refine lv_if_eq (tgt := 15) hx hb dX9_set_9 (by decide) (fun cc => ?_) (fun cc => ?_)
  · have hf := (if_ok hf).1 cc
    refine lv_iload_n hx hb dX9_set_15 rfl (lv_at hl 3 rfl) ?_
    refine lv_i2l hx hb dX9_set_16 rfl ?_
    refine lv_lconst (v := 0) hx hb dX9_set_17 (by decide) ?_
    refine lv_aload_n hx hb dX9_set_18 rfl (lv_at hl 1 rfl) ?_
    refine q_get (C := RX9) (T := TX9) (N := 42) (ci := 9) (v := .ref (ad 3)) hx hb hts in_X9_set_X9 hown hK hP (oX9 h0) rfl 2 (by decide) (hts (.fieldLink RX9 16 "RowsOnlyPrimesModel" "rowSize" "[I") (by decide +kernel)) (fun _ h9 => h9) rfl dX9_set_19 ?_
    refine lv_iload_n hx hb dX9_set_22 rfl (lv_at hl 2 rfl) ?_
    obtain ⟨g4, hf⟩ := gd_ok hf
    refine q_iald hx hb hK hP (a0X9_3 h0) g4 dX9_set_23 ?_
    refine lv_iconst (v := 1) hx hb dX9_set_24 (by decide) ?_
    refine lv_isub hx hb dX9_set_25 ?_
    refine lv_i2l hx hb dX9_set_26 rfl ?_
    obtain ⟨v5, h6, hf⟩ := bd_ok hf
    refine q_cSi (va_runS (As := [.long p1.toInt64, .long (0 : Int64), .long (((I2 3 p0.toNatClampNeg) - (1 : Int32)).toInt64)]) (rest := []) ⟨hx, hb, hml, hown, hts⟩ (c_X9_in l (D := D) (ad := ad) (cy := cy) (sa := sa) (va := va) (I := I2) (J := J) (S := S) h0 p1.toInt64 (0 : Int64) (((I2 3 p0.toNatClampNeg) - (1 : Int32)).toInt64) h6) (va_cwS 3 hts gX9_set_X9_in rfl rfl rfl (by decide +kernel) ⟨Nat.le_of_ble_eq_true rfl, Nat.le_of_ble_eq_true rfl⟩) ⟨qPre_blind _, fun U hU hW => ⟨rfl, qPre_of hP hK hE hN hS U hU hW⟩⟩ rfl rfl hl.1 rfl (lv_room (Nat.le_of_ble_eq_true rfl)) dX9_set_27 ⟨Nat.le_of_ble_eq_true rfl, Nat.le_of_ble_eq_true rfl⟩) ?_
    refine lv_if_ne (tgt := 41) hx hb dX9_set_30 (by decide) (fun cc => ?_) (fun cc => ?_)
    · have hf := (if_ok hf).2 cc
      refine lv_aload_n hx hb dX9_set_41 rfl (lv_at hl 1 rfl) ?_
      refine q_get (C := RX9) (T := TX9) (N := 42) (ci := 9) (v := .ref (ad 4)) hx hb hts in_X9_set_X9 hown hK hP (oX9 h0) rfl 3 (by decide) (hts (.fieldLink RX9 21 "RowsOnlyPrimesModel" "rows" "[[J") (by decide +kernel)) (fun _ h9 => h9) rfl dX9_set_42 ?_
      refine lv_iload_n hx hb dX9_set_45 rfl (lv_at hl 2 rfl) ?_
      obtain ⟨g7, hf⟩ := gd_ok hf
      refine q_aald (t := 5) hx hb hK hP (a0X9_4 h0) rfl rfl g7 dX9_set_46 ?_
      refine lv_iload_n hx hb dX9_set_47 rfl (lv_at hl 3 rfl) ?_
      refine lv_aload_n hx hb dX9_set_48 rfl (lv_at hl 1 rfl) ?_
      refine q_get (C := RX9) (T := TX9) (N := 42) (ci := 9) (v := .ref (ad 2)) hx hb hts in_X9_set_X9 hown hK hP (oX9 h0) rfl 1 (by decide) (hts (.fieldLink RX9 13 "RowsOnlyPrimesModel" "rowSort" "[I") (by decide +kernel)) (fun _ h9 => h9) rfl dX9_set_49 ?_
      refine lv_iload_n hx hb dX9_set_52 rfl (lv_at hl 2 rfl) ?_
      obtain ⟨g8, hf⟩ := gd_ok hf
      refine q_iald hx hb hK hP (a0X9_2 h0) g8 dX9_set_53 ?_
      refine lv_lload_n hx hb dX9_set_54 rfl (lv_at hl 4 rfl) ?_
      obtain ⟨v9, h10, hf⟩ := bd_ok hf
      refine q_cSl (va_runS (As := [.int (I2 2 p0.toNatClampNeg), .long p2]) (rest := [.int p1, .ref (ad (5 + p0.toNatClampNeg))]) ⟨hx, hb, hml, hown, hts⟩ (c_X9_fit l (D := D) (ad := ad) (cy := cy) (sa := sa) (va := va) (I := I2) (J := J) (S := S) h0 (I2 2 p0.toNatClampNeg) p2 h10) (va_cwS 2 hts gX9_set_X9_fit rfl rfl rfl (by decide +kernel) ⟨Nat.le_of_ble_eq_true rfl, Nat.le_of_ble_eq_true rfl⟩) ⟨qPre_blind _, fun U hU hW => ⟨rfl, qPre_of hP hK hE hN hS U hU hW⟩⟩ rfl rfl hl.1 rfl (lv_room (Nat.le_of_ble_eq_true rfl)) dX9_set_55 ⟨Nat.le_of_ble_eq_true rfl, Nat.le_of_ble_eq_true rfl⟩) ?_
      obtain ⟨g11, hf⟩ := gd_ok hf
      obtain ⟨J12, eJ12, hf⟩ := lt_ok hf
      refine q_last hx hb hK hP hN hS (aX9_4k h0 (j := p0.toNatClampNeg) (qin_lt g7)) g11 dX9_set_58 (fun H locs hP hS => ?_)
      have hP : qP D S ad (eM ad cy) I2 J12 H := by rw [eJ12]; exact hP
      refine lv_iconst (v := 1) hx hb dX9_set_59 (by decide) ?_
      have e9 := Option.some.inj hf
      have eI9 : I2 = Ie := (congrArg Prod.fst (congrArg Prod.snd e9))
      have eJ9 : J12 = Je := (congrArg Prod.snd (congrArg Prod.snd e9))
      exact W.iret hx hb hr (fun t ht _ => ⟨⟨_, (), rfl, (congrArg Prod.fst e9), by show qP D _ ad _ _ _ t.heap; rw [ht, ← eI9, ← eJ9]; exact hP⟩, hS.F ht⟩) hS.2.2 dX9_set_60
    · have hf := (if_ok hf).1 cc
      refine lv_aload_n hx hb dX9_set_33 rfl (lv_at hl 1 rfl) ?_
      refine lv_sipush (v := -1002) hx hb dX9_set_34 (by decide) ?_
      obtain ⟨v13, I14, h15, hf⟩ := bd2_ok hf
      refine q_cEi (va_runV (As := [.int (-1002 : Int32)]) (rest := []) ⟨hx, hb, hml, hown, hts⟩ (c_X9_refuse l (D := D) (ad := ad) (cy := cy) (sa := sa) (va := va) (I := I2) (J := J) (S := S) h0 (-1002 : Int32) h15) (cwV 1 hts gX9_set_X9_refuse rfl rfl rfl (by decide +kernel) ⟨Nat.le_of_ble_eq_true rfl, Nat.le_of_ble_eq_true rfl⟩) ⟨qPre_blind _, q_recv hK hP (oX9 h0) rfl, fun U hU hW => ⟨rfl, qPre_of hP hK hE hN hS U hU hW⟩⟩ rfl rfl hl.1 rfl (lv_room (Nat.le_of_ble_eq_true rfl)) dX9_set_37 ⟨Nat.le_of_ble_eq_true rfl, Nat.le_of_ble_eq_true rfl⟩) hS (fun H locs hP hS => ?_)
      have e9 := Option.some.inj hf
      have eI9 : I14 = Ie := (congrArg Prod.fst (congrArg Prod.snd e9))
      have eJ9 : J = Je := (congrArg Prod.snd (congrArg Prod.snd e9))
      exact W.iret hx hb hr (fun t ht _ => ⟨⟨_, (), rfl, (congrArg Prod.fst e9), by show qP D _ ad _ _ _ t.heap; rw [ht, ← eI9, ← eJ9]; exact hP⟩, hS.F ht⟩) hS.2.2 dX9_set_40
  · have hf := (if_ok hf).2 cc
    refine lv_iload hx hb dX9_set_12 (lv_at hl 0 rfl) ?_
    have e9 := Option.some.inj hf
    have eI9 : I2 = Ie := (congrArg Prod.fst (congrArg Prod.snd e9))
    have eJ9 : J = Je := (congrArg Prod.snd (congrArg Prod.snd e9))
    exact W.iret hx hb hr (fun t ht _ => ⟨⟨_, (), rfl, (congrArg Prod.fst e9), by show qP D _ ad _ _ _ t.heap; rw [ht, ← eI9, ← eJ9]; exact hP⟩, hS.F ht⟩) hS.2.2 dX9_set_14
abbrev r_X9_copy : Room := { frames := 1, cells := 0, slots := 0, locals := 25 }
theorem in_X9_copy_X9 : ∀ w ∈ u_ws RX9 TX9 42, w ∈ wsX9_copy := by decide +kernel
set_option maxHeartbeats 4000000 in
set_option maxRecDepth 100000 in
theorem w_X9_copy_24 {S : Nat → Prop} (C : qC p s m args meth c cX9_copy 7 RX9 wsX9_copy (some .int)) (hK : qK D cy sa s) (hE : qEnv sa va (qA S ad) s s.heap) (hN : qN S ad) (h0 : isM0 S)   {r : Int32} {Ie : qI} {Je : qJ} : ∀   (I : qI) (J : qJ) (ls : Array Slot) (H : Heap) (locs : List Loc), f_X9_copy_24 I J = some (r, Ie, Je) → lv_has ls 7 [(0, .ref (ad 0))] → qP D S ad (eM ad cy) I J H → va_S (qA S ad) s.heap H locs → W p l e (headSpec wsX9_copy r_X9_copy).room s m args below meth c H locs 0 0 (MQ below (va_Qi (S := Unit) (fun x _ => x = r) (fun _ t => qP D S ad (eM ad cy) Ie Je t.heap) (qA S ad)) args s 0 0 (qA S ad)) (F0 m 24 ls []) := by
  have C0 := C
  obtain ⟨⟨hx, hb, hml, hown, hts⟩, hr, hlocks⟩ := C0
  intro I J ls H locs hf hl hP hS
  unfold f_X9_copy_24 at hf
  refine lv_aload_n hx hb dX9_copy_24 rfl (lv_at hl 0 rfl) ?_
  refine lv_sipush (v := -1002) hx hb dX9_copy_25 (by decide) ?_
  obtain ⟨v1, I2, h3, hf⟩ := bd2_ok hf
  refine q_cEi (va_runV (As := [.int (-1002 : Int32)]) (rest := []) ⟨hx, hb, hml, hown, hts⟩ (c_X9_refuse l (D := D) (ad := ad) (cy := cy) (sa := sa) (va := va) (I := I) (J := J) (S := S) h0 (-1002 : Int32) h3) (cwV 1 hts gX9_copy_X9_refuse rfl rfl rfl (by decide +kernel) ⟨Nat.le_of_ble_eq_true rfl, Nat.le_of_ble_eq_true rfl⟩) ⟨qPre_blind _, q_recv hK hP (oX9 h0) rfl, fun U hU hW => ⟨rfl, qPre_of hP hK hE hN hS U hU hW⟩⟩ rfl rfl hl.1 rfl (lv_room (Nat.le_of_ble_eq_true rfl)) dX9_copy_28 ⟨Nat.le_of_ble_eq_true rfl, Nat.le_of_ble_eq_true rfl⟩) hS (fun H locs hP hS => ?_)
  have e9 := Option.some.inj hf
  have eI9 : I2 = Ie := (congrArg Prod.fst (congrArg Prod.snd e9))
  have eJ9 : J = Je := (congrArg Prod.snd (congrArg Prod.snd e9))
  exact W.iret hx hb hr (fun t ht _ => ⟨⟨_, (), rfl, (congrArg Prod.fst e9), by show qP D _ ad _ _ _ t.heap; rw [ht, ← eI9, ← eJ9]; exact hP⟩, hS.F ht⟩) hS.2.2 dX9_copy_31
set_option maxHeartbeats 4000000 in
set_option maxRecDepth 100000 in
theorem w_X9_copy_184 {S : Nat → Prop} (C : qC p s m args meth c cX9_copy 7 RX9 wsX9_copy (some .int)) (hK : qK D cy sa s) (hE : qEnv sa va (qA S ad) s s.heap) (hN : qN S ad) (h0 : isM0 S)   {r : Int32} {Ie : qI} {Je : qJ} : ∀   (I : qI) (J : qJ) (ls : Array Slot) (H : Heap) (locs : List Loc), f_X9_copy_184 I J = some (r, Ie, Je) → lv_has ls 7 [(0, .ref (ad 0))] → qP D S ad (eM ad cy) I J H → va_S (qA S ad) s.heap H locs → W p l e (headSpec wsX9_copy r_X9_copy).room s m args below meth c H locs 0 0 (MQ below (va_Qi (S := Unit) (fun x _ => x = r) (fun _ t => qP D S ad (eM ad cy) Ie Je t.heap) (qA S ad)) args s 0 0 (qA S ad)) (F0 m 184 ls []) := by
  have C0 := C
  obtain ⟨⟨hx, hb, hml, hown, hts⟩, hr, hlocks⟩ := C0
  intro I J ls H locs hf hl hP hS
  unfold f_X9_copy_184 at hf
  refine lv_aload_n hx hb dX9_copy_184 rfl (lv_at hl 0 rfl) ?_
  refine lv_sipush (v := -1002) hx hb dX9_copy_185 (by decide) ?_
  obtain ⟨v1, I2, h3, hf⟩ := bd2_ok hf
  refine q_cEi (va_runV (As := [.int (-1002 : Int32)]) (rest := []) ⟨hx, hb, hml, hown, hts⟩ (c_X9_refuse l (D := D) (ad := ad) (cy := cy) (sa := sa) (va := va) (I := I) (J := J) (S := S) h0 (-1002 : Int32) h3) (cwV 1 hts gX9_copy_X9_refuse rfl rfl rfl (by decide +kernel) ⟨Nat.le_of_ble_eq_true rfl, Nat.le_of_ble_eq_true rfl⟩) ⟨qPre_blind _, q_recv hK hP (oX9 h0) rfl, fun U hU hW => ⟨rfl, qPre_of hP hK hE hN hS U hU hW⟩⟩ rfl rfl hl.1 rfl (lv_room (Nat.le_of_ble_eq_true rfl)) dX9_copy_188 ⟨Nat.le_of_ble_eq_true rfl, Nat.le_of_ble_eq_true rfl⟩) hS (fun H locs hP hS => ?_)
  have e9 := Option.some.inj hf
  have eI9 : I2 = Ie := (congrArg Prod.fst (congrArg Prod.snd e9))
  have eJ9 : J = Je := (congrArg Prod.snd (congrArg Prod.snd e9))
  exact W.iret hx hb hr (fun t ht _ => ⟨⟨_, (), rfl, (congrArg Prod.fst e9), by show qP D _ ad _ _ _ t.heap; rw [ht, ← eI9, ← eJ9]; exact hP⟩, hS.F ht⟩) hS.2.2 dX9_copy_191
set_option maxHeartbeats 4000000 in
set_option maxRecDepth 100000 in
theorem w_X9_copy_113 {S : Nat → Prop} (C : qC p s m args meth c cX9_copy 7 RX9 wsX9_copy (some .int)) (hK : qK D cy sa s) (hE : qEnv sa va (qA S ad) s s.heap) (hN : qN S ad) (h0 : isM0 S)   {r : Int32} {Ie : qI} {Je : qJ} : ∀   (I : qI) (J : qJ) (ls : Array Slot) (H : Heap) (locs : List Loc), f_X9_copy_113 I J = some (r, Ie, Je) → lv_has ls 7 [(0, .ref (ad 0))] → qP D S ad (eM ad cy) I J H → va_S (qA S ad) s.heap H locs → W p l e (headSpec wsX9_copy r_X9_copy).room s m args below meth c H locs 0 0 (MQ below (va_Qi (S := Unit) (fun x _ => x = r) (fun _ t => qP D S ad (eM ad cy) Ie Je t.heap) (qA S ad)) args s 0 0 (qA S ad)) (F0 m 113 ls []) := by
  have C0 := C
  obtain ⟨⟨hx, hb, hml, hown, hts⟩, hr, hlocks⟩ := C0
  intro I J ls H locs hf hl hP hS
  unfold f_X9_copy_113 at hf
  refine lv_aload_n hx hb dX9_copy_113 rfl (lv_at hl 0 rfl) ?_
  refine lv_sipush (v := -1004) hx hb dX9_copy_114 (by decide) ?_
  obtain ⟨v1, I2, h3, hf⟩ := bd2_ok hf
  refine q_cEi (va_runV (As := [.int (-1004 : Int32)]) (rest := []) ⟨hx, hb, hml, hown, hts⟩ (c_X9_refuse l (D := D) (ad := ad) (cy := cy) (sa := sa) (va := va) (I := I) (J := J) (S := S) h0 (-1004 : Int32) h3) (cwV 1 hts gX9_copy_X9_refuse rfl rfl rfl (by decide +kernel) ⟨Nat.le_of_ble_eq_true rfl, Nat.le_of_ble_eq_true rfl⟩) ⟨qPre_blind _, q_recv hK hP (oX9 h0) rfl, fun U hU hW => ⟨rfl, qPre_of hP hK hE hN hS U hU hW⟩⟩ rfl rfl hl.1 rfl (lv_room (Nat.le_of_ble_eq_true rfl)) dX9_copy_117 ⟨Nat.le_of_ble_eq_true rfl, Nat.le_of_ble_eq_true rfl⟩) hS (fun H locs hP hS => ?_)
  have e9 := Option.some.inj hf
  have eI9 : I2 = Ie := (congrArg Prod.fst (congrArg Prod.snd e9))
  have eJ9 : J = Je := (congrArg Prod.snd (congrArg Prod.snd e9))
  exact W.iret hx hb hr (fun t ht _ => ⟨⟨_, (), rfl, (congrArg Prod.fst e9), by show qP D _ ad _ _ _ t.heap; rw [ht, ← eI9, ← eJ9]; exact hP⟩, hS.F ht⟩) hS.2.2 dX9_copy_120
set_option maxHeartbeats 4000000 in
set_option maxRecDepth 100000 in
theorem w_X9_copy_229 {S : Nat → Prop} (C : qC p s m args meth c cX9_copy 7 RX9 wsX9_copy (some .int)) (hK : qK D cy sa s) (hE : qEnv sa va (qA S ad) s s.heap) (hN : qN S ad) (h0 : isM0 S)   {r : Int32} {Ie : qI} {Je : qJ} : ∀ (n : Nat) (x2 : Int32) (x4 : Int32) (x5 : Int32) (x6 : Int32)  (I : qI) (J : qJ) (ls : Array Slot) (H : Heap) (locs : List Loc), f_X9_copy_229 n x2 x4 x5 x6 I J = some (r, Ie, Je) → lv_has ls 7 [(0, .ref (ad 0)), (2, .int x2), (4, .int x4), (5, .int x5), (6, .int x6)] → qP D S ad (eM ad cy) I J H → va_S (qA S ad) s.heap H locs → W p l e (headSpec wsX9_copy r_X9_copy).room s m args below meth c H locs 0 0 (MQ below (va_Qi (S := Unit) (fun x _ => x = r) (fun _ t => qP D S ad (eM ad cy) Ie Je t.heap) (qA S ad)) args s 0 0 (qA S ad)) (F0 m 229 ls []) := by
  have C0 := C
  obtain ⟨⟨hx, hb, hml, hown, hts⟩, hr, hlocks⟩ := C0
  intro n
  induction n with
  | zero =>
    intro x2 x4 x5 x6 I J ls H locs hf hl hP hS
    rw [f_X9_copy_229] at hf
    cases hf
  | succ n ih =>
    intro x2 x4 x5 x6 I J ls H locs hf hl hP hS
    rw [f_X9_copy_229] at hf
    refine lv_iload hx hb dX9_copy_229 (lv_at hl 4 rfl) ?_
    refine lv_iload hx hb dX9_copy_231 (lv_at hl 3 rfl) ?_
    refine lv_icmp_ge (tgt := 261) hx hb dX9_copy_233 (by decide) (fun cc => ?_) (fun cc => ?_)
    · have hf := (if_ok hf).1 cc
      refine lv_iload hx hb dX9_copy_261 (lv_at hl 3 rfl) ?_
      have e9 := Option.some.inj hf
      have eI9 : I = Ie := (congrArg Prod.fst (congrArg Prod.snd e9))
      have eJ9 : J = Je := (congrArg Prod.snd (congrArg Prod.snd e9))
      exact W.iret hx hb hr (fun t ht _ => ⟨⟨_, (), rfl, (congrArg Prod.fst e9), by show qP D _ ad _ _ _ t.heap; rw [ht, ← eI9, ← eJ9]; exact hP⟩, hS.F ht⟩) hS.2.2 dX9_copy_263
    · have hf := (if_ok hf).2 cc
      refine lv_aload_n hx hb dX9_copy_236 rfl (lv_at hl 0 rfl) ?_
      refine q_get (C := RX9) (T := TX9) (N := 42) (ci := 9) (v := .ref (ad 4)) hx hb hts in_X9_copy_X9 hown hK hP (oX9 h0) rfl 3 (by decide) (hts (.fieldLink RX9 21 "RowsOnlyPrimesModel" "rows" "[[J") (by decide +kernel)) (fun _ h9 => h9) rfl dX9_copy_237 ?_
      refine lv_iload_n hx hb dX9_copy_240 rfl (lv_at hl 1 rfl) ?_
      obtain ⟨g1, hf⟩ := gd_ok hf
      refine q_aald (t := 5) hx hb hK hP (a0X9_4 h0) rfl rfl g1 dX9_copy_241 ?_
      refine lv_iload hx hb dX9_copy_242 (lv_at hl 2 rfl) ?_
      refine lv_iload hx hb dX9_copy_244 (lv_at hl 4 rfl) ?_
      refine lv_iadd hx hb dX9_copy_246 ?_
      refine lv_aload_n hx hb dX9_copy_247 rfl (lv_at hl 0 rfl) ?_
      refine q_get (C := RX9) (T := TX9) (N := 42) (ci := 9) (v := .ref (ad 13)) hx hb hts in_X9_copy_X9 hown hK hP (oX9 h0) rfl 4 (by decide) (hts (.fieldLink RX9 24 "RowsOnlyPrimesModel" "moved" "[J") (by decide +kernel)) (fun _ h9 => h9) rfl dX9_copy_248 ?_
      refine lv_iload hx hb dX9_copy_251 (lv_at hl 4 rfl) ?_
      obtain ⟨g2, hf⟩ := gd_ok hf
      refine q_lald hx hb hK hP (a0X9_13 h0) g2 dX9_copy_253 ?_
      obtain ⟨g3, hf⟩ := gd_ok hf
      obtain ⟨J4, eJ4, hf⟩ := lt_ok hf
      refine q_last hx hb hK hP hN hS (aX9_4k h0 (j := x2.toNatClampNeg) (qin_lt g1)) g3 dX9_copy_254 (fun H locs hP hS => ?_)
      have hP : qP D S ad (eM ad cy) I J4 H := by rw [eJ4]; exact hP
      refine lv_iinc (v := (x6 + (1 : Int32))) (lv' := [(6, .int (x6 + (1 : Int32))), (0, .ref (ad 0)), (2, .int x2), (4, .int x4), (5, .int x5)]) hx hb dX9_copy_255 hl (k := 4) rfl rfl (by decide) rfl (fun ls hl => ?_)
      refine lv_goto (tgt := 229) hx hb dX9_copy_258 (by decide) ?_
      exact ih x2 x4 x5 (x6 + (1 : Int32)) I J4 _ _ _ hf (lv_sub hl [1, 2, 3, 4, 0] rfl) hP hS
set_option maxHeartbeats 4000000 in
set_option maxRecDepth 100000 in
theorem w_X9_copy_195 {S : Nat → Prop} (C : qC p s m args meth c cX9_copy 7 RX9 wsX9_copy (some .int)) (hK : qK D cy sa s) (hE : qEnv sa va (qA S ad) s s.heap) (hN : qN S ad) (h0 : isM0 S)   {r : Int32} {Ie : qI} {Je : qJ} : ∀ (n : Nat) (x1 : Int32) (x2 : Int32) (x3 : Int32) (x4 : Int32) (x5 : Int32) (x6 : Int32)  (I : qI) (J : qJ) (ls : Array Slot) (H : Heap) (locs : List Loc), f_X9_copy_195 n x1 x2 x3 x4 x5 x6 I J = some (r, Ie, Je) → lv_has ls 7 [(0, .ref (ad 0)), (1, .int x1), (2, .int x2), (3, .int x3), (4, .int x4), (5, .int x5), (6, .int x6)] → qP D S ad (eM ad cy) I J H → va_S (qA S ad) s.heap H locs → W p l e (headSpec wsX9_copy r_X9_copy).room s m args below meth c H locs 0 0 (MQ below (va_Qi (S := Unit) (fun x _ => x = r) (fun _ t => qP D S ad (eM ad cy) Ie Je t.heap) (qA S ad)) args s 0 0 (qA S ad)) (F0 m 195 ls []) := by
  have C0 := C
  obtain ⟨⟨hx, hb, hml, hown, hts⟩, hr, hlocks⟩ := C0
  intro n
  induction n with
  | zero =>
    intro x1 x2 x3 x4 x5 x6 I J ls H locs hf hl hP hS
    rw [f_X9_copy_195] at hf
    cases hf
  | succ n ih =>
    intro x1 x2 x3 x4 x5 x6 I J ls H locs hf hl hP hS
    rw [f_X9_copy_195] at hf
    refine lv_iload hx hb dX9_copy_195 (lv_at hl 6 rfl) ?_
    refine lv_iload hx hb dX9_copy_197 (lv_at hl 5 rfl) ?_
    refine lv_icmp_ge (tgt := 226) hx hb dX9_copy_199 (by decide) (fun cc => ?_) (fun cc => ?_)
    · have hf := (if_ok hf).1 cc
      refine lv_iconst (v := 0) hx hb dX9_copy_226 (by decide) ?_
      refine lv_istore (lv' := [(6, .int (0 : Int32)), (0, .ref (ad 0)), (1, .int x1), (2, .int x2), (3, .int x3), (4, .int x4), (5, .int x5)]) hx hb dX9_copy_227 hl (by decide) rfl (fun ls hl => ?_)
      exact w_X9_copy_229 C hK hE hN h0  1000 x2 x4 x5 (0 : Int32) I J _ _ _ hf (lv_sub hl [1, 3, 5, 6, 0] rfl) hP hS
    · have hf := (if_ok hf).2 cc
      refine lv_aload_n hx hb dX9_copy_202 rfl (lv_at hl 0 rfl) ?_
      refine q_get (C := RX9) (T := TX9) (N := 42) (ci := 9) (v := .ref (ad 13)) hx hb hts in_X9_copy_X9 hown hK hP (oX9 h0) rfl 4 (by decide) (hts (.fieldLink RX9 24 "RowsOnlyPrimesModel" "moved" "[J") (by decide +kernel)) (fun _ h9 => h9) rfl dX9_copy_203 ?_
      refine lv_iload hx hb dX9_copy_206 (lv_at hl 6 rfl) ?_
      refine lv_aload_n hx hb dX9_copy_208 rfl (lv_at hl 0 rfl) ?_
      refine q_get (C := RX9) (T := TX9) (N := 42) (ci := 9) (v := .ref (ad 4)) hx hb hts in_X9_copy_X9 hown hK hP (oX9 h0) rfl 3 (by decide) (hts (.fieldLink RX9 21 "RowsOnlyPrimesModel" "rows" "[[J") (by decide +kernel)) (fun _ h9 => h9) rfl dX9_copy_209 ?_
      refine lv_iload_n hx hb dX9_copy_212 rfl (lv_at hl 1 rfl) ?_
      obtain ⟨g1, hf⟩ := gd_ok hf
      refine q_aald (t := 5) hx hb hK hP (a0X9_4 h0) rfl rfl g1 dX9_copy_213 ?_
      refine lv_iload_n hx hb dX9_copy_214 rfl (lv_at hl 3 rfl) ?_
      refine lv_iload hx hb dX9_copy_215 (lv_at hl 6 rfl) ?_
      refine lv_iadd hx hb dX9_copy_217 ?_
      obtain ⟨g2, hf⟩ := gd_ok hf
      refine q_lald hx hb hK hP (aX9_4k h0 (j := x1.toNatClampNeg) (qin_lt g1)) g2 dX9_copy_218 ?_
      obtain ⟨g3, hf⟩ := gd_ok hf
      obtain ⟨J4, eJ4, hf⟩ := lt_ok hf
      refine q_last hx hb hK hP hN hS (a0X9_13 h0) g3 dX9_copy_219 (fun H locs hP hS => ?_)
      have hP : qP D S ad (eM ad cy) I J4 H := by rw [eJ4]; exact hP
      refine lv_iinc (v := (x6 + (1 : Int32))) (lv' := [(6, .int (x6 + (1 : Int32))), (0, .ref (ad 0)), (1, .int x1), (2, .int x2), (3, .int x3), (4, .int x4), (5, .int x5)]) hx hb dX9_copy_220 hl (k := 6) rfl rfl (by decide) rfl (fun ls hl => ?_)
      refine lv_goto (tgt := 195) hx hb dX9_copy_223 (by decide) ?_
      exact ih x1 x2 x3 x4 x5 (x6 + (1 : Int32)) I J4 _ _ _ hf (lv_sub hl [1, 2, 3, 4, 5, 6, 0] rfl) hP hS
set_option maxHeartbeats 4000000 in
set_option maxRecDepth 100000 in
theorem w_X9_copy_95 {S : Nat → Prop} (C : qC p s m args meth c cX9_copy 7 RX9 wsX9_copy (some .int)) (hK : qK D cy sa s) (hE : qEnv sa va (qA S ad) s s.heap) (hN : qN S ad) (h0 : isM0 S)   {r : Int32} {Ie : qI} {Je : qJ} : ∀ (x1 : Int32) (x2 : Int32) (x3 : Int32) (x4 : Int32) (x5 : Int32)  (I : qI) (J : qJ) (ls : Array Slot) (H : Heap) (locs : List Loc), f_X9_copy_95 x1 x2 x3 x4 x5 I J = some (r, Ie, Je) → lv_has ls 7 [(0, .ref (ad 0)), (1, .int x1), (2, .int x2), (3, .int x3), (4, .int x4), (5, .int x5)] → qP D S ad (eM ad cy) I J H → va_S (qA S ad) s.heap H locs → W p l e (headSpec wsX9_copy r_X9_copy).room s m args below meth c H locs 0 0 (MQ below (va_Qi (S := Unit) (fun x _ => x = r) (fun _ t => qP D S ad (eM ad cy) Ie Je t.heap) (qA S ad)) args s 0 0 (qA S ad)) (F0 m 95 ls []) := by
  have C0 := C
  obtain ⟨⟨hx, hb, hml, hown, hts⟩, hr, hlocks⟩ := C0
  intro x1 x2 x3 x4 x5 I J ls H locs hf hl hP hS
  unfold f_X9_copy_95 at hf
  refine lv_aload_n hx hb dX9_copy_95 rfl (lv_at hl 0 rfl) ?_
  refine q_get (C := RX9) (T := TX9) (N := 42) (ci := 9) (v := .ref (ad 1)) hx hb hts in_X9_copy_X9 hown hK hP (oX9 h0) rfl 0 (by decide) (hts (.fieldLink RX9 7 "RowsOnlyPrimesModel" "shelf" "[I") (by decide +kernel)) (fun _ h9 => h9) rfl dX9_copy_96 ?_
  refine lv_iload_n hx hb dX9_copy_99 rfl (lv_at hl 1 rfl) ?_
  obtain ⟨g1, hf⟩ := gd_ok hf
  refine q_iald hx hb hK hP (a0X9_1 h0) g1 dX9_copy_100 ?_
  refine lv_if_eq (tgt := 113) hx hb dX9_copy_101 (by decide) (fun cc => ?_) (fun cc => ?_)
  · have hf := (if_ok hf).1 cc
    exact w_X9_copy_113 C hK hE hN h0   I J _ _ _ hf (lv_sub hl [0] rfl) hP hS
  · have hf := (if_ok hf).2 cc
    refine lv_aload_n hx hb dX9_copy_104 rfl (lv_at hl 0 rfl) ?_
    refine q_get (C := RX9) (T := TX9) (N := 42) (ci := 9) (v := .ref (ad 1)) hx hb hts in_X9_copy_X9 hown hK hP (oX9 h0) rfl 0 (by decide) (hts (.fieldLink RX9 7 "RowsOnlyPrimesModel" "shelf" "[I") (by decide +kernel)) (fun _ h9 => h9) rfl dX9_copy_105 ?_
    refine lv_iload_n hx hb dX9_copy_108 rfl (lv_at hl 2 rfl) ?_
    obtain ⟨g2, hf⟩ := gd_ok hf
    refine q_iald hx hb hK hP (a0X9_1 h0) g2 dX9_copy_109 ?_
    refine lv_if_ne (tgt := 121) hx hb dX9_copy_110 (by decide) (fun cc => ?_) (fun cc => ?_)
    · have hf := (if_ok hf).2 cc
      refine lv_iload hx hb dX9_copy_121 (lv_at hl 5 rfl) ?_
      refine lv_if_lt (tgt := 184) hx hb dX9_copy_123 (by decide) (fun cc => ?_) (fun cc => ?_)
      · have hf := (if_ok hf).1 cc
        exact w_X9_copy_184 C hK hE hN h0   I J _ _ _ hf (lv_sub hl [0] rfl) hP hS
      · have hf := (if_ok hf).2 cc
        refine lv_iload_n hx hb dX9_copy_126 rfl (lv_at hl 3 rfl) ?_
        refine lv_if_lt (tgt := 184) hx hb dX9_copy_127 (by decide) (fun cc => ?_) (fun cc => ?_)
        · have hf := (if_ok hf).1 cc
          exact w_X9_copy_184 C hK hE hN h0   I J _ _ _ hf (lv_sub hl [0] rfl) hP hS
        · have hf := (if_ok hf).2 cc
          refine lv_iload hx hb dX9_copy_130 (lv_at hl 4 rfl) ?_
          refine lv_if_lt (tgt := 184) hx hb dX9_copy_132 (by decide) (fun cc => ?_) (fun cc => ?_)
          · have hf := (if_ok hf).1 cc
            exact w_X9_copy_184 C hK hE hN h0   I J _ _ _ hf (lv_sub hl [0] rfl) hP hS
          · have hf := (if_ok hf).2 cc
            refine lv_iload hx hb dX9_copy_135 (lv_at hl 5 rfl) ?_
            refine lv_aload_n hx hb dX9_copy_137 rfl (lv_at hl 0 rfl) ?_
            refine q_get (C := RX9) (T := TX9) (N := 42) (ci := 9) (v := .ref (ad 3)) hx hb hts in_X9_copy_X9 hown hK hP (oX9 h0) rfl 2 (by decide) (hts (.fieldLink RX9 16 "RowsOnlyPrimesModel" "rowSize" "[I") (by decide +kernel)) (fun _ h9 => h9) rfl dX9_copy_138 ?_
            refine lv_iload_n hx hb dX9_copy_141 rfl (lv_at hl 1 rfl) ?_
            obtain ⟨g3, hf⟩ := gd_ok hf
            refine q_iald hx hb hK hP (a0X9_3 h0) g3 dX9_copy_142 ?_
            refine lv_icmp_gt (tgt := 184) hx hb dX9_copy_143 (by decide) (fun cc => ?_) (fun cc => ?_)
            · have hf := (if_ok hf).1 cc
              exact w_X9_copy_184 C hK hE hN h0   I J _ _ _ hf (lv_sub hl [0] rfl) hP hS
            · have hf := (if_ok hf).2 cc
              refine lv_iload hx hb dX9_copy_146 (lv_at hl 5 rfl) ?_
              refine lv_aload_n hx hb dX9_copy_148 rfl (lv_at hl 0 rfl) ?_
              refine q_get (C := RX9) (T := TX9) (N := 42) (ci := 9) (v := .ref (ad 3)) hx hb hts in_X9_copy_X9 hown hK hP (oX9 h0) rfl 2 (by decide) (hts (.fieldLink RX9 16 "RowsOnlyPrimesModel" "rowSize" "[I") (by decide +kernel)) (fun _ h9 => h9) rfl dX9_copy_149 ?_
              refine lv_iload_n hx hb dX9_copy_152 rfl (lv_at hl 2 rfl) ?_
              obtain ⟨g4, hf⟩ := gd_ok hf
              refine q_iald hx hb hK hP (a0X9_3 h0) g4 dX9_copy_153 ?_
              refine lv_icmp_gt (tgt := 184) hx hb dX9_copy_154 (by decide) (fun cc => ?_) (fun cc => ?_)
              · have hf := (if_ok hf).1 cc
                exact w_X9_copy_184 C hK hE hN h0   I J _ _ _ hf (lv_sub hl [0] rfl) hP hS
              · have hf := (if_ok hf).2 cc
                refine lv_iload_n hx hb dX9_copy_157 rfl (lv_at hl 3 rfl) ?_
                refine lv_aload_n hx hb dX9_copy_158 rfl (lv_at hl 0 rfl) ?_
                refine q_get (C := RX9) (T := TX9) (N := 42) (ci := 9) (v := .ref (ad 3)) hx hb hts in_X9_copy_X9 hown hK hP (oX9 h0) rfl 2 (by decide) (hts (.fieldLink RX9 16 "RowsOnlyPrimesModel" "rowSize" "[I") (by decide +kernel)) (fun _ h9 => h9) rfl dX9_copy_159 ?_
                refine lv_iload_n hx hb dX9_copy_162 rfl (lv_at hl 1 rfl) ?_
                obtain ⟨g5, hf⟩ := gd_ok hf
                refine q_iald hx hb hK hP (a0X9_3 h0) g5 dX9_copy_163 ?_
                refine lv_iload hx hb dX9_copy_164 (lv_at hl 5 rfl) ?_
                refine lv_isub hx hb dX9_copy_166 ?_
                refine lv_icmp_gt (tgt := 184) hx hb dX9_copy_167 (by decide) (fun cc => ?_) (fun cc => ?_)
                · have hf := (if_ok hf).1 cc
                  exact w_X9_copy_184 C hK hE hN h0   I J _ _ _ hf (lv_sub hl [0] rfl) hP hS
                · have hf := (if_ok hf).2 cc
                  refine lv_iload hx hb dX9_copy_170 (lv_at hl 4 rfl) ?_
                  refine lv_aload_n hx hb dX9_copy_172 rfl (lv_at hl 0 rfl) ?_
                  refine q_get (C := RX9) (T := TX9) (N := 42) (ci := 9) (v := .ref (ad 3)) hx hb hts in_X9_copy_X9 hown hK hP (oX9 h0) rfl 2 (by decide) (hts (.fieldLink RX9 16 "RowsOnlyPrimesModel" "rowSize" "[I") (by decide +kernel)) (fun _ h9 => h9) rfl dX9_copy_173 ?_
                  refine lv_iload_n hx hb dX9_copy_176 rfl (lv_at hl 2 rfl) ?_
                  obtain ⟨g6, hf⟩ := gd_ok hf
                  refine q_iald hx hb hK hP (a0X9_3 h0) g6 dX9_copy_177 ?_
                  refine lv_iload hx hb dX9_copy_178 (lv_at hl 5 rfl) ?_
                  refine lv_isub hx hb dX9_copy_180 ?_
                  refine lv_icmp_le (tgt := 192) hx hb dX9_copy_181 (by decide) (fun cc => ?_) (fun cc => ?_)
                  · have hf := (if_ok hf).1 cc
                    refine lv_iconst (v := 0) hx hb dX9_copy_192 (by decide) ?_
                    refine lv_istore (lv' := [(6, .int (0 : Int32)), (0, .ref (ad 0)), (1, .int x1), (2, .int x2), (3, .int x3), (4, .int x4), (5, .int x5)]) hx hb dX9_copy_193 hl (by decide) rfl (fun ls hl => ?_)
                    exact w_X9_copy_195 C hK hE hN h0  1000 x1 x2 x3 x4 x5 (0 : Int32) I J _ _ _ hf (lv_sub hl [1, 2, 3, 4, 5, 6, 0] rfl) hP hS
                  · have hf := (if_ok hf).2 cc
                    exact w_X9_copy_184 C hK hE hN h0   I J _ _ _ hf (lv_sub hl [0] rfl) hP hS
    · have hf := (if_ok hf).1 cc
      exact w_X9_copy_113 C hK hE hN h0   I J _ _ _ hf (lv_sub hl [0] rfl) hP hS
set_option maxHeartbeats 4000000 in
set_option maxRecDepth 100000 in
theorem w_X9_copy_87 {S : Nat → Prop} (C : qC p s m args meth c cX9_copy 7 RX9 wsX9_copy (some .int)) (hK : qK D cy sa s) (hE : qEnv sa va (qA S ad) s s.heap) (hN : qN S ad) (h0 : isM0 S)   {r : Int32} {Ie : qI} {Je : qJ} : ∀   (I : qI) (J : qJ) (ls : Array Slot) (H : Heap) (locs : List Loc), f_X9_copy_87 I J = some (r, Ie, Je) → lv_has ls 7 [(0, .ref (ad 0))] → qP D S ad (eM ad cy) I J H → va_S (qA S ad) s.heap H locs → W p l e (headSpec wsX9_copy r_X9_copy).room s m args below meth c H locs 0 0 (MQ below (va_Qi (S := Unit) (fun x _ => x = r) (fun _ t => qP D S ad (eM ad cy) Ie Je t.heap) (qA S ad)) args s 0 0 (qA S ad)) (F0 m 87 ls []) := by
  have C0 := C
  obtain ⟨⟨hx, hb, hml, hown, hts⟩, hr, hlocks⟩ := C0
  intro I J ls H locs hf hl hP hS
  unfold f_X9_copy_87 at hf
  refine lv_aload_n hx hb dX9_copy_87 rfl (lv_at hl 0 rfl) ?_
  refine lv_sipush (v := -1003) hx hb dX9_copy_88 (by decide) ?_
  obtain ⟨v1, I2, h3, hf⟩ := bd2_ok hf
  refine q_cEi (va_runV (As := [.int (-1003 : Int32)]) (rest := []) ⟨hx, hb, hml, hown, hts⟩ (c_X9_refuse l (D := D) (ad := ad) (cy := cy) (sa := sa) (va := va) (I := I) (J := J) (S := S) h0 (-1003 : Int32) h3) (cwV 1 hts gX9_copy_X9_refuse rfl rfl rfl (by decide +kernel) ⟨Nat.le_of_ble_eq_true rfl, Nat.le_of_ble_eq_true rfl⟩) ⟨qPre_blind _, q_recv hK hP (oX9 h0) rfl, fun U hU hW => ⟨rfl, qPre_of hP hK hE hN hS U hU hW⟩⟩ rfl rfl hl.1 rfl (lv_room (Nat.le_of_ble_eq_true rfl)) dX9_copy_91 ⟨Nat.le_of_ble_eq_true rfl, Nat.le_of_ble_eq_true rfl⟩) hS (fun H locs hP hS => ?_)
  have e9 := Option.some.inj hf
  have eI9 : I2 = Ie := (congrArg Prod.fst (congrArg Prod.snd e9))
  have eJ9 : J = Je := (congrArg Prod.snd (congrArg Prod.snd e9))
  exact W.iret hx hb hr (fun t ht _ => ⟨⟨_, (), rfl, (congrArg Prod.fst e9), by show qP D _ ad _ _ _ t.heap; rw [ht, ← eI9, ← eJ9]; exact hP⟩, hS.F ht⟩) hS.2.2 dX9_copy_94
set_option maxHeartbeats 4000000 in
set_option maxRecDepth 100000 in
theorem c_X9_copy (l : Launch) {D : va_G} {ad : Nat → Nat} {cy : Nat → ClassId} {sa va : Nat → Nat} {I : qI} {J : qJ} {S : Nat → Prop} (h0 : isM0 S)   (p0 : Int32) (p1 : Int32) (p2 : Int32) (p3 : Int32) (p4 : Int32) {r : Int32} {Ie : qI} {Je : qJ} (hf : f_X9_copy p0 p1 p2 p3 p4 I J = some (r, Ie, Je)) : Met l yX9_copy wsX9_copy r_X9_copy (va_Pc [.ref (ad 0), .int p0, .int p1, .int p2, .int p3, .int p4] (qPre D S ad cy sa va (eM ad cy) I J)) (va_Qi (S := Unit) (fun x _ => x = r) (fun _ t => qP D S ad (eM ad cy) Ie Je t.heap) (qA S ad)) 0 0 (qA S ad) := by
  refine Met.ofW (cc := cX9_copy) (maxL := 7) (ret := (some .int)) (by decide) rfl ?_
  intro p e s m args below meth c s₁ B hml hv
  obtain ⟨rfl, hP, hK, hE, hN⟩ := hv
  have C : qC p s m _ meth c cX9_copy 7 RX9 wsX9_copy (some .int) := ⟨⟨B.exec, B.bytes, hml, findClass_of_methodNamed B.named, atoms_spec (ws := wsX9_copy) B.pre⟩, B.returns, B.notSynchronized⟩
  have C0 := C
  obtain ⟨⟨hx, hb, hml, hown, hts⟩, hr, hlocks⟩ := C0
  have hS : va_S (qA S ad) s.heap s.heap [] := va_S.rf
  have hl := lv_entry ([.ref (ad 0), .int p0, .int p1, .int p2, .int p3, .int p4]) (n := 7) (Nat.le_of_ble_eq_true rfl)
  rw [lg_entry_eq]
  generalize (lg_sl ([.ref (ad 0), .int p0, .int p1, .int p2, .int p3, .int p4]) ++ List.replicate (7 - (lg_sl ([.ref (ad 0), .int p0, .int p1, .int p2, .int p3, .int p4])).length) Slot.unset).toArray = ls at hl ⊢
  have hl : lv_has ls 7 [(0, .ref (ad 0)), (1, .int p0), (2, .int p1), (3, .int p2), (4, .int p3), (5, .int p4)] := hl
  unfold f_X9_copy at hf
  refine lv_iload_n hx hb dX9_copy_0 rfl (lv_at hl 1 rfl) ?_
  refine lv_i2l hx hb dX9_copy_1 rfl ?_
  refine lv_lconst (v := 0) hx hb dX9_copy_2 (by decide) ?_
  refine lv_ldc2 (own := RX9) (v := 7) hx hb hown (hts (.constantLong RX9 103 (7)) (by decide +kernel)) dX9_copy_3 ?_
  obtain ⟨v1, h2, hf⟩ := bd_ok hf
  refine q_cSi (va_runS (As := [.long p0.toInt64, .long (0 : Int64), .long (7 : Int64)]) (rest := []) ⟨hx, hb, hml, hown, hts⟩ (c_X9_in l (D := D) (ad := ad) (cy := cy) (sa := sa) (va := va) (I := I) (J := J) (S := S) h0 p0.toInt64 (0 : Int64) (7 : Int64) h2) (va_cwS 3 hts gX9_copy_X9_in rfl rfl rfl (by decide +kernel) ⟨Nat.le_of_ble_eq_true rfl, Nat.le_of_ble_eq_true rfl⟩) ⟨qPre_blind _, fun U hU hW => ⟨rfl, qPre_of hP hK hE hN hS U hU hW⟩⟩ rfl rfl hl.1 rfl (lv_room (Nat.le_of_ble_eq_true rfl)) dX9_copy_6 ⟨Nat.le_of_ble_eq_true rfl, Nat.le_of_ble_eq_true rfl⟩) ?_
  refine lv_if_eq (tgt := 24) hx hb dX9_copy_9 (by decide) (fun cc => ?_) (fun cc => ?_)
  · have hf := (if_ok hf).1 cc
    exact w_X9_copy_24 C hK hE hN h0   I J _ _ _ hf (lv_sub hl [0] rfl) hP hS
  · have hf := (if_ok hf).2 cc
    refine lv_iload_n hx hb dX9_copy_12 rfl (lv_at hl 2 rfl) ?_
    refine lv_i2l hx hb dX9_copy_13 rfl ?_
    refine lv_lconst (v := 0) hx hb dX9_copy_14 (by decide) ?_
    refine lv_ldc2 (own := RX9) (v := 7) hx hb hown (hts (.constantLong RX9 103 (7)) (by decide +kernel)) dX9_copy_15 ?_
    obtain ⟨v3, h4, hf⟩ := bd_ok hf
    refine q_cSi (va_runS (As := [.long p1.toInt64, .long (0 : Int64), .long (7 : Int64)]) (rest := []) ⟨hx, hb, hml, hown, hts⟩ (c_X9_in l (D := D) (ad := ad) (cy := cy) (sa := sa) (va := va) (I := I) (J := J) (S := S) h0 p1.toInt64 (0 : Int64) (7 : Int64) h4) (va_cwS 3 hts gX9_copy_X9_in rfl rfl rfl (by decide +kernel) ⟨Nat.le_of_ble_eq_true rfl, Nat.le_of_ble_eq_true rfl⟩) ⟨qPre_blind _, fun U hU hW => ⟨rfl, qPre_of hP hK hE hN hS U hU hW⟩⟩ rfl rfl hl.1 rfl (lv_room (Nat.le_of_ble_eq_true rfl)) dX9_copy_18 ⟨Nat.le_of_ble_eq_true rfl, Nat.le_of_ble_eq_true rfl⟩) ?_
    refine lv_if_ne (tgt := 32) hx hb dX9_copy_21 (by decide) (fun cc => ?_) (fun cc => ?_)
    · have hf := (if_ok hf).2 cc
      refine lv_aload_n hx hb dX9_copy_32 rfl (lv_at hl 0 rfl) ?_
      refine q_get (C := RX9) (T := TX9) (N := 42) (ci := 9) (v := .ref (ad 1)) hx hb hts in_X9_copy_X9 hown hK hP (oX9 h0) rfl 0 (by decide) (hts (.fieldLink RX9 7 "RowsOnlyPrimesModel" "shelf" "[I") (by decide +kernel)) (fun _ h9 => h9) rfl dX9_copy_33 ?_
      refine lv_iload_n hx hb dX9_copy_36 rfl (lv_at hl 1 rfl) ?_
      obtain ⟨g5, hf⟩ := gd_ok hf
      refine q_iald hx hb hK hP (a0X9_1 h0) g5 dX9_copy_37 ?_
      refine lv_iconst (v := 2) hx hb dX9_copy_38 (by decide) ?_
      refine lv_icmp_eq (tgt := 87) hx hb dX9_copy_39 (by decide) (fun cc => ?_) (fun cc => ?_)
      · have hf := (if_ok hf).1 cc
        exact w_X9_copy_87 C hK hE hN h0   I J _ _ _ hf (lv_sub hl [0] rfl) hP hS
      · have hf := (if_ok hf).2 cc
        refine lv_aload_n hx hb dX9_copy_42 rfl (lv_at hl 0 rfl) ?_
        refine q_get (C := RX9) (T := TX9) (N := 42) (ci := 9) (v := .ref (ad 1)) hx hb hts in_X9_copy_X9 hown hK hP (oX9 h0) rfl 0 (by decide) (hts (.fieldLink RX9 7 "RowsOnlyPrimesModel" "shelf" "[I") (by decide +kernel)) (fun _ h9 => h9) rfl dX9_copy_43 ?_
        refine lv_iload_n hx hb dX9_copy_46 rfl (lv_at hl 2 rfl) ?_
        obtain ⟨g6, hf⟩ := gd_ok hf
        refine q_iald hx hb hK hP (a0X9_1 h0) g6 dX9_copy_47 ?_
        refine lv_iconst (v := 2) hx hb dX9_copy_48 (by decide) ?_
        refine lv_icmp_eq (tgt := 87) hx hb dX9_copy_49 (by decide) (fun cc => ?_) (fun cc => ?_)
        · have hf := (if_ok hf).1 cc
          exact w_X9_copy_87 C hK hE hN h0   I J _ _ _ hf (lv_sub hl [0] rfl) hP hS
        · have hf := (if_ok hf).2 cc
          refine lv_aload_n hx hb dX9_copy_52 rfl (lv_at hl 0 rfl) ?_
          refine q_get (C := RX9) (T := TX9) (N := 42) (ci := 9) (v := .ref (ad 1)) hx hb hts in_X9_copy_X9 hown hK hP (oX9 h0) rfl 0 (by decide) (hts (.fieldLink RX9 7 "RowsOnlyPrimesModel" "shelf" "[I") (by decide +kernel)) (fun _ h9 => h9) rfl dX9_copy_53 ?_
          refine lv_iload_n hx hb dX9_copy_56 rfl (lv_at hl 1 rfl) ?_
          obtain ⟨g7, hf⟩ := gd_ok hf
          refine q_iald hx hb hK hP (a0X9_1 h0) g7 dX9_copy_57 ?_
          refine lv_iconst (v := 1) hx hb dX9_copy_58 (by decide) ?_
          refine lv_icmp_ne (tgt := 95) hx hb dX9_copy_59 (by decide) (fun cc => ?_) (fun cc => ?_)
          · have hf := (if_ok hf).2 cc
            exact w_X9_copy_95 C hK hE hN h0   p0 p1 p2 p3 p4 I J _ _ _ hf (lv_sub hl [0, 1, 2, 3, 4, 5] rfl) hP hS
          · have hf := (if_ok hf).1 cc
            refine lv_aload_n hx hb dX9_copy_62 rfl (lv_at hl 0 rfl) ?_
            refine q_get (C := RX9) (T := TX9) (N := 42) (ci := 9) (v := .ref (ad 1)) hx hb hts in_X9_copy_X9 hown hK hP (oX9 h0) rfl 0 (by decide) (hts (.fieldLink RX9 7 "RowsOnlyPrimesModel" "shelf" "[I") (by decide +kernel)) (fun _ h9 => h9) rfl dX9_copy_63 ?_
            refine lv_iload_n hx hb dX9_copy_66 rfl (lv_at hl 2 rfl) ?_
            obtain ⟨g8, hf⟩ := gd_ok hf
            refine q_iald hx hb hK hP (a0X9_1 h0) g8 dX9_copy_67 ?_
            refine lv_iconst (v := 1) hx hb dX9_copy_68 (by decide) ?_
            refine lv_icmp_ne (tgt := 95) hx hb dX9_copy_69 (by decide) (fun cc => ?_) (fun cc => ?_)
            · have hf := (if_ok hf).2 cc
              exact w_X9_copy_95 C hK hE hN h0   p0 p1 p2 p3 p4 I J _ _ _ hf (lv_sub hl [0, 1, 2, 3, 4, 5] rfl) hP hS
            · have hf := (if_ok hf).1 cc
              refine lv_aload_n hx hb dX9_copy_72 rfl (lv_at hl 0 rfl) ?_
              refine q_get (C := RX9) (T := TX9) (N := 42) (ci := 9) (v := .ref (ad 2)) hx hb hts in_X9_copy_X9 hown hK hP (oX9 h0) rfl 1 (by decide) (hts (.fieldLink RX9 13 "RowsOnlyPrimesModel" "rowSort" "[I") (by decide +kernel)) (fun _ h9 => h9) rfl dX9_copy_73 ?_
              refine lv_iload_n hx hb dX9_copy_76 rfl (lv_at hl 1 rfl) ?_
              obtain ⟨g9, hf⟩ := gd_ok hf
              refine q_iald hx hb hK hP (a0X9_2 h0) g9 dX9_copy_77 ?_
              refine lv_aload_n hx hb dX9_copy_78 rfl (lv_at hl 0 rfl) ?_
              refine q_get (C := RX9) (T := TX9) (N := 42) (ci := 9) (v := .ref (ad 2)) hx hb hts in_X9_copy_X9 hown hK hP (oX9 h0) rfl 1 (by decide) (hts (.fieldLink RX9 13 "RowsOnlyPrimesModel" "rowSort" "[I") (by decide +kernel)) (fun _ h9 => h9) rfl dX9_copy_79 ?_
              refine lv_iload_n hx hb dX9_copy_82 rfl (lv_at hl 2 rfl) ?_
              obtain ⟨g10, hf⟩ := gd_ok hf
              refine q_iald hx hb hK hP (a0X9_2 h0) g10 dX9_copy_83 ?_
              refine lv_icmp_eq (tgt := 95) hx hb dX9_copy_84 (by decide) (fun cc => ?_) (fun cc => ?_)
              · have hf := (if_ok hf).1 cc
                exact w_X9_copy_95 C hK hE hN h0   p0 p1 p2 p3 p4 I J _ _ _ hf (lv_sub hl [0, 1, 2, 3, 4, 5] rfl) hP hS
              · have hf := (if_ok hf).2 cc
                exact w_X9_copy_87 C hK hE hN h0   I J _ _ _ hf (lv_sub hl [0] rfl) hP hS
    · have hf := (if_ok hf).1 cc
      exact w_X9_copy_24 C hK hE hN h0   I J _ _ _ hf (lv_sub hl [0] rfl) hP hS
abbrev r_X9_element : Room := { frames := 1, cells := 0, slots := 0, locals := 25 }
theorem in_X9_element_X9 : ∀ w ∈ u_ws RX9 TX9 42, w ∈ wsX9_element := by decide +kernel
set_option maxHeartbeats 4000000 in
set_option maxRecDepth 100000 in
theorem c_X9_element (l : Launch) {D : va_G} {ad : Nat → Nat} {cy : Nat → ClassId} {sa va : Nat → Nat} {I : qI} {J : qJ} {S : Nat → Prop} (h0 : isM0 S)   (p0 : Int32) (p1 : Int32) {r : Int64} (hf : f_X9_element p0 p1 I J = some r) : Met l yX9_element wsX9_element r_X9_element (va_Pc [.ref (ad 0), .int p0, .int p1] (qPre D S ad cy sa va (eM ad cy) I J)) (vp_Sl (fun x => x = r)) 0 0 (fun _ => False) := by
  refine Met.ofW (cc := cX9_element) (maxL := 3) (ret := (some .long)) (by decide) rfl ?_
  intro p e s m args below meth c s₁ B hml hv
  obtain ⟨rfl, hP, hK, hE, hN⟩ := hv
  have C : qC p s m _ meth c cX9_element 3 RX9 wsX9_element (some .long) := ⟨⟨B.exec, B.bytes, hml, findClass_of_methodNamed B.named, atoms_spec (ws := wsX9_element) B.pre⟩, B.returns, B.notSynchronized⟩
  have C0 := C
  obtain ⟨⟨hx, hb, hml, hown, hts⟩, hr, hlocks⟩ := C0
  have hl := lv_entry ([.ref (ad 0), .int p0, .int p1]) (n := 3) (Nat.le_of_ble_eq_true rfl)
  rw [lg_entry_eq]
  generalize (lg_sl ([.ref (ad 0), .int p0, .int p1]) ++ List.replicate (3 - (lg_sl ([.ref (ad 0), .int p0, .int p1])).length) Slot.unset).toArray = ls at hl ⊢
  have hl : lv_has ls 3 [(0, .ref (ad 0)), (1, .int p0), (2, .int p1)] := hl
  unfold f_X9_element at hf
  refine lv_iload_n hx hb dX9_element_0 rfl (lv_at hl 1 rfl) ?_
  refine lv_i2l hx hb dX9_element_1 rfl ?_
  refine lv_lconst (v := 0) hx hb dX9_element_2 (by decide) ?_
  refine lv_ldc2 (own := RX9) (v := 7) hx hb hown (hts (.constantLong RX9 103 (7)) (by decide +kernel)) dX9_element_3 ?_
  obtain ⟨v1, h2, hf⟩ := bd_ok hf
  refine q_cSi (va_runS (As := [.long p0.toInt64, .long (0 : Int64), .long (7 : Int64)]) (rest := []) ⟨hx, hb, hml, hown, hts⟩ (c_X9_in l (D := D) (ad := ad) (cy := cy) (sa := sa) (va := va) (I := I) (J := J) (S := S) h0 p0.toInt64 (0 : Int64) (7 : Int64) h2) (va_cwS 3 hts gX9_element_X9_in rfl rfl rfl (by decide +kernel) ⟨Nat.le_of_ble_eq_true rfl, Nat.le_of_ble_eq_true rfl⟩) ⟨qPre_blind _, fun U hU hW => ⟨rfl, qPre_of hP hK hE hN va_S.rf U hU hW⟩⟩ rfl rfl hl.1 rfl (lv_room (Nat.le_of_ble_eq_true rfl)) dX9_element_6 ⟨Nat.le_of_ble_eq_true rfl, Nat.le_of_ble_eq_true rfl⟩) ?_
  refine lv_if_eq (tgt := 51) hx hb dX9_element_9 (by decide) (fun cc => ?_) (fun cc => ?_)
  · have hf := (if_ok hf).1 cc
    refine lv_lconst (v := 0) hx hb dX9_element_51 (by decide) ?_
    exact W.lret hx hb hr (fun t ht _ => ⟨_, rfl, Option.some.inj hf, ht⟩) (fun _ h => by cases h) dX9_element_52
  · have hf := (if_ok hf).2 cc
    refine lv_aload_n hx hb dX9_element_12 rfl (lv_at hl 0 rfl) ?_
    refine q_get (C := RX9) (T := TX9) (N := 42) (ci := 9) (v := .ref (ad 1)) hx hb hts in_X9_element_X9 hown hK hP (oX9 h0) rfl 0 (by decide) (hts (.fieldLink RX9 7 "RowsOnlyPrimesModel" "shelf" "[I") (by decide +kernel)) (fun _ h9 => h9) rfl dX9_element_13 ?_
    refine lv_iload_n hx hb dX9_element_16 rfl (lv_at hl 1 rfl) ?_
    obtain ⟨g3, hf⟩ := gd_ok hf
    refine q_iald hx hb hK hP (a0X9_1 h0) g3 dX9_element_17 ?_
    refine lv_iconst (v := 1) hx hb dX9_element_18 (by decide) ?_
    refine lv_icmp_ne (tgt := 51) hx hb dX9_element_19 (by decide) (fun cc => ?_) (fun cc => ?_)
    · have hf := (if_ok hf).2 cc
      refine lv_lconst (v := 0) hx hb dX9_element_51 (by decide) ?_
      exact W.lret hx hb hr (fun t ht _ => ⟨_, rfl, Option.some.inj hf, ht⟩) (fun _ h => by cases h) dX9_element_52
    · have hf := (if_ok hf).1 cc
      refine lv_iload_n hx hb dX9_element_22 rfl (lv_at hl 2 rfl) ?_
      refine lv_i2l hx hb dX9_element_23 rfl ?_
      refine lv_lconst (v := 0) hx hb dX9_element_24 (by decide) ?_
      refine lv_aload_n hx hb dX9_element_25 rfl (lv_at hl 0 rfl) ?_
      refine q_get (C := RX9) (T := TX9) (N := 42) (ci := 9) (v := .ref (ad 3)) hx hb hts in_X9_element_X9 hown hK hP (oX9 h0) rfl 2 (by decide) (hts (.fieldLink RX9 16 "RowsOnlyPrimesModel" "rowSize" "[I") (by decide +kernel)) (fun _ h9 => h9) rfl dX9_element_26 ?_
      refine lv_iload_n hx hb dX9_element_29 rfl (lv_at hl 1 rfl) ?_
      obtain ⟨g4, hf⟩ := gd_ok hf
      refine q_iald hx hb hK hP (a0X9_3 h0) g4 dX9_element_30 ?_
      refine lv_iconst (v := 1) hx hb dX9_element_31 (by decide) ?_
      refine lv_isub hx hb dX9_element_32 ?_
      refine lv_i2l hx hb dX9_element_33 rfl ?_
      obtain ⟨v5, h6, hf⟩ := bd_ok hf
      refine q_cSi (va_runS (As := [.long p1.toInt64, .long (0 : Int64), .long (((I 3 p0.toNatClampNeg) - (1 : Int32)).toInt64)]) (rest := []) ⟨hx, hb, hml, hown, hts⟩ (c_X9_in l (D := D) (ad := ad) (cy := cy) (sa := sa) (va := va) (I := I) (J := J) (S := S) h0 p1.toInt64 (0 : Int64) (((I 3 p0.toNatClampNeg) - (1 : Int32)).toInt64) h6) (va_cwS 3 hts gX9_element_X9_in rfl rfl rfl (by decide +kernel) ⟨Nat.le_of_ble_eq_true rfl, Nat.le_of_ble_eq_true rfl⟩) ⟨qPre_blind _, fun U hU hW => ⟨rfl, qPre_of hP hK hE hN va_S.rf U hU hW⟩⟩ rfl rfl hl.1 rfl (lv_room (Nat.le_of_ble_eq_true rfl)) dX9_element_34 ⟨Nat.le_of_ble_eq_true rfl, Nat.le_of_ble_eq_true rfl⟩) ?_
      refine lv_if_eq (tgt := 51) hx hb dX9_element_37 (by decide) (fun cc => ?_) (fun cc => ?_)
      · have hf := (if_ok hf).1 cc
        refine lv_lconst (v := 0) hx hb dX9_element_51 (by decide) ?_
        exact W.lret hx hb hr (fun t ht _ => ⟨_, rfl, Option.some.inj hf, ht⟩) (fun _ h => by cases h) dX9_element_52
      · have hf := (if_ok hf).2 cc
        refine lv_aload_n hx hb dX9_element_40 rfl (lv_at hl 0 rfl) ?_
        refine q_get (C := RX9) (T := TX9) (N := 42) (ci := 9) (v := .ref (ad 4)) hx hb hts in_X9_element_X9 hown hK hP (oX9 h0) rfl 3 (by decide) (hts (.fieldLink RX9 21 "RowsOnlyPrimesModel" "rows" "[[J") (by decide +kernel)) (fun _ h9 => h9) rfl dX9_element_41 ?_
        refine lv_iload_n hx hb dX9_element_44 rfl (lv_at hl 1 rfl) ?_
        obtain ⟨g7, hf⟩ := gd_ok hf
        refine q_aald (t := 5) hx hb hK hP (a0X9_4 h0) rfl rfl g7 dX9_element_45 ?_
        refine lv_iload_n hx hb dX9_element_46 rfl (lv_at hl 2 rfl) ?_
        obtain ⟨g8, hf⟩ := gd_ok hf
        refine q_lald hx hb hK hP (aX9_4k h0 (j := p0.toNatClampNeg) (qin_lt g7)) g8 dX9_element_47 ?_
        refine lv_goto (tgt := 52) hx hb dX9_element_48 (by decide) ?_
        exact W.lret hx hb hr (fun t ht _ => ⟨_, rfl, Option.some.inj hf, ht⟩) (fun _ h => by cases h) dX9_element_52
abbrev r_X9_holds : Room := { frames := 1, cells := 0, slots := 0, locals := 25 }
theorem in_X9_holds_X9 : ∀ w ∈ u_ws RX9 TX9 42, w ∈ wsX9_holds := by decide +kernel
set_option maxHeartbeats 4000000 in
set_option maxRecDepth 100000 in
theorem c_X9_holds (l : Launch) {D : va_G} {ad : Nat → Nat} {cy : Nat → ClassId} {sa va : Nat → Nat} {I : qI} {J : qJ} {S : Nat → Prop} (h0 : isM0 S)   (p0 : Int32) {r : Int32} (hf : f_X9_holds p0 I = some r) : Met l yX9_holds wsX9_holds r_X9_holds (va_Pc [.ref (ad 0), .int p0] (qPre D S ad cy sa va (eM ad cy) I J)) (vp_Si (fun x => x = r)) 0 0 (fun _ => False) := by
  refine Met.ofW (cc := cX9_holds) (maxL := 2) (ret := (some .int)) (by decide) rfl ?_
  intro p e s m args below meth c s₁ B hml hv
  obtain ⟨rfl, hP, hK, hE, hN⟩ := hv
  have C : qC p s m _ meth c cX9_holds 2 RX9 wsX9_holds (some .int) := ⟨⟨B.exec, B.bytes, hml, findClass_of_methodNamed B.named, atoms_spec (ws := wsX9_holds) B.pre⟩, B.returns, B.notSynchronized⟩
  have C0 := C
  obtain ⟨⟨hx, hb, hml, hown, hts⟩, hr, hlocks⟩ := C0
  have hl := lv_entry ([.ref (ad 0), .int p0]) (n := 2) (Nat.le_of_ble_eq_true rfl)
  rw [lg_entry_eq]
  generalize (lg_sl ([.ref (ad 0), .int p0]) ++ List.replicate (2 - (lg_sl ([.ref (ad 0), .int p0])).length) Slot.unset).toArray = ls at hl ⊢
  have hl : lv_has ls 2 [(0, .ref (ad 0)), (1, .int p0)] := hl
  unfold f_X9_holds at hf
  refine lv_iload_n hx hb dX9_holds_0 rfl (lv_at hl 1 rfl) ?_
  refine lv_i2l hx hb dX9_holds_1 rfl ?_
  refine lv_lconst (v := 0) hx hb dX9_holds_2 (by decide) ?_
  refine lv_ldc2 (own := RX9) (v := 7) hx hb hown (hts (.constantLong RX9 103 (7)) (by decide +kernel)) dX9_holds_3 ?_
  obtain ⟨v1, h2, hf⟩ := bd_ok hf
  refine q_cSi (va_runS (As := [.long p0.toInt64, .long (0 : Int64), .long (7 : Int64)]) (rest := []) ⟨hx, hb, hml, hown, hts⟩ (c_X9_in l (D := D) (ad := ad) (cy := cy) (sa := sa) (va := va) (I := I) (J := J) (S := S) h0 p0.toInt64 (0 : Int64) (7 : Int64) h2) (va_cwS 3 hts gX9_holds_X9_in rfl rfl rfl (by decide +kernel) ⟨Nat.le_of_ble_eq_true rfl, Nat.le_of_ble_eq_true rfl⟩) ⟨qPre_blind _, fun U hU hW => ⟨rfl, qPre_of hP hK hE hN va_S.rf U hU hW⟩⟩ rfl rfl hl.1 rfl (lv_room (Nat.le_of_ble_eq_true rfl)) dX9_holds_6 ⟨Nat.le_of_ble_eq_true rfl, Nat.le_of_ble_eq_true rfl⟩) ?_
  refine lv_if_eq (tgt := 21) hx hb dX9_holds_9 (by decide) (fun cc => ?_) (fun cc => ?_)
  · have hf := (if_ok hf).1 cc
    refine lv_iconst (v := -1) hx hb dX9_holds_21 (by decide) ?_
    exact W.iret hx hb hr (fun t ht _ => ⟨_, rfl, Option.some.inj hf, ht⟩) (fun _ h => by cases h) dX9_holds_22
  · have hf := (if_ok hf).2 cc
    refine lv_aload_n hx hb dX9_holds_12 rfl (lv_at hl 0 rfl) ?_
    refine q_get (C := RX9) (T := TX9) (N := 42) (ci := 9) (v := .ref (ad 1)) hx hb hts in_X9_holds_X9 hown hK hP (oX9 h0) rfl 0 (by decide) (hts (.fieldLink RX9 7 "RowsOnlyPrimesModel" "shelf" "[I") (by decide +kernel)) (fun _ h9 => h9) rfl dX9_holds_13 ?_
    refine lv_iload_n hx hb dX9_holds_16 rfl (lv_at hl 1 rfl) ?_
    obtain ⟨g3, hf⟩ := gd_ok hf
    refine q_iald hx hb hK hP (a0X9_1 h0) g3 dX9_holds_17 ?_
    refine lv_if_ne (tgt := 23) hx hb dX9_holds_18 (by decide) (fun cc => ?_) (fun cc => ?_)
    · have hf := (if_ok hf).2 cc
      refine lv_aload_n hx hb dX9_holds_23 rfl (lv_at hl 0 rfl) ?_
      refine q_get (C := RX9) (T := TX9) (N := 42) (ci := 9) (v := .ref (ad 1)) hx hb hts in_X9_holds_X9 hown hK hP (oX9 h0) rfl 0 (by decide) (hts (.fieldLink RX9 7 "RowsOnlyPrimesModel" "shelf" "[I") (by decide +kernel)) (fun _ h9 => h9) rfl dX9_holds_24 ?_
      refine lv_iload_n hx hb dX9_holds_27 rfl (lv_at hl 1 rfl) ?_
      obtain ⟨g4, hf⟩ := gd_ok hf
      refine q_iald hx hb hK hP (a0X9_1 h0) g4 dX9_holds_28 ?_
      refine lv_iconst (v := 1) hx hb dX9_holds_29 (by decide) ?_
      refine lv_icmp_ne (tgt := 42) hx hb dX9_holds_30 (by decide) (fun cc => ?_) (fun cc => ?_)
      · have hf := (if_ok hf).2 cc
        refine lv_bipush (v := 10) hx hb dX9_holds_42 (by decide) ?_
        refine lv_aload_n hx hb dX9_holds_44 rfl (lv_at hl 0 rfl) ?_
        refine q_get (C := RX9) (T := TX9) (N := 42) (ci := 9) (v := .ref (ad 14)) hx hb hts in_X9_holds_X9 hown hK hP (oX9 h0) rfl 5 (by decide) (hts (.fieldLink RX9 28 "RowsOnlyPrimesModel" "shown" "[I") (by decide +kernel)) (fun _ h9 => h9) rfl dX9_holds_45 ?_
        refine lv_iload_n hx hb dX9_holds_48 rfl (lv_at hl 1 rfl) ?_
        obtain ⟨g5, hf⟩ := gd_ok hf
        refine q_iald hx hb hK hP (a0X9_14 h0) g5 dX9_holds_49 ?_
        refine lv_iadd hx hb dX9_holds_50 ?_
        exact W.iret hx hb hr (fun t ht _ => ⟨_, rfl, Option.some.inj hf, ht⟩) (fun _ h => by cases h) dX9_holds_51
      · have hf := (if_ok hf).1 cc
        refine lv_aload_n hx hb dX9_holds_33 rfl (lv_at hl 0 rfl) ?_
        refine q_get (C := RX9) (T := TX9) (N := 42) (ci := 9) (v := .ref (ad 2)) hx hb hts in_X9_holds_X9 hown hK hP (oX9 h0) rfl 1 (by decide) (hts (.fieldLink RX9 13 "RowsOnlyPrimesModel" "rowSort" "[I") (by decide +kernel)) (fun _ h9 => h9) rfl dX9_holds_34 ?_
        refine lv_iload_n hx hb dX9_holds_37 rfl (lv_at hl 1 rfl) ?_
        obtain ⟨g6, hf⟩ := gd_ok hf
        refine q_iald hx hb hK hP (a0X9_2 h0) g6 dX9_holds_38 ?_
        refine lv_goto (tgt := 51) hx hb dX9_holds_39 (by decide) ?_
        exact W.iret hx hb hr (fun t ht _ => ⟨_, rfl, Option.some.inj hf, ht⟩) (fun _ h => by cases h) dX9_holds_51
    · have hf := (if_ok hf).1 cc
      refine lv_iconst (v := -1) hx hb dX9_holds_21 (by decide) ?_
      exact W.iret hx hb hr (fun t ht _ => ⟨_, rfl, Option.some.inj hf, ht⟩) (fun _ h => by cases h) dX9_holds_22
abbrev r_X9_show : Room := { frames := 2, cells := 0, slots := 0, locals := 46 }
theorem in_X9_show_X9 : ∀ w ∈ u_ws RX9 TX9 42, w ∈ wsX9_show := by decide +kernel
set_option maxHeartbeats 4000000 in
set_option maxRecDepth 100000 in
theorem w_X9_show_25 {S : Nat → Prop} (C : qC p s m args meth c cX9_show 3 RX9 wsX9_show (some .int)) (hK : qK D cy sa s) (hE : qEnv sa va (qA S ad) s s.heap) (hN : qN S ad) (h0 : isM0 S)   {J : qJ} {r : Int32} {Ie : qI} : ∀   (I : qI) (ls : Array Slot) (H : Heap) (locs : List Loc), f_X9_show_25 I = some (r, Ie) → lv_has ls 3 [(0, .ref (ad 0))] → qP D S ad (eM ad cy) I J H → va_S (qA S ad) s.heap H locs → W p l e (headSpec wsX9_show r_X9_show).room s m args below meth c H locs 0 0 (MQ below (va_Qi (S := Unit) (fun x _ => x = r) (fun _ t => qP D S ad (eM ad cy) Ie J t.heap) (qA S ad)) args s 0 0 (qA S ad)) (F0 m 25 ls []) := by
  have C0 := C
  obtain ⟨⟨hx, hb, hml, hown, hts⟩, hr, hlocks⟩ := C0
  intro I ls H locs hf hl hP hS
  unfold f_X9_show_25 at hf
  refine lv_aload_n hx hb dX9_show_25 rfl (lv_at hl 0 rfl) ?_
  refine lv_sipush (v := -1002) hx hb dX9_show_26 (by decide) ?_
  obtain ⟨v1, I2, h3, hf⟩ := bd2_ok hf
  refine q_cEi (va_runV (As := [.int (-1002 : Int32)]) (rest := []) ⟨hx, hb, hml, hown, hts⟩ (c_X9_refuse l (D := D) (ad := ad) (cy := cy) (sa := sa) (va := va) (I := I) (J := J) (S := S) h0 (-1002 : Int32) h3) (cwV 1 hts gX9_show_X9_refuse rfl rfl rfl (by decide +kernel) ⟨Nat.le_of_ble_eq_true rfl, Nat.le_of_ble_eq_true rfl⟩) ⟨qPre_blind _, q_recv hK hP (oX9 h0) rfl, fun U hU hW => ⟨rfl, qPre_of hP hK hE hN hS U hU hW⟩⟩ rfl rfl hl.1 rfl (lv_room (Nat.le_of_ble_eq_true rfl)) dX9_show_29 ⟨Nat.le_of_ble_eq_true rfl, Nat.le_of_ble_eq_true rfl⟩) hS (fun H locs hP hS => ?_)
  have e9 := Option.some.inj hf
  have eI9 : I2 = Ie := (congrArg Prod.snd e9)
  exact W.iret hx hb hr (fun t ht _ => ⟨⟨_, (), rfl, (congrArg Prod.fst e9), by show qP D _ ad _ _ _ t.heap; rw [ht, ← eI9]; exact hP⟩, hS.F ht⟩) hS.2.2 dX9_show_32
set_option maxHeartbeats 4000000 in
set_option maxRecDepth 100000 in
theorem w_X9_show_48 {S : Nat → Prop} (C : qC p s m args meth c cX9_show 3 RX9 wsX9_show (some .int)) (hK : qK D cy sa s) (hE : qEnv sa va (qA S ad) s s.heap) (hN : qN S ad) (h0 : isM0 S)   {J : qJ} {r : Int32} {Ie : qI} : ∀ (x1 : Int32) (x2 : Int32) (xs0 : Int32) (xs1 : Int32)  (I : qI) (ls : Array Slot) (H : Heap) (locs : List Loc), f_X9_show_48 x1 x2 xs0 xs1 I = some (r, Ie) → lv_has ls 3 [(0, .ref (ad 0)), (1, .int x1), (2, .int x2)] → qP D S ad (eM ad cy) I J H → va_S (qA S ad) s.heap H locs → W p l e (headSpec wsX9_show r_X9_show).room s m args below meth c H locs 0 0 (MQ below (va_Qi (S := Unit) (fun x _ => x = r) (fun _ t => qP D S ad (eM ad cy) Ie J t.heap) (qA S ad)) args s 0 0 (qA S ad)) (F0 m 48 ls [.int xs0, .int xs1, .ref (ad 1)]) := by
  have C0 := C
  obtain ⟨⟨hx, hb, hml, hown, hts⟩, hr, hlocks⟩ := C0
  intro x1 x2 xs0 xs1 I ls H locs hf hl hP hS
  unfold f_X9_show_48 at hf
  obtain ⟨g1, hf⟩ := gd_ok hf
  obtain ⟨I2, eI2, hf⟩ := lt_ok hf
  refine q_iast hx hb hK hP hN hS (a0X9_1 h0) g1 dX9_show_48 (fun H locs hP hS => ?_)
  have hP : qP D S ad (eM ad cy) I2 J H := by rw [eI2]; exact hP
  refine lv_aload_n hx hb dX9_show_49 rfl (lv_at hl 0 rfl) ?_
  refine q_get (C := RX9) (T := TX9) (N := 42) (ci := 9) (v := .ref (ad 14)) hx hb hts in_X9_show_X9 hown hK hP (oX9 h0) rfl 5 (by decide) (hts (.fieldLink RX9 28 "RowsOnlyPrimesModel" "shown" "[I") (by decide +kernel)) (fun _ h9 => h9) rfl dX9_show_50 ?_
  refine lv_iload_n hx hb dX9_show_53 rfl (lv_at hl 1 rfl) ?_
  refine lv_iload_n hx hb dX9_show_54 rfl (lv_at hl 2 rfl) ?_
  obtain ⟨g3, hf⟩ := gd_ok hf
  obtain ⟨I4, eI4, hf⟩ := lt_ok hf
  refine q_iast hx hb hK hP hN hS (a0X9_14 h0) g3 dX9_show_55 (fun H locs hP hS => ?_)
  have hP : qP D S ad (eM ad cy) I4 J H := by rw [eI4]; exact hP
  refine lv_iconst (v := 1) hx hb dX9_show_56 (by decide) ?_
  have e9 := Option.some.inj hf
  have eI9 : I4 = Ie := (congrArg Prod.snd e9)
  exact W.iret hx hb hr (fun t ht _ => ⟨⟨_, (), rfl, (congrArg Prod.fst e9), by show qP D _ ad _ _ _ t.heap; rw [ht, ← eI9]; exact hP⟩, hS.F ht⟩) hS.2.2 dX9_show_57
set_option maxHeartbeats 4000000 in
set_option maxRecDepth 100000 in
theorem w_X9_show_33 {S : Nat → Prop} (C : qC p s m args meth c cX9_show 3 RX9 wsX9_show (some .int)) (hK : qK D cy sa s) (hE : qEnv sa va (qA S ad) s s.heap) (hN : qN S ad) (h0 : isM0 S)   {J : qJ} {r : Int32} {Ie : qI} : ∀ (x1 : Int32) (x2 : Int32)  (I : qI) (ls : Array Slot) (H : Heap) (locs : List Loc), f_X9_show_33 x1 x2 I = some (r, Ie) → lv_has ls 3 [(0, .ref (ad 0)), (1, .int x1), (2, .int x2)] → qP D S ad (eM ad cy) I J H → va_S (qA S ad) s.heap H locs → W p l e (headSpec wsX9_show r_X9_show).room s m args below meth c H locs 0 0 (MQ below (va_Qi (S := Unit) (fun x _ => x = r) (fun _ t => qP D S ad (eM ad cy) Ie J t.heap) (qA S ad)) args s 0 0 (qA S ad)) (F0 m 33 ls []) := by
  have C0 := C
  obtain ⟨⟨hx, hb, hml, hown, hts⟩, hr, hlocks⟩ := C0
  intro x1 x2 I ls H locs hf hl hP hS
  unfold f_X9_show_33 at hf
  refine lv_aload_n hx hb dX9_show_33 rfl (lv_at hl 0 rfl) ?_
  refine q_get (C := RX9) (T := TX9) (N := 42) (ci := 9) (v := .ref (ad 1)) hx hb hts in_X9_show_X9 hown hK hP (oX9 h0) rfl 0 (by decide) (hts (.fieldLink RX9 7 "RowsOnlyPrimesModel" "shelf" "[I") (by decide +kernel)) (fun _ h9 => h9) rfl dX9_show_34 ?_
  refine lv_iload_n hx hb dX9_show_37 rfl (lv_at hl 1 rfl) ?_
  refine lv_iload_n hx hb dX9_show_38 rfl (lv_at hl 2 rfl) ?_
  refine lv_iconst (v := -1) hx hb dX9_show_39 (by decide) ?_
  refine lv_icmp_ne (tgt := 47) hx hb dX9_show_40 (by decide) (fun cc => ?_) (fun cc => ?_)
  · have hf := (if_ok hf).2 cc
    refine lv_iconst (v := 2) hx hb dX9_show_47 (by decide) ?_
    exact w_X9_show_48 C hK hE hN h0   x1 x2 (2 : Int32) x1 I _ _ _ hf (lv_sub hl [0, 1, 2] rfl) hP hS
  · have hf := (if_ok hf).1 cc
    refine lv_iconst (v := 0) hx hb dX9_show_43 (by decide) ?_
    refine lv_goto (tgt := 48) hx hb dX9_show_44 (by decide) ?_
    exact w_X9_show_48 C hK hE hN h0   x1 x2 (0 : Int32) x1 I _ _ _ hf (lv_sub hl [0, 1, 2] rfl) hP hS
set_option maxHeartbeats 4000000 in
set_option maxRecDepth 100000 in
theorem c_X9_show (l : Launch) {D : va_G} {ad : Nat → Nat} {cy : Nat → ClassId} {sa va : Nat → Nat} {I : qI} {J : qJ} {S : Nat → Prop} (h0 : isM0 S)   (p0 : Int32) (p1 : Int32) {r : Int32} {Ie : qI} (hf : f_X9_show p0 p1 I = some (r, Ie)) : Met l yX9_show wsX9_show r_X9_show (va_Pc [.ref (ad 0), .int p0, .int p1] (qPre D S ad cy sa va (eM ad cy) I J)) (va_Qi (S := Unit) (fun x _ => x = r) (fun _ t => qP D S ad (eM ad cy) Ie J t.heap) (qA S ad)) 0 0 (qA S ad) := by
  refine Met.ofW (cc := cX9_show) (maxL := 3) (ret := (some .int)) (by decide) rfl ?_
  intro p e s m args below meth c s₁ B hml hv
  obtain ⟨rfl, hP, hK, hE, hN⟩ := hv
  have C : qC p s m _ meth c cX9_show 3 RX9 wsX9_show (some .int) := ⟨⟨B.exec, B.bytes, hml, findClass_of_methodNamed B.named, atoms_spec (ws := wsX9_show) B.pre⟩, B.returns, B.notSynchronized⟩
  have C0 := C
  obtain ⟨⟨hx, hb, hml, hown, hts⟩, hr, hlocks⟩ := C0
  have hS : va_S (qA S ad) s.heap s.heap [] := va_S.rf
  have hl := lv_entry ([.ref (ad 0), .int p0, .int p1]) (n := 3) (Nat.le_of_ble_eq_true rfl)
  rw [lg_entry_eq]
  generalize (lg_sl ([.ref (ad 0), .int p0, .int p1]) ++ List.replicate (3 - (lg_sl ([.ref (ad 0), .int p0, .int p1])).length) Slot.unset).toArray = ls at hl ⊢
  have hl : lv_has ls 3 [(0, .ref (ad 0)), (1, .int p0), (2, .int p1)] := hl
  unfold f_X9_show at hf
  refine lv_iload_n hx hb dX9_show_0 rfl (lv_at hl 1 rfl) ?_
  refine lv_i2l hx hb dX9_show_1 rfl ?_
  refine lv_lconst (v := 0) hx hb dX9_show_2 (by decide) ?_
  refine lv_ldc2 (own := RX9) (v := 7) hx hb hown (hts (.constantLong RX9 103 (7)) (by decide +kernel)) dX9_show_3 ?_
  obtain ⟨v1, h2, hf⟩ := bd_ok hf
  refine q_cSi (va_runS (As := [.long p0.toInt64, .long (0 : Int64), .long (7 : Int64)]) (rest := []) ⟨hx, hb, hml, hown, hts⟩ (c_X9_in l (D := D) (ad := ad) (cy := cy) (sa := sa) (va := va) (I := I) (J := J) (S := S) h0 p0.toInt64 (0 : Int64) (7 : Int64) h2) (va_cwS 3 hts gX9_show_X9_in rfl rfl rfl (by decide +kernel) ⟨Nat.le_of_ble_eq_true rfl, Nat.le_of_ble_eq_true rfl⟩) ⟨qPre_blind _, fun U hU hW => ⟨rfl, qPre_of hP hK hE hN hS U hU hW⟩⟩ rfl rfl hl.1 rfl (lv_room (Nat.le_of_ble_eq_true rfl)) dX9_show_6 ⟨Nat.le_of_ble_eq_true rfl, Nat.le_of_ble_eq_true rfl⟩) ?_
  refine lv_if_eq (tgt := 25) hx hb dX9_show_9 (by decide) (fun cc => ?_) (fun cc => ?_)
  · have hf := (if_ok hf).1 cc
    exact w_X9_show_25 C hK hE hN h0   I _ _ _ hf (lv_sub hl [0] rfl) hP hS
  · have hf := (if_ok hf).2 cc
    refine lv_iload_n hx hb dX9_show_12 rfl (lv_at hl 2 rfl) ?_
    refine lv_iconst (v := -1) hx hb dX9_show_13 (by decide) ?_
    refine lv_icmp_eq (tgt := 33) hx hb dX9_show_14 (by decide) (fun cc => ?_) (fun cc => ?_)
    · have hf := (if_ok hf).1 cc
      exact w_X9_show_33 C hK hE hN h0   p0 p1 I _ _ _ hf (lv_sub hl [0, 1, 2] rfl) hP hS
    · have hf := (if_ok hf).2 cc
      refine lv_aload_n hx hb dX9_show_17 rfl (lv_at hl 0 rfl) ?_
      refine lv_iload_n hx hb dX9_show_18 rfl (lv_at hl 2 rfl) ?_
      obtain ⟨v3, h4, hf⟩ := bd_ok hf
      refine q_cSi (va_runV (As := [.int p1]) (rest := []) ⟨hx, hb, hml, hown, hts⟩ (c_X9_isParty l (D := D) (ad := ad) (cy := cy) (sa := sa) (va := va) (I := I) (J := J) (S := S) h0 p1 h4) (cwV 1 hts gX9_show_X9_isParty rfl rfl rfl (by decide +kernel) ⟨Nat.le_of_ble_eq_true rfl, Nat.le_of_ble_eq_true rfl⟩) ⟨qPre_blind _, q_recv hK hP (oX9 h0) rfl, fun U hU hW => ⟨rfl, qPre_of hP hK hE hN hS U hU hW⟩⟩ rfl rfl hl.1 rfl (lv_room (Nat.le_of_ble_eq_true rfl)) dX9_show_19 ⟨Nat.le_of_ble_eq_true rfl, Nat.le_of_ble_eq_true rfl⟩) ?_
      refine lv_if_ne (tgt := 33) hx hb dX9_show_22 (by decide) (fun cc => ?_) (fun cc => ?_)
      · have hf := (if_ok hf).2 cc
        exact w_X9_show_33 C hK hE hN h0   p0 p1 I _ _ _ hf (lv_sub hl [0, 1, 2] rfl) hP hS
      · have hf := (if_ok hf).1 cc
        exact w_X9_show_25 C hK hE hN h0   I _ _ _ hf (lv_sub hl [0] rfl) hP hS
abbrev r_X9_isUnder : Room := { frames := 0, cells := 0, slots := 0, locals := 0 }
set_option maxHeartbeats 4000000 in
set_option maxRecDepth 100000 in
theorem w_X9_isUnder_19 {S : Nat → Prop} (C : qC p s m args meth c cX9_isUnder 2 RX9 wsX9_isUnder (some .boolean)) (hK : qK D cy sa s) (hE : qEnv sa va (qA S ad) s s.heap) (hN : qN S ad) (h0 : isM0 S)   {I : qI} {J : qJ} (hP : qP D S ad (eM ad cy) I J s.heap) {r : Int32} : ∀ (x0 : Int32) (x1 : Int32)  (ls : Array Slot), f_X9_isUnder_19 x0 x1 = some r → lv_has ls 2 [(0, .int x0), (1, .int x1)] → W p l e (headSpec wsX9_isUnder r_X9_isUnder).room s m args below meth c s.heap [] 0 0 (MQ below (vp_Si (fun x => x = r)) args s 0 0 (fun _ => False)) (F0 m 19 ls []) := by
  have C0 := C
  obtain ⟨⟨hx, hb, hml, hown, hts⟩, hr, hlocks⟩ := C0
  intro x0 x1 ls hf hl
  unfold f_X9_isUnder_19 at hf
  refine lv_iload_n hx hb dX9_isUnder_19 rfl (lv_at hl 1 rfl) ?_
  refine lv_iconst (v := 2) hx hb dX9_isUnder_20 (by decide) ?_
  refine lv_icmp_ne (tgt := 33) hx hb dX9_isUnder_21 (by decide) (fun cc => ?_) (fun cc => ?_)
  · have hf := (if_ok hf).2 cc
    refine lv_iconst (v := 0) hx hb dX9_isUnder_33 (by decide) ?_
    exact W.zret (ty := .boolean) hx hb hr rfl (fun t ht _ => ⟨_, rfl, Option.some.inj hf, ht⟩) (fun _ h => by cases h) dX9_isUnder_34
  · have hf := (if_ok hf).1 cc
    refine lv_iload_n hx hb dX9_isUnder_24 rfl (lv_at hl 0 rfl) ?_
    refine lv_iconst (v := 4) hx hb dX9_isUnder_25 (by decide) ?_
    refine lv_icmp_ne (tgt := 33) hx hb dX9_isUnder_26 (by decide) (fun cc => ?_) (fun cc => ?_)
    · have hf := (if_ok hf).2 cc
      refine lv_iconst (v := 0) hx hb dX9_isUnder_33 (by decide) ?_
      exact W.zret (ty := .boolean) hx hb hr rfl (fun t ht _ => ⟨_, rfl, Option.some.inj hf, ht⟩) (fun _ h => by cases h) dX9_isUnder_34
    · have hf := (if_ok hf).1 cc
      refine lv_iconst (v := 1) hx hb dX9_isUnder_29 (by decide) ?_
      refine lv_goto (tgt := 34) hx hb dX9_isUnder_30 (by decide) ?_
      exact W.zret (ty := .boolean) hx hb hr rfl (fun t ht _ => ⟨_, rfl, Option.some.inj hf, ht⟩) (fun _ h => by cases h) dX9_isUnder_34
set_option maxHeartbeats 4000000 in
set_option maxRecDepth 100000 in
theorem c_X9_isUnder (l : Launch) {D : va_G} {ad : Nat → Nat} {cy : Nat → ClassId} {sa va : Nat → Nat} {I : qI} {J : qJ} {S : Nat → Prop} (h0 : isM0 S)   (p0 : Int32) (p1 : Int32) {r : Int32} (hf : f_X9_isUnder p0 p1 = some r) : Met l yX9_isUnder wsX9_isUnder r_X9_isUnder (va_Pc [.int p0, .int p1] (qPre D S ad cy sa va (eM ad cy) I J)) (vp_Si (fun x => x = r)) 0 0 (fun _ => False) := by
  refine Met.ofW (cc := cX9_isUnder) (maxL := 2) (ret := (some .boolean)) (by decide) rfl ?_
  intro p e s m args below meth c s₁ B hml hv
  obtain ⟨rfl, hP, hK, hE, hN⟩ := hv
  have C : qC p s m _ meth c cX9_isUnder 2 RX9 wsX9_isUnder (some .boolean) := ⟨⟨B.exec, B.bytes, hml, findClass_of_methodNamed B.named, atoms_spec (ws := wsX9_isUnder) B.pre⟩, B.returns, B.notSynchronized⟩
  have C0 := C
  obtain ⟨⟨hx, hb, hml, hown, hts⟩, hr, hlocks⟩ := C0
  have hl := lv_entry ([.int p0, .int p1]) (n := 2) (Nat.le_of_ble_eq_true rfl)
  rw [lg_entry_eq]
  generalize (lg_sl ([.int p0, .int p1]) ++ List.replicate (2 - (lg_sl ([.int p0, .int p1])).length) Slot.unset).toArray = ls at hl ⊢
  have hl : lv_has ls 2 [(0, .int p0), (1, .int p1)] := hl
  unfold f_X9_isUnder at hf
  refine lv_iload_n hx hb dX9_isUnder_0 rfl (lv_at hl 1 rfl) ?_
  refine lv_if_eq (tgt := 29) hx hb dX9_isUnder_1 (by decide) (fun cc => ?_) (fun cc => ?_)
  · have hf := (if_ok hf).1 cc
    refine lv_iconst (v := 1) hx hb dX9_isUnder_29 (by decide) ?_
    refine lv_goto (tgt := 34) hx hb dX9_isUnder_30 (by decide) ?_
    exact W.zret (ty := .boolean) hx hb hr rfl (fun t ht _ => ⟨_, rfl, Option.some.inj hf, ht⟩) (fun _ h => by cases h) dX9_isUnder_34
  · have hf := (if_ok hf).2 cc
    refine lv_iload_n hx hb dX9_isUnder_4 rfl (lv_at hl 0 rfl) ?_
    refine lv_iload_n hx hb dX9_isUnder_5 rfl (lv_at hl 1 rfl) ?_
    refine lv_icmp_eq (tgt := 29) hx hb dX9_isUnder_6 (by decide) (fun cc => ?_) (fun cc => ?_)
    · have hf := (if_ok hf).1 cc
      refine lv_iconst (v := 1) hx hb dX9_isUnder_29 (by decide) ?_
      refine lv_goto (tgt := 34) hx hb dX9_isUnder_30 (by decide) ?_
      exact W.zret (ty := .boolean) hx hb hr rfl (fun t ht _ => ⟨_, rfl, Option.some.inj hf, ht⟩) (fun _ h => by cases h) dX9_isUnder_34
    · have hf := (if_ok hf).2 cc
      refine lv_iload_n hx hb dX9_isUnder_9 rfl (lv_at hl 1 rfl) ?_
      refine lv_iconst (v := 1) hx hb dX9_isUnder_10 (by decide) ?_
      refine lv_icmp_ne (tgt := 19) hx hb dX9_isUnder_11 (by decide) (fun cc => ?_) (fun cc => ?_)
      · have hf := (if_ok hf).2 cc
        exact w_X9_isUnder_19 C hK hE hN h0 hP   p0 p1 _ hf (lv_sub hl [0, 1] rfl)
      · have hf := (if_ok hf).1 cc
        refine lv_iload_n hx hb dX9_isUnder_14 rfl (lv_at hl 0 rfl) ?_
        refine lv_iconst (v := 3) hx hb dX9_isUnder_15 (by decide) ?_
        refine lv_icmp_eq (tgt := 29) hx hb dX9_isUnder_16 (by decide) (fun cc => ?_) (fun cc => ?_)
        · have hf := (if_ok hf).1 cc
          refine lv_iconst (v := 1) hx hb dX9_isUnder_29 (by decide) ?_
          refine lv_goto (tgt := 34) hx hb dX9_isUnder_30 (by decide) ?_
          exact W.zret (ty := .boolean) hx hb hr rfl (fun t ht _ => ⟨_, rfl, Option.some.inj hf, ht⟩) (fun _ h => by cases h) dX9_isUnder_34
        · have hf := (if_ok hf).2 cc
          exact w_X9_isUnder_19 C hK hE hN h0 hP   p0 p1 _ hf (lv_sub hl [0, 1] rfl)
abbrev r_X9_headsOf : Room := { frames := 0, cells := 0, slots := 0, locals := 0 }
theorem in_X9_headsOf_X9 : ∀ w ∈ u_ws RX9 TX9 42, w ∈ wsX9_headsOf := by decide +kernel
set_option maxHeartbeats 4000000 in
set_option maxRecDepth 100000 in
theorem w_X9_headsOf_53 {S : Nat → Prop} (C : qC p s m args meth c cX9_headsOf 4 RX9 wsX9_headsOf (some .int)) (hK : qK D cy sa s) (hE : qEnv sa va (qA S ad) s s.heap) (hN : qN S ad) (h0 : isM0 S)   {I : qI} {J : qJ} (hP : qP D S ad (eM ad cy) I J s.heap) {r : Int32} : ∀ (x1 : Int32) (x2 : Int32) (xs0 : Int32)  (ls : Array Slot), f_X9_headsOf_53 I x1 x2 xs0 = some r → lv_has ls 4 [(0, .ref (ad 0)), (1, .int x1), (2, .int x2)] → W p l e (headSpec wsX9_headsOf r_X9_headsOf).room s m args below meth c s.heap [] 0 0 (MQ below (vp_Si (fun x => x = r)) args s 0 0 (fun _ => False)) (F0 m 53 ls [.int xs0]) := by
  have C0 := C
  obtain ⟨⟨hx, hb, hml, hown, hts⟩, hr, hlocks⟩ := C0
  intro x1 x2 xs0 ls hf hl
  unfold f_X9_headsOf_53 at hf
  refine lv_istore_n (lv' := [(3, .int xs0), (0, .ref (ad 0)), (1, .int x1), (2, .int x2)]) hx hb dX9_headsOf_53 rfl hl (by decide) rfl (fun ls hl => ?_)
  refine lv_aload_n hx hb dX9_headsOf_54 rfl (lv_at hl 1 rfl) ?_
  refine q_get (C := RX9) (T := TX9) (N := 42) (ci := 9) (v := .ref (ad 17)) hx hb hts in_X9_headsOf_X9 hown hK hP (oX9 h0) rfl 19 (by decide) (hts (.fieldLink RX9 50 "RowsOnlyPrimesModel" "kind" "[I") (by decide +kernel)) (fun _ h9 => h9) rfl dX9_headsOf_55 ?_
  refine lv_iload_n hx hb dX9_headsOf_58 rfl (lv_at hl 2 rfl) ?_
  obtain ⟨g1, hf⟩ := gd_ok hf
  refine q_iald hx hb hK hP (a0X9_17 h0) g1 dX9_headsOf_59 ?_
  by_cases c2 : (I 17 x1.toNatClampNeg) = (1 : Int32)
  · have hf := (if_ok hf).1 c2
    refine lv_tableIn (off := 36) (tgt := 96) hx hb dX9_headsOf_60 (by rw [c2]; decide) (by rw [c2]; decide) (by rw [c2]; rfl) (by decide) ?_
    refine lv_iload_n hx hb dX9_headsOf_96 rfl (lv_at hl 3 rfl) ?_
    exact W.iret hx hb hr (fun t ht _ => ⟨_, rfl, Option.some.inj hf, ht⟩) (fun _ h => by cases h) dX9_headsOf_97
  have hf := (if_ok hf).2 c2
  by_cases c3 : (I 17 x1.toNatClampNeg) = (2 : Int32)
  · have hf := (if_ok hf).1 c3
    refine lv_tableIn (off := 44) (tgt := 104) hx hb dX9_headsOf_60 (by rw [c3]; decide) (by rw [c3]; decide) (by rw [c3]; rfl) (by decide) ?_
    refine lv_iload_n hx hb dX9_headsOf_104 rfl (lv_at hl 0 rfl) ?_
    exact W.iret hx hb hr (fun t ht _ => ⟨_, rfl, Option.some.inj hf, ht⟩) (fun _ h => by cases h) dX9_headsOf_105
  have hf := (if_ok hf).2 c3
  by_cases c4 : (I 17 x1.toNatClampNeg) = (3 : Int32)
  · have hf := (if_ok hf).1 c4
    refine lv_tableIn (off := 38) (tgt := 98) hx hb dX9_headsOf_60 (by rw [c4]; decide) (by rw [c4]; decide) (by rw [c4]; rfl) (by decide) ?_
    refine lv_iload_n hx hb dX9_headsOf_98 rfl (lv_at hl 3 rfl) ?_
    refine lv_iconst (v := 1) hx hb dX9_headsOf_99 (by decide) ?_
    refine lv_iadd hx hb dX9_headsOf_100 ?_
    refine lv_iconst (v := 2) hx hb dX9_headsOf_101 (by decide) ?_
    refine lv_idiv hx hb dX9_headsOf_102 (by decide) ?_
    exact W.iret hx hb hr (fun t ht _ => ⟨_, rfl, Option.some.inj hf, ht⟩) (fun _ h => by cases h) dX9_headsOf_103
  have hf := (if_ok hf).2 c4
  by_cases c5 : (I 17 x1.toNatClampNeg) = (4 : Int32)
  · have hf := (if_ok hf).1 c5
    refine lv_tableIn (off := 46) (tgt := 106) hx hb dX9_headsOf_60 (by rw [c5]; decide) (by rw [c5]; decide) (by rw [c5]; rfl) (by decide) ?_
    refine lv_iload_n hx hb dX9_headsOf_106 rfl (lv_at hl 0 rfl) ?_
    refine lv_iconst (v := 1) hx hb dX9_headsOf_107 (by decide) ?_
    refine lv_iadd hx hb dX9_headsOf_108 ?_
    exact W.iret hx hb hr (fun t ht _ => ⟨_, rfl, Option.some.inj hf, ht⟩) (fun _ h => by cases h) dX9_headsOf_109
  have hf := (if_ok hf).2 c5
  by_cases c6 : (I 17 x1.toNatClampNeg) = (5 : Int32)
  · have hf := (if_ok hf).1 c6
    refine lv_tableIn (off := 50) (tgt := 110) hx hb dX9_headsOf_60 (by rw [c6]; decide) (by rw [c6]; decide) (by rw [c6]; rfl) (by decide) ?_
    refine lv_aload_n hx hb dX9_headsOf_110 rfl (lv_at hl 1 rfl) ?_
    refine q_get (C := RX9) (T := TX9) (N := 42) (ci := 9) (v := .ref (ad 19)) hx hb hts in_X9_headsOf_X9 hown hK hP (oX9 h0) rfl 21 (by decide) (hts (.fieldLink RX9 56 "RowsOnlyPrimesModel" "size" "[I") (by decide +kernel)) (fun _ h9 => h9) rfl dX9_headsOf_111 ?_
    refine lv_iload_n hx hb dX9_headsOf_114 rfl (lv_at hl 2 rfl) ?_
    obtain ⟨g7, hf⟩ := gd_ok hf
    refine q_iald hx hb hK hP (a0X9_19 h0) g7 dX9_headsOf_115 ?_
    refine lv_aload_n hx hb dX9_headsOf_116 rfl (lv_at hl 1 rfl) ?_
    refine q_get (C := RX9) (T := TX9) (N := 42) (ci := 9) (v := .ref (ad 18)) hx hb hts in_X9_headsOf_X9 hown hK hP (oX9 h0) rfl 20 (by decide) (hts (.fieldLink RX9 53 "RowsOnlyPrimesModel" "by" "[I") (by decide +kernel)) (fun _ h9 => h9) rfl dX9_headsOf_117 ?_
    refine lv_iload_n hx hb dX9_headsOf_120 rfl (lv_at hl 2 rfl) ?_
    obtain ⟨g8, hf⟩ := gd_ok hf
    refine q_iald hx hb hK hP (a0X9_18 h0) g8 dX9_headsOf_121 ?_
    refine lv_iadd hx hb dX9_headsOf_122 ?_
    exact W.iret hx hb hr (fun t ht _ => ⟨_, rfl, Option.some.inj hf, ht⟩) (fun _ h => by cases h) dX9_headsOf_123
  have hf := (if_ok hf).2 c6
  refine lv_tableOut (tgt := 124) hx hb dX9_headsOf_60 (by have c2 := q_nt c2 (show ((1 : Int32)).toInt = 1 by decide); have c3 := q_nt c3 (show ((2 : Int32)).toInt = 2 by decide); have c4 := q_nt c4 (show ((3 : Int32)).toInt = 3 by decide); have c5 := q_nt c5 (show ((4 : Int32)).toInt = 4 by decide); have c6 := q_nt c6 (show ((5 : Int32)).toInt = 5 by decide); omega) (by decide) ?_
  refine lv_aload_n hx hb dX9_headsOf_124 rfl (lv_at hl 1 rfl) ?_
  refine q_get (C := RX9) (T := TX9) (N := 42) (ci := 9) (v := .ref (ad 19)) hx hb hts in_X9_headsOf_X9 hown hK hP (oX9 h0) rfl 21 (by decide) (hts (.fieldLink RX9 56 "RowsOnlyPrimesModel" "size" "[I") (by decide +kernel)) (fun _ h9 => h9) rfl dX9_headsOf_125 ?_
  refine lv_iload_n hx hb dX9_headsOf_128 rfl (lv_at hl 2 rfl) ?_
  obtain ⟨g9, hf⟩ := gd_ok hf
  refine q_iald hx hb hK hP (a0X9_19 h0) g9 dX9_headsOf_129 ?_
  exact W.iret hx hb hr (fun t ht _ => ⟨_, rfl, Option.some.inj hf, ht⟩) (fun _ h => by cases h) dX9_headsOf_130
set_option maxHeartbeats 4000000 in
set_option maxRecDepth 100000 in
theorem w_X9_headsOf_26 {S : Nat → Prop} (C : qC p s m args meth c cX9_headsOf 4 RX9 wsX9_headsOf (some .int)) (hK : qK D cy sa s) (hE : qEnv sa va (qA S ad) s s.heap) (hN : qN S ad) (h0 : isM0 S)   {I : qI} {J : qJ} (hP : qP D S ad (eM ad cy) I J s.heap) {r : Int32} : ∀ (x1 : Int32) (xs0 : Int32) (xs1 : Int32)  (ls : Array Slot), f_X9_headsOf_26 I x1 xs0 xs1 = some r → lv_has ls 4 [(0, .ref (ad 0)), (1, .int x1)] → W p l e (headSpec wsX9_headsOf r_X9_headsOf).room s m args below meth c s.heap [] 0 0 (MQ below (vp_Si (fun x => x = r)) args s 0 0 (fun _ => False)) (F0 m 26 ls [.int xs0, .int xs1]) := by
  have C0 := C
  obtain ⟨⟨hx, hb, hml, hown, hts⟩, hr, hlocks⟩ := C0
  intro x1 xs0 xs1 ls hf hl
  unfold f_X9_headsOf_26 at hf
  refine lv_iadd hx hb dX9_headsOf_26 ?_
  refine lv_istore_n (lv' := [(2, .int (xs1 + xs0)), (0, .ref (ad 0)), (1, .int x1)]) hx hb dX9_headsOf_27 rfl hl (by decide) rfl (fun ls hl => ?_)
  refine lv_aload_n hx hb dX9_headsOf_28 rfl (lv_at hl 1 rfl) ?_
  refine q_get (C := RX9) (T := TX9) (N := 42) (ci := 9) (v := .int (I 0 11)) hx hb hts in_X9_headsOf_X9 hown hK hP (oX9 h0) rfl 11 (by decide) (hts (.fieldLink RX9 41 "RowsOnlyPrimesModel" "rule" "I") (by decide +kernel)) (fun _ h9 => h9) rfl dX9_headsOf_29 ?_
  refine lv_iconst (v := 2) hx hb dX9_headsOf_32 (by decide) ?_
  refine lv_iand hx hb dX9_headsOf_33 ?_
  refine lv_iconst (v := 2) hx hb dX9_headsOf_34 (by decide) ?_
  refine lv_icmp_ne (tgt := 47) hx hb dX9_headsOf_35 (by decide) (fun cc => ?_) (fun cc => ?_)
  · have hf := (if_ok hf).2 cc
    refine lv_aload_n hx hb dX9_headsOf_47 rfl (lv_at hl 1 rfl) ?_
    refine q_get (C := RX9) (T := TX9) (N := 42) (ci := 9) (v := .ref (ad 18)) hx hb hts in_X9_headsOf_X9 hown hK hP (oX9 h0) rfl 20 (by decide) (hts (.fieldLink RX9 53 "RowsOnlyPrimesModel" "by" "[I") (by decide +kernel)) (fun _ h9 => h9) rfl dX9_headsOf_48 ?_
    refine lv_iload_n hx hb dX9_headsOf_51 rfl (lv_at hl 2 rfl) ?_
    obtain ⟨g1, hf⟩ := gd_ok hf
    refine q_iald hx hb hK hP (a0X9_18 h0) g1 dX9_headsOf_52 ?_
    exact w_X9_headsOf_53 C hK hE hN h0 hP   x1 (xs1 + xs0) (I 18 x1.toNatClampNeg) _ hf (lv_sub hl [1, 2, 0] rfl)
  · have hf := (if_ok hf).1 cc
    refine lv_aload_n hx hb dX9_headsOf_38 rfl (lv_at hl 1 rfl) ?_
    refine q_get (C := RX9) (T := TX9) (N := 42) (ci := 9) (v := .ref (ad 19)) hx hb hts in_X9_headsOf_X9 hown hK hP (oX9 h0) rfl 21 (by decide) (hts (.fieldLink RX9 56 "RowsOnlyPrimesModel" "size" "[I") (by decide +kernel)) (fun _ h9 => h9) rfl dX9_headsOf_39 ?_
    refine lv_iload_n hx hb dX9_headsOf_42 rfl (lv_at hl 2 rfl) ?_
    obtain ⟨g2, hf⟩ := gd_ok hf
    refine q_iald hx hb hK hP (a0X9_19 h0) g2 dX9_headsOf_43 ?_
    refine lv_goto (tgt := 53) hx hb dX9_headsOf_44 (by decide) ?_
    exact w_X9_headsOf_53 C hK hE hN h0 hP   x1 (xs1 + xs0) (I 19 x1.toNatClampNeg) _ hf (lv_sub hl [1, 2, 0] rfl)
set_option maxHeartbeats 4000000 in
set_option maxRecDepth 100000 in
theorem c_X9_headsOf (l : Launch) {D : va_G} {ad : Nat → Nat} {cy : Nat → ClassId} {sa va : Nat → Nat} {I : qI} {J : qJ} {S : Nat → Prop} (h0 : isM0 S)   (p0 : Int32) {r : Int32} (hf : f_X9_headsOf p0 I = some r) : Met l yX9_headsOf wsX9_headsOf r_X9_headsOf (va_Pc [.ref (ad 0), .int p0] (qPre D S ad cy sa va (eM ad cy) I J)) (vp_Si (fun x => x = r)) 0 0 (fun _ => False) := by
  refine Met.ofW (cc := cX9_headsOf) (maxL := 4) (ret := (some .int)) (by decide) rfl ?_
  intro p e s m args below meth c s₁ B hml hv
  obtain ⟨rfl, hP, hK, hE, hN⟩ := hv
  have C : qC p s m _ meth c cX9_headsOf 4 RX9 wsX9_headsOf (some .int) := ⟨⟨B.exec, B.bytes, hml, findClass_of_methodNamed B.named, atoms_spec (ws := wsX9_headsOf) B.pre⟩, B.returns, B.notSynchronized⟩
  have C0 := C
  obtain ⟨⟨hx, hb, hml, hown, hts⟩, hr, hlocks⟩ := C0
  have hl := lv_entry ([.ref (ad 0), .int p0]) (n := 4) (Nat.le_of_ble_eq_true rfl)
  rw [lg_entry_eq]
  generalize (lg_sl ([.ref (ad 0), .int p0]) ++ List.replicate (4 - (lg_sl ([.ref (ad 0), .int p0])).length) Slot.unset).toArray = ls at hl ⊢
  have hl : lv_has ls 4 [(0, .ref (ad 0)), (1, .int p0)] := hl
  unfold f_X9_headsOf at hf
  refine lv_aload_n hx hb dX9_headsOf_0 rfl (lv_at hl 0 rfl) ?_
  refine q_get (C := RX9) (T := TX9) (N := 42) (ci := 9) (v := .ref (ad 19)) hx hb hts in_X9_headsOf_X9 hown hK hP (oX9 h0) rfl 21 (by decide) (hts (.fieldLink RX9 56 "RowsOnlyPrimesModel" "size" "[I") (by decide +kernel)) (fun _ h9 => h9) rfl dX9_headsOf_1 ?_
  refine lv_iload_n hx hb dX9_headsOf_4 rfl (lv_at hl 1 rfl) ?_
  obtain ⟨g1, hf⟩ := gd_ok hf
  refine q_iald hx hb hK hP (a0X9_19 h0) g1 dX9_headsOf_5 ?_
  refine lv_aload_n hx hb dX9_headsOf_6 rfl (lv_at hl 0 rfl) ?_
  refine q_get (C := RX9) (T := TX9) (N := 42) (ci := 9) (v := .int (I 0 11)) hx hb hts in_X9_headsOf_X9 hown hK hP (oX9 h0) rfl 11 (by decide) (hts (.fieldLink RX9 41 "RowsOnlyPrimesModel" "rule" "I") (by decide +kernel)) (fun _ h9 => h9) rfl dX9_headsOf_7 ?_
  refine lv_iconst (v := 1) hx hb dX9_headsOf_10 (by decide) ?_
  refine lv_iand hx hb dX9_headsOf_11 ?_
  refine lv_iconst (v := 1) hx hb dX9_headsOf_12 (by decide) ?_
  refine lv_icmp_ne (tgt := 25) hx hb dX9_headsOf_13 (by decide) (fun cc => ?_) (fun cc => ?_)
  · have hf := (if_ok hf).2 cc
    refine lv_iconst (v := 0) hx hb dX9_headsOf_25 (by decide) ?_
    exact w_X9_headsOf_26 C hK hE hN h0 hP   p0 (0 : Int32) (I 19 p0.toNatClampNeg) _ hf (lv_sub hl [0, 1] rfl)
  · have hf := (if_ok hf).1 cc
    refine lv_aload_n hx hb dX9_headsOf_16 rfl (lv_at hl 0 rfl) ?_
    refine q_get (C := RX9) (T := TX9) (N := 42) (ci := 9) (v := .ref (ad 18)) hx hb hts in_X9_headsOf_X9 hown hK hP (oX9 h0) rfl 20 (by decide) (hts (.fieldLink RX9 53 "RowsOnlyPrimesModel" "by" "[I") (by decide +kernel)) (fun _ h9 => h9) rfl dX9_headsOf_17 ?_
    refine lv_iload_n hx hb dX9_headsOf_20 rfl (lv_at hl 1 rfl) ?_
    obtain ⟨g2, hf⟩ := gd_ok hf
    refine q_iald hx hb hK hP (a0X9_18 h0) g2 dX9_headsOf_21 ?_
    refine lv_goto (tgt := 26) hx hb dX9_headsOf_22 (by decide) ?_
    exact w_X9_headsOf_26 C hK hE hN h0 hP   p0 (I 18 p0.toNatClampNeg) (I 19 p0.toNatClampNeg) _ hf (lv_sub hl [0, 1] rfl)
abbrev r_X9_says : Room := { frames := 1, cells := 0, slots := 0, locals := 25 }
theorem in_X9_says_X9 : ∀ w ∈ u_ws RX9 TX9 42, w ∈ wsX9_says := by decide +kernel
set_option maxHeartbeats 4000000 in
set_option maxRecDepth 100000 in
theorem w_X9_says_24 {S : Nat → Prop} (C : qC p s m args meth c cX9_says 3 RX9 wsX9_says (some .int)) (hK : qK D cy sa s) (hE : qEnv sa va (qA S ad) s s.heap) (hN : qN S ad) (h0 : isM0 S)   {J : qJ} {r : Int32} {Ie : qI} : ∀   (I : qI) (ls : Array Slot) (H : Heap) (locs : List Loc), f_X9_says_24 I = some (r, Ie) → lv_has ls 3 [(0, .ref (ad 0))] → qP D S ad (eM ad cy) I J H → va_S (qA S ad) s.heap H locs → W p l e (headSpec wsX9_says r_X9_says).room s m args below meth c H locs 0 0 (MQ below (va_Qi (S := Unit) (fun x _ => x = r) (fun _ t => qP D S ad (eM ad cy) Ie J t.heap) (qA S ad)) args s 0 0 (qA S ad)) (F0 m 24 ls []) := by
  have C0 := C
  obtain ⟨⟨hx, hb, hml, hown, hts⟩, hr, hlocks⟩ := C0
  intro I ls H locs hf hl hP hS
  unfold f_X9_says_24 at hf
  refine lv_aload_n hx hb dX9_says_24 rfl (lv_at hl 0 rfl) ?_
  refine lv_sipush (v := -1002) hx hb dX9_says_25 (by decide) ?_
  obtain ⟨v1, I2, h3, hf⟩ := bd2_ok hf
  refine q_cEi (va_runV (As := [.int (-1002 : Int32)]) (rest := []) ⟨hx, hb, hml, hown, hts⟩ (c_X9_refuse l (D := D) (ad := ad) (cy := cy) (sa := sa) (va := va) (I := I) (J := J) (S := S) h0 (-1002 : Int32) h3) (cwV 1 hts gX9_says_X9_refuse rfl rfl rfl (by decide +kernel) ⟨Nat.le_of_ble_eq_true rfl, Nat.le_of_ble_eq_true rfl⟩) ⟨qPre_blind _, q_recv hK hP (oX9 h0) rfl, fun U hU hW => ⟨rfl, qPre_of hP hK hE hN hS U hU hW⟩⟩ rfl rfl hl.1 rfl (lv_room (Nat.le_of_ble_eq_true rfl)) dX9_says_28 ⟨Nat.le_of_ble_eq_true rfl, Nat.le_of_ble_eq_true rfl⟩) hS (fun H locs hP hS => ?_)
  have e9 := Option.some.inj hf
  have eI9 : I2 = Ie := (congrArg Prod.snd e9)
  exact W.iret hx hb hr (fun t ht _ => ⟨⟨_, (), rfl, (congrArg Prod.fst e9), by show qP D _ ad _ _ _ t.heap; rw [ht, ← eI9]; exact hP⟩, hS.F ht⟩) hS.2.2 dX9_says_31
set_option maxHeartbeats 4000000 in
set_option maxRecDepth 100000 in
theorem w_X9_says_78 {S : Nat → Prop} (C : qC p s m args meth c cX9_says 3 RX9 wsX9_says (some .int)) (hK : qK D cy sa s) (hE : qEnv sa va (qA S ad) s s.heap) (hN : qN S ad) (h0 : isM0 S)   {J : qJ} {r : Int32} {Ie : qI} : ∀ (x1 : Int32) (x2 : Int32)  (I : qI) (ls : Array Slot) (H : Heap) (locs : List Loc), f_X9_says_78 x1 x2 I = some (r, Ie) → lv_has ls 3 [(0, .ref (ad 0)), (1, .int x1), (2, .int x2)] → qP D S ad (eM ad cy) I J H → va_S (qA S ad) s.heap H locs → W p l e (headSpec wsX9_says r_X9_says).room s m args below meth c H locs 0 0 (MQ below (va_Qi (S := Unit) (fun x _ => x = r) (fun _ t => qP D S ad (eM ad cy) Ie J t.heap) (qA S ad)) args s 0 0 (qA S ad)) (F0 m 78 ls []) := by
  have C0 := C
  obtain ⟨⟨hx, hb, hml, hown, hts⟩, hr, hlocks⟩ := C0
  intro x1 x2 I ls H locs hf hl hP hS
  unfold f_X9_says_78 at hf
  refine lv_aload_n hx hb dX9_says_78 rfl (lv_at hl 0 rfl) ?_
  refine q_get (C := RX9) (T := TX9) (N := 42) (ci := 9) (v := .ref (ad 1)) hx hb hts in_X9_says_X9 hown hK hP (oX9 h0) rfl 0 (by decide) (hts (.fieldLink RX9 7 "RowsOnlyPrimesModel" "shelf" "[I") (by decide +kernel)) (fun _ h9 => h9) rfl dX9_says_79 ?_
  refine lv_iload_n hx hb dX9_says_82 rfl (lv_at hl 1 rfl) ?_
  obtain ⟨g1, hf⟩ := gd_ok hf
  refine q_iald hx hb hK hP (a0X9_1 h0) g1 dX9_says_83 ?_
  refine lv_if_ne (tgt := 95) hx hb dX9_says_84 (by decide) (fun cc => ?_) (fun cc => ?_)
  · have hf := (if_ok hf).2 cc
    refine lv_iload_n hx hb dX9_says_95 rfl (lv_at hl 2 rfl) ?_
    refine lv_if_ne (tgt := 113) hx hb dX9_says_96 (by decide) (fun cc => ?_) (fun cc => ?_)
    · have hf := (if_ok hf).2 cc
      refine lv_aload_n hx hb dX9_says_113 rfl (lv_at hl 0 rfl) ?_
      refine lv_aload_n hx hb dX9_says_114 rfl (lv_at hl 0 rfl) ?_
      refine q_get (C := RX9) (T := TX9) (N := 42) (ci := 9) (v := .ref (ad 14)) hx hb hts in_X9_says_X9 hown hK hP (oX9 h0) rfl 5 (by decide) (hts (.fieldLink RX9 28 "RowsOnlyPrimesModel" "shown" "[I") (by decide +kernel)) (fun _ h9 => h9) rfl dX9_says_115 ?_
      refine lv_iload_n hx hb dX9_says_118 rfl (lv_at hl 1 rfl) ?_
      obtain ⟨g2, hf⟩ := gd_ok hf
      refine q_iald hx hb hK hP (a0X9_14 h0) g2 dX9_says_119 ?_
      obtain ⟨v3, h4, hf⟩ := bd_ok hf
      refine q_cSi (va_runV (As := [.int (I 14 x1.toNatClampNeg)]) (rest := []) ⟨hx, hb, hml, hown, hts⟩ (c_X9_headsOf l (D := D) (ad := ad) (cy := cy) (sa := sa) (va := va) (I := I) (J := J) (S := S) h0 (I 14 x1.toNatClampNeg) h4) (cwV 1 hts gX9_says_X9_headsOf rfl rfl rfl (by decide +kernel) ⟨Nat.le_of_ble_eq_true rfl, Nat.le_of_ble_eq_true rfl⟩) ⟨qPre_blind _, q_recv hK hP (oX9 h0) rfl, fun U hU hW => ⟨rfl, qPre_of hP hK hE hN hS U hU hW⟩⟩ rfl rfl hl.1 rfl (lv_room (Nat.le_of_ble_eq_true rfl)) dX9_says_120 ⟨Nat.le_of_ble_eq_true rfl, Nat.le_of_ble_eq_true rfl⟩) ?_
      have e9 := Option.some.inj hf
      have eI9 : I = Ie := (congrArg Prod.snd e9)
      exact W.iret hx hb hr (fun t ht _ => ⟨⟨_, (), rfl, (congrArg Prod.fst e9), by show qP D _ ad _ _ _ t.heap; rw [ht, ← eI9]; exact hP⟩, hS.F ht⟩) hS.2.2 dX9_says_123
    · have hf := (if_ok hf).1 cc
      refine lv_aload_n hx hb dX9_says_99 rfl (lv_at hl 0 rfl) ?_
      refine q_get (C := RX9) (T := TX9) (N := 42) (ci := 9) (v := .ref (ad 20)) hx hb hts in_X9_says_X9 hown hK hP (oX9 h0) rfl 22 (by decide) (hts (.fieldLink RX9 59 "RowsOnlyPrimesModel" "purse" "[I") (by decide +kernel)) (fun _ h9 => h9) rfl dX9_says_100 ?_
      refine lv_aload_n hx hb dX9_says_103 rfl (lv_at hl 0 rfl) ?_
      refine q_get (C := RX9) (T := TX9) (N := 42) (ci := 9) (v := .ref (ad 14)) hx hb hts in_X9_says_X9 hown hK hP (oX9 h0) rfl 5 (by decide) (hts (.fieldLink RX9 28 "RowsOnlyPrimesModel" "shown" "[I") (by decide +kernel)) (fun _ h9 => h9) rfl dX9_says_104 ?_
      refine lv_iload_n hx hb dX9_says_107 rfl (lv_at hl 1 rfl) ?_
      obtain ⟨g5, hf⟩ := gd_ok hf
      refine q_iald hx hb hK hP (a0X9_14 h0) g5 dX9_says_108 ?_
      obtain ⟨g6, hf⟩ := gd_ok hf
      refine q_iald hx hb hK hP (a0X9_20 h0) g6 dX9_says_109 ?_
      refine lv_goto (tgt := 123) hx hb dX9_says_110 (by decide) ?_
      have e9 := Option.some.inj hf
      have eI9 : I = Ie := (congrArg Prod.snd e9)
      exact W.iret hx hb hr (fun t ht _ => ⟨⟨_, (), rfl, (congrArg Prod.fst e9), by show qP D _ ad _ _ _ t.heap; rw [ht, ← eI9]; exact hP⟩, hS.F ht⟩) hS.2.2 dX9_says_123
  · have hf := (if_ok hf).1 cc
    refine lv_aload_n hx hb dX9_says_87 rfl (lv_at hl 0 rfl) ?_
    refine lv_sipush (v := -1004) hx hb dX9_says_88 (by decide) ?_
    obtain ⟨v7, I8, h9, hf⟩ := bd2_ok hf
    refine q_cEi (va_runV (As := [.int (-1004 : Int32)]) (rest := []) ⟨hx, hb, hml, hown, hts⟩ (c_X9_refuse l (D := D) (ad := ad) (cy := cy) (sa := sa) (va := va) (I := I) (J := J) (S := S) h0 (-1004 : Int32) h9) (cwV 1 hts gX9_says_X9_refuse rfl rfl rfl (by decide +kernel) ⟨Nat.le_of_ble_eq_true rfl, Nat.le_of_ble_eq_true rfl⟩) ⟨qPre_blind _, q_recv hK hP (oX9 h0) rfl, fun U hU hW => ⟨rfl, qPre_of hP hK hE hN hS U hU hW⟩⟩ rfl rfl hl.1 rfl (lv_room (Nat.le_of_ble_eq_true rfl)) dX9_says_91 ⟨Nat.le_of_ble_eq_true rfl, Nat.le_of_ble_eq_true rfl⟩) hS (fun H locs hP hS => ?_)
    have e9 := Option.some.inj hf
    have eI9 : I8 = Ie := (congrArg Prod.snd e9)
    exact W.iret hx hb hr (fun t ht _ => ⟨⟨_, (), rfl, (congrArg Prod.fst e9), by show qP D _ ad _ _ _ t.heap; rw [ht, ← eI9]; exact hP⟩, hS.F ht⟩) hS.2.2 dX9_says_94
set_option maxHeartbeats 4000000 in
set_option maxRecDepth 100000 in
theorem w_X9_says_70 {S : Nat → Prop} (C : qC p s m args meth c cX9_says 3 RX9 wsX9_says (some .int)) (hK : qK D cy sa s) (hE : qEnv sa va (qA S ad) s s.heap) (hN : qN S ad) (h0 : isM0 S)   {J : qJ} {r : Int32} {Ie : qI} : ∀   (I : qI) (ls : Array Slot) (H : Heap) (locs : List Loc), f_X9_says_70 I = some (r, Ie) → lv_has ls 3 [(0, .ref (ad 0))] → qP D S ad (eM ad cy) I J H → va_S (qA S ad) s.heap H locs → W p l e (headSpec wsX9_says r_X9_says).room s m args below meth c H locs 0 0 (MQ below (va_Qi (S := Unit) (fun x _ => x = r) (fun _ t => qP D S ad (eM ad cy) Ie J t.heap) (qA S ad)) args s 0 0 (qA S ad)) (F0 m 70 ls []) := by
  have C0 := C
  obtain ⟨⟨hx, hb, hml, hown, hts⟩, hr, hlocks⟩ := C0
  intro I ls H locs hf hl hP hS
  unfold f_X9_says_70 at hf
  refine lv_aload_n hx hb dX9_says_70 rfl (lv_at hl 0 rfl) ?_
  refine lv_sipush (v := -1003) hx hb dX9_says_71 (by decide) ?_
  obtain ⟨v1, I2, h3, hf⟩ := bd2_ok hf
  refine q_cEi (va_runV (As := [.int (-1003 : Int32)]) (rest := []) ⟨hx, hb, hml, hown, hts⟩ (c_X9_refuse l (D := D) (ad := ad) (cy := cy) (sa := sa) (va := va) (I := I) (J := J) (S := S) h0 (-1003 : Int32) h3) (cwV 1 hts gX9_says_X9_refuse rfl rfl rfl (by decide +kernel) ⟨Nat.le_of_ble_eq_true rfl, Nat.le_of_ble_eq_true rfl⟩) ⟨qPre_blind _, q_recv hK hP (oX9 h0) rfl, fun U hU hW => ⟨rfl, qPre_of hP hK hE hN hS U hU hW⟩⟩ rfl rfl hl.1 rfl (lv_room (Nat.le_of_ble_eq_true rfl)) dX9_says_74 ⟨Nat.le_of_ble_eq_true rfl, Nat.le_of_ble_eq_true rfl⟩) hS (fun H locs hP hS => ?_)
  have e9 := Option.some.inj hf
  have eI9 : I2 = Ie := (congrArg Prod.snd e9)
  exact W.iret hx hb hr (fun t ht _ => ⟨⟨_, (), rfl, (congrArg Prod.fst e9), by show qP D _ ad _ _ _ t.heap; rw [ht, ← eI9]; exact hP⟩, hS.F ht⟩) hS.2.2 dX9_says_77
set_option maxHeartbeats 4000000 in
set_option maxRecDepth 100000 in
theorem c_X9_says (l : Launch) {D : va_G} {ad : Nat → Nat} {cy : Nat → ClassId} {sa va : Nat → Nat} {I : qI} {J : qJ} {S : Nat → Prop} (h0 : isM0 S)   (p0 : Int32) (p1 : Int32) {r : Int32} {Ie : qI} (hf : f_X9_says p0 p1 I = some (r, Ie)) : Met l yX9_says wsX9_says r_X9_says (va_Pc [.ref (ad 0), .int p0, .int p1] (qPre D S ad cy sa va (eM ad cy) I J)) (va_Qi (S := Unit) (fun x _ => x = r) (fun _ t => qP D S ad (eM ad cy) Ie J t.heap) (qA S ad)) 0 0 (qA S ad) := by
  refine Met.ofW (cc := cX9_says) (maxL := 3) (ret := (some .int)) (by decide) rfl ?_
  intro p e s m args below meth c s₁ B hml hv
  obtain ⟨rfl, hP, hK, hE, hN⟩ := hv
  have C : qC p s m _ meth c cX9_says 3 RX9 wsX9_says (some .int) := ⟨⟨B.exec, B.bytes, hml, findClass_of_methodNamed B.named, atoms_spec (ws := wsX9_says) B.pre⟩, B.returns, B.notSynchronized⟩
  have C0 := C
  obtain ⟨⟨hx, hb, hml, hown, hts⟩, hr, hlocks⟩ := C0
  have hS : va_S (qA S ad) s.heap s.heap [] := va_S.rf
  have hl := lv_entry ([.ref (ad 0), .int p0, .int p1]) (n := 3) (Nat.le_of_ble_eq_true rfl)
  rw [lg_entry_eq]
  generalize (lg_sl ([.ref (ad 0), .int p0, .int p1]) ++ List.replicate (3 - (lg_sl ([.ref (ad 0), .int p0, .int p1])).length) Slot.unset).toArray = ls at hl ⊢
  have hl : lv_has ls 3 [(0, .ref (ad 0)), (1, .int p0), (2, .int p1)] := hl
  unfold f_X9_says at hf
  refine lv_iload_n hx hb dX9_says_0 rfl (lv_at hl 1 rfl) ?_
  refine lv_i2l hx hb dX9_says_1 rfl ?_
  refine lv_lconst (v := 0) hx hb dX9_says_2 (by decide) ?_
  refine lv_ldc2 (own := RX9) (v := 7) hx hb hown (hts (.constantLong RX9 103 (7)) (by decide +kernel)) dX9_says_3 ?_
  obtain ⟨v1, h2, hf⟩ := bd_ok hf
  refine q_cSi (va_runS (As := [.long p0.toInt64, .long (0 : Int64), .long (7 : Int64)]) (rest := []) ⟨hx, hb, hml, hown, hts⟩ (c_X9_in l (D := D) (ad := ad) (cy := cy) (sa := sa) (va := va) (I := I) (J := J) (S := S) h0 p0.toInt64 (0 : Int64) (7 : Int64) h2) (va_cwS 3 hts gX9_says_X9_in rfl rfl rfl (by decide +kernel) ⟨Nat.le_of_ble_eq_true rfl, Nat.le_of_ble_eq_true rfl⟩) ⟨qPre_blind _, fun U hU hW => ⟨rfl, qPre_of hP hK hE hN hS U hU hW⟩⟩ rfl rfl hl.1 rfl (lv_room (Nat.le_of_ble_eq_true rfl)) dX9_says_6 ⟨Nat.le_of_ble_eq_true rfl, Nat.le_of_ble_eq_true rfl⟩) ?_
  refine lv_if_eq (tgt := 24) hx hb dX9_says_9 (by decide) (fun cc => ?_) (fun cc => ?_)
  · have hf := (if_ok hf).1 cc
    exact w_X9_says_24 C hK hE hN h0   I _ _ _ hf (lv_sub hl [0] rfl) hP hS
  · have hf := (if_ok hf).2 cc
    refine lv_iload_n hx hb dX9_says_12 rfl (lv_at hl 2 rfl) ?_
    refine lv_i2l hx hb dX9_says_13 rfl ?_
    refine lv_lconst (v := 0) hx hb dX9_says_14 (by decide) ?_
    refine lv_ldc2 (own := RX9) (v := 5) hx hb hown (hts (.constantLong RX9 124 (5)) (by decide +kernel)) dX9_says_15 ?_
    obtain ⟨v3, h4, hf⟩ := bd_ok hf
    refine q_cSi (va_runS (As := [.long p1.toInt64, .long (0 : Int64), .long (5 : Int64)]) (rest := []) ⟨hx, hb, hml, hown, hts⟩ (c_X9_in l (D := D) (ad := ad) (cy := cy) (sa := sa) (va := va) (I := I) (J := J) (S := S) h0 p1.toInt64 (0 : Int64) (5 : Int64) h4) (va_cwS 3 hts gX9_says_X9_in rfl rfl rfl (by decide +kernel) ⟨Nat.le_of_ble_eq_true rfl, Nat.le_of_ble_eq_true rfl⟩) ⟨qPre_blind _, fun U hU hW => ⟨rfl, qPre_of hP hK hE hN hS U hU hW⟩⟩ rfl rfl hl.1 rfl (lv_room (Nat.le_of_ble_eq_true rfl)) dX9_says_18 ⟨Nat.le_of_ble_eq_true rfl, Nat.le_of_ble_eq_true rfl⟩) ?_
    refine lv_if_ne (tgt := 32) hx hb dX9_says_21 (by decide) (fun cc => ?_) (fun cc => ?_)
    · have hf := (if_ok hf).2 cc
      refine lv_aload_n hx hb dX9_says_32 rfl (lv_at hl 0 rfl) ?_
      refine q_get (C := RX9) (T := TX9) (N := 42) (ci := 9) (v := .ref (ad 1)) hx hb hts in_X9_says_X9 hown hK hP (oX9 h0) rfl 0 (by decide) (hts (.fieldLink RX9 7 "RowsOnlyPrimesModel" "shelf" "[I") (by decide +kernel)) (fun _ h9 => h9) rfl dX9_says_33 ?_
      refine lv_iload_n hx hb dX9_says_36 rfl (lv_at hl 1 rfl) ?_
      obtain ⟨g5, hf⟩ := gd_ok hf
      refine q_iald hx hb hK hP (a0X9_1 h0) g5 dX9_says_37 ?_
      refine lv_iconst (v := 1) hx hb dX9_says_38 (by decide) ?_
      refine lv_icmp_eq (tgt := 70) hx hb dX9_says_39 (by decide) (fun cc => ?_) (fun cc => ?_)
      · have hf := (if_ok hf).1 cc
        exact w_X9_says_70 C hK hE hN h0   I _ _ _ hf (lv_sub hl [0] rfl) hP hS
      · have hf := (if_ok hf).2 cc
        refine lv_aload_n hx hb dX9_says_42 rfl (lv_at hl 0 rfl) ?_
        refine q_get (C := RX9) (T := TX9) (N := 42) (ci := 9) (v := .ref (ad 1)) hx hb hts in_X9_says_X9 hown hK hP (oX9 h0) rfl 0 (by decide) (hts (.fieldLink RX9 7 "RowsOnlyPrimesModel" "shelf" "[I") (by decide +kernel)) (fun _ h9 => h9) rfl dX9_says_43 ?_
        refine lv_iload_n hx hb dX9_says_46 rfl (lv_at hl 1 rfl) ?_
        obtain ⟨g6, hf⟩ := gd_ok hf
        refine q_iald hx hb hK hP (a0X9_1 h0) g6 dX9_says_47 ?_
        refine lv_iconst (v := 2) hx hb dX9_says_48 (by decide) ?_
        refine lv_icmp_ne (tgt := 78) hx hb dX9_says_49 (by decide) (fun cc => ?_) (fun cc => ?_)
        · have hf := (if_ok hf).2 cc
          exact w_X9_says_78 C hK hE hN h0   p0 p1 I _ _ _ hf (lv_sub hl [0, 1, 2] rfl) hP hS
        · have hf := (if_ok hf).1 cc
          refine lv_aload_n hx hb dX9_says_52 rfl (lv_at hl 0 rfl) ?_
          refine q_get (C := RX9) (T := TX9) (N := 42) (ci := 9) (v := .ref (ad 17)) hx hb hts in_X9_says_X9 hown hK hP (oX9 h0) rfl 19 (by decide) (hts (.fieldLink RX9 50 "RowsOnlyPrimesModel" "kind" "[I") (by decide +kernel)) (fun _ h9 => h9) rfl dX9_says_53 ?_
          refine lv_aload_n hx hb dX9_says_56 rfl (lv_at hl 0 rfl) ?_
          refine q_get (C := RX9) (T := TX9) (N := 42) (ci := 9) (v := .ref (ad 14)) hx hb hts in_X9_says_X9 hown hK hP (oX9 h0) rfl 5 (by decide) (hts (.fieldLink RX9 28 "RowsOnlyPrimesModel" "shown" "[I") (by decide +kernel)) (fun _ h9 => h9) rfl dX9_says_57 ?_
          refine lv_iload_n hx hb dX9_says_60 rfl (lv_at hl 1 rfl) ?_
          obtain ⟨g7, hf⟩ := gd_ok hf
          refine q_iald hx hb hK hP (a0X9_14 h0) g7 dX9_says_61 ?_
          obtain ⟨g8, hf⟩ := gd_ok hf
          refine q_iald hx hb hK hP (a0X9_17 h0) g8 dX9_says_62 ?_
          refine lv_iload_n hx hb dX9_says_63 rfl (lv_at hl 2 rfl) ?_
          obtain ⟨v9, h10, hf⟩ := bd_ok hf
          refine q_cSi (va_runS (As := [.int (I 17 (I 14 p0.toNatClampNeg).toNatClampNeg), .int p1]) (rest := []) ⟨hx, hb, hml, hown, hts⟩ (c_X9_isUnder l (D := D) (ad := ad) (cy := cy) (sa := sa) (va := va) (I := I) (J := J) (S := S) h0 (I 17 (I 14 p0.toNatClampNeg).toNatClampNeg) p1 h10) (va_cwS 2 hts gX9_says_X9_isUnder rfl rfl rfl (by decide +kernel) ⟨Nat.le_of_ble_eq_true rfl, Nat.le_of_ble_eq_true rfl⟩) ⟨qPre_blind _, fun U hU hW => ⟨rfl, qPre_of hP hK hE hN hS U hU hW⟩⟩ rfl rfl hl.1 rfl (lv_room (Nat.le_of_ble_eq_true rfl)) dX9_says_64 ⟨Nat.le_of_ble_eq_true rfl, Nat.le_of_ble_eq_true rfl⟩) ?_
          refine lv_if_ne (tgt := 78) hx hb dX9_says_67 (by decide) (fun cc => ?_) (fun cc => ?_)
          · have hf := (if_ok hf).2 cc
            exact w_X9_says_78 C hK hE hN h0   p0 p1 I _ _ _ hf (lv_sub hl [0, 1, 2] rfl) hP hS
          · have hf := (if_ok hf).1 cc
            exact w_X9_says_70 C hK hE hN h0   I _ _ _ hf (lv_sub hl [0] rfl) hP hS
    · have hf := (if_ok hf).1 cc
      exact w_X9_says_24 C hK hE hN h0   I _ _ _ hf (lv_sub hl [0] rfl) hP hS
abbrev r_X9_addParty : Room := { frames := 0, cells := 0, slots := 0, locals := 0 }
theorem in_X9_addParty_X9 : ∀ w ∈ u_ws RX9 TX9 42, w ∈ wsX9_addParty := by decide +kernel
set_option maxHeartbeats 4000000 in
set_option maxRecDepth 100000 in
theorem c_X9_addParty (l : Launch) {D : va_G} {ad : Nat → Nat} {cy : Nat → ClassId} {sa va : Nat → Nat} {I : qI} {J : qJ} {S : Nat → Prop} (h0 : isM0 S)   (p0 : Int32) (p1 : Int32) (p2 : Int32) (p3 : Int32) {Ie : qI} (hf : f_X9_addParty p0 p1 p2 p3 I = some Ie) : Met l yX9_addParty wsX9_addParty r_X9_addParty (va_Pc [.ref (ad 0), .int p0, .int p1, .int p2, .int p3] (qPre D S ad cy sa va (eM ad cy) I J)) (va_Qv (S := Unit) (fun _ => True) (fun _ t => qP D S ad (eM ad cy) Ie J t.heap) (qA S ad)) 0 0 (qA S ad) := by
  refine Met.ofW (cc := cX9_addParty) (maxL := 5) (ret := none) (by decide) rfl ?_
  intro p e s m args below meth c s₁ B hml hv
  obtain ⟨rfl, hP, hK, hE, hN⟩ := hv
  have C : qC p s m _ meth c cX9_addParty 5 RX9 wsX9_addParty none := ⟨⟨B.exec, B.bytes, hml, findClass_of_methodNamed B.named, atoms_spec (ws := wsX9_addParty) B.pre⟩, B.returns, B.notSynchronized⟩
  have C0 := C
  obtain ⟨⟨hx, hb, hml, hown, hts⟩, hr, hlocks⟩ := C0
  have hS : va_S (qA S ad) s.heap s.heap [] := va_S.rf
  have hl := lv_entry ([.ref (ad 0), .int p0, .int p1, .int p2, .int p3]) (n := 5) (Nat.le_of_ble_eq_true rfl)
  rw [lg_entry_eq]
  generalize (lg_sl ([.ref (ad 0), .int p0, .int p1, .int p2, .int p3]) ++ List.replicate (5 - (lg_sl ([.ref (ad 0), .int p0, .int p1, .int p2, .int p3])).length) Slot.unset).toArray = ls at hl ⊢
  have hl : lv_has ls 5 [(0, .ref (ad 0)), (1, .int p0), (2, .int p1), (3, .int p2), (4, .int p3)] := hl
  unfold f_X9_addParty at hf
  refine lv_aload_n hx hb dX9_addParty_0 rfl (lv_at hl 0 rfl) ?_
  refine q_get (C := RX9) (T := TX9) (N := 42) (ci := 9) (v := .ref (ad 17)) hx hb hts in_X9_addParty_X9 hown hK hP (oX9 h0) rfl 19 (by decide) (hts (.fieldLink RX9 50 "RowsOnlyPrimesModel" "kind" "[I") (by decide +kernel)) (fun _ h9 => h9) rfl dX9_addParty_1 ?_
  refine lv_aload_n hx hb dX9_addParty_4 rfl (lv_at hl 0 rfl) ?_
  refine q_get (C := RX9) (T := TX9) (N := 42) (ci := 9) (v := .int (I 0 17)) hx hb hts in_X9_addParty_X9 hown hK hP (oX9 h0) rfl 17 (by decide) (hts (.fieldLink RX9 93 "RowsOnlyPrimesModel" "parties" "I") (by decide +kernel)) (fun _ h9 => h9) rfl dX9_addParty_5 ?_
  refine lv_iload_n hx hb dX9_addParty_8 rfl (lv_at hl 1 rfl) ?_
  obtain ⟨g1, hf⟩ := gd_ok hf
  obtain ⟨I2, eI2, hf⟩ := lt_ok hf
  refine q_iast hx hb hK hP hN hS (a0X9_17 h0) g1 dX9_addParty_9 (fun H locs hP hS => ?_)
  have hP : qP D S ad (eM ad cy) I2 J H := by rw [eI2]; exact hP
  refine lv_aload_n hx hb dX9_addParty_10 rfl (lv_at hl 0 rfl) ?_
  refine q_get (C := RX9) (T := TX9) (N := 42) (ci := 9) (v := .ref (ad 18)) hx hb hts in_X9_addParty_X9 hown hK hP (oX9 h0) rfl 20 (by decide) (hts (.fieldLink RX9 53 "RowsOnlyPrimesModel" "by" "[I") (by decide +kernel)) (fun _ h9 => h9) rfl dX9_addParty_11 ?_
  refine lv_aload_n hx hb dX9_addParty_14 rfl (lv_at hl 0 rfl) ?_
  refine q_get (C := RX9) (T := TX9) (N := 42) (ci := 9) (v := .int (I2 0 17)) hx hb hts in_X9_addParty_X9 hown hK hP (oX9 h0) rfl 17 (by decide) (hts (.fieldLink RX9 93 "RowsOnlyPrimesModel" "parties" "I") (by decide +kernel)) (fun _ h9 => h9) rfl dX9_addParty_15 ?_
  refine lv_iload_n hx hb dX9_addParty_18 rfl (lv_at hl 2 rfl) ?_
  obtain ⟨g3, hf⟩ := gd_ok hf
  obtain ⟨I4, eI4, hf⟩ := lt_ok hf
  refine q_iast hx hb hK hP hN hS (a0X9_18 h0) g3 dX9_addParty_19 (fun H locs hP hS => ?_)
  have hP : qP D S ad (eM ad cy) I4 J H := by rw [eI4]; exact hP
  refine lv_aload_n hx hb dX9_addParty_20 rfl (lv_at hl 0 rfl) ?_
  refine q_get (C := RX9) (T := TX9) (N := 42) (ci := 9) (v := .ref (ad 19)) hx hb hts in_X9_addParty_X9 hown hK hP (oX9 h0) rfl 21 (by decide) (hts (.fieldLink RX9 56 "RowsOnlyPrimesModel" "size" "[I") (by decide +kernel)) (fun _ h9 => h9) rfl dX9_addParty_21 ?_
  refine lv_aload_n hx hb dX9_addParty_24 rfl (lv_at hl 0 rfl) ?_
  refine q_get (C := RX9) (T := TX9) (N := 42) (ci := 9) (v := .int (I4 0 17)) hx hb hts in_X9_addParty_X9 hown hK hP (oX9 h0) rfl 17 (by decide) (hts (.fieldLink RX9 93 "RowsOnlyPrimesModel" "parties" "I") (by decide +kernel)) (fun _ h9 => h9) rfl dX9_addParty_25 ?_
  refine lv_iload_n hx hb dX9_addParty_28 rfl (lv_at hl 3 rfl) ?_
  obtain ⟨g5, hf⟩ := gd_ok hf
  obtain ⟨I6, eI6, hf⟩ := lt_ok hf
  refine q_iast hx hb hK hP hN hS (a0X9_19 h0) g5 dX9_addParty_29 (fun H locs hP hS => ?_)
  have hP : qP D S ad (eM ad cy) I6 J H := by rw [eI6]; exact hP
  refine lv_aload_n hx hb dX9_addParty_30 rfl (lv_at hl 0 rfl) ?_
  refine q_get (C := RX9) (T := TX9) (N := 42) (ci := 9) (v := .ref (ad 20)) hx hb hts in_X9_addParty_X9 hown hK hP (oX9 h0) rfl 22 (by decide) (hts (.fieldLink RX9 59 "RowsOnlyPrimesModel" "purse" "[I") (by decide +kernel)) (fun _ h9 => h9) rfl dX9_addParty_31 ?_
  refine lv_aload_n hx hb dX9_addParty_34 rfl (lv_at hl 0 rfl) ?_
  refine q_get (C := RX9) (T := TX9) (N := 42) (ci := 9) (v := .int (I6 0 17)) hx hb hts in_X9_addParty_X9 hown hK hP (oX9 h0) rfl 17 (by decide) (hts (.fieldLink RX9 93 "RowsOnlyPrimesModel" "parties" "I") (by decide +kernel)) (fun _ h9 => h9) rfl dX9_addParty_35 ?_
  refine lv_iload hx hb dX9_addParty_38 (lv_at hl 4 rfl) ?_
  obtain ⟨g7, hf⟩ := gd_ok hf
  obtain ⟨I8, eI8, hf⟩ := lt_ok hf
  refine q_iast hx hb hK hP hN hS (a0X9_20 h0) g7 dX9_addParty_40 (fun H locs hP hS => ?_)
  have hP : qP D S ad (eM ad cy) I8 J H := by rw [eI8]; exact hP
  refine lv_aload_n hx hb dX9_addParty_41 rfl (lv_at hl 0 rfl) ?_
  refine q_get (C := RX9) (T := TX9) (N := 42) (ci := 9) (v := .ref (ad 21)) hx hb hts in_X9_addParty_X9 hown hK hP (oX9 h0) rfl 23 (by decide) (hts (.fieldLink RX9 62 "RowsOnlyPrimesModel" "tied" "[I") (by decide +kernel)) (fun _ h9 => h9) rfl dX9_addParty_42 ?_
  refine lv_aload_n hx hb dX9_addParty_45 rfl (lv_at hl 0 rfl) ?_
  refine q_get (C := RX9) (T := TX9) (N := 42) (ci := 9) (v := .int (I8 0 17)) hx hb hts in_X9_addParty_X9 hown hK hP (oX9 h0) rfl 17 (by decide) (hts (.fieldLink RX9 93 "RowsOnlyPrimesModel" "parties" "I") (by decide +kernel)) (fun _ h9 => h9) rfl dX9_addParty_46 ?_
  refine lv_iconst (v := 0) hx hb dX9_addParty_49 (by decide) ?_
  obtain ⟨g9, hf⟩ := gd_ok hf
  obtain ⟨I10, eI10, hf⟩ := lt_ok hf
  refine q_iast hx hb hK hP hN hS (a0X9_21 h0) g9 dX9_addParty_50 (fun H locs hP hS => ?_)
  have hP : qP D S ad (eM ad cy) I10 J H := by rw [eI10]; exact hP
  refine lv_aload_n hx hb dX9_addParty_51 rfl (lv_at hl 0 rfl) ?_
  refine q_get (C := RX9) (T := TX9) (N := 42) (ci := 9) (v := .ref (ad 22)) hx hb hts in_X9_addParty_X9 hown hK hP (oX9 h0) rfl 24 (by decide) (hts (.fieldLink RX9 65 "RowsOnlyPrimesModel" "shuns" "[I") (by decide +kernel)) (fun _ h9 => h9) rfl dX9_addParty_52 ?_
  refine lv_aload_n hx hb dX9_addParty_55 rfl (lv_at hl 0 rfl) ?_
  refine q_get (C := RX9) (T := TX9) (N := 42) (ci := 9) (v := .int (I10 0 17)) hx hb hts in_X9_addParty_X9 hown hK hP (oX9 h0) rfl 17 (by decide) (hts (.fieldLink RX9 93 "RowsOnlyPrimesModel" "parties" "I") (by decide +kernel)) (fun _ h9 => h9) rfl dX9_addParty_56 ?_
  refine lv_iconst (v := 0) hx hb dX9_addParty_59 (by decide) ?_
  obtain ⟨g11, hf⟩ := gd_ok hf
  obtain ⟨I12, eI12, hf⟩ := lt_ok hf
  refine q_iast hx hb hK hP hN hS (a0X9_22 h0) g11 dX9_addParty_60 (fun H locs hP hS => ?_)
  have hP : qP D S ad (eM ad cy) I12 J H := by rw [eI12]; exact hP
  refine lv_aload_n hx hb dX9_addParty_61 rfl (lv_at hl 0 rfl) ?_
  refine lv_dup hx hb dX9_addParty_62 rfl ?_
  refine q_get (C := RX9) (T := TX9) (N := 42) (ci := 9) (v := .int (I12 0 18)) hx hb hts in_X9_addParty_X9 hown hK hP (oX9 h0) rfl 18 (by decide) (hts (.fieldLink RX9 100 "RowsOnlyPrimesModel" "over" "I") (by decide +kernel)) (fun _ h9 => h9) rfl dX9_addParty_63 ?_
  refine lv_iconst (v := 1) hx hb dX9_addParty_66 (by decide) ?_
  refine lv_aload_n hx hb dX9_addParty_67 rfl (lv_at hl 0 rfl) ?_
  refine q_get (C := RX9) (T := TX9) (N := 42) (ci := 9) (v := .int (I12 0 17)) hx hb hts in_X9_addParty_X9 hown hK hP (oX9 h0) rfl 17 (by decide) (hts (.fieldLink RX9 93 "RowsOnlyPrimesModel" "parties" "I") (by decide +kernel)) (fun _ h9 => h9) rfl dX9_addParty_68 ?_
  refine lv_ishl hx hb dX9_addParty_71 ?_
  refine lv_iconst (v := -1) hx hb dX9_addParty_72 (by decide) ?_
  refine lv_ixor hx hb dX9_addParty_73 ?_
  refine lv_iand hx hb dX9_addParty_74 ?_
  obtain ⟨I13, eI13, hf⟩ := lt_ok hf
  refine q_put (C := RX9) (T := TX9) (N := 42) (ci := 9) (v := .int ((I12 0 18) &&& (((1 : Int32) <<< ((I12 0 17) &&& (31 : Int32))) ^^^ (-1 : Int32)))) (x := ((I12 0 18) &&& (((1 : Int32) <<< ((I12 0 17) &&& (31 : Int32))) ^^^ (-1 : Int32)))) (ty := .int) hx hb hts in_X9_addParty_X9 tyX9 tyX9_ok nmX9 hown hK hP hN hS (oX9 h0) rfl 18 (by decide) (hts (.fieldLink RX9 100 "RowsOnlyPrimesModel" "over" "I") (by decide +kernel)) (fun _ h9 => h9) rfl (by decide +kernel) rfl rfl (fun _ _ => rfl) (fun _ _ => Nat.le_of_ble_eq_true rfl) dX9_addParty_75 (fun H locs hP hS => ?_)
  rw [← eI13] at hP
  refine lv_aload_n hx hb dX9_addParty_78 rfl (lv_at hl 0 rfl) ?_
  refine lv_dup hx hb dX9_addParty_79 rfl ?_
  refine q_get (C := RX9) (T := TX9) (N := 42) (ci := 9) (v := .int (I13 0 17)) hx hb hts in_X9_addParty_X9 hown hK hP (oX9 h0) rfl 17 (by decide) (hts (.fieldLink RX9 93 "RowsOnlyPrimesModel" "parties" "I") (by decide +kernel)) (fun _ h9 => h9) rfl dX9_addParty_80 ?_
  refine lv_iconst (v := 1) hx hb dX9_addParty_83 (by decide) ?_
  refine lv_iadd hx hb dX9_addParty_84 ?_
  obtain ⟨I14, eI14, hf⟩ := lt_ok hf
  refine q_put (C := RX9) (T := TX9) (N := 42) (ci := 9) (v := .int ((I13 0 17) + (1 : Int32))) (x := ((I13 0 17) + (1 : Int32))) (ty := .int) hx hb hts in_X9_addParty_X9 tyX9 tyX9_ok nmX9 hown hK hP hN hS (oX9 h0) rfl 17 (by decide) (hts (.fieldLink RX9 93 "RowsOnlyPrimesModel" "parties" "I") (by decide +kernel)) (fun _ h9 => h9) rfl (by decide +kernel) rfl rfl (fun _ _ => rfl) (fun _ _ => Nat.le_of_ble_eq_true rfl) dX9_addParty_85 (fun H locs hP hS => ?_)
  rw [← eI14] at hP
  have e9 := Option.some.inj hf
  have eI9 : I14 = Ie := e9
  exact W.vret hx hb hr (fun t ht _ => ⟨⟨(), rfl, trivial, by show qP D _ ad _ _ _ t.heap; rw [ht, ← eI9]; exact hP⟩, hS.F ht⟩) hS.2.2 dX9_addParty_88
abbrev r_X9_party : Room := { frames := 1, cells := 0, slots := 0, locals := 25 }
theorem in_X9_party_X9 : ∀ w ∈ u_ws RX9 TX9 42, w ∈ wsX9_party := by decide +kernel
set_option maxHeartbeats 4000000 in
set_option maxRecDepth 100000 in
theorem w_X9_party_49 {S : Nat → Prop} (C : qC p s m args meth c cX9_party 5 RX9 wsX9_party (some .int)) (hK : qK D cy sa s) (hE : qEnv sa va (qA S ad) s s.heap) (hN : qN S ad) (h0 : isM0 S)   {J : qJ} {r : Int32} {Ie : qI} : ∀   (I : qI) (ls : Array Slot) (H : Heap) (locs : List Loc), f_X9_party_49 I = some (r, Ie) → lv_has ls 5 [(0, .ref (ad 0))] → qP D S ad (eM ad cy) I J H → va_S (qA S ad) s.heap H locs → W p l e (headSpec wsX9_party r_X9_party).room s m args below meth c H locs 0 0 (MQ below (va_Qi (S := Unit) (fun x _ => x = r) (fun _ t => qP D S ad (eM ad cy) Ie J t.heap) (qA S ad)) args s 0 0 (qA S ad)) (F0 m 49 ls []) := by
  have C0 := C
  obtain ⟨⟨hx, hb, hml, hown, hts⟩, hr, hlocks⟩ := C0
  intro I ls H locs hf hl hP hS
  unfold f_X9_party_49 at hf
  refine lv_aload_n hx hb dX9_party_49 rfl (lv_at hl 0 rfl) ?_
  refine lv_sipush (v := -1002) hx hb dX9_party_50 (by decide) ?_
  obtain ⟨v1, I2, h3, hf⟩ := bd2_ok hf
  refine q_cEi (va_runV (As := [.int (-1002 : Int32)]) (rest := []) ⟨hx, hb, hml, hown, hts⟩ (c_X9_refuse l (D := D) (ad := ad) (cy := cy) (sa := sa) (va := va) (I := I) (J := J) (S := S) h0 (-1002 : Int32) h3) (cwV 1 hts gX9_party_X9_refuse rfl rfl rfl (by decide +kernel) ⟨Nat.le_of_ble_eq_true rfl, Nat.le_of_ble_eq_true rfl⟩) ⟨qPre_blind _, q_recv hK hP (oX9 h0) rfl, fun U hU hW => ⟨rfl, qPre_of hP hK hE hN hS U hU hW⟩⟩ rfl rfl hl.1 rfl (lv_room (Nat.le_of_ble_eq_true rfl)) dX9_party_53 ⟨Nat.le_of_ble_eq_true rfl, Nat.le_of_ble_eq_true rfl⟩) hS (fun H locs hP hS => ?_)
  have e9 := Option.some.inj hf
  have eI9 : I2 = Ie := (congrArg Prod.snd e9)
  exact W.iret hx hb hr (fun t ht _ => ⟨⟨_, (), rfl, (congrArg Prod.fst e9), by show qP D _ ad _ _ _ t.heap; rw [ht, ← eI9]; exact hP⟩, hS.F ht⟩) hS.2.2 dX9_party_56
set_option maxHeartbeats 4000000 in
set_option maxRecDepth 100000 in
theorem c_X9_party (l : Launch) {D : va_G} {ad : Nat → Nat} {cy : Nat → ClassId} {sa va : Nat → Nat} {I : qI} {J : qJ} {S : Nat → Prop} (h0 : isM0 S)   (p0 : Int32) (p1 : Int32) (p2 : Int32) (p3 : Int32) {r : Int32} {Ie : qI} (hf : f_X9_party p0 p1 p2 p3 I = some (r, Ie)) : Met l yX9_party wsX9_party r_X9_party (va_Pc [.ref (ad 0), .int p0, .int p1, .int p2, .int p3] (qPre D S ad cy sa va (eM ad cy) I J)) (va_Qi (S := Unit) (fun x _ => x = r) (fun _ t => qP D S ad (eM ad cy) Ie J t.heap) (qA S ad)) 0 0 (qA S ad) := by
  refine Met.ofW (cc := cX9_party) (maxL := 5) (ret := (some .int)) (by decide) rfl ?_
  intro p e s m args below meth c s₁ B hml hv
  obtain ⟨rfl, hP, hK, hE, hN⟩ := hv
  have C : qC p s m _ meth c cX9_party 5 RX9 wsX9_party (some .int) := ⟨⟨B.exec, B.bytes, hml, findClass_of_methodNamed B.named, atoms_spec (ws := wsX9_party) B.pre⟩, B.returns, B.notSynchronized⟩
  have C0 := C
  obtain ⟨⟨hx, hb, hml, hown, hts⟩, hr, hlocks⟩ := C0
  have hS : va_S (qA S ad) s.heap s.heap [] := va_S.rf
  have hl := lv_entry ([.ref (ad 0), .int p0, .int p1, .int p2, .int p3]) (n := 5) (Nat.le_of_ble_eq_true rfl)
  rw [lg_entry_eq]
  generalize (lg_sl ([.ref (ad 0), .int p0, .int p1, .int p2, .int p3]) ++ List.replicate (5 - (lg_sl ([.ref (ad 0), .int p0, .int p1, .int p2, .int p3])).length) Slot.unset).toArray = ls at hl ⊢
  have hl : lv_has ls 5 [(0, .ref (ad 0)), (1, .int p0), (2, .int p1), (3, .int p2), (4, .int p3)] := hl
  unfold f_X9_party at hf
  refine lv_iload_n hx hb dX9_party_0 rfl (lv_at hl 1 rfl) ?_
  refine lv_i2l hx hb dX9_party_1 rfl ?_
  refine lv_lconst (v := 0) hx hb dX9_party_2 (by decide) ?_
  refine lv_ldc2 (own := RX9) (v := 5) hx hb hown (hts (.constantLong RX9 124 (5)) (by decide +kernel)) dX9_party_3 ?_
  obtain ⟨v1, h2, hf⟩ := bd_ok hf
  refine q_cSi (va_runS (As := [.long p0.toInt64, .long (0 : Int64), .long (5 : Int64)]) (rest := []) ⟨hx, hb, hml, hown, hts⟩ (c_X9_in l (D := D) (ad := ad) (cy := cy) (sa := sa) (va := va) (I := I) (J := J) (S := S) h0 p0.toInt64 (0 : Int64) (5 : Int64) h2) (va_cwS 3 hts gX9_party_X9_in rfl rfl rfl (by decide +kernel) ⟨Nat.le_of_ble_eq_true rfl, Nat.le_of_ble_eq_true rfl⟩) ⟨qPre_blind _, fun U hU hW => ⟨rfl, qPre_of hP hK hE hN hS U hU hW⟩⟩ rfl rfl hl.1 rfl (lv_room (Nat.le_of_ble_eq_true rfl)) dX9_party_6 ⟨Nat.le_of_ble_eq_true rfl, Nat.le_of_ble_eq_true rfl⟩) ?_
  refine lv_if_eq (tgt := 49) hx hb dX9_party_9 (by decide) (fun cc => ?_) (fun cc => ?_)
  · have hf := (if_ok hf).1 cc
    exact w_X9_party_49 C hK hE hN h0   I _ _ _ hf (lv_sub hl [0] rfl) hP hS
  · have hf := (if_ok hf).2 cc
    refine lv_iload_n hx hb dX9_party_12 rfl (lv_at hl 2 rfl) ?_
    refine lv_i2l hx hb dX9_party_13 rfl ?_
    refine lv_lconst (v := 0) hx hb dX9_party_14 (by decide) ?_
    refine lv_ldc2 (own := RX9) (v := 9) hx hb hown (hts (.constantLong RX9 133 (9)) (by decide +kernel)) dX9_party_15 ?_
    obtain ⟨v3, h4, hf⟩ := bd_ok hf
    refine q_cSi (va_runS (As := [.long p1.toInt64, .long (0 : Int64), .long (9 : Int64)]) (rest := []) ⟨hx, hb, hml, hown, hts⟩ (c_X9_in l (D := D) (ad := ad) (cy := cy) (sa := sa) (va := va) (I := I) (J := J) (S := S) h0 p1.toInt64 (0 : Int64) (9 : Int64) h4) (va_cwS 3 hts gX9_party_X9_in rfl rfl rfl (by decide +kernel) ⟨Nat.le_of_ble_eq_true rfl, Nat.le_of_ble_eq_true rfl⟩) ⟨qPre_blind _, fun U hU hW => ⟨rfl, qPre_of hP hK hE hN hS U hU hW⟩⟩ rfl rfl hl.1 rfl (lv_room (Nat.le_of_ble_eq_true rfl)) dX9_party_18 ⟨Nat.le_of_ble_eq_true rfl, Nat.le_of_ble_eq_true rfl⟩) ?_
    refine lv_if_eq (tgt := 49) hx hb dX9_party_21 (by decide) (fun cc => ?_) (fun cc => ?_)
    · have hf := (if_ok hf).1 cc
      exact w_X9_party_49 C hK hE hN h0   I _ _ _ hf (lv_sub hl [0] rfl) hP hS
    · have hf := (if_ok hf).2 cc
      refine lv_iload_n hx hb dX9_party_24 rfl (lv_at hl 3 rfl) ?_
      refine lv_i2l hx hb dX9_party_25 rfl ?_
      refine lv_lconst (v := 1) hx hb dX9_party_26 (by decide) ?_
      refine lv_ldc2 (own := RX9) (v := 40) hx hb hown (hts (.constantLong RX9 107 (40)) (by decide +kernel)) dX9_party_27 ?_
      obtain ⟨v5, h6, hf⟩ := bd_ok hf
      refine q_cSi (va_runS (As := [.long p2.toInt64, .long (1 : Int64), .long (40 : Int64)]) (rest := []) ⟨hx, hb, hml, hown, hts⟩ (c_X9_in l (D := D) (ad := ad) (cy := cy) (sa := sa) (va := va) (I := I) (J := J) (S := S) h0 p2.toInt64 (1 : Int64) (40 : Int64) h6) (va_cwS 3 hts gX9_party_X9_in rfl rfl rfl (by decide +kernel) ⟨Nat.le_of_ble_eq_true rfl, Nat.le_of_ble_eq_true rfl⟩) ⟨qPre_blind _, fun U hU hW => ⟨rfl, qPre_of hP hK hE hN hS U hU hW⟩⟩ rfl rfl hl.1 rfl (lv_room (Nat.le_of_ble_eq_true rfl)) dX9_party_30 ⟨Nat.le_of_ble_eq_true rfl, Nat.le_of_ble_eq_true rfl⟩) ?_
      refine lv_if_eq (tgt := 49) hx hb dX9_party_33 (by decide) (fun cc => ?_) (fun cc => ?_)
      · have hf := (if_ok hf).1 cc
        exact w_X9_party_49 C hK hE hN h0   I _ _ _ hf (lv_sub hl [0] rfl) hP hS
      · have hf := (if_ok hf).2 cc
        refine lv_iload hx hb dX9_party_36 (lv_at hl 4 rfl) ?_
        refine lv_i2l hx hb dX9_party_38 rfl ?_
        refine lv_lconst (v := 0) hx hb dX9_party_39 (by decide) ?_
        refine lv_ldc2 (own := RX9) (v := 99) hx hb hown (hts (.constantLong RX9 135 (99)) (by decide +kernel)) dX9_party_40 ?_
        obtain ⟨v7, h8, hf⟩ := bd_ok hf
        refine q_cSi (va_runS (As := [.long p3.toInt64, .long (0 : Int64), .long (99 : Int64)]) (rest := []) ⟨hx, hb, hml, hown, hts⟩ (c_X9_in l (D := D) (ad := ad) (cy := cy) (sa := sa) (va := va) (I := I) (J := J) (S := S) h0 p3.toInt64 (0 : Int64) (99 : Int64) h8) (va_cwS 3 hts gX9_party_X9_in rfl rfl rfl (by decide +kernel) ⟨Nat.le_of_ble_eq_true rfl, Nat.le_of_ble_eq_true rfl⟩) ⟨qPre_blind _, fun U hU hW => ⟨rfl, qPre_of hP hK hE hN hS U hU hW⟩⟩ rfl rfl hl.1 rfl (lv_room (Nat.le_of_ble_eq_true rfl)) dX9_party_43 ⟨Nat.le_of_ble_eq_true rfl, Nat.le_of_ble_eq_true rfl⟩) ?_
        refine lv_if_ne (tgt := 57) hx hb dX9_party_46 (by decide) (fun cc => ?_) (fun cc => ?_)
        · have hf := (if_ok hf).2 cc
          refine lv_aload_n hx hb dX9_party_57 rfl (lv_at hl 0 rfl) ?_
          refine q_get (C := RX9) (T := TX9) (N := 42) (ci := 9) (v := .int (I 0 17)) hx hb hts in_X9_party_X9 hown hK hP (oX9 h0) rfl 17 (by decide) (hts (.fieldLink RX9 93 "RowsOnlyPrimesModel" "parties" "I") (by decide +kernel)) (fun _ h9 => h9) rfl dX9_party_58 ?_
          refine lv_bipush (v := 8) hx hb dX9_party_61 (by decide) ?_
          refine lv_icmp_ne (tgt := 74) hx hb dX9_party_63 (by decide) (fun cc => ?_) (fun cc => ?_)
          · have hf := (if_ok hf).2 cc
            refine lv_aload_n hx hb dX9_party_74 rfl (lv_at hl 0 rfl) ?_
            refine lv_iload_n hx hb dX9_party_75 rfl (lv_at hl 1 rfl) ?_
            refine lv_iload_n hx hb dX9_party_76 rfl (lv_at hl 2 rfl) ?_
            refine lv_iload_n hx hb dX9_party_77 rfl (lv_at hl 3 rfl) ?_
            refine lv_iload hx hb dX9_party_78 (lv_at hl 4 rfl) ?_
            obtain ⟨I9, h10, hf⟩ := bd_ok hf
            refine q_cEv (va_runV (As := [.int p0, .int p1, .int p2, .int p3]) (rest := []) ⟨hx, hb, hml, hown, hts⟩ (c_X9_addParty l (D := D) (ad := ad) (cy := cy) (sa := sa) (va := va) (I := I) (J := J) (S := S) h0 p0 p1 p2 p3 h10) (cwV 4 hts gX9_party_X9_addParty rfl rfl rfl (by decide +kernel) ⟨Nat.le_of_ble_eq_true rfl, Nat.le_of_ble_eq_true rfl⟩) ⟨qPre_blind _, q_recv hK hP (oX9 h0) rfl, fun U hU hW => ⟨rfl, qPre_of hP hK hE hN hS U hU hW⟩⟩ rfl rfl hl.1 rfl (lv_room (Nat.le_of_ble_eq_true rfl)) dX9_party_80 ⟨Nat.le_of_ble_eq_true rfl, Nat.le_of_ble_eq_true rfl⟩) hS (fun H locs hP hS => ?_)
            refine lv_aload_n hx hb dX9_party_83 rfl (lv_at hl 0 rfl) ?_
            refine q_get (C := RX9) (T := TX9) (N := 42) (ci := 9) (v := .int (I9 0 17)) hx hb hts in_X9_party_X9 hown hK hP (oX9 h0) rfl 17 (by decide) (hts (.fieldLink RX9 93 "RowsOnlyPrimesModel" "parties" "I") (by decide +kernel)) (fun _ h9 => h9) rfl dX9_party_84 ?_
            refine lv_iconst (v := 1) hx hb dX9_party_87 (by decide) ?_
            refine lv_isub hx hb dX9_party_88 ?_
            have e9 := Option.some.inj hf
            have eI9 : I9 = Ie := (congrArg Prod.snd e9)
            exact W.iret hx hb hr (fun t ht _ => ⟨⟨_, (), rfl, (congrArg Prod.fst e9), by show qP D _ ad _ _ _ t.heap; rw [ht, ← eI9]; exact hP⟩, hS.F ht⟩) hS.2.2 dX9_party_89
          · have hf := (if_ok hf).1 cc
            refine lv_aload_n hx hb dX9_party_66 rfl (lv_at hl 0 rfl) ?_
            refine lv_sipush (v := -1006) hx hb dX9_party_67 (by decide) ?_
            obtain ⟨v11, I12, h13, hf⟩ := bd2_ok hf
            refine q_cEi (va_runV (As := [.int (-1006 : Int32)]) (rest := []) ⟨hx, hb, hml, hown, hts⟩ (c_X9_refuse l (D := D) (ad := ad) (cy := cy) (sa := sa) (va := va) (I := I) (J := J) (S := S) h0 (-1006 : Int32) h13) (cwV 1 hts gX9_party_X9_refuse rfl rfl rfl (by decide +kernel) ⟨Nat.le_of_ble_eq_true rfl, Nat.le_of_ble_eq_true rfl⟩) ⟨qPre_blind _, q_recv hK hP (oX9 h0) rfl, fun U hU hW => ⟨rfl, qPre_of hP hK hE hN hS U hU hW⟩⟩ rfl rfl hl.1 rfl (lv_room (Nat.le_of_ble_eq_true rfl)) dX9_party_70 ⟨Nat.le_of_ble_eq_true rfl, Nat.le_of_ble_eq_true rfl⟩) hS (fun H locs hP hS => ?_)
            have e9 := Option.some.inj hf
            have eI9 : I12 = Ie := (congrArg Prod.snd e9)
            exact W.iret hx hb hr (fun t ht _ => ⟨⟨_, (), rfl, (congrArg Prod.fst e9), by show qP D _ ad _ _ _ t.heap; rw [ht, ← eI9]; exact hP⟩, hS.F ht⟩) hS.2.2 dX9_party_73
        · have hf := (if_ok hf).1 cc
          exact w_X9_party_49 C hK hE hN h0   I _ _ _ hf (lv_sub hl [0] rfl) hP hS
end
