/-! machine: the same (written by wip/gen/mkspec.py) -/
section
variable {p : Program} {l : Launch} {e : Env} {s : State} {m : MethodId} {args : Array Value} {below : List Frame} {meth : Method} {c : Code} {D : va_G} {ad : Nat → Nat} {cy : Nat → ClassId} {sa va : Nat → Nat}
theorem fl_tried {b : Nat} {f : Nat → Int32} {g : Nat → Int64} (h : ¬ f 27 = 0) : (flX9 ad b f g)[27]? = some (.ref (ad 40)) := by
  show some (if f 27 = 0 then Value.null else .ref (ad 40)) = _
  rw [if_neg h]
theorem fl_kept {b : Nat} {f : Nat → Int32} {g : Nat → Int64} (h : ¬ f 26 = 0) : (flX9 ad b f g)[26]? = some (.ref (ad 80)) := by
  show some (if f 26 = 0 then Value.null else .ref (ad 80)) = _
  rw [if_neg h]
theorem fl_tried0 {b : Nat} {f : Nat → Int32} {g : Nat → Int64} (h : f 27 = 0) : (flX9 ad b f g)[27]? = some .null := by
  show some (if f 27 = 0 then Value.null else .ref (ad 40)) = _
  rw [if_pos h]
theorem fl_kept0 {b : Nat} {f : Nat → Int32} {g : Nat → Int64} (h : f 26 = 0) : (flX9 ad b f g)[26]? = some .null := by
  show some (if f 26 = 0 then Value.null else .ref (ad 80)) = _
  rw [if_pos h]
abbrev r_X9_bank : Room := { frames := 9, cells := 40, slots := 4180, locals := 188 }
theorem in_X9_bank_X9 : ∀ w ∈ u_ws RX9 TX9 42, w ∈ wsX9_bank := by decide +kernel
set_option maxHeartbeats 4000000 in
set_option maxRecDepth 100000 in
theorem w_X9_bank_18 {Qc : Array Value → State → Outcome → State → Prop} {fr : Addr → Prop} {S : Nat → Prop} (C : qC p s m args meth c cX9_bank 2 RX9 wsX9_bank (some .int)) (hK : qK D cy sa s) (hE : qEnv sa va (qA S ad) s s.heap) (hN : qN S ad) (h0 : isM0 S)  (h40 : isM S 40) {J : qJ} {r : Int32} {Ie : qI} (hQ : ∀ t : State, qP D S ad (eM ad cy) Ie J t.heap → va_F (qA S ad) s t → Qc args s (.returned (some (.int r))) t) (hfr : ∀ q, qA S ad q → fr q) : ∀   (I : qI) (ls : Array Slot) (H : Heap) (locs : List Loc), f_X9_bank_18 I = some (r, Ie) → lv_has ls 2 [(0, .ref (ad 0))] → qP D S ad (eM ad cy) I J H → va_S (qA S ad) s.heap H locs → W p l e (headSpec wsX9_bank r_X9_bank).room s m args below meth c H locs 40 4180 (MQ below Qc args s 40 4180 fr) (F0 m 18 ls []) := by
  have C0 := C
  obtain ⟨⟨hx, hb, hml, hown, hts⟩, hr, hlocks⟩ := C0
  intro I ls H locs hf hl hP hS
  unfold f_X9_bank_18 at hf
  refine lv_aload_n hx hb dX9_bank_18 rfl (lv_at hl 0 rfl) ?_
  obtain ⟨g1, hf⟩ := gd_ok hf
  refine q_get (C := RX9) (T := TX9) (N := 42) (ci := 9) (v := .ref (ad 40)) hx hb hts in_X9_bank_X9 hown hK hP (oX9 h0) rfl 27 (by decide) (hts (.fieldLink RX9 241 "RowsOnlyPrimesModel" "tried" "LRowsOnlyPrimesModel;") (by decide +kernel)) (fun _ h9 => h9) (fl_tried g1) dX9_bank_19 ?_
  refine lv_aload_n hx hb dX9_bank_22 rfl (lv_at hl 0 rfl) ?_
  obtain ⟨I2, h3, hf⟩ := bd_ok hf
  refine q_cEv (va_runV (As := [.ref (ad 0)]) (rest := []) ⟨hx, hb, hml, hown, hts⟩ (c_X9_takeFrom l (D := D) (ad := ad) (cy := cy) (sa := sa) (va := va) (I := I) (J := J) (S := S) h0 40 0 h40 h0 h3) (cwV 1 hts gX9_bank_X9_takeFrom rfl rfl rfl (by decide +kernel) ⟨Nat.le_of_ble_eq_true rfl, Nat.le_of_ble_eq_true rfl⟩) ⟨qPre_blind _, q_recv hK hP (oX9 h40) rfl, fun U hU hW => ⟨rfl, qPre_of hP hK hE hN hS U hU hW⟩⟩ rfl rfl hl.1 rfl (lv_room (Nat.le_of_ble_eq_true rfl)) dX9_bank_23 ⟨Nat.le_of_ble_eq_true rfl, Nat.le_of_ble_eq_true rfl⟩) hS (fun H locs hP hS => ?_)
  refine lv_aload_n hx hb dX9_bank_26 rfl (lv_at hl 0 rfl) ?_
  obtain ⟨v4, I5, h6, hf⟩ := bd2_ok hf
  refine q_cEi (va_runV (As := []) (rest := []) ⟨hx, hb, hml, hown, hts⟩ (c_X9_readAll l (D := D) (ad := ad) (cy := cy) (sa := sa) (va := va) (I := I2) (J := J) (S := S) h0  h6) (cwV 0 hts gX9_bank_X9_readAll rfl rfl rfl (by decide +kernel) ⟨Nat.le_of_ble_eq_true rfl, Nat.le_of_ble_eq_true rfl⟩) ⟨qPre_blind _, q_recv hK hP (oX9 h0) rfl, fun U hU hW => ⟨rfl, qPre_of hP hK hE hN hS U hU hW⟩⟩ rfl rfl hl.1 rfl (lv_room (Nat.le_of_ble_eq_true rfl)) dX9_bank_27 ⟨Nat.le_of_ble_eq_true rfl, Nat.le_of_ble_eq_true rfl⟩) hS (fun H locs hP hS => ?_)
  refine lv_istore_n (lv' := [(1, .int v4), (0, .ref (ad 0))]) hx hb dX9_bank_30 rfl hl (by decide) rfl (fun ls hl => ?_)
  refine lv_aload_n hx hb dX9_bank_31 rfl (lv_at hl 1 rfl) ?_
  refine lv_iconst (v := 0) hx hb dX9_bank_32 (by decide) ?_
  obtain ⟨I7, eI7, hf⟩ := lt_ok hf
  refine q_put (C := RX9) (T := TX9) (N := 42) (ci := 9) (v := .int (0 : Int32)) (x := (0 : Int32)) (ty := .int) hx hb hts in_X9_bank_X9 tyX9 tyX9_ok nmX9 hown hK hP hN hS (oX9 h0) rfl 7 (by decide) (hts (.fieldLink RX9 161 "RowsOnlyPrimesModel" "tapeSize" "I") (by decide +kernel)) (fun _ h9 => h9) rfl (by decide +kernel) rfl rfl (fun _ _ => rfl) (fun _ _ => Nat.le_of_ble_eq_true rfl) dX9_bank_33 (fun H locs hP hS => ?_)
  rw [← eI7] at hP
  refine lv_iload_n hx hb dX9_bank_36 rfl (lv_at hl 0 rfl) ?_
  refine lv_if_ne (tgt := 65) hx hb dX9_bank_37 (by decide) (fun cc => ?_) (fun cc => ?_)
  · have hf := (if_ok hf).2 cc
    refine lv_aload_n hx hb dX9_bank_65 rfl (lv_at hl 1 rfl) ?_
    refine q_get (C := RX9) (T := TX9) (N := 42) (ci := 9) (v := .int (I7 0 34)) hx hb hts in_X9_bank_X9 hown hK hP (oX9 h0) rfl 34 (by decide) (hts (.fieldLink RX9 235 "RowsOnlyPrimesModel" "statements" "I") (by decide +kernel)) (fun _ h9 => h9) rfl dX9_bank_66 ?_
    have e9 := Option.some.inj hf
    have eI9 : I7 = Ie := (congrArg Prod.snd e9)
    obtain ⟨er9, -⟩ := Prod.mk.inj e9
    subst er9
    exact W.iret hx hb hr (fun t ht _ => hQ t (by show qP D _ ad _ _ _ t.heap; rw [ht, ← eI9]; exact hP) (hS.F ht)) (fun q hq => hfr _ (hS.2.2 q hq)) dX9_bank_69
  · have hf := (if_ok hf).1 cc
    refine lv_aload_n hx hb dX9_bank_40 rfl (lv_at hl 1 rfl) ?_
    refine lv_aload_n hx hb dX9_bank_41 rfl (lv_at hl 1 rfl) ?_
    obtain ⟨g8, hf⟩ := gd_ok hf
    refine q_get (C := RX9) (T := TX9) (N := 42) (ci := 9) (v := .ref (ad 40)) hx hb hts in_X9_bank_X9 hown hK hP (oX9 h0) rfl 27 (by decide) (hts (.fieldLink RX9 241 "RowsOnlyPrimesModel" "tried" "LRowsOnlyPrimesModel;") (by decide +kernel)) (fun _ h9 => h9) (fl_tried g8) dX9_bank_42 ?_
    obtain ⟨I9, h10, hf⟩ := bd_ok hf
    refine q_cEv (va_runV (As := [.ref (ad 40)]) (rest := []) ⟨hx, hb, hml, hown, hts⟩ (c_X9_takeFrom l (D := D) (ad := ad) (cy := cy) (sa := sa) (va := va) (I := I7) (J := J) (S := S) h0 0 40 h0 h40 h10) (cwV 1 hts gX9_bank_X9_takeFrom rfl rfl rfl (by decide +kernel) ⟨Nat.le_of_ble_eq_true rfl, Nat.le_of_ble_eq_true rfl⟩) ⟨qPre_blind _, q_recv hK hP (oX9 h0) rfl, fun U hU hW => ⟨rfl, qPre_of hP hK hE hN hS U hU hW⟩⟩ rfl rfl hl.1 rfl (lv_room (Nat.le_of_ble_eq_true rfl)) dX9_bank_45 ⟨Nat.le_of_ble_eq_true rfl, Nat.le_of_ble_eq_true rfl⟩) hS (fun H locs hP hS => ?_)
    refine lv_aload_n hx hb dX9_bank_48 rfl (lv_at hl 1 rfl) ?_
    refine lv_sipush (v := -1002) hx hb dX9_bank_49 (by decide) ?_
    obtain ⟨v11, I12, h13, hf⟩ := bd2_ok hf
    refine q_cEi (va_runV (As := [.int (-1002 : Int32)]) (rest := []) ⟨hx, hb, hml, hown, hts⟩ (c_X9_refuse l (D := D) (ad := ad) (cy := cy) (sa := sa) (va := va) (I := I9) (J := J) (S := S) h0 (-1002 : Int32) h13) (cwV 1 hts gX9_bank_X9_refuse rfl rfl rfl (by decide +kernel) ⟨Nat.le_of_ble_eq_true rfl, Nat.le_of_ble_eq_true rfl⟩) ⟨qPre_blind _, q_recv hK hP (oX9 h0) rfl, fun U hU hW => ⟨rfl, qPre_of hP hK hE hN hS U hU hW⟩⟩ rfl rfl hl.1 rfl (lv_room (Nat.le_of_ble_eq_true rfl)) dX9_bank_52 ⟨Nat.le_of_ble_eq_true rfl, Nat.le_of_ble_eq_true rfl⟩) hS (fun H locs hP hS => ?_)
    refine lv_pop hx hb dX9_bank_55 rfl ?_
    refine lv_sipush (v := -2000) hx hb dX9_bank_56 (by decide) ?_
    refine lv_aload_n hx hb dX9_bank_59 rfl (lv_at hl 1 rfl) ?_
    refine q_get (C := RX9) (T := TX9) (N := 42) (ci := 9) (v := .int (I12 0 32)) hx hb hts in_X9_bank_X9 hown hK hP (oX9 h0) rfl 32 (by decide) (hts (.fieldLink RX9 182 "RowsOnlyPrimesModel" "fault" "I") (by decide +kernel)) (fun _ h9 => h9) rfl dX9_bank_60 ?_
    refine lv_isub hx hb dX9_bank_63 ?_
    have e9 := Option.some.inj hf
    have eI9 : I12 = Ie := (congrArg Prod.snd e9)
    obtain ⟨er9, -⟩ := Prod.mk.inj e9
    subst er9
    exact W.iret hx hb hr (fun t ht _ => hQ t (by show qP D _ ad _ _ _ t.heap; rw [ht, ← eI9]; exact hP) (hS.F ht)) (fun q hq => hfr _ (hS.2.2 q hq)) dX9_bank_64
abbrev r_X9_image : Room := { frames := 2, cells := 40, slots := 4180, locals := 43 }
theorem in_X9_image_X9 : ∀ w ∈ u_ws RX9 TX9 42, w ∈ wsX9_image := by decide +kernel
set_option maxHeartbeats 4000000 in
set_option maxRecDepth 100000 in
theorem w_X9_image_18 {Qc : Array Value → State → Outcome → State → Prop} {fr : Addr → Prop} {S : Nat → Prop} (C : qC p s m args meth c cX9_image 1 RX9 wsX9_image (some .int)) (hK : qK D cy sa s) (hE : qEnv sa va (qA S ad) s s.heap) (hN : qN S ad) (h0 : isM0 S)  (h80 : isM S 80) {J : qJ} {r : Int32} {Ie : qI} (hQ : ∀ t : State, qP D S ad (eM ad cy) Ie J t.heap → va_F (qA S ad) s t → Qc args s (.returned (some (.int r))) t) (hfr : ∀ q, qA S ad q → fr q) : ∀   (I : qI) (ls : Array Slot) (H : Heap) (locs : List Loc), f_X9_image_18 I = some (r, Ie) → lv_has ls 1 [(0, .ref (ad 0))] → qP D S ad (eM ad cy) I J H → va_S (qA S ad) s.heap H locs → W p l e (headSpec wsX9_image r_X9_image).room s m args below meth c H locs 40 4180 (MQ below Qc args s 40 4180 fr) (F0 m 18 ls []) := by
  have C0 := C
  obtain ⟨⟨hx, hb, hml, hown, hts⟩, hr, hlocks⟩ := C0
  intro I ls H locs hf hl hP hS
  unfold f_X9_image_18 at hf
  refine lv_aload_n hx hb dX9_image_18 rfl (lv_at hl 0 rfl) ?_
  obtain ⟨g1, hf⟩ := gd_ok hf
  refine q_get (C := RX9) (T := TX9) (N := 42) (ci := 9) (v := .ref (ad 80)) hx hb hts in_X9_image_X9 hown hK hP (oX9 h0) rfl 26 (by decide) (hts (.fieldLink RX9 361 "RowsOnlyPrimesModel" "kept" "LRowsOnlyPrimesModel;") (by decide +kernel)) (fun _ h9 => h9) (fl_kept g1) dX9_image_19 ?_
  refine lv_aload_n hx hb dX9_image_22 rfl (lv_at hl 0 rfl) ?_
  obtain ⟨I2, h3, hf⟩ := bd_ok hf
  refine q_cEv (va_runV (As := [.ref (ad 0)]) (rest := []) ⟨hx, hb, hml, hown, hts⟩ (c_X9_takeFrom l (D := D) (ad := ad) (cy := cy) (sa := sa) (va := va) (I := I) (J := J) (S := S) h0 80 0 h80 h0 h3) (cwV 1 hts gX9_image_X9_takeFrom rfl rfl rfl (by decide +kernel) ⟨Nat.le_of_ble_eq_true rfl, Nat.le_of_ble_eq_true rfl⟩) ⟨qPre_blind _, q_recv hK hP (oX9 h80) rfl, fun U hU hW => ⟨rfl, qPre_of hP hK hE hN hS U hU hW⟩⟩ rfl rfl hl.1 rfl (lv_room (Nat.le_of_ble_eq_true rfl)) dX9_image_23 ⟨Nat.le_of_ble_eq_true rfl, Nat.le_of_ble_eq_true rfl⟩) hS (fun H locs hP hS => ?_)
  refine lv_iconst (v := 1) hx hb dX9_image_26 (by decide) ?_
  have e9 := Option.some.inj hf
  have eI9 : I2 = Ie := (congrArg Prod.snd e9)
  obtain ⟨er9, -⟩ := Prod.mk.inj e9
  subst er9
  exact W.iret hx hb hr (fun t ht _ => hQ t (by show qP D _ ad _ _ _ t.heap; rw [ht, ← eI9]; exact hP) (hS.F ht)) (fun q hq => hfr _ (hS.2.2 q hq)) dX9_image_27
abbrev r_X9_back : Room := { frames := 2, cells := 40, slots := 4180, locals := 43 }
theorem in_X9_back_X9 : ∀ w ∈ u_ws RX9 TX9 42, w ∈ wsX9_back := by decide +kernel
set_option maxHeartbeats 4000000 in
set_option maxRecDepth 100000 in
theorem w_X9_back_25 {Qc : Array Value → State → Outcome → State → Prop} {fr : Addr → Prop} {S : Nat → Prop} (C : qC p s m args meth c cX9_back 2 RX9 wsX9_back (some .int)) (hK : qK D cy sa s) (hE : qEnv sa va (qA S ad) s s.heap) (hN : qN S ad) (h0 : isM0 S)  (h80 : isM S 80) {J : qJ} {r : Int32} {Ie : qI} (hQ : ∀ t : State, qP D S ad (eM ad cy) Ie J t.heap → va_F (qA S ad) s t → Qc args s (.returned (some (.int r))) t) (hfr : ∀ q, qA S ad q → fr q) : ∀ (n : Nat) (x1 : Int32)  (I : qI) (ls : Array Slot) (H : Heap) (locs : List Loc), f_X9_back_25 n x1 I = some (r, Ie) → lv_has ls 2 [(0, .ref (ad 0)), (1, .int x1)] → qP D S ad (eM ad cy) I J H → va_S (qA S ad) s.heap H locs → W p l e (headSpec wsX9_back r_X9_back).room s m args below meth c H locs 40 4180 (MQ below Qc args s 40 4180 fr) (F0 m 25 ls []) := by
  have C0 := C
  obtain ⟨⟨hx, hb, hml, hown, hts⟩, hr, hlocks⟩ := C0
  intro n
  induction n with
  | zero =>
    intro x1 I ls H locs hf hl hP hS
    rw [f_X9_back_25] at hf
    cases hf
  | succ n ih =>
    intro x1 I ls H locs hf hl hP hS
    rw [f_X9_back_25] at hf
    refine lv_iload_n hx hb dX9_back_25 rfl (lv_at hl 1 rfl) ?_
    refine lv_bipush (v := 8) hx hb dX9_back_26 (by decide) ?_
    refine lv_icmp_ge (tgt := 67) hx hb dX9_back_28 (by decide) (fun cc => ?_) (fun cc => ?_)
    · have hf := (if_ok hf).1 cc
      refine lv_iconst (v := 1) hx hb dX9_back_67 (by decide) ?_
      have e9 := Option.some.inj hf
      have eI9 : I = Ie := (congrArg Prod.snd e9)
      obtain ⟨er9, -⟩ := Prod.mk.inj e9
      subst er9
      exact W.iret hx hb hr (fun t ht _ => hQ t (by show qP D _ ad _ _ _ t.heap; rw [ht, ← eI9]; exact hP) (hS.F ht)) (fun q hq => hfr _ (hS.2.2 q hq)) dX9_back_68
    · have hf := (if_ok hf).2 cc
      refine lv_aload_n hx hb dX9_back_31 rfl (lv_at hl 0 rfl) ?_
      refine q_get (C := RX9) (T := TX9) (N := 42) (ci := 9) (v := .ref (ad 1)) hx hb hts in_X9_back_X9 hown hK hP (oX9 h0) rfl 0 (by decide) (hts (.fieldLink RX9 7 "RowsOnlyPrimesModel" "shelf" "[I") (by decide +kernel)) (fun _ h9 => h9) rfl dX9_back_32 ?_
      refine lv_iload_n hx hb dX9_back_35 rfl (lv_at hl 1 rfl) ?_
      obtain ⟨g1, hf⟩ := gd_ok hf
      refine q_iald hx hb hK hP (a0X9_1 h0) g1 dX9_back_36 ?_
      refine lv_iconst (v := 2) hx hb dX9_back_37 (by decide) ?_
      refine lv_icmp_ne (tgt := 61) hx hb dX9_back_38 (by decide) (fun cc => ?_) (fun cc => ?_)
      · have hf := (if_ok hf).2 cc
        refine lv_iinc (v := (x1 + (1 : Int32))) (lv' := [(1, .int (x1 + (1 : Int32))), (0, .ref (ad 0))]) hx hb dX9_back_61 hl (k := 1) rfl rfl (by decide) rfl (fun ls hl => ?_)
        refine lv_goto (tgt := 25) hx hb dX9_back_64 (by decide) ?_
        exact ih (x1 + (1 : Int32)) I _ _ _ hf (lv_sub hl [1, 0] rfl) hP hS
      · have hf := (if_ok hf).1 cc
        refine lv_aload_n hx hb dX9_back_41 rfl (lv_at hl 0 rfl) ?_
        refine q_get (C := RX9) (T := TX9) (N := 42) (ci := 9) (v := .ref (ad 14)) hx hb hts in_X9_back_X9 hown hK hP (oX9 h0) rfl 5 (by decide) (hts (.fieldLink RX9 28 "RowsOnlyPrimesModel" "shown" "[I") (by decide +kernel)) (fun _ h9 => h9) rfl dX9_back_42 ?_
        refine lv_iload_n hx hb dX9_back_45 rfl (lv_at hl 1 rfl) ?_
        obtain ⟨g2, hf⟩ := gd_ok hf
        refine q_iald hx hb hK hP (a0X9_14 h0) g2 dX9_back_46 ?_
        refine lv_aload_n hx hb dX9_back_47 rfl (lv_at hl 0 rfl) ?_
        refine q_get (C := RX9) (T := TX9) (N := 42) (ci := 9) (v := .int (I 0 17)) hx hb hts in_X9_back_X9 hown hK hP (oX9 h0) rfl 17 (by decide) (hts (.fieldLink RX9 93 "RowsOnlyPrimesModel" "parties" "I") (by decide +kernel)) (fun _ h9 => h9) rfl dX9_back_48 ?_
        refine lv_icmp_lt (tgt := 61) hx hb dX9_back_51 (by decide) (fun cc => ?_) (fun cc => ?_)
        · have hf := (if_ok hf).1 cc
          refine lv_iinc (v := (x1 + (1 : Int32))) (lv' := [(1, .int (x1 + (1 : Int32))), (0, .ref (ad 0))]) hx hb dX9_back_61 hl (k := 1) rfl rfl (by decide) rfl (fun ls hl => ?_)
          refine lv_goto (tgt := 25) hx hb dX9_back_64 (by decide) ?_
          exact ih (x1 + (1 : Int32)) I _ _ _ hf (lv_sub hl [1, 0] rfl) hP hS
        · have hf := (if_ok hf).2 cc
          refine lv_aload_n hx hb dX9_back_54 rfl (lv_at hl 0 rfl) ?_
          refine q_get (C := RX9) (T := TX9) (N := 42) (ci := 9) (v := .ref (ad 1)) hx hb hts in_X9_back_X9 hown hK hP (oX9 h0) rfl 0 (by decide) (hts (.fieldLink RX9 7 "RowsOnlyPrimesModel" "shelf" "[I") (by decide +kernel)) (fun _ h9 => h9) rfl dX9_back_55 ?_
          refine lv_iload_n hx hb dX9_back_58 rfl (lv_at hl 1 rfl) ?_
          refine lv_iconst (v := 0) hx hb dX9_back_59 (by decide) ?_
          obtain ⟨g3, hf⟩ := gd_ok hf
          obtain ⟨I4, eI4, hf⟩ := lt_ok hf
          refine q_iast hx hb hK hP hN hS (a0X9_1 h0) g3 dX9_back_60 (fun H locs hP hS => ?_)
          have hP : qP D S ad (eM ad cy) I4 J H := by rw [eI4]; exact hP
          refine lv_iinc (v := (x1 + (1 : Int32))) (lv' := [(1, .int (x1 + (1 : Int32))), (0, .ref (ad 0))]) hx hb dX9_back_61 hl (k := 1) rfl rfl (by decide) rfl (fun ls hl => ?_)
          refine lv_goto (tgt := 25) hx hb dX9_back_64 (by decide) ?_
          exact ih (x1 + (1 : Int32)) I4 _ _ _ hf (lv_sub hl [1, 0] rfl) hP hS
set_option maxHeartbeats 4000000 in
set_option maxRecDepth 100000 in
theorem w_X9_back_15 {Qc : Array Value → State → Outcome → State → Prop} {fr : Addr → Prop} {S : Nat → Prop} (C : qC p s m args meth c cX9_back 2 RX9 wsX9_back (some .int)) (hK : qK D cy sa s) (hE : qEnv sa va (qA S ad) s s.heap) (hN : qN S ad) (h0 : isM0 S)  (h80 : isM S 80) {J : qJ} {r : Int32} {Ie : qI} (hQ : ∀ t : State, qP D S ad (eM ad cy) Ie J t.heap → va_F (qA S ad) s t → Qc args s (.returned (some (.int r))) t) (hfr : ∀ q, qA S ad q → fr q) : ∀   (I : qI) (ls : Array Slot) (H : Heap) (locs : List Loc), f_X9_back_15 I = some (r, Ie) → lv_has ls 2 [(0, .ref (ad 0))] → qP D S ad (eM ad cy) I J H → va_S (qA S ad) s.heap H locs → W p l e (headSpec wsX9_back r_X9_back).room s m args below meth c H locs 40 4180 (MQ below Qc args s 40 4180 fr) (F0 m 15 ls []) := by
  have C0 := C
  obtain ⟨⟨hx, hb, hml, hown, hts⟩, hr, hlocks⟩ := C0
  intro I ls H locs hf hl hP hS
  unfold f_X9_back_15 at hf
  refine lv_aload_n hx hb dX9_back_15 rfl (lv_at hl 0 rfl) ?_
  refine lv_aload_n hx hb dX9_back_16 rfl (lv_at hl 0 rfl) ?_
  obtain ⟨g1, hf⟩ := gd_ok hf
  refine q_get (C := RX9) (T := TX9) (N := 42) (ci := 9) (v := .ref (ad 80)) hx hb hts in_X9_back_X9 hown hK hP (oX9 h0) rfl 26 (by decide) (hts (.fieldLink RX9 361 "RowsOnlyPrimesModel" "kept" "LRowsOnlyPrimesModel;") (by decide +kernel)) (fun _ h9 => h9) (fl_kept g1) dX9_back_17 ?_
  obtain ⟨I2, h3, hf⟩ := bd_ok hf
  refine q_cEv (va_runV (As := [.ref (ad 80)]) (rest := []) ⟨hx, hb, hml, hown, hts⟩ (c_X9_takeFrom l (D := D) (ad := ad) (cy := cy) (sa := sa) (va := va) (I := I) (J := J) (S := S) h0 0 80 h0 h80 h3) (cwV 1 hts gX9_back_X9_takeFrom rfl rfl rfl (by decide +kernel) ⟨Nat.le_of_ble_eq_true rfl, Nat.le_of_ble_eq_true rfl⟩) ⟨qPre_blind _, q_recv hK hP (oX9 h0) rfl, fun U hU hW => ⟨rfl, qPre_of hP hK hE hN hS U hU hW⟩⟩ rfl rfl hl.1 rfl (lv_room (Nat.le_of_ble_eq_true rfl)) dX9_back_20 ⟨Nat.le_of_ble_eq_true rfl, Nat.le_of_ble_eq_true rfl⟩) hS (fun H locs hP hS => ?_)
  refine lv_iconst (v := 0) hx hb dX9_back_23 (by decide) ?_
  refine lv_istore_n (lv' := [(1, .int (0 : Int32)), (0, .ref (ad 0))]) hx hb dX9_back_24 rfl hl (by decide) rfl (fun ls hl => ?_)
  exact w_X9_back_25 C hK hE hN h0 h80 hQ hfr  1000 (0 : Int32) I2 _ _ _ hf (lv_sub hl [1, 0] rfl) hP hS
end
