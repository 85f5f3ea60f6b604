/-! machine: X9_give X9_binds X9_boundOf X9_bind X9_set_ X9_tell X9_feed X9_wipe X9_isLetter X9_isDigit X9_look X9_wrong X9_isWord X9_number X9_tells X9_tellsParty X9_tellsTwo (written by wip/gen/gen.py) -/
section
variable {p : Program} {l : Launch} {e : Env} {s : State} {m : MethodId} {args : Array Value} {below : List Frame} {meth : Method} {c : Code} {D : va_G} {ad : Nat → Nat} {cy : Nat → ClassId} {sa va : Nat → Nat}
abbrev r_X9_give : Room := { frames := 2, cells := 0, slots := 0, locals := 46 }
theorem in_X9_give_X9 : ∀ w ∈ u_ws RX9 TX9 42, w ∈ wsX9_give := by decide +kernel
set_option maxHeartbeats 4000000 in
set_option maxRecDepth 100000 in
theorem w_X9_give_48 {S : Nat → Prop} (C : qC p s m args meth c cX9_give 5 RX9 wsX9_give (some .int)) (hK : qK D cy sa s) (hE : qEnv sa va (qA S ad) s s.heap) (hN : qN S ad) (h0 : isM0 S)   {J : qJ} {r : Int32} {Ie : qI} : ∀   (I : qI) (ls : Array Slot) (H : Heap) (locs : List Loc), f_X9_give_48 I = some (r, Ie) → lv_has ls 5 [(0, .ref (ad 0))] → qP D S ad (eM ad cy) I J H → va_S (qA S ad) s.heap H locs → W p l e (headSpec wsX9_give r_X9_give).room s m args below meth c H locs 0 0 (MQ below (va_Qi (S := Unit) (fun x _ => x = r) (fun _ t => qP D S ad (eM ad cy) Ie J t.heap) (qA S ad)) args s 0 0 (qA S ad)) (F0 m 48 ls []) := by
  have C0 := C
  obtain ⟨⟨hx, hb, hml, hown, hts⟩, hr, hlocks⟩ := C0
  intro I ls H locs hf hl hP hS
  unfold f_X9_give_48 at hf
  refine lv_aload_n hx hb dX9_give_48 rfl (lv_at hl 0 rfl) ?_
  refine lv_sipush (v := -1002) hx hb dX9_give_49 (by decide) ?_
  obtain ⟨v1, I2, h3, hf⟩ := bd2_ok hf
  refine q_cEi (va_runV (As := [.int (-1002 : Int32)]) (rest := []) ⟨hx, hb, hml, hown, hts⟩ (c_X9_refuse l (D := D) (ad := ad) (cy := cy) (sa := sa) (va := va) (I := I) (J := J) (S := S) h0 (-1002 : Int32) h3) (cwV 1 hts gX9_give_X9_refuse rfl rfl rfl (by decide +kernel) ⟨Nat.le_of_ble_eq_true rfl, Nat.le_of_ble_eq_true rfl⟩) ⟨qPre_blind _, q_recv hK hP (oX9 h0) rfl, fun U hU hW => ⟨rfl, qPre_of hP hK hE hN hS U hU hW⟩⟩ rfl rfl hl.1 rfl (lv_room (Nat.le_of_ble_eq_true rfl)) dX9_give_52 ⟨Nat.le_of_ble_eq_true rfl, Nat.le_of_ble_eq_true rfl⟩) hS (fun H locs hP hS => ?_)
  have e9 := Option.some.inj hf
  have eI9 : I2 = Ie := (congrArg Prod.snd e9)
  exact W.iret hx hb hr (fun t ht _ => ⟨⟨_, (), rfl, (congrArg Prod.fst e9), by show qP D _ ad _ _ _ t.heap; rw [ht, ← eI9]; exact hP⟩, hS.F ht⟩) hS.2.2 dX9_give_55
set_option maxHeartbeats 4000000 in
set_option maxRecDepth 100000 in
theorem w_X9_give_117 {S : Nat → Prop} (C : qC p s m args meth c cX9_give 5 RX9 wsX9_give (some .int)) (hK : qK D cy sa s) (hE : qEnv sa va (qA S ad) s s.heap) (hN : qN S ad) (h0 : isM0 S)   {J : qJ} {r : Int32} {Ie : qI} : ∀ (x4 : Int32) (xs0 : Int32) (xs1 : Int32)  (I : qI) (ls : Array Slot) (H : Heap) (locs : List Loc), f_X9_give_117 x4 xs0 xs1 I = some (r, Ie) → lv_has ls 5 [(4, .int x4)] → qP D S ad (eM ad cy) I J H → va_S (qA S ad) s.heap H locs → W p l e (headSpec wsX9_give r_X9_give).room s m args below meth c H locs 0 0 (MQ below (va_Qi (S := Unit) (fun x _ => x = r) (fun _ t => qP D S ad (eM ad cy) Ie J t.heap) (qA S ad)) args s 0 0 (qA S ad)) (F0 m 117 ls [.int xs0, .int xs1, .ref (ad 20)]) := by
  have C0 := C
  obtain ⟨⟨hx, hb, hml, hown, hts⟩, hr, hlocks⟩ := C0
  intro x4 xs0 xs1 I ls H locs hf hl hP hS
  unfold f_X9_give_117 at hf
  obtain ⟨g1, hf⟩ := gd_ok hf
  obtain ⟨I2, eI2, hf⟩ := lt_ok hf
  refine q_iast hx hb hK hP hN hS (a0X9_20 h0) g1 dX9_give_117 (fun H locs hP hS => ?_)
  have hP : qP D S ad (eM ad cy) I2 J H := by rw [eI2]; exact hP
  refine lv_iload hx hb dX9_give_118 (lv_at hl 0 rfl) ?_
  have e9 := Option.some.inj hf
  have eI9 : I2 = Ie := (congrArg Prod.snd e9)
  exact W.iret hx hb hr (fun t ht _ => ⟨⟨_, (), rfl, (congrArg Prod.fst e9), by show qP D _ ad _ _ _ t.heap; rw [ht, ← eI9]; exact hP⟩, hS.F ht⟩) hS.2.2 dX9_give_120
set_option maxHeartbeats 4000000 in
set_option maxRecDepth 100000 in
theorem w_X9_give_96 {S : Nat → Prop} (C : qC p s m args meth c cX9_give 5 RX9 wsX9_give (some .int)) (hK : qK D cy sa s) (hE : qEnv sa va (qA S ad) s s.heap) (hN : qN S ad) (h0 : isM0 S)   {J : qJ} {r : Int32} {Ie : qI} : ∀ (x1 : Int32) (x2 : Int32) (x3 : Int32) (x4 : Int32) (xs0 : Int32) (xs1 : Int32)  (I : qI) (ls : Array Slot) (H : Heap) (locs : List Loc), f_X9_give_96 x1 x2 x3 x4 xs0 xs1 I = some (r, Ie) → lv_has ls 5 [(0, .ref (ad 0)), (1, .int x1), (2, .int x2), (3, .int x3), (4, .int x4)] → qP D S ad (eM ad cy) I J H → va_S (qA S ad) s.heap H locs → W p l e (headSpec wsX9_give r_X9_give).room s m args below meth c H locs 0 0 (MQ below (va_Qi (S := Unit) (fun x _ => x = r) (fun _ t => qP D S ad (eM ad cy) Ie J t.heap) (qA S ad)) args s 0 0 (qA S ad)) (F0 m 96 ls [.int xs0, .int xs1, .ref (ad 19)]) := by
  have C0 := C
  obtain ⟨⟨hx, hb, hml, hown, hts⟩, hr, hlocks⟩ := C0
  intro x1 x2 x3 x4 xs0 xs1 I ls H locs hf hl hP hS
  unfold f_X9_give_96 at hf
  obtain ⟨g1, hf⟩ := gd_ok hf
  obtain ⟨I2, eI2, hf⟩ := lt_ok hf
  refine q_iast hx hb hK hP hN hS (a0X9_19 h0) g1 dX9_give_96 (fun H locs hP hS => ?_)
  have hP : qP D S ad (eM ad cy) I2 J H := by rw [eI2]; exact hP
  refine lv_aload_n hx hb dX9_give_97 rfl (lv_at hl 0 rfl) ?_
  refine q_get (C := RX9) (T := TX9) (N := 42) (ci := 9) (v := .ref (ad 20)) hx hb hts in_X9_give_X9 hown hK hP (oX9 h0) rfl 22 (by decide) (hts (.fieldLink RX9 59 "RowsOnlyPrimesModel" "purse" "[I") (by decide +kernel)) (fun _ h9 => h9) rfl dX9_give_98 ?_
  refine lv_iload_n hx hb dX9_give_101 rfl (lv_at hl 1 rfl) ?_
  refine lv_iload_n hx hb dX9_give_102 rfl (lv_at hl 2 rfl) ?_
  refine lv_iconst (v := 1) hx hb dX9_give_103 (by decide) ?_
  refine lv_icmp_ne (tgt := 111) hx hb dX9_give_104 (by decide) (fun cc => ?_) (fun cc => ?_)
  · have hf := (if_ok hf).2 cc
    refine lv_aload_n hx hb dX9_give_111 rfl (lv_at hl 0 rfl) ?_
    refine q_get (C := RX9) (T := TX9) (N := 42) (ci := 9) (v := .ref (ad 20)) hx hb hts in_X9_give_X9 hown hK hP (oX9 h0) rfl 22 (by decide) (hts (.fieldLink RX9 59 "RowsOnlyPrimesModel" "purse" "[I") (by decide +kernel)) (fun _ h9 => h9) rfl dX9_give_112 ?_
    refine lv_iload_n hx hb dX9_give_115 rfl (lv_at hl 1 rfl) ?_
    obtain ⟨g3, hf⟩ := gd_ok hf
    refine q_iald hx hb hK hP (a0X9_20 h0) g3 dX9_give_116 ?_
    exact w_X9_give_117 C hK hE hN h0   x4 (I2 20 x1.toNatClampNeg) x1 I2 _ _ _ hf (lv_sub hl [4] rfl) hP hS
  · have hf := (if_ok hf).1 cc
    refine lv_iload_n hx hb dX9_give_107 rfl (lv_at hl 3 rfl) ?_
    refine lv_goto (tgt := 117) hx hb dX9_give_108 (by decide) ?_
    exact w_X9_give_117 C hK hE hN h0   x4 x3 x1 I2 _ _ _ hf (lv_sub hl [4] rfl) hP hS
set_option maxHeartbeats 4000000 in
set_option maxRecDepth 100000 in
theorem w_X9_give_75 {S : Nat → Prop} (C : qC p s m args meth c cX9_give 5 RX9 wsX9_give (some .int)) (hK : qK D cy sa s) (hE : qEnv sa va (qA S ad) s s.heap) (hN : qN S ad) (h0 : isM0 S)   {J : qJ} {r : Int32} {Ie : qI} : ∀ (x1 : Int32) (x2 : Int32) (x3 : Int32) (xs0 : Int32)  (I : qI) (ls : Array Slot) (H : Heap) (locs : List Loc), f_X9_give_75 x1 x2 x3 xs0 I = some (r, Ie) → lv_has ls 5 [(0, .ref (ad 0)), (1, .int x1), (2, .int x2), (3, .int x3)] → qP D S ad (eM ad cy) I J H → va_S (qA S ad) s.heap H locs → W p l e (headSpec wsX9_give r_X9_give).room s m args below meth c H locs 0 0 (MQ below (va_Qi (S := Unit) (fun x _ => x = r) (fun _ t => qP D S ad (eM ad cy) Ie J t.heap) (qA S ad)) args s 0 0 (qA S ad)) (F0 m 75 ls [.int xs0]) := by
  have C0 := C
  obtain ⟨⟨hx, hb, hml, hown, hts⟩, hr, hlocks⟩ := C0
  intro x1 x2 x3 xs0 I ls H locs hf hl hP hS
  unfold f_X9_give_75 at hf
  refine lv_istore (lv' := [(4, .int xs0), (0, .ref (ad 0)), (1, .int x1), (2, .int x2), (3, .int x3)]) hx hb dX9_give_75 hl (by decide) rfl (fun ls hl => ?_)
  refine lv_aload_n hx hb dX9_give_77 rfl (lv_at hl 1 rfl) ?_
  refine q_get (C := RX9) (T := TX9) (N := 42) (ci := 9) (v := .ref (ad 19)) hx hb hts in_X9_give_X9 hown hK hP (oX9 h0) rfl 21 (by decide) (hts (.fieldLink RX9 56 "RowsOnlyPrimesModel" "size" "[I") (by decide +kernel)) (fun _ h9 => h9) rfl dX9_give_78 ?_
  refine lv_iload_n hx hb dX9_give_81 rfl (lv_at hl 2 rfl) ?_
  refine lv_iload_n hx hb dX9_give_82 rfl (lv_at hl 3 rfl) ?_
  refine lv_if_ne (tgt := 90) hx hb dX9_give_83 (by decide) (fun cc => ?_) (fun cc => ?_)
  · have hf := (if_ok hf).2 cc
    refine lv_aload_n hx hb dX9_give_90 rfl (lv_at hl 1 rfl) ?_
    refine q_get (C := RX9) (T := TX9) (N := 42) (ci := 9) (v := .ref (ad 19)) hx hb hts in_X9_give_X9 hown hK hP (oX9 h0) rfl 21 (by decide) (hts (.fieldLink RX9 56 "RowsOnlyPrimesModel" "size" "[I") (by decide +kernel)) (fun _ h9 => h9) rfl dX9_give_91 ?_
    refine lv_iload_n hx hb dX9_give_94 rfl (lv_at hl 2 rfl) ?_
    obtain ⟨g1, hf⟩ := gd_ok hf
    refine q_iald hx hb hK hP (a0X9_19 h0) g1 dX9_give_95 ?_
    exact w_X9_give_96 C hK hE hN h0   x1 x2 x3 xs0 (I 19 x1.toNatClampNeg) x1 I _ _ _ hf (lv_sub hl [1, 2, 3, 4, 0] rfl) hP hS
  · have hf := (if_ok hf).1 cc
    refine lv_iload_n hx hb dX9_give_86 rfl (lv_at hl 4 rfl) ?_
    refine lv_goto (tgt := 96) hx hb dX9_give_87 (by decide) ?_
    exact w_X9_give_96 C hK hE hN h0   x1 x2 x3 xs0 x3 x1 I _ _ _ hf (lv_sub hl [1, 2, 3, 4, 0] rfl) hP hS
set_option maxHeartbeats 4000000 in
set_option maxRecDepth 100000 in
theorem w_X9_give_42 {S : Nat → Prop} (C : qC p s m args meth c cX9_give 5 RX9 wsX9_give (some .int)) (hK : qK D cy sa s) (hE : qEnv sa va (qA S ad) s s.heap) (hN : qN S ad) (h0 : isM0 S)   {J : qJ} {r : Int32} {Ie : qI} : ∀ (x1 : Int32) (x2 : Int32) (x3 : Int32) (xs0 : Int64) (xs1 : Int64) (xs2 : Int64)  (I : qI) (ls : Array Slot) (H : Heap) (locs : List Loc), f_X9_give_42 x1 x2 x3 xs0 xs1 xs2 I = some (r, Ie) → lv_has ls 5 [(0, .ref (ad 0)), (1, .int x1), (2, .int x2), (3, .int x3)] → qP D S ad (eM ad cy) I J H → va_S (qA S ad) s.heap H locs → W p l e (headSpec wsX9_give r_X9_give).room s m args below meth c H locs 0 0 (MQ below (va_Qi (S := Unit) (fun x _ => x = r) (fun _ t => qP D S ad (eM ad cy) Ie J t.heap) (qA S ad)) args s 0 0 (qA S ad)) (F0 m 42 ls [.long xs0, .long xs1, .long xs2]) := by
  have C0 := C
  obtain ⟨⟨hx, hb, hml, hown, hts⟩, hr, hlocks⟩ := C0
  intro x1 x2 x3 xs0 xs1 xs2 I ls H locs hf hl hP hS
  unfold f_X9_give_42 at hf
  obtain ⟨v1, h2, hf⟩ := bd_ok hf
  refine q_cSi (va_runS (As := [.long xs2, .long xs1, .long xs0]) (rest := []) ⟨hx, hb, hml, hown, hts⟩ (c_X9_in l (D := D) (ad := ad) (cy := cy) (sa := sa) (va := va) (I := I) (J := J) (S := S) h0 xs2 xs1 xs0 h2) (va_cwS 3 hts gX9_give_X9_in rfl rfl rfl (by decide +kernel) ⟨Nat.le_of_ble_eq_true rfl, Nat.le_of_ble_eq_true rfl⟩) ⟨qPre_blind _, fun U hU hW => ⟨rfl, qPre_of hP hK hE hN hS U hU hW⟩⟩ rfl rfl hl.1 rfl (lv_room (Nat.le_of_ble_eq_true rfl)) dX9_give_42 ⟨Nat.le_of_ble_eq_true rfl, Nat.le_of_ble_eq_true rfl⟩) ?_
  refine lv_if_ne (tgt := 56) hx hb dX9_give_45 (by decide) (fun cc => ?_) (fun cc => ?_)
  · have hf := (if_ok hf).2 cc
    refine lv_iload_n hx hb dX9_give_56 rfl (lv_at hl 2 rfl) ?_
    refine lv_if_ne (tgt := 69) hx hb dX9_give_57 (by decide) (fun cc => ?_) (fun cc => ?_)
    · have hf := (if_ok hf).2 cc
      refine lv_aload_n hx hb dX9_give_69 rfl (lv_at hl 0 rfl) ?_
      refine q_get (C := RX9) (T := TX9) (N := 42) (ci := 9) (v := .ref (ad 20)) hx hb hts in_X9_give_X9 hown hK hP (oX9 h0) rfl 22 (by decide) (hts (.fieldLink RX9 59 "RowsOnlyPrimesModel" "purse" "[I") (by decide +kernel)) (fun _ h9 => h9) rfl dX9_give_70 ?_
      refine lv_iload_n hx hb dX9_give_73 rfl (lv_at hl 1 rfl) ?_
      obtain ⟨g3, hf⟩ := gd_ok hf
      refine q_iald hx hb hK hP (a0X9_20 h0) g3 dX9_give_74 ?_
      exact w_X9_give_75 C hK hE hN h0   x1 x2 x3 (I 20 x1.toNatClampNeg) I _ _ _ hf (lv_sub hl [0, 1, 2, 3] rfl) hP hS
    · have hf := (if_ok hf).1 cc
      refine lv_aload_n hx hb dX9_give_60 rfl (lv_at hl 0 rfl) ?_
      refine q_get (C := RX9) (T := TX9) (N := 42) (ci := 9) (v := .ref (ad 19)) hx hb hts in_X9_give_X9 hown hK hP (oX9 h0) rfl 21 (by decide) (hts (.fieldLink RX9 56 "RowsOnlyPrimesModel" "size" "[I") (by decide +kernel)) (fun _ h9 => h9) rfl dX9_give_61 ?_
      refine lv_iload_n hx hb dX9_give_64 rfl (lv_at hl 1 rfl) ?_
      obtain ⟨g4, hf⟩ := gd_ok hf
      refine q_iald hx hb hK hP (a0X9_19 h0) g4 dX9_give_65 ?_
      refine lv_goto (tgt := 75) hx hb dX9_give_66 (by decide) ?_
      exact w_X9_give_75 C hK hE hN h0   x1 x2 x3 (I 19 x1.toNatClampNeg) I _ _ _ hf (lv_sub hl [0, 1, 2, 3] rfl) hP hS
  · have hf := (if_ok hf).1 cc
    exact w_X9_give_48 C hK hE hN h0   I _ _ _ hf (lv_sub hl [0] rfl) hP hS
set_option maxHeartbeats 4000000 in
set_option maxRecDepth 100000 in
theorem w_X9_give_29 {S : Nat → Prop} (C : qC p s m args meth c cX9_give 5 RX9 wsX9_give (some .int)) (hK : qK D cy sa s) (hE : qEnv sa va (qA S ad) s s.heap) (hN : qN S ad) (h0 : isM0 S)   {J : qJ} {r : Int32} {Ie : qI} : ∀ (x1 : Int32) (x2 : Int32) (x3 : Int32) (xs0 : Int64) (xs1 : Int64)  (I : qI) (ls : Array Slot) (H : Heap) (locs : List Loc), f_X9_give_29 x1 x2 x3 xs0 xs1 I = some (r, Ie) → lv_has ls 5 [(0, .ref (ad 0)), (1, .int x1), (2, .int x2), (3, .int x3)] → qP D S ad (eM ad cy) I J H → va_S (qA S ad) s.heap H locs → W p l e (headSpec wsX9_give r_X9_give).room s m args below meth c H locs 0 0 (MQ below (va_Qi (S := Unit) (fun x _ => x = r) (fun _ t => qP D S ad (eM ad cy) Ie J t.heap) (qA S ad)) args s 0 0 (qA S ad)) (F0 m 29 ls [.long xs0, .long xs1]) := by
  have C0 := C
  obtain ⟨⟨hx, hb, hml, hown, hts⟩, hr, hlocks⟩ := C0
  intro x1 x2 x3 xs0 xs1 I ls H locs hf hl hP hS
  unfold f_X9_give_29 at hf
  refine lv_iload_n hx hb dX9_give_29 rfl (lv_at hl 2 rfl) ?_
  refine lv_if_ne (tgt := 39) hx hb dX9_give_30 (by decide) (fun cc => ?_) (fun cc => ?_)
  · have hf := (if_ok hf).2 cc
    refine lv_ldc2 (own := RX9) (v := 99) hx hb hown (hts (.constantLong RX9 135 (99)) (by decide +kernel)) dX9_give_39 ?_
    exact w_X9_give_42 C hK hE hN h0   x1 x2 x3 (99 : Int64) xs0 xs1 I _ _ _ hf (lv_sub hl [0, 1, 2, 3] rfl) hP hS
  · have hf := (if_ok hf).1 cc
    refine lv_ldc2 (own := RX9) (v := 40) hx hb hown (hts (.constantLong RX9 107 (40)) (by decide +kernel)) dX9_give_33 ?_
    refine lv_goto (tgt := 42) hx hb dX9_give_36 (by decide) ?_
    exact w_X9_give_42 C hK hE hN h0   x1 x2 x3 (40 : Int64) xs0 xs1 I _ _ _ hf (lv_sub hl [0, 1, 2, 3] rfl) hP hS
set_option maxHeartbeats 4000000 in
set_option maxRecDepth 100000 in
theorem c_X9_give (l : Launch) {D : va_G} {ad : Nat → Nat} {cy : Nat → ClassId} {sa va : Nat → Nat} {I : qI} {J : qJ} {S : Nat → Prop} (h0 : isM0 S)   (p0 : Int32) (p1 : Int32) (p2 : Int32) {r : Int32} {Ie : qI} (hf : f_X9_give p0 p1 p2 I = some (r, Ie)) : Met l yX9_give wsX9_give r_X9_give (va_Pc [.ref (ad 0), .int p0, .int p1, .int p2] (qPre D S ad cy sa va (eM ad cy) I J)) (va_Qi (S := Unit) (fun x _ => x = r) (fun _ t => qP D S ad (eM ad cy) Ie J t.heap) (qA S ad)) 0 0 (qA S ad) := by
  refine Met.ofW (cc := cX9_give) (maxL := 5) (ret := (some .int)) (by decide) rfl ?_
  intro p e s m args below meth c s₁ B hml hv
  obtain ⟨rfl, hP, hK, hE, hN⟩ := hv
  have C : qC p s m _ meth c cX9_give 5 RX9 wsX9_give (some .int) := ⟨⟨B.exec, B.bytes, hml, findClass_of_methodNamed B.named, atoms_spec (ws := wsX9_give) B.pre⟩, B.returns, B.notSynchronized⟩
  have C0 := C
  obtain ⟨⟨hx, hb, hml, hown, hts⟩, hr, hlocks⟩ := C0
  have hS : va_S (qA S ad) s.heap s.heap [] := va_S.rf
  have hl := lv_entry ([.ref (ad 0), .int p0, .int p1, .int p2]) (n := 5) (Nat.le_of_ble_eq_true rfl)
  rw [lg_entry_eq]
  generalize (lg_sl ([.ref (ad 0), .int p0, .int p1, .int p2]) ++ List.replicate (5 - (lg_sl ([.ref (ad 0), .int p0, .int p1, .int p2])).length) Slot.unset).toArray = ls at hl ⊢
  have hl : lv_has ls 5 [(0, .ref (ad 0)), (1, .int p0), (2, .int p1), (3, .int p2)] := hl
  unfold f_X9_give at hf
  refine lv_aload_n hx hb dX9_give_0 rfl (lv_at hl 0 rfl) ?_
  refine lv_iload_n hx hb dX9_give_1 rfl (lv_at hl 1 rfl) ?_
  obtain ⟨v1, h2, hf⟩ := bd_ok hf
  refine q_cSi (va_runV (As := [.int p0]) (rest := []) ⟨hx, hb, hml, hown, hts⟩ (c_X9_isParty l (D := D) (ad := ad) (cy := cy) (sa := sa) (va := va) (I := I) (J := J) (S := S) h0 p0 h2) (cwV 1 hts gX9_give_X9_isParty rfl rfl rfl (by decide +kernel) ⟨Nat.le_of_ble_eq_true rfl, Nat.le_of_ble_eq_true rfl⟩) ⟨qPre_blind _, q_recv hK hP (oX9 h0) rfl, fun U hU hW => ⟨rfl, qPre_of hP hK hE hN hS U hU hW⟩⟩ rfl rfl hl.1 rfl (lv_room (Nat.le_of_ble_eq_true rfl)) dX9_give_2 ⟨Nat.le_of_ble_eq_true rfl, Nat.le_of_ble_eq_true rfl⟩) ?_
  refine lv_if_eq (tgt := 48) hx hb dX9_give_5 (by decide) (fun cc => ?_) (fun cc => ?_)
  · have hf := (if_ok hf).1 cc
    exact w_X9_give_48 C hK hE hN h0   I _ _ _ hf (lv_sub hl [0] rfl) hP hS
  · have hf := (if_ok hf).2 cc
    refine lv_iload_n hx hb dX9_give_8 rfl (lv_at hl 2 rfl) ?_
    refine lv_i2l hx hb dX9_give_9 rfl ?_
    refine lv_lconst (v := 0) hx hb dX9_give_10 (by decide) ?_
    refine lv_lconst (v := 1) hx hb dX9_give_11 (by decide) ?_
    obtain ⟨v3, h4, hf⟩ := bd_ok hf
    refine q_cSi (va_runS (As := [.long p1.toInt64, .long (0 : Int64), .long (1 : Int64)]) (rest := []) ⟨hx, hb, hml, hown, hts⟩ (c_X9_in l (D := D) (ad := ad) (cy := cy) (sa := sa) (va := va) (I := I) (J := J) (S := S) h0 p1.toInt64 (0 : Int64) (1 : Int64) h4) (va_cwS 3 hts gX9_give_X9_in rfl rfl rfl (by decide +kernel) ⟨Nat.le_of_ble_eq_true rfl, Nat.le_of_ble_eq_true rfl⟩) ⟨qPre_blind _, fun U hU hW => ⟨rfl, qPre_of hP hK hE hN hS U hU hW⟩⟩ rfl rfl hl.1 rfl (lv_room (Nat.le_of_ble_eq_true rfl)) dX9_give_12 ⟨Nat.le_of_ble_eq_true rfl, Nat.le_of_ble_eq_true rfl⟩) ?_
    refine lv_if_eq (tgt := 48) hx hb dX9_give_15 (by decide) (fun cc => ?_) (fun cc => ?_)
    · have hf := (if_ok hf).1 cc
      exact w_X9_give_48 C hK hE hN h0   I _ _ _ hf (lv_sub hl [0] rfl) hP hS
    · have hf := (if_ok hf).2 cc
      refine lv_iload_n hx hb dX9_give_18 rfl (lv_at hl 3 rfl) ?_
      refine lv_i2l hx hb dX9_give_19 rfl ?_
      refine lv_iload_n hx hb dX9_give_20 rfl (lv_at hl 2 rfl) ?_
      refine lv_if_ne (tgt := 28) hx hb dX9_give_21 (by decide) (fun cc => ?_) (fun cc => ?_)
      · have hf := (if_ok hf).2 cc
        refine lv_lconst (v := 0) hx hb dX9_give_28 (by decide) ?_
        exact w_X9_give_29 C hK hE hN h0   p0 p1 p2 (0 : Int64) p2.toInt64 I _ _ _ hf (lv_sub hl [0, 1, 2, 3] rfl) hP hS
      · have hf := (if_ok hf).1 cc
        refine lv_lconst (v := 1) hx hb dX9_give_24 (by decide) ?_
        refine lv_goto (tgt := 29) hx hb dX9_give_25 (by decide) ?_
        exact w_X9_give_29 C hK hE hN h0   p0 p1 p2 (1 : Int64) p2.toInt64 I _ _ _ hf (lv_sub hl [0, 1, 2, 3] rfl) hP hS
abbrev r_X9_binds : Room := { frames := 0, cells := 0, slots := 0, locals := 0 }
theorem in_X9_binds_X9 : ∀ w ∈ u_ws RX9 TX9 42, w ∈ wsX9_binds := by decide +kernel
set_option maxHeartbeats 4000000 in
set_option maxRecDepth 100000 in
theorem w_X9_binds_143 {S : Nat → Prop} (C : qC p s m args meth c cX9_binds 4 RX9 wsX9_binds none) (hK : qK D cy sa s) (hE : qEnv sa va (qA S ad) s s.heap) (hN : qN S ad) (h0 : isM0 S)   {J : qJ} {Ie : qI} : ∀ (xs0 : Int32) (xs1 : Int32)  (I : qI) (ls : Array Slot) (H : Heap) (locs : List Loc), f_X9_binds_143 xs0 xs1 I = some Ie → lv_has ls 4 [] → qP D S ad (eM ad cy) I J H → va_S (qA S ad) s.heap H locs → W p l e (headSpec wsX9_binds r_X9_binds).room s m args below meth c H locs 0 0 (MQ below (va_Qv (S := Unit) (fun _ => True) (fun _ t => qP D S ad (eM ad cy) Ie J t.heap) (qA S ad)) args s 0 0 (qA S ad)) (F0 m 143 ls [.int xs0, .int xs1, .ref (ad 22)]) := by
  have C0 := C
  obtain ⟨⟨hx, hb, hml, hown, hts⟩, hr, hlocks⟩ := C0
  intro xs0 xs1 I ls H locs hf hl hP hS
  unfold f_X9_binds_143 at hf
  obtain ⟨g1, hf⟩ := gd_ok hf
  obtain ⟨I2, eI2, hf⟩ := lt_ok hf
  refine q_iast hx hb hK hP hN hS (a0X9_22 h0) g1 dX9_binds_143 (fun H locs hP hS => ?_)
  have hP : qP D S ad (eM ad cy) I2 J H := by rw [eI2]; exact hP
  have e9 := Option.some.inj hf
  have eI9 : I2 = Ie := e9
  exact W.vret hx hb hr (fun t ht _ => ⟨⟨(), rfl, trivial, by show qP D _ ad _ _ _ t.heap; rw [ht, ← eI9]; exact hP⟩, hS.F ht⟩) hS.2.2 dX9_binds_144
set_option maxHeartbeats 4000000 in
set_option maxRecDepth 100000 in
theorem w_X9_binds_107 {S : Nat → Prop} (C : qC p s m args meth c cX9_binds 4 RX9 wsX9_binds none) (hK : qK D cy sa s) (hE : qEnv sa va (qA S ad) s s.heap) (hN : qN S ad) (h0 : isM0 S)   {J : qJ} {Ie : qI} : ∀ (x1 : Int32) (x2 : Int32) (x3 : Int32) (xs0 : Int32) (xs1 : Int32)  (I : qI) (ls : Array Slot) (H : Heap) (locs : List Loc), f_X9_binds_107 x1 x2 x3 xs0 xs1 I = some Ie → lv_has ls 4 [(0, .ref (ad 0)), (1, .int x1), (2, .int x2), (3, .int x3)] → qP D S ad (eM ad cy) I J H → va_S (qA S ad) s.heap H locs → W p l e (headSpec wsX9_binds r_X9_binds).room s m args below meth c H locs 0 0 (MQ below (va_Qv (S := Unit) (fun _ => True) (fun _ t => qP D S ad (eM ad cy) Ie J t.heap) (qA S ad)) args s 0 0 (qA S ad)) (F0 m 107 ls [.int xs0, .int xs1, .ref (ad 22)]) := by
  have C0 := C
  obtain ⟨⟨hx, hb, hml, hown, hts⟩, hr, hlocks⟩ := C0
  intro x1 x2 x3 xs0 xs1 I ls H locs hf hl hP hS
  unfold f_X9_binds_107 at hf
  obtain ⟨g1, hf⟩ := gd_ok hf
  obtain ⟨I2, eI2, hf⟩ := lt_ok hf
  refine q_iast hx hb hK hP hN hS (a0X9_22 h0) g1 dX9_binds_107 (fun H locs hP hS => ?_)
  have hP : qP D S ad (eM ad cy) I2 J H := by rw [eI2]; exact hP
  refine lv_aload_n hx hb dX9_binds_108 rfl (lv_at hl 0 rfl) ?_
  refine q_get (C := RX9) (T := TX9) (N := 42) (ci := 9) (v := .ref (ad 22)) hx hb hts in_X9_binds_X9 hown hK hP (oX9 h0) rfl 24 (by decide) (hts (.fieldLink RX9 65 "RowsOnlyPrimesModel" "shuns" "[I") (by decide +kernel)) (fun _ h9 => h9) rfl dX9_binds_109 ?_
  refine lv_iload_n hx hb dX9_binds_112 rfl (lv_at hl 2 rfl) ?_
  refine lv_iload_n hx hb dX9_binds_113 rfl (lv_at hl 3 rfl) ?_
  refine lv_iconst (v := 2) hx hb dX9_binds_114 (by decide) ?_
  refine lv_icmp_ne (tgt := 131) hx hb dX9_binds_115 (by decide) (fun cc => ?_) (fun cc => ?_)
  · have hf := (if_ok hf).2 cc
    refine lv_aload_n hx hb dX9_binds_131 rfl (lv_at hl 0 rfl) ?_
    refine q_get (C := RX9) (T := TX9) (N := 42) (ci := 9) (v := .ref (ad 22)) hx hb hts in_X9_binds_X9 hown hK hP (oX9 h0) rfl 24 (by decide) (hts (.fieldLink RX9 65 "RowsOnlyPrimesModel" "shuns" "[I") (by decide +kernel)) (fun _ h9 => h9) rfl dX9_binds_132 ?_
    refine lv_iload_n hx hb dX9_binds_135 rfl (lv_at hl 2 rfl) ?_
    obtain ⟨g3, hf⟩ := gd_ok hf
    refine q_iald hx hb hK hP (a0X9_22 h0) g3 dX9_binds_136 ?_
    refine lv_iconst (v := 1) hx hb dX9_binds_137 (by decide) ?_
    refine lv_iload_n hx hb dX9_binds_138 rfl (lv_at hl 1 rfl) ?_
    refine lv_ishl hx hb dX9_binds_139 ?_
    refine lv_iconst (v := -1) hx hb dX9_binds_140 (by decide) ?_
    refine lv_ixor hx hb dX9_binds_141 ?_
    refine lv_iand hx hb dX9_binds_142 ?_
    exact w_X9_binds_143 C hK hE hN h0   ((I2 22 x2.toNatClampNeg) &&& (((1 : Int32) <<< (x1 &&& (31 : Int32))) ^^^ (-1 : Int32))) x2 I2 _ _ _ hf (lv_sub hl [] rfl) hP hS
  · have hf := (if_ok hf).1 cc
    refine lv_aload_n hx hb dX9_binds_118 rfl (lv_at hl 0 rfl) ?_
    refine q_get (C := RX9) (T := TX9) (N := 42) (ci := 9) (v := .ref (ad 22)) hx hb hts in_X9_binds_X9 hown hK hP (oX9 h0) rfl 24 (by decide) (hts (.fieldLink RX9 65 "RowsOnlyPrimesModel" "shuns" "[I") (by decide +kernel)) (fun _ h9 => h9) rfl dX9_binds_119 ?_
    refine lv_iload_n hx hb dX9_binds_122 rfl (lv_at hl 2 rfl) ?_
    obtain ⟨g4, hf⟩ := gd_ok hf
    refine q_iald hx hb hK hP (a0X9_22 h0) g4 dX9_binds_123 ?_
    refine lv_iconst (v := 1) hx hb dX9_binds_124 (by decide) ?_
    refine lv_iload_n hx hb dX9_binds_125 rfl (lv_at hl 1 rfl) ?_
    refine lv_ishl hx hb dX9_binds_126 ?_
    refine lv_ior hx hb dX9_binds_127 ?_
    refine lv_goto (tgt := 143) hx hb dX9_binds_128 (by decide) ?_
    exact w_X9_binds_143 C hK hE hN h0   ((I2 22 x2.toNatClampNeg) ||| ((1 : Int32) <<< (x1 &&& (31 : Int32)))) x2 I2 _ _ _ hf (lv_sub hl [] rfl) hP hS
set_option maxHeartbeats 4000000 in
set_option maxRecDepth 100000 in
theorem w_X9_binds_71 {S : Nat → Prop} (C : qC p s m args meth c cX9_binds 4 RX9 wsX9_binds none) (hK : qK D cy sa s) (hE : qEnv sa va (qA S ad) s s.heap) (hN : qN S ad) (h0 : isM0 S)   {J : qJ} {Ie : qI} : ∀ (x1 : Int32) (x2 : Int32) (x3 : Int32) (xs0 : Int32) (xs1 : Int32)  (I : qI) (ls : Array Slot) (H : Heap) (locs : List Loc), f_X9_binds_71 x1 x2 x3 xs0 xs1 I = some Ie → lv_has ls 4 [(0, .ref (ad 0)), (1, .int x1), (2, .int x2), (3, .int x3)] → qP D S ad (eM ad cy) I J H → va_S (qA S ad) s.heap H locs → W p l e (headSpec wsX9_binds r_X9_binds).room s m args below meth c H locs 0 0 (MQ below (va_Qv (S := Unit) (fun _ => True) (fun _ t => qP D S ad (eM ad cy) Ie J t.heap) (qA S ad)) args s 0 0 (qA S ad)) (F0 m 71 ls [.int xs0, .int xs1, .ref (ad 21)]) := by
  have C0 := C
  obtain ⟨⟨hx, hb, hml, hown, hts⟩, hr, hlocks⟩ := C0
  intro x1 x2 x3 xs0 xs1 I ls H locs hf hl hP hS
  unfold f_X9_binds_71 at hf
  obtain ⟨g1, hf⟩ := gd_ok hf
  obtain ⟨I2, eI2, hf⟩ := lt_ok hf
  refine q_iast hx hb hK hP hN hS (a0X9_21 h0) g1 dX9_binds_71 (fun H locs hP hS => ?_)
  have hP : qP D S ad (eM ad cy) I2 J H := by rw [eI2]; exact hP
  refine lv_aload_n hx hb dX9_binds_72 rfl (lv_at hl 0 rfl) ?_
  refine q_get (C := RX9) (T := TX9) (N := 42) (ci := 9) (v := .ref (ad 22)) hx hb hts in_X9_binds_X9 hown hK hP (oX9 h0) rfl 24 (by decide) (hts (.fieldLink RX9 65 "RowsOnlyPrimesModel" "shuns" "[I") (by decide +kernel)) (fun _ h9 => h9) rfl dX9_binds_73 ?_
  refine lv_iload_n hx hb dX9_binds_76 rfl (lv_at hl 1 rfl) ?_
  refine lv_iload_n hx hb dX9_binds_77 rfl (lv_at hl 3 rfl) ?_
  refine lv_iconst (v := 2) hx hb dX9_binds_78 (by decide) ?_
  refine lv_icmp_ne (tgt := 95) hx hb dX9_binds_79 (by decide) (fun cc => ?_) (fun cc => ?_)
  · have hf := (if_ok hf).2 cc
    refine lv_aload_n hx hb dX9_binds_95 rfl (lv_at hl 0 rfl) ?_
    refine q_get (C := RX9) (T := TX9) (N := 42) (ci := 9) (v := .ref (ad 22)) hx hb hts in_X9_binds_X9 hown hK hP (oX9 h0) rfl 24 (by decide) (hts (.fieldLink RX9 65 "RowsOnlyPrimesModel" "shuns" "[I") (by decide +kernel)) (fun _ h9 => h9) rfl dX9_binds_96 ?_
    refine lv_iload_n hx hb dX9_binds_99 rfl (lv_at hl 1 rfl) ?_
    obtain ⟨g3, hf⟩ := gd_ok hf
    refine q_iald hx hb hK hP (a0X9_22 h0) g3 dX9_binds_100 ?_
    refine lv_iconst (v := 1) hx hb dX9_binds_101 (by decide) ?_
    refine lv_iload_n hx hb dX9_binds_102 rfl (lv_at hl 2 rfl) ?_
    refine lv_ishl hx hb dX9_binds_103 ?_
    refine lv_iconst (v := -1) hx hb dX9_binds_104 (by decide) ?_
    refine lv_ixor hx hb dX9_binds_105 ?_
    refine lv_iand hx hb dX9_binds_106 ?_
    exact w_X9_binds_107 C hK hE hN h0   x1 x2 x3 ((I2 22 x1.toNatClampNeg) &&& (((1 : Int32) <<< (x2 &&& (31 : Int32))) ^^^ (-1 : Int32))) x1 I2 _ _ _ hf (lv_sub hl [0, 1, 2, 3] rfl) hP hS
  · have hf := (if_ok hf).1 cc
    refine lv_aload_n hx hb dX9_binds_82 rfl (lv_at hl 0 rfl) ?_
    refine q_get (C := RX9) (T := TX9) (N := 42) (ci := 9) (v := .ref (ad 22)) hx hb hts in_X9_binds_X9 hown hK hP (oX9 h0) rfl 24 (by decide) (hts (.fieldLink RX9 65 "RowsOnlyPrimesModel" "shuns" "[I") (by decide +kernel)) (fun _ h9 => h9) rfl dX9_binds_83 ?_
    refine lv_iload_n hx hb dX9_binds_86 rfl (lv_at hl 1 rfl) ?_
    obtain ⟨g4, hf⟩ := gd_ok hf
    refine q_iald hx hb hK hP (a0X9_22 h0) g4 dX9_binds_87 ?_
    refine lv_iconst (v := 1) hx hb dX9_binds_88 (by decide) ?_
    refine lv_iload_n hx hb dX9_binds_89 rfl (lv_at hl 2 rfl) ?_
    refine lv_ishl hx hb dX9_binds_90 ?_
    refine lv_ior hx hb dX9_binds_91 ?_
    refine lv_goto (tgt := 107) hx hb dX9_binds_92 (by decide) ?_
    exact w_X9_binds_107 C hK hE hN h0   x1 x2 x3 ((I2 22 x1.toNatClampNeg) ||| ((1 : Int32) <<< (x2 &&& (31 : Int32)))) x1 I2 _ _ _ hf (lv_sub hl [0, 1, 2, 3] rfl) hP hS
set_option maxHeartbeats 4000000 in
set_option maxRecDepth 100000 in
theorem w_X9_binds_35 {S : Nat → Prop} (C : qC p s m args meth c cX9_binds 4 RX9 wsX9_binds none) (hK : qK D cy sa s) (hE : qEnv sa va (qA S ad) s s.heap) (hN : qN S ad) (h0 : isM0 S)   {J : qJ} {Ie : qI} : ∀ (x1 : Int32) (x2 : Int32) (x3 : Int32) (xs0 : Int32) (xs1 : Int32)  (I : qI) (ls : Array Slot) (H : Heap) (locs : List Loc), f_X9_binds_35 x1 x2 x3 xs0 xs1 I = some Ie → lv_has ls 4 [(0, .ref (ad 0)), (1, .int x1), (2, .int x2), (3, .int x3)] → qP D S ad (eM ad cy) I J H → va_S (qA S ad) s.heap H locs → W p l e (headSpec wsX9_binds r_X9_binds).room s m args below meth c H locs 0 0 (MQ below (va_Qv (S := Unit) (fun _ => True) (fun _ t => qP D S ad (eM ad cy) Ie J t.heap) (qA S ad)) args s 0 0 (qA S ad)) (F0 m 35 ls [.int xs0, .int xs1, .ref (ad 21)]) := by
  have C0 := C
  obtain ⟨⟨hx, hb, hml, hown, hts⟩, hr, hlocks⟩ := C0
  intro x1 x2 x3 xs0 xs1 I ls H locs hf hl hP hS
  unfold f_X9_binds_35 at hf
  obtain ⟨g1, hf⟩ := gd_ok hf
  obtain ⟨I2, eI2, hf⟩ := lt_ok hf
  refine q_iast hx hb hK hP hN hS (a0X9_21 h0) g1 dX9_binds_35 (fun H locs hP hS => ?_)
  have hP : qP D S ad (eM ad cy) I2 J H := by rw [eI2]; exact hP
  refine lv_aload_n hx hb dX9_binds_36 rfl (lv_at hl 0 rfl) ?_
  refine q_get (C := RX9) (T := TX9) (N := 42) (ci := 9) (v := .ref (ad 21)) hx hb hts in_X9_binds_X9 hown hK hP (oX9 h0) rfl 23 (by decide) (hts (.fieldLink RX9 62 "RowsOnlyPrimesModel" "tied" "[I") (by decide +kernel)) (fun _ h9 => h9) rfl dX9_binds_37 ?_
  refine lv_iload_n hx hb dX9_binds_40 rfl (lv_at hl 2 rfl) ?_
  refine lv_iload_n hx hb dX9_binds_41 rfl (lv_at hl 3 rfl) ?_
  refine lv_iconst (v := 1) hx hb dX9_binds_42 (by decide) ?_
  refine lv_icmp_ne (tgt := 59) hx hb dX9_binds_43 (by decide) (fun cc => ?_) (fun cc => ?_)
  · have hf := (if_ok hf).2 cc
    refine lv_aload_n hx hb dX9_binds_59 rfl (lv_at hl 0 rfl) ?_
    refine q_get (C := RX9) (T := TX9) (N := 42) (ci := 9) (v := .ref (ad 21)) hx hb hts in_X9_binds_X9 hown hK hP (oX9 h0) rfl 23 (by decide) (hts (.fieldLink RX9 62 "RowsOnlyPrimesModel" "tied" "[I") (by decide +kernel)) (fun _ h9 => h9) rfl dX9_binds_60 ?_
    refine lv_iload_n hx hb dX9_binds_63 rfl (lv_at hl 2 rfl) ?_
    obtain ⟨g3, hf⟩ := gd_ok hf
    refine q_iald hx hb hK hP (a0X9_21 h0) g3 dX9_binds_64 ?_
    refine lv_iconst (v := 1) hx hb dX9_binds_65 (by decide) ?_
    refine lv_iload_n hx hb dX9_binds_66 rfl (lv_at hl 1 rfl) ?_
    refine lv_ishl hx hb dX9_binds_67 ?_
    refine lv_iconst (v := -1) hx hb dX9_binds_68 (by decide) ?_
    refine lv_ixor hx hb dX9_binds_69 ?_
    refine lv_iand hx hb dX9_binds_70 ?_
    exact w_X9_binds_71 C hK hE hN h0   x1 x2 x3 ((I2 21 x2.toNatClampNeg) &&& (((1 : Int32) <<< (x1 &&& (31 : Int32))) ^^^ (-1 : Int32))) x2 I2 _ _ _ hf (lv_sub hl [0, 1, 2, 3] rfl) hP hS
  · have hf := (if_ok hf).1 cc
    refine lv_aload_n hx hb dX9_binds_46 rfl (lv_at hl 0 rfl) ?_
    refine q_get (C := RX9) (T := TX9) (N := 42) (ci := 9) (v := .ref (ad 21)) hx hb hts in_X9_binds_X9 hown hK hP (oX9 h0) rfl 23 (by decide) (hts (.fieldLink RX9 62 "RowsOnlyPrimesModel" "tied" "[I") (by decide +kernel)) (fun _ h9 => h9) rfl dX9_binds_47 ?_
    refine lv_iload_n hx hb dX9_binds_50 rfl (lv_at hl 2 rfl) ?_
    obtain ⟨g4, hf⟩ := gd_ok hf
    refine q_iald hx hb hK hP (a0X9_21 h0) g4 dX9_binds_51 ?_
    refine lv_iconst (v := 1) hx hb dX9_binds_52 (by decide) ?_
    refine lv_iload_n hx hb dX9_binds_53 rfl (lv_at hl 1 rfl) ?_
    refine lv_ishl hx hb dX9_binds_54 ?_
    refine lv_ior hx hb dX9_binds_55 ?_
    refine lv_goto (tgt := 71) hx hb dX9_binds_56 (by decide) ?_
    exact w_X9_binds_71 C hK hE hN h0   x1 x2 x3 ((I2 21 x2.toNatClampNeg) ||| ((1 : Int32) <<< (x1 &&& (31 : Int32)))) x2 I2 _ _ _ hf (lv_sub hl [0, 1, 2, 3] rfl) hP hS
set_option maxHeartbeats 4000000 in
set_option maxRecDepth 100000 in
theorem c_X9_binds (l : Launch) {D : va_G} {ad : Nat → Nat} {cy : Nat → ClassId} {sa va : Nat → Nat} {I : qI} {J : qJ} {S : Nat → Prop} (h0 : isM0 S)   (p0 : Int32) (p1 : Int32) (p2 : Int32) {Ie : qI} (hf : f_X9_binds p0 p1 p2 I = some Ie) : Met l yX9_binds wsX9_binds r_X9_binds (va_Pc [.ref (ad 0), .int p0, .int p1, .int p2] (qPre D S ad cy sa va (eM ad cy) I J)) (va_Qv (S := Unit) (fun _ => True) (fun _ t => qP D S ad (eM ad cy) Ie J t.heap) (qA S ad)) 0 0 (qA S ad) := by
  refine Met.ofW (cc := cX9_binds) (maxL := 4) (ret := none) (by decide) rfl ?_
  intro p e s m args below meth c s₁ B hml hv
  obtain ⟨rfl, hP, hK, hE, hN⟩ := hv
  have C : qC p s m _ meth c cX9_binds 4 RX9 wsX9_binds none := ⟨⟨B.exec, B.bytes, hml, findClass_of_methodNamed B.named, atoms_spec (ws := wsX9_binds) B.pre⟩, B.returns, B.notSynchronized⟩
  have C0 := C
  obtain ⟨⟨hx, hb, hml, hown, hts⟩, hr, hlocks⟩ := C0
  have hS : va_S (qA S ad) s.heap s.heap [] := va_S.rf
  have hl := lv_entry ([.ref (ad 0), .int p0, .int p1, .int p2]) (n := 4) (Nat.le_of_ble_eq_true rfl)
  rw [lg_entry_eq]
  generalize (lg_sl ([.ref (ad 0), .int p0, .int p1, .int p2]) ++ List.replicate (4 - (lg_sl ([.ref (ad 0), .int p0, .int p1, .int p2])).length) Slot.unset).toArray = ls at hl ⊢
  have hl : lv_has ls 4 [(0, .ref (ad 0)), (1, .int p0), (2, .int p1), (3, .int p2)] := hl
  unfold f_X9_binds at hf
  refine lv_aload_n hx hb dX9_binds_0 rfl (lv_at hl 0 rfl) ?_
  refine q_get (C := RX9) (T := TX9) (N := 42) (ci := 9) (v := .ref (ad 21)) hx hb hts in_X9_binds_X9 hown hK hP (oX9 h0) rfl 23 (by decide) (hts (.fieldLink RX9 62 "RowsOnlyPrimesModel" "tied" "[I") (by decide +kernel)) (fun _ h9 => h9) rfl dX9_binds_1 ?_
  refine lv_iload_n hx hb dX9_binds_4 rfl (lv_at hl 1 rfl) ?_
  refine lv_iload_n hx hb dX9_binds_5 rfl (lv_at hl 3 rfl) ?_
  refine lv_iconst (v := 1) hx hb dX9_binds_6 (by decide) ?_
  refine lv_icmp_ne (tgt := 23) hx hb dX9_binds_7 (by decide) (fun cc => ?_) (fun cc => ?_)
  · have hf := (if_ok hf).2 cc
    refine lv_aload_n hx hb dX9_binds_23 rfl (lv_at hl 0 rfl) ?_
    refine q_get (C := RX9) (T := TX9) (N := 42) (ci := 9) (v := .ref (ad 21)) hx hb hts in_X9_binds_X9 hown hK hP (oX9 h0) rfl 23 (by decide) (hts (.fieldLink RX9 62 "RowsOnlyPrimesModel" "tied" "[I") (by decide +kernel)) (fun _ h9 => h9) rfl dX9_binds_24 ?_
    refine lv_iload_n hx hb dX9_binds_27 rfl (lv_at hl 1 rfl) ?_
    obtain ⟨g1, hf⟩ := gd_ok hf
    refine q_iald hx hb hK hP (a0X9_21 h0) g1 dX9_binds_28 ?_
    refine lv_iconst (v := 1) hx hb dX9_binds_29 (by decide) ?_
    refine lv_iload_n hx hb dX9_binds_30 rfl (lv_at hl 2 rfl) ?_
    refine lv_ishl hx hb dX9_binds_31 ?_
    refine lv_iconst (v := -1) hx hb dX9_binds_32 (by decide) ?_
    refine lv_ixor hx hb dX9_binds_33 ?_
    refine lv_iand hx hb dX9_binds_34 ?_
    exact w_X9_binds_35 C hK hE hN h0   p0 p1 p2 ((I 21 p0.toNatClampNeg) &&& (((1 : Int32) <<< (p1 &&& (31 : Int32))) ^^^ (-1 : Int32))) p0 I _ _ _ hf (lv_sub hl [0, 1, 2, 3] rfl) hP hS
  · have hf := (if_ok hf).1 cc
    refine lv_aload_n hx hb dX9_binds_10 rfl (lv_at hl 0 rfl) ?_
    refine q_get (C := RX9) (T := TX9) (N := 42) (ci := 9) (v := .ref (ad 21)) hx hb hts in_X9_binds_X9 hown hK hP (oX9 h0) rfl 23 (by decide) (hts (.fieldLink RX9 62 "RowsOnlyPrimesModel" "tied" "[I") (by decide +kernel)) (fun _ h9 => h9) rfl dX9_binds_11 ?_
    refine lv_iload_n hx hb dX9_binds_14 rfl (lv_at hl 1 rfl) ?_
    obtain ⟨g2, hf⟩ := gd_ok hf
    refine q_iald hx hb hK hP (a0X9_21 h0) g2 dX9_binds_15 ?_
    refine lv_iconst (v := 1) hx hb dX9_binds_16 (by decide) ?_
    refine lv_iload_n hx hb dX9_binds_17 rfl (lv_at hl 2 rfl) ?_
    refine lv_ishl hx hb dX9_binds_18 ?_
    refine lv_ior hx hb dX9_binds_19 ?_
    refine lv_goto (tgt := 35) hx hb dX9_binds_20 (by decide) ?_
    exact w_X9_binds_35 C hK hE hN h0   p0 p1 p2 ((I 21 p0.toNatClampNeg) ||| ((1 : Int32) <<< (p1 &&& (31 : Int32)))) p0 I _ _ _ hf (lv_sub hl [0, 1, 2, 3] rfl) hP hS
abbrev r_X9_boundOf : Room := { frames := 0, cells := 0, slots := 0, locals := 0 }
theorem in_X9_boundOf_X9 : ∀ w ∈ u_ws RX9 TX9 42, w ∈ wsX9_boundOf := by decide +kernel
set_option maxHeartbeats 4000000 in
set_option maxRecDepth 100000 in
theorem c_X9_boundOf (l : Launch) {D : va_G} {ad : Nat → Nat} {cy : Nat → ClassId} {sa va : Nat → Nat} {I : qI} {J : qJ} {S : Nat → Prop} (h0 : isM0 S)   (p0 : Int32) (p1 : Int32) {r : Int32} (hf : f_X9_boundOf p0 p1 I = some r) : Met l yX9_boundOf wsX9_boundOf r_X9_boundOf (va_Pc [.ref (ad 0), .int p0, .int p1] (qPre D S ad cy sa va (eM ad cy) I J)) (vp_Si (fun x => x = r)) 0 0 (fun _ => False) := by
  refine Met.ofW (cc := cX9_boundOf) (maxL := 3) (ret := (some .int)) (by decide) rfl ?_
  intro p e s m args below meth c s₁ B hml hv
  obtain ⟨rfl, hP, hK, hE, hN⟩ := hv
  have C : qC p s m _ meth c cX9_boundOf 3 RX9 wsX9_boundOf (some .int) := ⟨⟨B.exec, B.bytes, hml, findClass_of_methodNamed B.named, atoms_spec (ws := wsX9_boundOf) B.pre⟩, B.returns, B.notSynchronized⟩
  have C0 := C
  obtain ⟨⟨hx, hb, hml, hown, hts⟩, hr, hlocks⟩ := C0
  have hl := lv_entry ([.ref (ad 0), .int p0, .int p1]) (n := 3) (Nat.le_of_ble_eq_true rfl)
  rw [lg_entry_eq]
  generalize (lg_sl ([.ref (ad 0), .int p0, .int p1]) ++ List.replicate (3 - (lg_sl ([.ref (ad 0), .int p0, .int p1])).length) Slot.unset).toArray = ls at hl ⊢
  have hl : lv_has ls 3 [(0, .ref (ad 0)), (1, .int p0), (2, .int p1)] := hl
  unfold f_X9_boundOf at hf
  refine lv_aload_n hx hb dX9_boundOf_0 rfl (lv_at hl 0 rfl) ?_
  refine q_get (C := RX9) (T := TX9) (N := 42) (ci := 9) (v := .ref (ad 21)) hx hb hts in_X9_boundOf_X9 hown hK hP (oX9 h0) rfl 23 (by decide) (hts (.fieldLink RX9 62 "RowsOnlyPrimesModel" "tied" "[I") (by decide +kernel)) (fun _ h9 => h9) rfl dX9_boundOf_1 ?_
  refine lv_iload_n hx hb dX9_boundOf_4 rfl (lv_at hl 1 rfl) ?_
  obtain ⟨g1, hf⟩ := gd_ok hf
  refine q_iald hx hb hK hP (a0X9_21 h0) g1 dX9_boundOf_5 ?_
  refine lv_iload_n hx hb dX9_boundOf_6 rfl (lv_at hl 2 rfl) ?_
  refine lv_ishr hx hb dX9_boundOf_7 ?_
  refine lv_iconst (v := 1) hx hb dX9_boundOf_8 (by decide) ?_
  refine lv_iand hx hb dX9_boundOf_9 ?_
  refine lv_iconst (v := 1) hx hb dX9_boundOf_10 (by decide) ?_
  refine lv_icmp_ne (tgt := 18) hx hb dX9_boundOf_11 (by decide) (fun cc => ?_) (fun cc => ?_)
  · have hf := (if_ok hf).2 cc
    refine lv_aload_n hx hb dX9_boundOf_18 rfl (lv_at hl 0 rfl) ?_
    refine q_get (C := RX9) (T := TX9) (N := 42) (ci := 9) (v := .ref (ad 22)) hx hb hts in_X9_boundOf_X9 hown hK hP (oX9 h0) rfl 24 (by decide) (hts (.fieldLink RX9 65 "RowsOnlyPrimesModel" "shuns" "[I") (by decide +kernel)) (fun _ h9 => h9) rfl dX9_boundOf_19 ?_
    refine lv_iload_n hx hb dX9_boundOf_22 rfl (lv_at hl 1 rfl) ?_
    obtain ⟨g2, hf⟩ := gd_ok hf
    refine q_iald hx hb hK hP (a0X9_22 h0) g2 dX9_boundOf_23 ?_
    refine lv_iload_n hx hb dX9_boundOf_24 rfl (lv_at hl 2 rfl) ?_
    refine lv_ishr hx hb dX9_boundOf_25 ?_
    refine lv_iconst (v := 1) hx hb dX9_boundOf_26 (by decide) ?_
    refine lv_iand hx hb dX9_boundOf_27 ?_
    refine lv_iconst (v := 1) hx hb dX9_boundOf_28 (by decide) ?_
    refine lv_icmp_ne (tgt := 36) hx hb dX9_boundOf_29 (by decide) (fun cc => ?_) (fun cc => ?_)
    · have hf := (if_ok hf).2 cc
      refine lv_iconst (v := 0) hx hb dX9_boundOf_36 (by decide) ?_
      exact W.iret hx hb hr (fun t ht _ => ⟨_, rfl, Option.some.inj hf, ht⟩) (fun _ h => by cases h) dX9_boundOf_37
    · have hf := (if_ok hf).1 cc
      refine lv_iconst (v := 2) hx hb dX9_boundOf_32 (by decide) ?_
      refine lv_goto (tgt := 37) hx hb dX9_boundOf_33 (by decide) ?_
      exact W.iret hx hb hr (fun t ht _ => ⟨_, rfl, Option.some.inj hf, ht⟩) (fun _ h => by cases h) dX9_boundOf_37
  · have hf := (if_ok hf).1 cc
    refine lv_iconst (v := 1) hx hb dX9_boundOf_14 (by decide) ?_
    refine lv_goto (tgt := 37) hx hb dX9_boundOf_15 (by decide) ?_
    exact W.iret hx hb hr (fun t ht _ => ⟨_, rfl, Option.some.inj hf, ht⟩) (fun _ h => by cases h) dX9_boundOf_37
abbrev r_X9_bind : Room := { frames := 2, cells := 0, slots := 0, locals := 46 }
set_option maxHeartbeats 4000000 in
set_option maxRecDepth 100000 in
theorem w_X9_bind_33 {S : Nat → Prop} (C : qC p s m args meth c cX9_bind 5 RX9 wsX9_bind (some .int)) (hK : qK D cy sa s) (hE : qEnv sa va (qA S ad) s s.heap) (hN : qN S ad) (h0 : isM0 S)   {J : qJ} {r : Int32} {Ie : qI} : ∀   (I : qI) (ls : Array Slot) (H : Heap) (locs : List Loc), f_X9_bind_33 I = some (r, Ie) → lv_has ls 5 [(0, .ref (ad 0))] → qP D S ad (eM ad cy) I J H → va_S (qA S ad) s.heap H locs → W p l e (headSpec wsX9_bind r_X9_bind).room s m args below meth c H locs 0 0 (MQ below (va_Qi (S := Unit) (fun x _ => x = r) (fun _ t => qP D S ad (eM ad cy) Ie J t.heap) (qA S ad)) args s 0 0 (qA S ad)) (F0 m 33 ls []) := by
  have C0 := C
  obtain ⟨⟨hx, hb, hml, hown, hts⟩, hr, hlocks⟩ := C0
  intro I ls H locs hf hl hP hS
  unfold f_X9_bind_33 at hf
  refine lv_aload_n hx hb dX9_bind_33 rfl (lv_at hl 0 rfl) ?_
  refine lv_sipush (v := -1002) hx hb dX9_bind_34 (by decide) ?_
  obtain ⟨v1, I2, h3, hf⟩ := bd2_ok hf
  refine q_cEi (va_runV (As := [.int (-1002 : Int32)]) (rest := []) ⟨hx, hb, hml, hown, hts⟩ (c_X9_refuse l (D := D) (ad := ad) (cy := cy) (sa := sa) (va := va) (I := I) (J := J) (S := S) h0 (-1002 : Int32) h3) (cwV 1 hts gX9_bind_X9_refuse rfl rfl rfl (by decide +kernel) ⟨Nat.le_of_ble_eq_true rfl, Nat.le_of_ble_eq_true rfl⟩) ⟨qPre_blind _, q_recv hK hP (oX9 h0) rfl, fun U hU hW => ⟨rfl, qPre_of hP hK hE hN hS U hU hW⟩⟩ rfl rfl hl.1 rfl (lv_room (Nat.le_of_ble_eq_true rfl)) dX9_bind_37 ⟨Nat.le_of_ble_eq_true rfl, Nat.le_of_ble_eq_true rfl⟩) hS (fun H locs hP hS => ?_)
  have e9 := Option.some.inj hf
  have eI9 : I2 = Ie := (congrArg Prod.snd e9)
  exact W.iret hx hb hr (fun t ht _ => ⟨⟨_, (), rfl, (congrArg Prod.fst e9), by show qP D _ ad _ _ _ t.heap; rw [ht, ← eI9]; exact hP⟩, hS.F ht⟩) hS.2.2 dX9_bind_40
set_option maxHeartbeats 4000000 in
set_option maxRecDepth 100000 in
theorem c_X9_bind (l : Launch) {D : va_G} {ad : Nat → Nat} {cy : Nat → ClassId} {sa va : Nat → Nat} {I : qI} {J : qJ} {S : Nat → Prop} (h0 : isM0 S)   (p0 : Int32) (p1 : Int32) (p2 : Int32) {r : Int32} {Ie : qI} (hf : f_X9_bind p0 p1 p2 I = some (r, Ie)) : Met l yX9_bind wsX9_bind r_X9_bind (va_Pc [.ref (ad 0), .int p0, .int p1, .int p2] (qPre D S ad cy sa va (eM ad cy) I J)) (va_Qi (S := Unit) (fun x _ => x = r) (fun _ t => qP D S ad (eM ad cy) Ie J t.heap) (qA S ad)) 0 0 (qA S ad) := by
  refine Met.ofW (cc := cX9_bind) (maxL := 5) (ret := (some .int)) (by decide) rfl ?_
  intro p e s m args below meth c s₁ B hml hv
  obtain ⟨rfl, hP, hK, hE, hN⟩ := hv
  have C : qC p s m _ meth c cX9_bind 5 RX9 wsX9_bind (some .int) := ⟨⟨B.exec, B.bytes, hml, findClass_of_methodNamed B.named, atoms_spec (ws := wsX9_bind) B.pre⟩, B.returns, B.notSynchronized⟩
  have C0 := C
  obtain ⟨⟨hx, hb, hml, hown, hts⟩, hr, hlocks⟩ := C0
  have hS : va_S (qA S ad) s.heap s.heap [] := va_S.rf
  have hl := lv_entry ([.ref (ad 0), .int p0, .int p1, .int p2]) (n := 5) (Nat.le_of_ble_eq_true rfl)
  rw [lg_entry_eq]
  generalize (lg_sl ([.ref (ad 0), .int p0, .int p1, .int p2]) ++ List.replicate (5 - (lg_sl ([.ref (ad 0), .int p0, .int p1, .int p2])).length) Slot.unset).toArray = ls at hl ⊢
  have hl : lv_has ls 5 [(0, .ref (ad 0)), (1, .int p0), (2, .int p1), (3, .int p2)] := hl
  unfold f_X9_bind at hf
  refine lv_aload_n hx hb dX9_bind_0 rfl (lv_at hl 0 rfl) ?_
  refine lv_iload_n hx hb dX9_bind_1 rfl (lv_at hl 1 rfl) ?_
  obtain ⟨v1, h2, hf⟩ := bd_ok hf
  refine q_cSi (va_runV (As := [.int p0]) (rest := []) ⟨hx, hb, hml, hown, hts⟩ (c_X9_isParty l (D := D) (ad := ad) (cy := cy) (sa := sa) (va := va) (I := I) (J := J) (S := S) h0 p0 h2) (cwV 1 hts gX9_bind_X9_isParty rfl rfl rfl (by decide +kernel) ⟨Nat.le_of_ble_eq_true rfl, Nat.le_of_ble_eq_true rfl⟩) ⟨qPre_blind _, q_recv hK hP (oX9 h0) rfl, fun U hU hW => ⟨rfl, qPre_of hP hK hE hN hS U hU hW⟩⟩ rfl rfl hl.1 rfl (lv_room (Nat.le_of_ble_eq_true rfl)) dX9_bind_2 ⟨Nat.le_of_ble_eq_true rfl, Nat.le_of_ble_eq_true rfl⟩) ?_
  refine lv_if_eq (tgt := 33) hx hb dX9_bind_5 (by decide) (fun cc => ?_) (fun cc => ?_)
  · have hf := (if_ok hf).1 cc
    exact w_X9_bind_33 C hK hE hN h0   I _ _ _ hf (lv_sub hl [0] rfl) hP hS
  · have hf := (if_ok hf).2 cc
    refine lv_aload_n hx hb dX9_bind_8 rfl (lv_at hl 0 rfl) ?_
    refine lv_iload_n hx hb dX9_bind_9 rfl (lv_at hl 2 rfl) ?_
    obtain ⟨v3, h4, hf⟩ := bd_ok hf
    refine q_cSi (va_runV (As := [.int p1]) (rest := []) ⟨hx, hb, hml, hown, hts⟩ (c_X9_isParty l (D := D) (ad := ad) (cy := cy) (sa := sa) (va := va) (I := I) (J := J) (S := S) h0 p1 h4) (cwV 1 hts gX9_bind_X9_isParty rfl rfl rfl (by decide +kernel) ⟨Nat.le_of_ble_eq_true rfl, Nat.le_of_ble_eq_true rfl⟩) ⟨qPre_blind _, q_recv hK hP (oX9 h0) rfl, fun U hU hW => ⟨rfl, qPre_of hP hK hE hN hS U hU hW⟩⟩ rfl rfl hl.1 rfl (lv_room (Nat.le_of_ble_eq_true rfl)) dX9_bind_10 ⟨Nat.le_of_ble_eq_true rfl, Nat.le_of_ble_eq_true rfl⟩) ?_
    refine lv_if_eq (tgt := 33) hx hb dX9_bind_13 (by decide) (fun cc => ?_) (fun cc => ?_)
    · have hf := (if_ok hf).1 cc
      exact w_X9_bind_33 C hK hE hN h0   I _ _ _ hf (lv_sub hl [0] rfl) hP hS
    · have hf := (if_ok hf).2 cc
      refine lv_iload_n hx hb dX9_bind_16 rfl (lv_at hl 1 rfl) ?_
      refine lv_iload_n hx hb dX9_bind_17 rfl (lv_at hl 2 rfl) ?_
      refine lv_icmp_eq (tgt := 33) hx hb dX9_bind_18 (by decide) (fun cc => ?_) (fun cc => ?_)
      · have hf := (if_ok hf).1 cc
        exact w_X9_bind_33 C hK hE hN h0   I _ _ _ hf (lv_sub hl [0] rfl) hP hS
      · have hf := (if_ok hf).2 cc
        refine lv_iload_n hx hb dX9_bind_21 rfl (lv_at hl 3 rfl) ?_
        refine lv_i2l hx hb dX9_bind_22 rfl ?_
        refine lv_lconst (v := 0) hx hb dX9_bind_23 (by decide) ?_
        refine lv_ldc2 (own := RX9) (v := 2) hx hb hown (hts (.constantLong RX9 141 (2)) (by decide +kernel)) dX9_bind_24 ?_
        obtain ⟨v5, h6, hf⟩ := bd_ok hf
        refine q_cSi (va_runS (As := [.long p2.toInt64, .long (0 : Int64), .long (2 : Int64)]) (rest := []) ⟨hx, hb, hml, hown, hts⟩ (c_X9_in l (D := D) (ad := ad) (cy := cy) (sa := sa) (va := va) (I := I) (J := J) (S := S) h0 p2.toInt64 (0 : Int64) (2 : Int64) h6) (va_cwS 3 hts gX9_bind_X9_in rfl rfl rfl (by decide +kernel) ⟨Nat.le_of_ble_eq_true rfl, Nat.le_of_ble_eq_true rfl⟩) ⟨qPre_blind _, fun U hU hW => ⟨rfl, qPre_of hP hK hE hN hS U hU hW⟩⟩ rfl rfl hl.1 rfl (lv_room (Nat.le_of_ble_eq_true rfl)) dX9_bind_27 ⟨Nat.le_of_ble_eq_true rfl, Nat.le_of_ble_eq_true rfl⟩) ?_
        refine lv_if_ne (tgt := 41) hx hb dX9_bind_30 (by decide) (fun cc => ?_) (fun cc => ?_)
        · have hf := (if_ok hf).2 cc
          refine lv_aload_n hx hb dX9_bind_41 rfl (lv_at hl 0 rfl) ?_
          refine lv_iload_n hx hb dX9_bind_42 rfl (lv_at hl 1 rfl) ?_
          refine lv_iload_n hx hb dX9_bind_43 rfl (lv_at hl 2 rfl) ?_
          obtain ⟨v7, h8, hf⟩ := bd_ok hf
          refine q_cSi (va_runV (As := [.int p0, .int p1]) (rest := []) ⟨hx, hb, hml, hown, hts⟩ (c_X9_boundOf l (D := D) (ad := ad) (cy := cy) (sa := sa) (va := va) (I := I) (J := J) (S := S) h0 p0 p1 h8) (cwV 2 hts gX9_bind_X9_boundOf rfl rfl rfl (by decide +kernel) ⟨Nat.le_of_ble_eq_true rfl, Nat.le_of_ble_eq_true rfl⟩) ⟨qPre_blind _, q_recv hK hP (oX9 h0) rfl, fun U hU hW => ⟨rfl, qPre_of hP hK hE hN hS U hU hW⟩⟩ rfl rfl hl.1 rfl (lv_room (Nat.le_of_ble_eq_true rfl)) dX9_bind_44 ⟨Nat.le_of_ble_eq_true rfl, Nat.le_of_ble_eq_true rfl⟩) ?_
          refine lv_istore (lv' := [(4, .int v7), (0, .ref (ad 0)), (1, .int p0), (2, .int p1), (3, .int p2)]) hx hb dX9_bind_47 hl (by decide) rfl (fun ls hl => ?_)
          refine lv_aload_n hx hb dX9_bind_49 rfl (lv_at hl 1 rfl) ?_
          refine lv_iload_n hx hb dX9_bind_50 rfl (lv_at hl 2 rfl) ?_
          refine lv_iload_n hx hb dX9_bind_51 rfl (lv_at hl 3 rfl) ?_
          refine lv_iload_n hx hb dX9_bind_52 rfl (lv_at hl 4 rfl) ?_
          obtain ⟨I9, h10, hf⟩ := bd_ok hf
          refine q_cEv (va_runV (As := [.int p0, .int p1, .int p2]) (rest := []) ⟨hx, hb, hml, hown, hts⟩ (c_X9_binds l (D := D) (ad := ad) (cy := cy) (sa := sa) (va := va) (I := I) (J := J) (S := S) h0 p0 p1 p2 h10) (cwV 3 hts gX9_bind_X9_binds rfl rfl rfl (by decide +kernel) ⟨Nat.le_of_ble_eq_true rfl, Nat.le_of_ble_eq_true rfl⟩) ⟨qPre_blind _, q_recv hK hP (oX9 h0) rfl, fun U hU hW => ⟨rfl, qPre_of hP hK hE hN hS U hU hW⟩⟩ rfl rfl hl.1 rfl (lv_room (Nat.le_of_ble_eq_true rfl)) dX9_bind_53 ⟨Nat.le_of_ble_eq_true rfl, Nat.le_of_ble_eq_true rfl⟩) hS (fun H locs hP hS => ?_)
          refine lv_iload hx hb dX9_bind_56 (lv_at hl 0 rfl) ?_
          have e9 := Option.some.inj hf
          have eI9 : I9 = Ie := (congrArg Prod.snd e9)
          exact W.iret hx hb hr (fun t ht _ => ⟨⟨_, (), rfl, (congrArg Prod.fst e9), by show qP D _ ad _ _ _ t.heap; rw [ht, ← eI9]; exact hP⟩, hS.F ht⟩) hS.2.2 dX9_bind_58
        · have hf := (if_ok hf).1 cc
          exact w_X9_bind_33 C hK hE hN h0   I _ _ _ hf (lv_sub hl [0] rfl) hP hS
abbrev r_X9_set_ : Room := { frames := 0, cells := 0, slots := 0, locals := 0 }
theorem in_X9_set__X9 : ∀ w ∈ u_ws RX9 TX9 42, w ∈ wsX9_set_ := by decide +kernel
set_option maxHeartbeats 4000000 in
set_option maxRecDepth 100000 in
theorem c_X9_set_ (l : Launch) {D : va_G} {ad : Nat → Nat} {cy : Nat → ClassId} {sa va : Nat → Nat} {I : qI} {J : qJ} {S : Nat → Prop} (h0 : isM0 S)   (p0 : Int32) (p1 : Int32) {r : Int32} {Ie : qI} (hf : f_X9_set_ p0 p1 I = some (r, Ie)) : Met l yX9_set_ wsX9_set_ r_X9_set_ (va_Pc [.ref (ad 0), .int p0, .int p1] (qPre D S ad cy sa va (eM ad cy) I J)) (va_Qi (S := Unit) (fun x _ => x = r) (fun _ t => qP D S ad (eM ad cy) Ie J t.heap) (qA S ad)) 0 0 (qA S ad) := by
  refine Met.ofW (cc := cX9_set_) (maxL := 4) (ret := (some .int)) (by decide) rfl ?_
  intro p e s m args below meth c s₁ B hml hv
  obtain ⟨rfl, hP, hK, hE, hN⟩ := hv
  have C : qC p s m _ meth c cX9_set_ 4 RX9 wsX9_set_ (some .int) := ⟨⟨B.exec, B.bytes, hml, findClass_of_methodNamed B.named, atoms_spec (ws := wsX9_set_) B.pre⟩, B.returns, B.notSynchronized⟩
  have C0 := C
  obtain ⟨⟨hx, hb, hml, hown, hts⟩, hr, hlocks⟩ := C0
  have hS : va_S (qA S ad) s.heap s.heap [] := va_S.rf
  have hl := lv_entry ([.ref (ad 0), .int p0, .int p1]) (n := 4) (Nat.le_of_ble_eq_true rfl)
  rw [lg_entry_eq]
  generalize (lg_sl ([.ref (ad 0), .int p0, .int p1]) ++ List.replicate (4 - (lg_sl ([.ref (ad 0), .int p0, .int p1])).length) Slot.unset).toArray = ls at hl ⊢
  have hl : lv_has ls 4 [(0, .ref (ad 0)), (1, .int p0), (2, .int p1)] := hl
  unfold f_X9_set_ at hf
  refine lv_iload_n hx hb dX9_set__0 rfl (lv_at hl 1 rfl) ?_
  by_cases c1 : p0 = (0 : Int32)
  · have hf := (if_ok hf).1 c1
    refine lv_tableIn (off := 31) (tgt := 32) hx hb dX9_set__1 (by rw [c1]; decide) (by rw [c1]; decide) (by rw [c1]; rfl) (by decide) ?_
    refine lv_aload_n hx hb dX9_set__32 rfl (lv_at hl 0 rfl) ?_
    refine q_get (C := RX9) (T := TX9) (N := 42) (ci := 9) (v := .int (I 0 9)) hx hb hts in_X9_set__X9 hown hK hP (oX9 h0) rfl 9 (by decide) (hts (.fieldLink RX9 37 "RowsOnlyPrimesModel" "seats" "I") (by decide +kernel)) (fun _ h9 => h9) rfl dX9_set__33 ?_
    refine lv_istore_n (lv' := [(3, .int (I 0 9)), (0, .ref (ad 0)), (1, .int p0), (2, .int p1)]) hx hb dX9_set__36 rfl hl (by decide) rfl (fun ls hl => ?_)
    refine lv_aload_n hx hb dX9_set__37 rfl (lv_at hl 1 rfl) ?_
    refine lv_iload_n hx hb dX9_set__38 rfl (lv_at hl 3 rfl) ?_
    obtain ⟨I2, eI2, hf⟩ := lt_ok hf
    refine q_put (C := RX9) (T := TX9) (N := 42) (ci := 9) (v := .int p1) (x := p1) (ty := .int) hx hb hts in_X9_set__X9 tyX9 tyX9_ok nmX9 hown hK hP hN hS (oX9 h0) rfl 9 (by decide) (hts (.fieldLink RX9 37 "RowsOnlyPrimesModel" "seats" "I") (by decide +kernel)) (fun _ h9 => h9) rfl (by decide +kernel) rfl rfl (fun _ _ => rfl) (fun _ _ => Nat.le_of_ble_eq_true rfl) dX9_set__39 (fun H locs hP hS => ?_)
    rw [← eI2] at hP
    refine lv_iload_n hx hb dX9_set__42 rfl (lv_at hl 0 rfl) ?_
    have e9 := Option.some.inj hf
    have eI9 : I2 = Ie := (congrArg Prod.snd e9)
    exact W.iret hx hb hr (fun t ht _ => ⟨⟨_, (), rfl, (congrArg Prod.fst e9), by show qP D _ ad _ _ _ t.heap; rw [ht, ← eI9]; exact hP⟩, hS.F ht⟩) hS.2.2 dX9_set__43
  have hf := (if_ok hf).2 c1
  by_cases c3 : p0 = (1 : Int32)
  · have hf := (if_ok hf).1 c3
    refine lv_tableIn (off := 43) (tgt := 44) hx hb dX9_set__1 (by rw [c3]; decide) (by rw [c3]; decide) (by rw [c3]; rfl) (by decide) ?_
    refine lv_aload_n hx hb dX9_set__44 rfl (lv_at hl 0 rfl) ?_
    refine q_get (C := RX9) (T := TX9) (N := 42) (ci := 9) (v := .int (I 0 10)) hx hb hts in_X9_set__X9 hown hK hP (oX9 h0) rfl 10 (by decide) (hts (.fieldLink RX9 151 "RowsOnlyPrimesModel" "law" "I") (by decide +kernel)) (fun _ h9 => h9) rfl dX9_set__45 ?_
    refine lv_istore_n (lv' := [(3, .int (I 0 10)), (0, .ref (ad 0)), (1, .int p0), (2, .int p1)]) hx hb dX9_set__48 rfl hl (by decide) rfl (fun ls hl => ?_)
    refine lv_aload_n hx hb dX9_set__49 rfl (lv_at hl 1 rfl) ?_
    refine lv_iload_n hx hb dX9_set__50 rfl (lv_at hl 3 rfl) ?_
    obtain ⟨I4, eI4, hf⟩ := lt_ok hf
    refine q_put (C := RX9) (T := TX9) (N := 42) (ci := 9) (v := .int p1) (x := p1) (ty := .int) hx hb hts in_X9_set__X9 tyX9 tyX9_ok nmX9 hown hK hP hN hS (oX9 h0) rfl 10 (by decide) (hts (.fieldLink RX9 151 "RowsOnlyPrimesModel" "law" "I") (by decide +kernel)) (fun _ h9 => h9) rfl (by decide +kernel) rfl rfl (fun _ _ => rfl) (fun _ _ => Nat.le_of_ble_eq_true rfl) dX9_set__51 (fun H locs hP hS => ?_)
    rw [← eI4] at hP
    refine lv_iload_n hx hb dX9_set__54 rfl (lv_at hl 0 rfl) ?_
    have e9 := Option.some.inj hf
    have eI9 : I4 = Ie := (congrArg Prod.snd e9)
    exact W.iret hx hb hr (fun t ht _ => ⟨⟨_, (), rfl, (congrArg Prod.fst e9), by show qP D _ ad _ _ _ t.heap; rw [ht, ← eI9]; exact hP⟩, hS.F ht⟩) hS.2.2 dX9_set__55
  have hf := (if_ok hf).2 c3
  by_cases c5 : p0 = (2 : Int32)
  · have hf := (if_ok hf).1 c5
    refine lv_tableIn (off := 55) (tgt := 56) hx hb dX9_set__1 (by rw [c5]; decide) (by rw [c5]; decide) (by rw [c5]; rfl) (by decide) ?_
    refine lv_aload_n hx hb dX9_set__56 rfl (lv_at hl 0 rfl) ?_
    refine q_get (C := RX9) (T := TX9) (N := 42) (ci := 9) (v := .int (I 0 11)) hx hb hts in_X9_set__X9 hown hK hP (oX9 h0) rfl 11 (by decide) (hts (.fieldLink RX9 41 "RowsOnlyPrimesModel" "rule" "I") (by decide +kernel)) (fun _ h9 => h9) rfl dX9_set__57 ?_
    refine lv_istore_n (lv' := [(3, .int (I 0 11)), (0, .ref (ad 0)), (1, .int p0), (2, .int p1)]) hx hb dX9_set__60 rfl hl (by decide) rfl (fun ls hl => ?_)
    refine lv_aload_n hx hb dX9_set__61 rfl (lv_at hl 1 rfl) ?_
    refine lv_iload_n hx hb dX9_set__62 rfl (lv_at hl 3 rfl) ?_
    obtain ⟨I6, eI6, hf⟩ := lt_ok hf
    refine q_put (C := RX9) (T := TX9) (N := 42) (ci := 9) (v := .int p1) (x := p1) (ty := .int) hx hb hts in_X9_set__X9 tyX9 tyX9_ok nmX9 hown hK hP hN hS (oX9 h0) rfl 11 (by decide) (hts (.fieldLink RX9 41 "RowsOnlyPrimesModel" "rule" "I") (by decide +kernel)) (fun _ h9 => h9) rfl (by decide +kernel) rfl rfl (fun _ _ => rfl) (fun _ _ => Nat.le_of_ble_eq_true rfl) dX9_set__63 (fun H locs hP hS => ?_)
    rw [← eI6] at hP
    refine lv_iload_n hx hb dX9_set__66 rfl (lv_at hl 0 rfl) ?_
    have e9 := Option.some.inj hf
    have eI9 : I6 = Ie := (congrArg Prod.snd e9)
    exact W.iret hx hb hr (fun t ht _ => ⟨⟨_, (), rfl, (congrArg Prod.fst e9), by show qP D _ ad _ _ _ t.heap; rw [ht, ← eI9]; exact hP⟩, hS.F ht⟩) hS.2.2 dX9_set__67
  have hf := (if_ok hf).2 c5
  by_cases c7 : p0 = (3 : Int32)
  · have hf := (if_ok hf).1 c7
    refine lv_tableIn (off := 67) (tgt := 68) hx hb dX9_set__1 (by rw [c7]; decide) (by rw [c7]; decide) (by rw [c7]; rfl) (by decide) ?_
    refine lv_aload_n hx hb dX9_set__68 rfl (lv_at hl 0 rfl) ?_
    refine q_get (C := RX9) (T := TX9) (N := 42) (ci := 9) (v := .int (I 0 12)) hx hb hts in_X9_set__X9 hown hK hP (oX9 h0) rfl 12 (by decide) (hts (.fieldLink RX9 44 "RowsOnlyPrimesModel" "hermits" "I") (by decide +kernel)) (fun _ h9 => h9) rfl dX9_set__69 ?_
    refine lv_istore_n (lv' := [(3, .int (I 0 12)), (0, .ref (ad 0)), (1, .int p0), (2, .int p1)]) hx hb dX9_set__72 rfl hl (by decide) rfl (fun ls hl => ?_)
    refine lv_aload_n hx hb dX9_set__73 rfl (lv_at hl 1 rfl) ?_
    refine lv_iload_n hx hb dX9_set__74 rfl (lv_at hl 3 rfl) ?_
    obtain ⟨I8, eI8, hf⟩ := lt_ok hf
    refine q_put (C := RX9) (T := TX9) (N := 42) (ci := 9) (v := .int p1) (x := p1) (ty := .int) hx hb hts in_X9_set__X9 tyX9 tyX9_ok nmX9 hown hK hP hN hS (oX9 h0) rfl 12 (by decide) (hts (.fieldLink RX9 44 "RowsOnlyPrimesModel" "hermits" "I") (by decide +kernel)) (fun _ h9 => h9) rfl (by decide +kernel) rfl rfl (fun _ _ => rfl) (fun _ _ => Nat.le_of_ble_eq_true rfl) dX9_set__75 (fun H locs hP hS => ?_)
    rw [← eI8] at hP
    refine lv_iload_n hx hb dX9_set__78 rfl (lv_at hl 0 rfl) ?_
    have e9 := Option.some.inj hf
    have eI9 : I8 = Ie := (congrArg Prod.snd e9)
    exact W.iret hx hb hr (fun t ht _ => ⟨⟨_, (), rfl, (congrArg Prod.fst e9), by show qP D _ ad _ _ _ t.heap; rw [ht, ← eI9]; exact hP⟩, hS.F ht⟩) hS.2.2 dX9_set__79
  have hf := (if_ok hf).2 c7
  refine lv_tableOut (tgt := 80) hx hb dX9_set__1 (by have c1 := q_nt c1 (show ((0 : Int32)).toInt = 0 by decide); have c3 := q_nt c3 (show ((1 : Int32)).toInt = 1 by decide); have c5 := q_nt c5 (show ((2 : Int32)).toInt = 2 by decide); have c7 := q_nt c7 (show ((3 : Int32)).toInt = 3 by decide); omega) (by decide) ?_
  refine lv_aload_n hx hb dX9_set__80 rfl (lv_at hl 0 rfl) ?_
  refine q_get (C := RX9) (T := TX9) (N := 42) (ci := 9) (v := .int (I 0 13)) hx hb hts in_X9_set__X9 hown hK hP (oX9 h0) rfl 13 (by decide) (hts (.fieldLink RX9 47 "RowsOnlyPrimesModel" "cost" "I") (by decide +kernel)) (fun _ h9 => h9) rfl dX9_set__81 ?_
  refine lv_istore_n (lv' := [(3, .int (I 0 13)), (0, .ref (ad 0)), (1, .int p0), (2, .int p1)]) hx hb dX9_set__84 rfl hl (by decide) rfl (fun ls hl => ?_)
  refine lv_aload_n hx hb dX9_set__85 rfl (lv_at hl 1 rfl) ?_
  refine lv_iload_n hx hb dX9_set__86 rfl (lv_at hl 3 rfl) ?_
  obtain ⟨I9, eI9, hf⟩ := lt_ok hf
  refine q_put (C := RX9) (T := TX9) (N := 42) (ci := 9) (v := .int p1) (x := p1) (ty := .int) hx hb hts in_X9_set__X9 tyX9 tyX9_ok nmX9 hown hK hP hN hS (oX9 h0) rfl 13 (by decide) (hts (.fieldLink RX9 47 "RowsOnlyPrimesModel" "cost" "I") (by decide +kernel)) (fun _ h9 => h9) rfl (by decide +kernel) rfl rfl (fun _ _ => rfl) (fun _ _ => Nat.le_of_ble_eq_true rfl) dX9_set__87 (fun H locs hP hS => ?_)
  rw [← eI9] at hP
  refine lv_iload_n hx hb dX9_set__90 rfl (lv_at hl 0 rfl) ?_
  have e9 := Option.some.inj hf
  have eI9 : I9 = Ie := (congrArg Prod.snd e9)
  exact W.iret hx hb hr (fun t ht _ => ⟨⟨_, (), rfl, (congrArg Prod.fst e9), by show qP D _ ad _ _ _ t.heap; rw [ht, ← eI9]; exact hP⟩, hS.F ht⟩) hS.2.2 dX9_set__91
abbrev r_X9_tell : Room := { frames := 1, cells := 0, slots := 0, locals := 25 }
set_option maxHeartbeats 4000000 in
set_option maxRecDepth 100000 in
theorem w_X9_tell_53 {S : Nat → Prop} (C : qC p s m args meth c cX9_tell 3 RX9 wsX9_tell (some .int)) (hK : qK D cy sa s) (hE : qEnv sa va (qA S ad) s s.heap) (hN : qN S ad) (h0 : isM0 S)   {J : qJ} {r : Int32} {Ie : qI} : ∀   (I : qI) (ls : Array Slot) (H : Heap) (locs : List Loc), f_X9_tell_53 I = some (r, Ie) → lv_has ls 3 [(0, .ref (ad 0))] → qP D S ad (eM ad cy) I J H → va_S (qA S ad) s.heap H locs → W p l e (headSpec wsX9_tell r_X9_tell).room s m args below meth c H locs 0 0 (MQ below (va_Qi (S := Unit) (fun x _ => x = r) (fun _ t => qP D S ad (eM ad cy) Ie J t.heap) (qA S ad)) args s 0 0 (qA S ad)) (F0 m 53 ls []) := by
  have C0 := C
  obtain ⟨⟨hx, hb, hml, hown, hts⟩, hr, hlocks⟩ := C0
  intro I ls H locs hf hl hP hS
  unfold f_X9_tell_53 at hf
  refine lv_aload_n hx hb dX9_tell_53 rfl (lv_at hl 0 rfl) ?_
  refine lv_sipush (v := -1002) hx hb dX9_tell_54 (by decide) ?_
  obtain ⟨v1, I2, h3, hf⟩ := bd2_ok hf
  refine q_cEi (va_runV (As := [.int (-1002 : Int32)]) (rest := []) ⟨hx, hb, hml, hown, hts⟩ (c_X9_refuse l (D := D) (ad := ad) (cy := cy) (sa := sa) (va := va) (I := I) (J := J) (S := S) h0 (-1002 : Int32) h3) (cwV 1 hts gX9_tell_X9_refuse rfl rfl rfl (by decide +kernel) ⟨Nat.le_of_ble_eq_true rfl, Nat.le_of_ble_eq_true rfl⟩) ⟨qPre_blind _, q_recv hK hP (oX9 h0) rfl, fun U hU hW => ⟨rfl, qPre_of hP hK hE hN hS U hU hW⟩⟩ rfl rfl hl.1 rfl (lv_room (Nat.le_of_ble_eq_true rfl)) dX9_tell_57 ⟨Nat.le_of_ble_eq_true rfl, Nat.le_of_ble_eq_true rfl⟩) hS (fun H locs hP hS => ?_)
  have e9 := Option.some.inj hf
  have eI9 : I2 = Ie := (congrArg Prod.snd e9)
  exact W.iret hx hb hr (fun t ht _ => ⟨⟨_, (), rfl, (congrArg Prod.fst e9), by show qP D _ ad _ _ _ t.heap; rw [ht, ← eI9]; exact hP⟩, hS.F ht⟩) hS.2.2 dX9_tell_60
set_option maxHeartbeats 4000000 in
set_option maxRecDepth 100000 in
theorem w_X9_tell_47 {S : Nat → Prop} (C : qC p s m args meth c cX9_tell 3 RX9 wsX9_tell (some .int)) (hK : qK D cy sa s) (hE : qEnv sa va (qA S ad) s s.heap) (hN : qN S ad) (h0 : isM0 S)   {J : qJ} {r : Int32} {Ie : qI} : ∀ (x1 : Int32) (x2 : Int32) (xs0 : Int64) (xs1 : Int64) (xs2 : Int64)  (I : qI) (ls : Array Slot) (H : Heap) (locs : List Loc), f_X9_tell_47 x1 x2 xs0 xs1 xs2 I = some (r, Ie) → lv_has ls 3 [(0, .ref (ad 0)), (1, .int x1), (2, .int x2)] → qP D S ad (eM ad cy) I J H → va_S (qA S ad) s.heap H locs → W p l e (headSpec wsX9_tell r_X9_tell).room s m args below meth c H locs 0 0 (MQ below (va_Qi (S := Unit) (fun x _ => x = r) (fun _ t => qP D S ad (eM ad cy) Ie J t.heap) (qA S ad)) args s 0 0 (qA S ad)) (F0 m 47 ls [.long xs0, .long xs1, .long xs2]) := by
  have C0 := C
  obtain ⟨⟨hx, hb, hml, hown, hts⟩, hr, hlocks⟩ := C0
  intro x1 x2 xs0 xs1 xs2 I ls H locs hf hl hP hS
  unfold f_X9_tell_47 at hf
  obtain ⟨v1, h2, hf⟩ := bd_ok hf
  refine q_cSi (va_runS (As := [.long xs2, .long xs1, .long xs0]) (rest := []) ⟨hx, hb, hml, hown, hts⟩ (c_X9_in l (D := D) (ad := ad) (cy := cy) (sa := sa) (va := va) (I := I) (J := J) (S := S) h0 xs2 xs1 xs0 h2) (va_cwS 3 hts gX9_tell_X9_in rfl rfl rfl (by decide +kernel) ⟨Nat.le_of_ble_eq_true rfl, Nat.le_of_ble_eq_true rfl⟩) ⟨qPre_blind _, fun U hU hW => ⟨rfl, qPre_of hP hK hE hN hS U hU hW⟩⟩ rfl rfl hl.1 rfl (lv_room (Nat.le_of_ble_eq_true rfl)) dX9_tell_47 ⟨Nat.le_of_ble_eq_true rfl, Nat.le_of_ble_eq_true rfl⟩) ?_
  refine lv_if_ne (tgt := 61) hx hb dX9_tell_50 (by decide) (fun cc => ?_) (fun cc => ?_)
  · have hf := (if_ok hf).2 cc
    refine lv_aload_n hx hb dX9_tell_61 rfl (lv_at hl 0 rfl) ?_
    refine lv_iload_n hx hb dX9_tell_62 rfl (lv_at hl 1 rfl) ?_
    refine lv_iload_n hx hb dX9_tell_63 rfl (lv_at hl 2 rfl) ?_
    obtain ⟨v3, I4, h5, hf⟩ := bd2_ok hf
    refine q_cEi (va_runV (As := [.int x1, .int x2]) (rest := []) ⟨hx, hb, hml, hown, hts⟩ (c_X9_set_ l (D := D) (ad := ad) (cy := cy) (sa := sa) (va := va) (I := I) (J := J) (S := S) h0 x1 x2 h5) (cwV 2 hts gX9_tell_X9_set_ rfl rfl rfl (by decide +kernel) ⟨Nat.le_of_ble_eq_true rfl, Nat.le_of_ble_eq_true rfl⟩) ⟨qPre_blind _, q_recv hK hP (oX9 h0) rfl, fun U hU hW => ⟨rfl, qPre_of hP hK hE hN hS U hU hW⟩⟩ rfl rfl hl.1 rfl (lv_room (Nat.le_of_ble_eq_true rfl)) dX9_tell_64 ⟨Nat.le_of_ble_eq_true rfl, Nat.le_of_ble_eq_true rfl⟩) hS (fun H locs hP hS => ?_)
    have e9 := Option.some.inj hf
    have eI9 : I4 = Ie := (congrArg Prod.snd e9)
    exact W.iret hx hb hr (fun t ht _ => ⟨⟨_, (), rfl, (congrArg Prod.fst e9), by show qP D _ ad _ _ _ t.heap; rw [ht, ← eI9]; exact hP⟩, hS.F ht⟩) hS.2.2 dX9_tell_67
  · have hf := (if_ok hf).1 cc
    exact w_X9_tell_53 C hK hE hN h0   I _ _ _ hf (lv_sub hl [0] rfl) hP hS
set_option maxHeartbeats 4000000 in
set_option maxRecDepth 100000 in
theorem w_X9_tell_23 {S : Nat → Prop} (C : qC p s m args meth c cX9_tell 3 RX9 wsX9_tell (some .int)) (hK : qK D cy sa s) (hE : qEnv sa va (qA S ad) s s.heap) (hN : qN S ad) (h0 : isM0 S)   {J : qJ} {r : Int32} {Ie : qI} : ∀ (x1 : Int32) (x2 : Int32) (xs0 : Int64) (xs1 : Int64)  (I : qI) (ls : Array Slot) (H : Heap) (locs : List Loc), f_X9_tell_23 x1 x2 xs0 xs1 I = some (r, Ie) → lv_has ls 3 [(0, .ref (ad 0)), (1, .int x1), (2, .int x2)] → qP D S ad (eM ad cy) I J H → va_S (qA S ad) s.heap H locs → W p l e (headSpec wsX9_tell r_X9_tell).room s m args below meth c H locs 0 0 (MQ below (va_Qi (S := Unit) (fun x _ => x = r) (fun _ t => qP D S ad (eM ad cy) Ie J t.heap) (qA S ad)) args s 0 0 (qA S ad)) (F0 m 23 ls [.long xs0, .long xs1]) := by
  have C0 := C
  obtain ⟨⟨hx, hb, hml, hown, hts⟩, hr, hlocks⟩ := C0
  intro x1 x2 xs0 xs1 I ls H locs hf hl hP hS
  unfold f_X9_tell_23 at hf
  refine lv_iload_n hx hb dX9_tell_23 rfl (lv_at hl 1 rfl) ?_
  refine lv_if_ne (tgt := 33) hx hb dX9_tell_24 (by decide) (fun cc => ?_) (fun cc => ?_)
  · have hf := (if_ok hf).2 cc
    refine lv_iload_n hx hb dX9_tell_33 rfl (lv_at hl 1 rfl) ?_
    refine lv_iconst (v := 3) hx hb dX9_tell_34 (by decide) ?_
    refine lv_icmp_ge (tgt := 44) hx hb dX9_tell_35 (by decide) (fun cc => ?_) (fun cc => ?_)
    · have hf := (if_ok hf).1 cc
      refine lv_ldc2 (own := RX9) (v := 9) hx hb hown (hts (.constantLong RX9 133 (9)) (by decide +kernel)) dX9_tell_44 ?_
      exact w_X9_tell_47 C hK hE hN h0   x1 x2 (9 : Int64) xs0 xs1 I _ _ _ hf (lv_sub hl [0, 1, 2] rfl) hP hS
    · have hf := (if_ok hf).2 cc
      refine lv_ldc2 (own := RX9) (v := 3) hx hb hown (hts (.constantLong RX9 154 (3)) (by decide +kernel)) dX9_tell_38 ?_
      refine lv_goto (tgt := 47) hx hb dX9_tell_41 (by decide) ?_
      exact w_X9_tell_47 C hK hE hN h0   x1 x2 (3 : Int64) xs0 xs1 I _ _ _ hf (lv_sub hl [0, 1, 2] rfl) hP hS
  · have hf := (if_ok hf).1 cc
    refine lv_ldc2 (own := RX9) (v := 99) hx hb hown (hts (.constantLong RX9 135 (99)) (by decide +kernel)) dX9_tell_27 ?_
    refine lv_goto (tgt := 47) hx hb dX9_tell_30 (by decide) ?_
    exact w_X9_tell_47 C hK hE hN h0   x1 x2 (99 : Int64) xs0 xs1 I _ _ _ hf (lv_sub hl [0, 1, 2] rfl) hP hS
set_option maxHeartbeats 4000000 in
set_option maxRecDepth 100000 in
theorem c_X9_tell (l : Launch) {D : va_G} {ad : Nat → Nat} {cy : Nat → ClassId} {sa va : Nat → Nat} {I : qI} {J : qJ} {S : Nat → Prop} (h0 : isM0 S)   (p0 : Int32) (p1 : Int32) {r : Int32} {Ie : qI} (hf : f_X9_tell p0 p1 I = some (r, Ie)) : Met l yX9_tell wsX9_tell r_X9_tell (va_Pc [.ref (ad 0), .int p0, .int p1] (qPre D S ad cy sa va (eM ad cy) I J)) (va_Qi (S := Unit) (fun x _ => x = r) (fun _ t => qP D S ad (eM ad cy) Ie J t.heap) (qA S ad)) 0 0 (qA S ad) := by
  refine Met.ofW (cc := cX9_tell) (maxL := 3) (ret := (some .int)) (by decide) rfl ?_
  intro p e s m args below meth c s₁ B hml hv
  obtain ⟨rfl, hP, hK, hE, hN⟩ := hv
  have C : qC p s m _ meth c cX9_tell 3 RX9 wsX9_tell (some .int) := ⟨⟨B.exec, B.bytes, hml, findClass_of_methodNamed B.named, atoms_spec (ws := wsX9_tell) B.pre⟩, B.returns, B.notSynchronized⟩
  have C0 := C
  obtain ⟨⟨hx, hb, hml, hown, hts⟩, hr, hlocks⟩ := C0
  have hS : va_S (qA S ad) s.heap s.heap [] := va_S.rf
  have hl := lv_entry ([.ref (ad 0), .int p0, .int p1]) (n := 3) (Nat.le_of_ble_eq_true rfl)
  rw [lg_entry_eq]
  generalize (lg_sl ([.ref (ad 0), .int p0, .int p1]) ++ List.replicate (3 - (lg_sl ([.ref (ad 0), .int p0, .int p1])).length) Slot.unset).toArray = ls at hl ⊢
  have hl : lv_has ls 3 [(0, .ref (ad 0)), (1, .int p0), (2, .int p1)] := hl
  unfold f_X9_tell at hf
  refine lv_iload_n hx hb dX9_tell_0 rfl (lv_at hl 1 rfl) ?_
  refine lv_i2l hx hb dX9_tell_1 rfl ?_
  refine lv_lconst (v := 0) hx hb dX9_tell_2 (by decide) ?_
  refine lv_ldc2 (own := RX9) (v := 4) hx hb hown (hts (.constantLong RX9 105 (4)) (by decide +kernel)) dX9_tell_3 ?_
  obtain ⟨v1, h2, hf⟩ := bd_ok hf
  refine q_cSi (va_runS (As := [.long p0.toInt64, .long (0 : Int64), .long (4 : Int64)]) (rest := []) ⟨hx, hb, hml, hown, hts⟩ (c_X9_in l (D := D) (ad := ad) (cy := cy) (sa := sa) (va := va) (I := I) (J := J) (S := S) h0 p0.toInt64 (0 : Int64) (4 : Int64) h2) (va_cwS 3 hts gX9_tell_X9_in rfl rfl rfl (by decide +kernel) ⟨Nat.le_of_ble_eq_true rfl, Nat.le_of_ble_eq_true rfl⟩) ⟨qPre_blind _, fun U hU hW => ⟨rfl, qPre_of hP hK hE hN hS U hU hW⟩⟩ rfl rfl hl.1 rfl (lv_room (Nat.le_of_ble_eq_true rfl)) dX9_tell_6 ⟨Nat.le_of_ble_eq_true rfl, Nat.le_of_ble_eq_true rfl⟩) ?_
  refine lv_if_eq (tgt := 53) hx hb dX9_tell_9 (by decide) (fun cc => ?_) (fun cc => ?_)
  · have hf := (if_ok hf).1 cc
    exact w_X9_tell_53 C hK hE hN h0   I _ _ _ hf (lv_sub hl [0] rfl) hP hS
  · have hf := (if_ok hf).2 cc
    refine lv_iload_n hx hb dX9_tell_12 rfl (lv_at hl 2 rfl) ?_
    refine lv_i2l hx hb dX9_tell_13 rfl ?_
    refine lv_iload_n hx hb dX9_tell_14 rfl (lv_at hl 1 rfl) ?_
    refine lv_if_ne (tgt := 22) hx hb dX9_tell_15 (by decide) (fun cc => ?_) (fun cc => ?_)
    · have hf := (if_ok hf).2 cc
      refine lv_lconst (v := 0) hx hb dX9_tell_22 (by decide) ?_
      exact w_X9_tell_23 C hK hE hN h0   p0 p1 (0 : Int64) p1.toInt64 I _ _ _ hf (lv_sub hl [0, 1, 2] rfl) hP hS
    · have hf := (if_ok hf).1 cc
      refine lv_lconst (v := 1) hx hb dX9_tell_18 (by decide) ?_
      refine lv_goto (tgt := 23) hx hb dX9_tell_19 (by decide) ?_
      exact w_X9_tell_23 C hK hE hN h0   p0 p1 (1 : Int64) p1.toInt64 I _ _ _ hf (lv_sub hl [0, 1, 2] rfl) hP hS
abbrev r_X9_feed : Room := { frames := 1, cells := 0, slots := 0, locals := 25 }
theorem in_X9_feed_X9 : ∀ w ∈ u_ws RX9 TX9 42, w ∈ wsX9_feed := by decide +kernel
set_option maxHeartbeats 4000000 in
set_option maxRecDepth 100000 in
theorem c_X9_feed (l : Launch) {D : va_G} {ad : Nat → Nat} {cy : Nat → ClassId} {sa va : Nat → Nat} {I : qI} {J : qJ} {S : Nat → Prop} (h0 : isM0 S)   (p0 : Int32) {r : Int32} {Ie : qI} (hf : f_X9_feed p0 I = some (r, Ie)) : Met l yX9_feed wsX9_feed r_X9_feed (va_Pc [.ref (ad 0), .int p0] (qPre D S ad cy sa va (eM ad cy) I J)) (va_Qi (S := Unit) (fun x _ => x = r) (fun _ t => qP D S ad (eM ad cy) Ie J t.heap) (qA S ad)) 0 0 (qA S ad) := by
  refine Met.ofW (cc := cX9_feed) (maxL := 2) (ret := (some .int)) (by decide) rfl ?_
  intro p e s m args below meth c s₁ B hml hv
  obtain ⟨rfl, hP, hK, hE, hN⟩ := hv
  have C : qC p s m _ meth c cX9_feed 2 RX9 wsX9_feed (some .int) := ⟨⟨B.exec, B.bytes, hml, findClass_of_methodNamed B.named, atoms_spec (ws := wsX9_feed) B.pre⟩, B.returns, B.notSynchronized⟩
  have C0 := C
  obtain ⟨⟨hx, hb, hml, hown, hts⟩, hr, hlocks⟩ := C0
  have hS : va_S (qA S ad) s.heap s.heap [] := va_S.rf
  have hl := lv_entry ([.ref (ad 0), .int p0]) (n := 2) (Nat.le_of_ble_eq_true rfl)
  rw [lg_entry_eq]
  generalize (lg_sl ([.ref (ad 0), .int p0]) ++ List.replicate (2 - (lg_sl ([.ref (ad 0), .int p0])).length) Slot.unset).toArray = ls at hl ⊢
  have hl : lv_has ls 2 [(0, .ref (ad 0)), (1, .int p0)] := hl
  unfold f_X9_feed at hf
  refine lv_iload_n hx hb dX9_feed_0 rfl (lv_at hl 1 rfl) ?_
  refine lv_i2l hx hb dX9_feed_1 rfl ?_
  refine lv_lconst (v := 0) hx hb dX9_feed_2 (by decide) ?_
  refine lv_ldc2 (own := RX9) (v := 255) hx hb hown (hts (.constantLong RX9 159 (255)) (by decide +kernel)) dX9_feed_3 ?_
  obtain ⟨v1, h2, hf⟩ := bd_ok hf
  refine q_cSi (va_runS (As := [.long p0.toInt64, .long (0 : Int64), .long (255 : Int64)]) (rest := []) ⟨hx, hb, hml, hown, hts⟩ (c_X9_in l (D := D) (ad := ad) (cy := cy) (sa := sa) (va := va) (I := I) (J := J) (S := S) h0 p0.toInt64 (0 : Int64) (255 : Int64) h2) (va_cwS 3 hts gX9_feed_X9_in rfl rfl rfl (by decide +kernel) ⟨Nat.le_of_ble_eq_true rfl, Nat.le_of_ble_eq_true rfl⟩) ⟨qPre_blind _, fun U hU hW => ⟨rfl, qPre_of hP hK hE hN hS U hU hW⟩⟩ rfl rfl hl.1 rfl (lv_room (Nat.le_of_ble_eq_true rfl)) dX9_feed_6 ⟨Nat.le_of_ble_eq_true rfl, Nat.le_of_ble_eq_true rfl⟩) ?_
  refine lv_if_ne (tgt := 20) hx hb dX9_feed_9 (by decide) (fun cc => ?_) (fun cc => ?_)
  · have hf := (if_ok hf).2 cc
    refine lv_aload_n hx hb dX9_feed_20 rfl (lv_at hl 0 rfl) ?_
    refine q_get (C := RX9) (T := TX9) (N := 42) (ci := 9) (v := .int (I 0 7)) hx hb hts in_X9_feed_X9 hown hK hP (oX9 h0) rfl 7 (by decide) (hts (.fieldLink RX9 161 "RowsOnlyPrimesModel" "tapeSize" "I") (by decide +kernel)) (fun _ h9 => h9) rfl dX9_feed_21 ?_
    refine lv_sipush (v := 250) hx hb dX9_feed_24 (by decide) ?_
    refine lv_icmp_ne (tgt := 38) hx hb dX9_feed_27 (by decide) (fun cc => ?_) (fun cc => ?_)
    · have hf := (if_ok hf).2 cc
      refine lv_aload_n hx hb dX9_feed_38 rfl (lv_at hl 0 rfl) ?_
      refine q_get (C := RX9) (T := TX9) (N := 42) (ci := 9) (v := .ref (ad 15)) hx hb hts in_X9_feed_X9 hown hK hP (oX9 h0) rfl 6 (by decide) (hts (.fieldLink RX9 31 "RowsOnlyPrimesModel" "tape" "[I") (by decide +kernel)) (fun _ h9 => h9) rfl dX9_feed_39 ?_
      refine lv_aload_n hx hb dX9_feed_42 rfl (lv_at hl 0 rfl) ?_
      refine lv_dup hx hb dX9_feed_43 rfl ?_
      refine q_get (C := RX9) (T := TX9) (N := 42) (ci := 9) (v := .int (I 0 7)) hx hb hts in_X9_feed_X9 hown hK hP (oX9 h0) rfl 7 (by decide) (hts (.fieldLink RX9 161 "RowsOnlyPrimesModel" "tapeSize" "I") (by decide +kernel)) (fun _ h9 => h9) rfl dX9_feed_44 ?_
      refine lv_dup_x1 hx hb dX9_feed_47 rfl rfl ?_
      refine lv_iconst (v := 1) hx hb dX9_feed_48 (by decide) ?_
      refine lv_iadd hx hb dX9_feed_49 ?_
      obtain ⟨I3, eI3, hf⟩ := lt_ok hf
      refine q_put (C := RX9) (T := TX9) (N := 42) (ci := 9) (v := .int ((I 0 7) + (1 : Int32))) (x := ((I 0 7) + (1 : Int32))) (ty := .int) hx hb hts in_X9_feed_X9 tyX9 tyX9_ok nmX9 hown hK hP hN hS (oX9 h0) rfl 7 (by decide) (hts (.fieldLink RX9 161 "RowsOnlyPrimesModel" "tapeSize" "I") (by decide +kernel)) (fun _ h9 => h9) rfl (by decide +kernel) rfl rfl (fun _ _ => rfl) (fun _ _ => Nat.le_of_ble_eq_true rfl) dX9_feed_50 (fun H locs hP hS => ?_)
      rw [← eI3] at hP
      refine lv_iload_n hx hb dX9_feed_53 rfl (lv_at hl 1 rfl) ?_
      obtain ⟨g4, hf⟩ := gd_ok hf
      obtain ⟨I5, eI5, hf⟩ := lt_ok hf
      refine q_iast hx hb hK hP hN hS (a0X9_15 h0) g4 dX9_feed_54 (fun H locs hP hS => ?_)
      have hP : qP D S ad (eM ad cy) I5 J H := by rw [eI5]; exact hP
      refine lv_aload_n hx hb dX9_feed_55 rfl (lv_at hl 0 rfl) ?_
      refine q_get (C := RX9) (T := TX9) (N := 42) (ci := 9) (v := .int (I5 0 7)) hx hb hts in_X9_feed_X9 hown hK hP (oX9 h0) rfl 7 (by decide) (hts (.fieldLink RX9 161 "RowsOnlyPrimesModel" "tapeSize" "I") (by decide +kernel)) (fun _ h9 => h9) rfl dX9_feed_56 ?_
      have e9 := Option.some.inj hf
      have eI9 : I5 = Ie := (congrArg Prod.snd e9)
      exact W.iret hx hb hr (fun t ht _ => ⟨⟨_, (), rfl, (congrArg Prod.fst e9), by show qP D _ ad _ _ _ t.heap; rw [ht, ← eI9]; exact hP⟩, hS.F ht⟩) hS.2.2 dX9_feed_59
    · have hf := (if_ok hf).1 cc
      refine lv_aload_n hx hb dX9_feed_30 rfl (lv_at hl 0 rfl) ?_
      refine lv_sipush (v := -1006) hx hb dX9_feed_31 (by decide) ?_
      obtain ⟨v6, I7, h8, hf⟩ := bd2_ok hf
      refine q_cEi (va_runV (As := [.int (-1006 : Int32)]) (rest := []) ⟨hx, hb, hml, hown, hts⟩ (c_X9_refuse l (D := D) (ad := ad) (cy := cy) (sa := sa) (va := va) (I := I) (J := J) (S := S) h0 (-1006 : Int32) h8) (cwV 1 hts gX9_feed_X9_refuse rfl rfl rfl (by decide +kernel) ⟨Nat.le_of_ble_eq_true rfl, Nat.le_of_ble_eq_true rfl⟩) ⟨qPre_blind _, q_recv hK hP (oX9 h0) rfl, fun U hU hW => ⟨rfl, qPre_of hP hK hE hN hS U hU hW⟩⟩ rfl rfl hl.1 rfl (lv_room (Nat.le_of_ble_eq_true rfl)) dX9_feed_34 ⟨Nat.le_of_ble_eq_true rfl, Nat.le_of_ble_eq_true rfl⟩) hS (fun H locs hP hS => ?_)
      have e9 := Option.some.inj hf
      have eI9 : I7 = Ie := (congrArg Prod.snd e9)
      exact W.iret hx hb hr (fun t ht _ => ⟨⟨_, (), rfl, (congrArg Prod.fst e9), by show qP D _ ad _ _ _ t.heap; rw [ht, ← eI9]; exact hP⟩, hS.F ht⟩) hS.2.2 dX9_feed_37
  · have hf := (if_ok hf).1 cc
    refine lv_aload_n hx hb dX9_feed_12 rfl (lv_at hl 0 rfl) ?_
    refine lv_sipush (v := -1002) hx hb dX9_feed_13 (by decide) ?_
    obtain ⟨v9, I10, h11, hf⟩ := bd2_ok hf
    refine q_cEi (va_runV (As := [.int (-1002 : Int32)]) (rest := []) ⟨hx, hb, hml, hown, hts⟩ (c_X9_refuse l (D := D) (ad := ad) (cy := cy) (sa := sa) (va := va) (I := I) (J := J) (S := S) h0 (-1002 : Int32) h11) (cwV 1 hts gX9_feed_X9_refuse rfl rfl rfl (by decide +kernel) ⟨Nat.le_of_ble_eq_true rfl, Nat.le_of_ble_eq_true rfl⟩) ⟨qPre_blind _, q_recv hK hP (oX9 h0) rfl, fun U hU hW => ⟨rfl, qPre_of hP hK hE hN hS U hU hW⟩⟩ rfl rfl hl.1 rfl (lv_room (Nat.le_of_ble_eq_true rfl)) dX9_feed_16 ⟨Nat.le_of_ble_eq_true rfl, Nat.le_of_ble_eq_true rfl⟩) hS (fun H locs hP hS => ?_)
    have e9 := Option.some.inj hf
    have eI9 : I10 = Ie := (congrArg Prod.snd e9)
    exact W.iret hx hb hr (fun t ht _ => ⟨⟨_, (), rfl, (congrArg Prod.fst e9), by show qP D _ ad _ _ _ t.heap; rw [ht, ← eI9]; exact hP⟩, hS.F ht⟩) hS.2.2 dX9_feed_19
abbrev r_X9_wipe : Room := { frames := 0, cells := 0, slots := 0, locals := 0 }
theorem in_X9_wipe_X9 : ∀ w ∈ u_ws RX9 TX9 42, w ∈ wsX9_wipe := by decide +kernel
set_option maxHeartbeats 4000000 in
set_option maxRecDepth 100000 in
theorem c_X9_wipe (l : Launch) {D : va_G} {ad : Nat → Nat} {cy : Nat → ClassId} {sa va : Nat → Nat} {I : qI} {J : qJ} {S : Nat → Prop} (h0 : isM0 S)    {r : Int32} {Ie : qI} (hf : f_X9_wipe I = some (r, Ie)) : Met l yX9_wipe wsX9_wipe r_X9_wipe (va_Pc [.ref (ad 0)] (qPre D S ad cy sa va (eM ad cy) I J)) (va_Qi (S := Unit) (fun x _ => x = r) (fun _ t => qP D S ad (eM ad cy) Ie J t.heap) (qA S ad)) 0 0 (qA S ad) := by
  refine Met.ofW (cc := cX9_wipe) (maxL := 2) (ret := (some .int)) (by decide) rfl ?_
  intro p e s m args below meth c s₁ B hml hv
  obtain ⟨rfl, hP, hK, hE, hN⟩ := hv
  have C : qC p s m _ meth c cX9_wipe 2 RX9 wsX9_wipe (some .int) := ⟨⟨B.exec, B.bytes, hml, findClass_of_methodNamed B.named, atoms_spec (ws := wsX9_wipe) B.pre⟩, B.returns, B.notSynchronized⟩
  have C0 := C
  obtain ⟨⟨hx, hb, hml, hown, hts⟩, hr, hlocks⟩ := C0
  have hS : va_S (qA S ad) s.heap s.heap [] := va_S.rf
  have hl := lv_entry ([.ref (ad 0)]) (n := 2) (Nat.le_of_ble_eq_true rfl)
  rw [lg_entry_eq]
  generalize (lg_sl ([.ref (ad 0)]) ++ List.replicate (2 - (lg_sl ([.ref (ad 0)])).length) Slot.unset).toArray = ls at hl ⊢
  have hl : lv_has ls 2 [(0, .ref (ad 0))] := hl
  unfold f_X9_wipe at hf
  refine lv_aload_n hx hb dX9_wipe_0 rfl (lv_at hl 0 rfl) ?_
  refine q_get (C := RX9) (T := TX9) (N := 42) (ci := 9) (v := .int (I 0 7)) hx hb hts in_X9_wipe_X9 hown hK hP (oX9 h0) rfl 7 (by decide) (hts (.fieldLink RX9 161 "RowsOnlyPrimesModel" "tapeSize" "I") (by decide +kernel)) (fun _ h9 => h9) rfl dX9_wipe_1 ?_
  refine lv_istore_n (lv' := [(1, .int (I 0 7)), (0, .ref (ad 0))]) hx hb dX9_wipe_4 rfl hl (by decide) rfl (fun ls hl => ?_)
  refine lv_aload_n hx hb dX9_wipe_5 rfl (lv_at hl 1 rfl) ?_
  refine lv_iconst (v := 0) hx hb dX9_wipe_6 (by decide) ?_
  obtain ⟨I1, eI1, hf⟩ := lt_ok hf
  refine q_put (C := RX9) (T := TX9) (N := 42) (ci := 9) (v := .int (0 : Int32)) (x := (0 : Int32)) (ty := .int) hx hb hts in_X9_wipe_X9 tyX9 tyX9_ok nmX9 hown hK hP hN hS (oX9 h0) rfl 7 (by decide) (hts (.fieldLink RX9 161 "RowsOnlyPrimesModel" "tapeSize" "I") (by decide +kernel)) (fun _ h9 => h9) rfl (by decide +kernel) rfl rfl (fun _ _ => rfl) (fun _ _ => Nat.le_of_ble_eq_true rfl) dX9_wipe_7 (fun H locs hP hS => ?_)
  rw [← eI1] at hP
  refine lv_iload_n hx hb dX9_wipe_10 rfl (lv_at hl 0 rfl) ?_
  have e9 := Option.some.inj hf
  have eI9 : I1 = Ie := (congrArg Prod.snd e9)
  exact W.iret hx hb hr (fun t ht _ => ⟨⟨_, (), rfl, (congrArg Prod.fst e9), by show qP D _ ad _ _ _ t.heap; rw [ht, ← eI9]; exact hP⟩, hS.F ht⟩) hS.2.2 dX9_wipe_11
abbrev r_X9_isLetter : Room := { frames := 0, cells := 0, slots := 0, locals := 0 }
set_option maxHeartbeats 4000000 in
set_option maxRecDepth 100000 in
theorem c_X9_isLetter (l : Launch) {D : va_G} {ad : Nat → Nat} {cy : Nat → ClassId} {sa va : Nat → Nat} {I : qI} {J : qJ} {S : Nat → Prop} (h0 : isM0 S)   (p0 : Int32) {r : Int32} (hf : f_X9_isLetter p0 = some r) : Met l yX9_isLetter wsX9_isLetter r_X9_isLetter (va_Pc [.int p0] (qPre D S ad cy sa va (eM ad cy) I J)) (vp_Si (fun x => x = r)) 0 0 (fun _ => False) := by
  refine Met.ofW (cc := cX9_isLetter) (maxL := 1) (ret := (some .boolean)) (by decide) rfl ?_
  intro p e s m args below meth c s₁ B hml hv
  obtain ⟨rfl, hP, hK, hE, hN⟩ := hv
  have C : qC p s m _ meth c cX9_isLetter 1 RX9 wsX9_isLetter (some .boolean) := ⟨⟨B.exec, B.bytes, hml, findClass_of_methodNamed B.named, atoms_spec (ws := wsX9_isLetter) B.pre⟩, B.returns, B.notSynchronized⟩
  have C0 := C
  obtain ⟨⟨hx, hb, hml, hown, hts⟩, hr, hlocks⟩ := C0
  have hl := lv_entry ([.int p0]) (n := 1) (Nat.le_of_ble_eq_true rfl)
  rw [lg_entry_eq]
  generalize (lg_sl ([.int p0]) ++ List.replicate (1 - (lg_sl ([.int p0])).length) Slot.unset).toArray = ls at hl ⊢
  have hl : lv_has ls 1 [(0, .int p0)] := hl
  unfold f_X9_isLetter at hf
  refine lv_iload_n hx hb dX9_isLetter_0 rfl (lv_at hl 0 rfl) ?_
  refine lv_bipush (v := 97) hx hb dX9_isLetter_1 (by decide) ?_
  refine lv_icmp_lt (tgt := 16) hx hb dX9_isLetter_3 (by decide) (fun cc => ?_) (fun cc => ?_)
  · have hf := (if_ok hf).1 cc
    refine lv_iconst (v := 0) hx hb dX9_isLetter_16 (by decide) ?_
    exact W.zret (ty := .boolean) hx hb hr rfl (fun t ht _ => ⟨_, rfl, Option.some.inj hf, ht⟩) (fun _ h => by cases h) dX9_isLetter_17
  · have hf := (if_ok hf).2 cc
    refine lv_iload_n hx hb dX9_isLetter_6 rfl (lv_at hl 0 rfl) ?_
    refine lv_bipush (v := 122) hx hb dX9_isLetter_7 (by decide) ?_
    refine lv_icmp_gt (tgt := 16) hx hb dX9_isLetter_9 (by decide) (fun cc => ?_) (fun cc => ?_)
    · have hf := (if_ok hf).1 cc
      refine lv_iconst (v := 0) hx hb dX9_isLetter_16 (by decide) ?_
      exact W.zret (ty := .boolean) hx hb hr rfl (fun t ht _ => ⟨_, rfl, Option.some.inj hf, ht⟩) (fun _ h => by cases h) dX9_isLetter_17
    · have hf := (if_ok hf).2 cc
      refine lv_iconst (v := 1) hx hb dX9_isLetter_12 (by decide) ?_
      refine lv_goto (tgt := 17) hx hb dX9_isLetter_13 (by decide) ?_
      exact W.zret (ty := .boolean) hx hb hr rfl (fun t ht _ => ⟨_, rfl, Option.some.inj hf, ht⟩) (fun _ h => by cases h) dX9_isLetter_17
abbrev r_X9_isDigit : Room := { frames := 0, cells := 0, slots := 0, locals := 0 }
set_option maxHeartbeats 4000000 in
set_option maxRecDepth 100000 in
theorem c_X9_isDigit (l : Launch) {D : va_G} {ad : Nat → Nat} {cy : Nat → ClassId} {sa va : Nat → Nat} {I : qI} {J : qJ} {S : Nat → Prop} (h0 : isM0 S)   (p0 : Int32) {r : Int32} (hf : f_X9_isDigit p0 = some r) : Met l yX9_isDigit wsX9_isDigit r_X9_isDigit (va_Pc [.int p0] (qPre D S ad cy sa va (eM ad cy) I J)) (vp_Si (fun x => x = r)) 0 0 (fun _ => False) := by
  refine Met.ofW (cc := cX9_isDigit) (maxL := 1) (ret := (some .boolean)) (by decide) rfl ?_
  intro p e s m args below meth c s₁ B hml hv
  obtain ⟨rfl, hP, hK, hE, hN⟩ := hv
  have C : qC p s m _ meth c cX9_isDigit 1 RX9 wsX9_isDigit (some .boolean) := ⟨⟨B.exec, B.bytes, hml, findClass_of_methodNamed B.named, atoms_spec (ws := wsX9_isDigit) B.pre⟩, B.returns, B.notSynchronized⟩
  have C0 := C
  obtain ⟨⟨hx, hb, hml, hown, hts⟩, hr, hlocks⟩ := C0
  have hl := lv_entry ([.int p0]) (n := 1) (Nat.le_of_ble_eq_true rfl)
  rw [lg_entry_eq]
  generalize (lg_sl ([.int p0]) ++ List.replicate (1 - (lg_sl ([.int p0])).length) Slot.unset).toArray = ls at hl ⊢
  have hl : lv_has ls 1 [(0, .int p0)] := hl
  unfold f_X9_isDigit at hf
  refine lv_iload_n hx hb dX9_isDigit_0 rfl (lv_at hl 0 rfl) ?_
  refine lv_bipush (v := 48) hx hb dX9_isDigit_1 (by decide) ?_
  refine lv_icmp_lt (tgt := 16) hx hb dX9_isDigit_3 (by decide) (fun cc => ?_) (fun cc => ?_)
  · have hf := (if_ok hf).1 cc
    refine lv_iconst (v := 0) hx hb dX9_isDigit_16 (by decide) ?_
    exact W.zret (ty := .boolean) hx hb hr rfl (fun t ht _ => ⟨_, rfl, Option.some.inj hf, ht⟩) (fun _ h => by cases h) dX9_isDigit_17
  · have hf := (if_ok hf).2 cc
    refine lv_iload_n hx hb dX9_isDigit_6 rfl (lv_at hl 0 rfl) ?_
    refine lv_bipush (v := 57) hx hb dX9_isDigit_7 (by decide) ?_
    refine lv_icmp_gt (tgt := 16) hx hb dX9_isDigit_9 (by decide) (fun cc => ?_) (fun cc => ?_)
    · have hf := (if_ok hf).1 cc
      refine lv_iconst (v := 0) hx hb dX9_isDigit_16 (by decide) ?_
      exact W.zret (ty := .boolean) hx hb hr rfl (fun t ht _ => ⟨_, rfl, Option.some.inj hf, ht⟩) (fun _ h => by cases h) dX9_isDigit_17
    · have hf := (if_ok hf).2 cc
      refine lv_iconst (v := 1) hx hb dX9_isDigit_12 (by decide) ?_
      refine lv_goto (tgt := 17) hx hb dX9_isDigit_13 (by decide) ?_
      exact W.zret (ty := .boolean) hx hb hr rfl (fun t ht _ => ⟨_, rfl, Option.some.inj hf, ht⟩) (fun _ h => by cases h) dX9_isDigit_17
abbrev r_X9_look : Room := { frames := 1, cells := 0, slots := 0, locals := 20 }
theorem in_X9_look_X9 : ∀ w ∈ u_ws RX9 TX9 42, w ∈ wsX9_look := by decide +kernel
set_option maxHeartbeats 4000000 in
set_option maxRecDepth 100000 in
theorem w_X9_look_90 {S : Nat → Prop} (C : qC p s m args meth c cX9_look 1 RX9 wsX9_look none) (hK : qK D cy sa s) (hE : qEnv sa va (qA S ad) s s.heap) (hN : qN S ad) (h0 : isM0 S)   {J : qJ} {Ie : qI} : ∀ (n : Nat)   (I : qI) (ls : Array Slot) (H : Heap) (locs : List Loc), f_X9_look_90 n I = some Ie → lv_has ls 1 [(0, .ref (ad 0))] → qP D S ad (eM ad cy) I J H → va_S (qA S ad) s.heap H locs → W p l e (headSpec wsX9_look r_X9_look).room s m args below meth c H locs 0 0 (MQ below (va_Qv (S := Unit) (fun _ => True) (fun _ t => qP D S ad (eM ad cy) Ie J t.heap) (qA S ad)) args s 0 0 (qA S ad)) (F0 m 90 ls []) := by
  have C0 := C
  obtain ⟨⟨hx, hb, hml, hown, hts⟩, hr, hlocks⟩ := C0
  intro n
  induction n with
  | zero =>
    intro I ls H locs hf hl hP hS
    rw [f_X9_look_90] at hf
    cases hf
  | succ n ih =>
    intro I ls H locs hf hl hP hS
    rw [f_X9_look_90] at hf
    refine lv_aload_n hx hb dX9_look_90 rfl (lv_at hl 0 rfl) ?_
    refine q_get (C := RX9) (T := TX9) (N := 42) (ci := 9) (v := .int (I 0 28)) hx hb hts in_X9_look_X9 hown hK hP (oX9 h0) rfl 28 (by decide) (hts (.fieldLink RX9 164 "RowsOnlyPrimesModel" "at" "I") (by decide +kernel)) (fun _ h9 => h9) rfl dX9_look_91 ?_
    refine lv_aload_n hx hb dX9_look_94 rfl (lv_at hl 0 rfl) ?_
    refine q_get (C := RX9) (T := TX9) (N := 42) (ci := 9) (v := .int (I 0 7)) hx hb hts in_X9_look_X9 hown hK hP (oX9 h0) rfl 7 (by decide) (hts (.fieldLink RX9 161 "RowsOnlyPrimesModel" "tapeSize" "I") (by decide +kernel)) (fun _ h9 => h9) rfl dX9_look_95 ?_
    refine lv_icmp_ge (tgt := 264) hx hb dX9_look_98 (by decide) (fun cc => ?_) (fun cc => ?_)
    · have hf := (if_ok hf).1 cc
      have e9 := Option.some.inj hf
      have eI9 : I = Ie := e9
      exact W.vret hx hb hr (fun t ht _ => ⟨⟨(), rfl, trivial, by show qP D _ ad _ _ _ t.heap; rw [ht, ← eI9]; exact hP⟩, hS.F ht⟩) hS.2.2 dX9_look_264
    · have hf := (if_ok hf).2 cc
      refine lv_aload_n hx hb dX9_look_101 rfl (lv_at hl 0 rfl) ?_
      refine q_get (C := RX9) (T := TX9) (N := 42) (ci := 9) (v := .ref (ad 15)) hx hb hts in_X9_look_X9 hown hK hP (oX9 h0) rfl 6 (by decide) (hts (.fieldLink RX9 31 "RowsOnlyPrimesModel" "tape" "[I") (by decide +kernel)) (fun _ h9 => h9) rfl dX9_look_102 ?_
      refine lv_aload_n hx hb dX9_look_105 rfl (lv_at hl 0 rfl) ?_
      refine q_get (C := RX9) (T := TX9) (N := 42) (ci := 9) (v := .int (I 0 28)) hx hb hts in_X9_look_X9 hown hK hP (oX9 h0) rfl 28 (by decide) (hts (.fieldLink RX9 164 "RowsOnlyPrimesModel" "at" "I") (by decide +kernel)) (fun _ h9 => h9) rfl dX9_look_106 ?_
      obtain ⟨g1, hf⟩ := gd_ok hf
      refine q_iald hx hb hK hP (a0X9_15 h0) g1 dX9_look_109 ?_
      obtain ⟨v2, h3, hf⟩ := bd_ok hf
      refine q_cSi (va_runS (As := [.int (I 15 (I 0 28).toNatClampNeg)]) (rest := []) ⟨hx, hb, hml, hown, hts⟩ (c_X9_isLetter l (D := D) (ad := ad) (cy := cy) (sa := sa) (va := va) (I := I) (J := J) (S := S) h0 (I 15 (I 0 28).toNatClampNeg) h3) (va_cwS 1 hts gX9_look_X9_isLetter rfl rfl rfl (by decide +kernel) ⟨Nat.le_of_ble_eq_true rfl, Nat.le_of_ble_eq_true rfl⟩) ⟨qPre_blind _, fun U hU hW => ⟨rfl, qPre_of hP hK hE hN hS U hU hW⟩⟩ rfl rfl hl.1 rfl (lv_room (Nat.le_of_ble_eq_true rfl)) dX9_look_110 ⟨Nat.le_of_ble_eq_true rfl, Nat.le_of_ble_eq_true rfl⟩) ?_
      refine lv_if_eq (tgt := 264) hx hb dX9_look_113 (by decide) (fun cc => ?_) (fun cc => ?_)
      · have hf := (if_ok hf).1 cc
        have e9 := Option.some.inj hf
        have eI9 : I = Ie := e9
        exact W.vret hx hb hr (fun t ht _ => ⟨⟨(), rfl, trivial, by show qP D _ ad _ _ _ t.heap; rw [ht, ← eI9]; exact hP⟩, hS.F ht⟩) hS.2.2 dX9_look_264
      · have hf := (if_ok hf).2 cc
        refine lv_aload_n hx hb dX9_look_116 rfl (lv_at hl 0 rfl) ?_
        refine lv_dup hx hb dX9_look_117 rfl ?_
        refine q_get (C := RX9) (T := TX9) (N := 42) (ci := 9) (v := .int (I 0 28)) hx hb hts in_X9_look_X9 hown hK hP (oX9 h0) rfl 28 (by decide) (hts (.fieldLink RX9 164 "RowsOnlyPrimesModel" "at" "I") (by decide +kernel)) (fun _ h9 => h9) rfl dX9_look_118 ?_
        refine lv_iconst (v := 1) hx hb dX9_look_121 (by decide) ?_
        refine lv_iadd hx hb dX9_look_122 ?_
        obtain ⟨I4, eI4, hf⟩ := lt_ok hf
        refine q_put (C := RX9) (T := TX9) (N := 42) (ci := 9) (v := .int ((I 0 28) + (1 : Int32))) (x := ((I 0 28) + (1 : Int32))) (ty := .int) hx hb hts in_X9_look_X9 tyX9 tyX9_ok nmX9 hown hK hP hN hS (oX9 h0) rfl 28 (by decide) (hts (.fieldLink RX9 164 "RowsOnlyPrimesModel" "at" "I") (by decide +kernel)) (fun _ h9 => h9) rfl (by decide +kernel) rfl rfl (fun _ _ => rfl) (fun _ _ => Nat.le_of_ble_eq_true rfl) dX9_look_123 (fun H locs hP hS => ?_)
        rw [← eI4] at hP
        refine lv_goto (tgt := 90) hx hb dX9_look_126 (by decide) ?_
        exact ih I4 _ _ _ hf (lv_sub hl [0] rfl) hP hS
set_option maxHeartbeats 4000000 in
set_option maxRecDepth 100000 in
theorem w_X9_look_251 {S : Nat → Prop} (C : qC p s m args meth c cX9_look 1 RX9 wsX9_look none) (hK : qK D cy sa s) (hE : qEnv sa va (qA S ad) s s.heap) (hN : qN S ad) (h0 : isM0 S)   {J : qJ} {Ie : qI} : ∀ (xs0 : Int32)  (I : qI) (ls : Array Slot) (H : Heap) (locs : List Loc), f_X9_look_251 xs0 I = some Ie → lv_has ls 1 [(0, .ref (ad 0))] → qP D S ad (eM ad cy) I J H → va_S (qA S ad) s.heap H locs → W p l e (headSpec wsX9_look r_X9_look).room s m args below meth c H locs 0 0 (MQ below (va_Qv (S := Unit) (fun _ => True) (fun _ t => qP D S ad (eM ad cy) Ie J t.heap) (qA S ad)) args s 0 0 (qA S ad)) (F0 m 251 ls [.int xs0, .ref (ad 0)]) := by
  have C0 := C
  obtain ⟨⟨hx, hb, hml, hown, hts⟩, hr, hlocks⟩ := C0
  intro xs0 I ls H locs hf hl hP hS
  unfold f_X9_look_251 at hf
  obtain ⟨I1, eI1, hf⟩ := lt_ok hf
  refine q_put (C := RX9) (T := TX9) (N := 42) (ci := 9) (v := .int xs0) (x := xs0) (ty := .int) hx hb hts in_X9_look_X9 tyX9 tyX9_ok nmX9 hown hK hP hN hS (oX9 h0) rfl 29 (by decide) (hts (.fieldLink RX9 173 "RowsOnlyPrimesModel" "token" "I") (by decide +kernel)) (fun _ h9 => h9) rfl (by decide +kernel) rfl rfl (fun _ _ => rfl) (fun _ _ => Nat.le_of_ble_eq_true rfl) dX9_look_251 (fun H locs hP hS => ?_)
  rw [← eI1] at hP
  refine lv_aload_n hx hb dX9_look_254 rfl (lv_at hl 0 rfl) ?_
  refine lv_dup hx hb dX9_look_255 rfl ?_
  refine q_get (C := RX9) (T := TX9) (N := 42) (ci := 9) (v := .int (I1 0 28)) hx hb hts in_X9_look_X9 hown hK hP (oX9 h0) rfl 28 (by decide) (hts (.fieldLink RX9 164 "RowsOnlyPrimesModel" "at" "I") (by decide +kernel)) (fun _ h9 => h9) rfl dX9_look_256 ?_
  refine lv_iconst (v := 1) hx hb dX9_look_259 (by decide) ?_
  refine lv_iadd hx hb dX9_look_260 ?_
  obtain ⟨I2, eI2, hf⟩ := lt_ok hf
  refine q_put (C := RX9) (T := TX9) (N := 42) (ci := 9) (v := .int ((I1 0 28) + (1 : Int32))) (x := ((I1 0 28) + (1 : Int32))) (ty := .int) hx hb hts in_X9_look_X9 tyX9 tyX9_ok nmX9 hown hK hP hN hS (oX9 h0) rfl 28 (by decide) (hts (.fieldLink RX9 164 "RowsOnlyPrimesModel" "at" "I") (by decide +kernel)) (fun _ h9 => h9) rfl (by decide +kernel) rfl rfl (fun _ _ => rfl) (fun _ _ => Nat.le_of_ble_eq_true rfl) dX9_look_261 (fun H locs hP hS => ?_)
  rw [← eI2] at hP
  have e9 := Option.some.inj hf
  have eI9 : I2 = Ie := e9
  exact W.vret hx hb hr (fun t ht _ => ⟨⟨(), rfl, trivial, by show qP D _ ad _ _ _ t.heap; rw [ht, ← eI9]; exact hP⟩, hS.F ht⟩) hS.2.2 dX9_look_264
set_option maxHeartbeats 4000000 in
set_option maxRecDepth 100000 in
theorem w_X9_look_215 {S : Nat → Prop} (C : qC p s m args meth c cX9_look 1 RX9 wsX9_look none) (hK : qK D cy sa s) (hE : qEnv sa va (qA S ad) s s.heap) (hN : qN S ad) (h0 : isM0 S)   {J : qJ} {Ie : qI} (k149 : qI → Option qI) (hk149 : ∀   (I : qI) (ls : Array Slot) (H : Heap) (locs : List Loc), k149 I = some Ie → lv_has ls 1 [(0, .ref (ad 0))] → qP D S ad (eM ad cy) I J H → va_S (qA S ad) s.heap H locs → W p l e (headSpec wsX9_look r_X9_look).room s m args below meth c H locs 0 0 (MQ below (va_Qv (S := Unit) (fun _ => True) (fun _ t => qP D S ad (eM ad cy) Ie J t.heap) (qA S ad)) args s 0 0 (qA S ad)) (F0 m 149 ls [])) : ∀ (xs0 : Int32)  (I : qI) (ls : Array Slot) (H : Heap) (locs : List Loc), f_X9_look_215 k149 xs0 I = some Ie → lv_has ls 1 [(0, .ref (ad 0))] → qP D S ad (eM ad cy) I J H → va_S (qA S ad) s.heap H locs → W p l e (headSpec wsX9_look r_X9_look).room s m args below meth c H locs 0 0 (MQ below (va_Qv (S := Unit) (fun _ => True) (fun _ t => qP D S ad (eM ad cy) Ie J t.heap) (qA S ad)) args s 0 0 (qA S ad)) (F0 m 215 ls [.int xs0, .ref (ad 0)]) := by
  have C0 := C
  obtain ⟨⟨hx, hb, hml, hown, hts⟩, hr, hlocks⟩ := C0
  intro xs0 I ls H locs hf hl hP hS
  unfold f_X9_look_215 at hf
  obtain ⟨I1, eI1, hf⟩ := lt_ok hf
  refine q_put (C := RX9) (T := TX9) (N := 42) (ci := 9) (v := .int xs0) (x := xs0) (ty := .int) hx hb hts in_X9_look_X9 tyX9 tyX9_ok nmX9 hown hK hP hN hS (oX9 h0) rfl 31 (by decide) (hts (.fieldLink RX9 170 "RowsOnlyPrimesModel" "figures" "I") (by decide +kernel)) (fun _ h9 => h9) rfl (by decide +kernel) rfl rfl (fun _ _ => rfl) (fun _ _ => Nat.le_of_ble_eq_true rfl) dX9_look_215 (fun H locs hP hS => ?_)
  rw [← eI1] at hP
  refine lv_aload_n hx hb dX9_look_218 rfl (lv_at hl 0 rfl) ?_
  refine lv_dup hx hb dX9_look_219 rfl ?_
  refine q_get (C := RX9) (T := TX9) (N := 42) (ci := 9) (v := .int (I1 0 28)) hx hb hts in_X9_look_X9 hown hK hP (oX9 h0) rfl 28 (by decide) (hts (.fieldLink RX9 164 "RowsOnlyPrimesModel" "at" "I") (by decide +kernel)) (fun _ h9 => h9) rfl dX9_look_220 ?_
  refine lv_iconst (v := 1) hx hb dX9_look_223 (by decide) ?_
  refine lv_iadd hx hb dX9_look_224 ?_
  obtain ⟨I2, eI2, hf⟩ := lt_ok hf
  refine q_put (C := RX9) (T := TX9) (N := 42) (ci := 9) (v := .int ((I1 0 28) + (1 : Int32))) (x := ((I1 0 28) + (1 : Int32))) (ty := .int) hx hb hts in_X9_look_X9 tyX9 tyX9_ok nmX9 hown hK hP hN hS (oX9 h0) rfl 28 (by decide) (hts (.fieldLink RX9 164 "RowsOnlyPrimesModel" "at" "I") (by decide +kernel)) (fun _ h9 => h9) rfl (by decide +kernel) rfl rfl (fun _ _ => rfl) (fun _ _ => Nat.le_of_ble_eq_true rfl) dX9_look_225 (fun H locs hP hS => ?_)
  rw [← eI2] at hP
  refine lv_goto (tgt := 149) hx hb dX9_look_228 (by decide) ?_
  exact hk149 I2 _ _ _ hf (lv_sub hl [0] rfl) hP hS
set_option maxHeartbeats 4000000 in
set_option maxRecDepth 100000 in
theorem w_X9_look_149 {S : Nat → Prop} (C : qC p s m args meth c cX9_look 1 RX9 wsX9_look none) (hK : qK D cy sa s) (hE : qEnv sa va (qA S ad) s s.heap) (hN : qN S ad) (h0 : isM0 S)   {J : qJ} {Ie : qI} : ∀ (n : Nat)   (I : qI) (ls : Array Slot) (H : Heap) (locs : List Loc), f_X9_look_149 n I = some Ie → lv_has ls 1 [(0, .ref (ad 0))] → qP D S ad (eM ad cy) I J H → va_S (qA S ad) s.heap H locs → W p l e (headSpec wsX9_look r_X9_look).room s m args below meth c H locs 0 0 (MQ below (va_Qv (S := Unit) (fun _ => True) (fun _ t => qP D S ad (eM ad cy) Ie J t.heap) (qA S ad)) args s 0 0 (qA S ad)) (F0 m 149 ls []) := by
  have C0 := C
  obtain ⟨⟨hx, hb, hml, hown, hts⟩, hr, hlocks⟩ := C0
  intro n
  induction n with
  | zero =>
    intro I ls H locs hf hl hP hS
    rw [f_X9_look_149] at hf
    cases hf
  | succ n ih =>
    intro I ls H locs hf hl hP hS
    rw [f_X9_look_149] at hf
    refine lv_aload_n hx hb dX9_look_149 rfl (lv_at hl 0 rfl) ?_
    refine q_get (C := RX9) (T := TX9) (N := 42) (ci := 9) (v := .int (I 0 28)) hx hb hts in_X9_look_X9 hown hK hP (oX9 h0) rfl 28 (by decide) (hts (.fieldLink RX9 164 "RowsOnlyPrimesModel" "at" "I") (by decide +kernel)) (fun _ h9 => h9) rfl dX9_look_150 ?_
    refine lv_aload_n hx hb dX9_look_153 rfl (lv_at hl 0 rfl) ?_
    refine q_get (C := RX9) (T := TX9) (N := 42) (ci := 9) (v := .int (I 0 7)) hx hb hts in_X9_look_X9 hown hK hP (oX9 h0) rfl 7 (by decide) (hts (.fieldLink RX9 161 "RowsOnlyPrimesModel" "tapeSize" "I") (by decide +kernel)) (fun _ h9 => h9) rfl dX9_look_154 ?_
    refine lv_icmp_ge (tgt := 264) hx hb dX9_look_157 (by decide) (fun cc => ?_) (fun cc => ?_)
    · have hf := (if_ok hf).1 cc
      have e9 := Option.some.inj hf
      have eI9 : I = Ie := e9
      exact W.vret hx hb hr (fun t ht _ => ⟨⟨(), rfl, trivial, by show qP D _ ad _ _ _ t.heap; rw [ht, ← eI9]; exact hP⟩, hS.F ht⟩) hS.2.2 dX9_look_264
    · have hf := (if_ok hf).2 cc
      refine lv_aload_n hx hb dX9_look_160 rfl (lv_at hl 0 rfl) ?_
      refine q_get (C := RX9) (T := TX9) (N := 42) (ci := 9) (v := .ref (ad 15)) hx hb hts in_X9_look_X9 hown hK hP (oX9 h0) rfl 6 (by decide) (hts (.fieldLink RX9 31 "RowsOnlyPrimesModel" "tape" "[I") (by decide +kernel)) (fun _ h9 => h9) rfl dX9_look_161 ?_
      refine lv_aload_n hx hb dX9_look_164 rfl (lv_at hl 0 rfl) ?_
      refine q_get (C := RX9) (T := TX9) (N := 42) (ci := 9) (v := .int (I 0 28)) hx hb hts in_X9_look_X9 hown hK hP (oX9 h0) rfl 28 (by decide) (hts (.fieldLink RX9 164 "RowsOnlyPrimesModel" "at" "I") (by decide +kernel)) (fun _ h9 => h9) rfl dX9_look_165 ?_
      obtain ⟨g1, hf⟩ := gd_ok hf
      refine q_iald hx hb hK hP (a0X9_15 h0) g1 dX9_look_168 ?_
      obtain ⟨v2, h3, hf⟩ := bd_ok hf
      refine q_cSi (va_runS (As := [.int (I 15 (I 0 28).toNatClampNeg)]) (rest := []) ⟨hx, hb, hml, hown, hts⟩ (c_X9_isDigit l (D := D) (ad := ad) (cy := cy) (sa := sa) (va := va) (I := I) (J := J) (S := S) h0 (I 15 (I 0 28).toNatClampNeg) h3) (va_cwS 1 hts gX9_look_X9_isDigit rfl rfl rfl (by decide +kernel) ⟨Nat.le_of_ble_eq_true rfl, Nat.le_of_ble_eq_true rfl⟩) ⟨qPre_blind _, fun U hU hW => ⟨rfl, qPre_of hP hK hE hN hS U hU hW⟩⟩ rfl rfl hl.1 rfl (lv_room (Nat.le_of_ble_eq_true rfl)) dX9_look_169 ⟨Nat.le_of_ble_eq_true rfl, Nat.le_of_ble_eq_true rfl⟩) ?_
      refine lv_if_eq (tgt := 264) hx hb dX9_look_172 (by decide) (fun cc => ?_) (fun cc => ?_)
      · have hf := (if_ok hf).1 cc
        have e9 := Option.some.inj hf
        have eI9 : I = Ie := e9
        exact W.vret hx hb hr (fun t ht _ => ⟨⟨(), rfl, trivial, by show qP D _ ad _ _ _ t.heap; rw [ht, ← eI9]; exact hP⟩, hS.F ht⟩) hS.2.2 dX9_look_264
      · have hf := (if_ok hf).2 cc
        refine lv_aload_n hx hb dX9_look_175 rfl (lv_at hl 0 rfl) ?_
        refine lv_aload_n hx hb dX9_look_176 rfl (lv_at hl 0 rfl) ?_
        refine q_get (C := RX9) (T := TX9) (N := 42) (ci := 9) (v := .int (I 0 28)) hx hb hts in_X9_look_X9 hown hK hP (oX9 h0) rfl 28 (by decide) (hts (.fieldLink RX9 164 "RowsOnlyPrimesModel" "at" "I") (by decide +kernel)) (fun _ h9 => h9) rfl dX9_look_177 ?_
        refine lv_aload_n hx hb dX9_look_180 rfl (lv_at hl 0 rfl) ?_
        refine q_get (C := RX9) (T := TX9) (N := 42) (ci := 9) (v := .int (I 0 30)) hx hb hts in_X9_look_X9 hown hK hP (oX9 h0) rfl 30 (by decide) (hts (.fieldLink RX9 167 "RowsOnlyPrimesModel" "from" "I") (by decide +kernel)) (fun _ h9 => h9) rfl dX9_look_181 ?_
        refine lv_isub hx hb dX9_look_184 ?_
        refine lv_iconst (v := 2) hx hb dX9_look_185 (by decide) ?_
        refine lv_icmp_ge (tgt := 212) hx hb dX9_look_186 (by decide) (fun cc => ?_) (fun cc => ?_)
        · have hf := (if_ok hf).1 cc
          refine lv_sipush (v := 1000) hx hb dX9_look_212 (by decide) ?_
          exact w_X9_look_215 C hK hE hN h0 (f_X9_look_149 n) ih  (1000 : Int32) I _ _ _ hf (lv_sub hl [0] rfl) hP hS
        · have hf := (if_ok hf).2 cc
          refine lv_aload_n hx hb dX9_look_189 rfl (lv_at hl 0 rfl) ?_
          refine q_get (C := RX9) (T := TX9) (N := 42) (ci := 9) (v := .int (I 0 31)) hx hb hts in_X9_look_X9 hown hK hP (oX9 h0) rfl 31 (by decide) (hts (.fieldLink RX9 170 "RowsOnlyPrimesModel" "figures" "I") (by decide +kernel)) (fun _ h9 => h9) rfl dX9_look_190 ?_
          refine lv_bipush (v := 10) hx hb dX9_look_193 (by decide) ?_
          refine lv_imul hx hb dX9_look_195 ?_
          refine lv_aload_n hx hb dX9_look_196 rfl (lv_at hl 0 rfl) ?_
          refine q_get (C := RX9) (T := TX9) (N := 42) (ci := 9) (v := .ref (ad 15)) hx hb hts in_X9_look_X9 hown hK hP (oX9 h0) rfl 6 (by decide) (hts (.fieldLink RX9 31 "RowsOnlyPrimesModel" "tape" "[I") (by decide +kernel)) (fun _ h9 => h9) rfl dX9_look_197 ?_
          refine lv_aload_n hx hb dX9_look_200 rfl (lv_at hl 0 rfl) ?_
          refine q_get (C := RX9) (T := TX9) (N := 42) (ci := 9) (v := .int (I 0 28)) hx hb hts in_X9_look_X9 hown hK hP (oX9 h0) rfl 28 (by decide) (hts (.fieldLink RX9 164 "RowsOnlyPrimesModel" "at" "I") (by decide +kernel)) (fun _ h9 => h9) rfl dX9_look_201 ?_
          obtain ⟨g4, hf⟩ := gd_ok hf
          refine q_iald hx hb hK hP (a0X9_15 h0) g4 dX9_look_204 ?_
          refine lv_iadd hx hb dX9_look_205 ?_
          refine lv_bipush (v := 48) hx hb dX9_look_206 (by decide) ?_
          refine lv_isub hx hb dX9_look_208 ?_
          refine lv_goto (tgt := 215) hx hb dX9_look_209 (by decide) ?_
          exact w_X9_look_215 C hK hE hN h0 (f_X9_look_149 n) ih  ((((I 0 31) * (10 : Int32)) + (I 15 (I 0 28).toNatClampNeg)) - (48 : Int32)) I _ _ _ hf (lv_sub hl [0] rfl) hP hS
set_option maxHeartbeats 4000000 in
set_option maxRecDepth 100000 in
theorem w_X9_look_38 {S : Nat → Prop} (C : qC p s m args meth c cX9_look 1 RX9 wsX9_look none) (hK : qK D cy sa s) (hE : qEnv sa va (qA S ad) s s.heap) (hN : qN S ad) (h0 : isM0 S)   {J : qJ} {Ie : qI} : ∀   (I : qI) (ls : Array Slot) (H : Heap) (locs : List Loc), f_X9_look_38 I = some Ie → lv_has ls 1 [(0, .ref (ad 0))] → qP D S ad (eM ad cy) I J H → va_S (qA S ad) s.heap H locs → W p l e (headSpec wsX9_look r_X9_look).room s m args below meth c H locs 0 0 (MQ below (va_Qv (S := Unit) (fun _ => True) (fun _ t => qP D S ad (eM ad cy) Ie J t.heap) (qA S ad)) args s 0 0 (qA S ad)) (F0 m 38 ls []) := by
  have C0 := C
  obtain ⟨⟨hx, hb, hml, hown, hts⟩, hr, hlocks⟩ := C0
  intro I ls H locs hf hl hP hS
  unfold f_X9_look_38 at hf
  refine lv_aload_n hx hb dX9_look_38 rfl (lv_at hl 0 rfl) ?_
  refine lv_aload_n hx hb dX9_look_39 rfl (lv_at hl 0 rfl) ?_
  refine q_get (C := RX9) (T := TX9) (N := 42) (ci := 9) (v := .int (I 0 28)) hx hb hts in_X9_look_X9 hown hK hP (oX9 h0) rfl 28 (by decide) (hts (.fieldLink RX9 164 "RowsOnlyPrimesModel" "at" "I") (by decide +kernel)) (fun _ h9 => h9) rfl dX9_look_40 ?_
  obtain ⟨I1, eI1, hf⟩ := lt_ok hf
  refine q_put (C := RX9) (T := TX9) (N := 42) (ci := 9) (v := .int (I 0 28)) (x := (I 0 28)) (ty := .int) hx hb hts in_X9_look_X9 tyX9 tyX9_ok nmX9 hown hK hP hN hS (oX9 h0) rfl 30 (by decide) (hts (.fieldLink RX9 167 "RowsOnlyPrimesModel" "from" "I") (by decide +kernel)) (fun _ h9 => h9) rfl (by decide +kernel) rfl rfl (fun _ _ => rfl) (fun _ _ => Nat.le_of_ble_eq_true rfl) dX9_look_43 (fun H locs hP hS => ?_)
  rw [← eI1] at hP
  refine lv_aload_n hx hb dX9_look_46 rfl (lv_at hl 0 rfl) ?_
  refine lv_iconst (v := 0) hx hb dX9_look_47 (by decide) ?_
  obtain ⟨I2, eI2, hf⟩ := lt_ok hf
  refine q_put (C := RX9) (T := TX9) (N := 42) (ci := 9) (v := .int (0 : Int32)) (x := (0 : Int32)) (ty := .int) hx hb hts in_X9_look_X9 tyX9 tyX9_ok nmX9 hown hK hP hN hS (oX9 h0) rfl 31 (by decide) (hts (.fieldLink RX9 170 "RowsOnlyPrimesModel" "figures" "I") (by decide +kernel)) (fun _ h9 => h9) rfl (by decide +kernel) rfl rfl (fun _ _ => rfl) (fun _ _ => Nat.le_of_ble_eq_true rfl) dX9_look_48 (fun H locs hP hS => ?_)
  rw [← eI2] at hP
  refine lv_aload_n hx hb dX9_look_51 rfl (lv_at hl 0 rfl) ?_
  refine q_get (C := RX9) (T := TX9) (N := 42) (ci := 9) (v := .int (I2 0 28)) hx hb hts in_X9_look_X9 hown hK hP (oX9 h0) rfl 28 (by decide) (hts (.fieldLink RX9 164 "RowsOnlyPrimesModel" "at" "I") (by decide +kernel)) (fun _ h9 => h9) rfl dX9_look_52 ?_
  refine lv_aload_n hx hb dX9_look_55 rfl (lv_at hl 0 rfl) ?_
  refine q_get (C := RX9) (T := TX9) (N := 42) (ci := 9) (v := .int (I2 0 7)) hx hb hts in_X9_look_X9 hown hK hP (oX9 h0) rfl 7 (by decide) (hts (.fieldLink RX9 161 "RowsOnlyPrimesModel" "tapeSize" "I") (by decide +kernel)) (fun _ h9 => h9) rfl dX9_look_56 ?_
  refine lv_icmp_ne (tgt := 70) hx hb dX9_look_59 (by decide) (fun cc => ?_) (fun cc => ?_)
  · have hf := (if_ok hf).2 cc
    refine lv_aload_n hx hb dX9_look_70 rfl (lv_at hl 0 rfl) ?_
    refine q_get (C := RX9) (T := TX9) (N := 42) (ci := 9) (v := .ref (ad 15)) hx hb hts in_X9_look_X9 hown hK hP (oX9 h0) rfl 6 (by decide) (hts (.fieldLink RX9 31 "RowsOnlyPrimesModel" "tape" "[I") (by decide +kernel)) (fun _ h9 => h9) rfl dX9_look_71 ?_
    refine lv_aload_n hx hb dX9_look_74 rfl (lv_at hl 0 rfl) ?_
    refine q_get (C := RX9) (T := TX9) (N := 42) (ci := 9) (v := .int (I2 0 28)) hx hb hts in_X9_look_X9 hown hK hP (oX9 h0) rfl 28 (by decide) (hts (.fieldLink RX9 164 "RowsOnlyPrimesModel" "at" "I") (by decide +kernel)) (fun _ h9 => h9) rfl dX9_look_75 ?_
    obtain ⟨g3, hf⟩ := gd_ok hf
    refine q_iald hx hb hK hP (a0X9_15 h0) g3 dX9_look_78 ?_
    obtain ⟨v4, h5, hf⟩ := bd_ok hf
    refine q_cSi (va_runS (As := [.int (I2 15 (I2 0 28).toNatClampNeg)]) (rest := []) ⟨hx, hb, hml, hown, hts⟩ (c_X9_isLetter l (D := D) (ad := ad) (cy := cy) (sa := sa) (va := va) (I := I2) (J := J) (S := S) h0 (I2 15 (I2 0 28).toNatClampNeg) h5) (va_cwS 1 hts gX9_look_X9_isLetter rfl rfl rfl (by decide +kernel) ⟨Nat.le_of_ble_eq_true rfl, Nat.le_of_ble_eq_true rfl⟩) ⟨qPre_blind _, fun U hU hW => ⟨rfl, qPre_of hP hK hE hN hS U hU hW⟩⟩ rfl rfl hl.1 rfl (lv_room (Nat.le_of_ble_eq_true rfl)) dX9_look_79 ⟨Nat.le_of_ble_eq_true rfl, Nat.le_of_ble_eq_true rfl⟩) ?_
    refine lv_if_eq (tgt := 129) hx hb dX9_look_82 (by decide) (fun cc => ?_) (fun cc => ?_)
    · have hf := (if_ok hf).1 cc
      refine lv_aload_n hx hb dX9_look_129 rfl (lv_at hl 0 rfl) ?_
      refine q_get (C := RX9) (T := TX9) (N := 42) (ci := 9) (v := .ref (ad 15)) hx hb hts in_X9_look_X9 hown hK hP (oX9 h0) rfl 6 (by decide) (hts (.fieldLink RX9 31 "RowsOnlyPrimesModel" "tape" "[I") (by decide +kernel)) (fun _ h9 => h9) rfl dX9_look_130 ?_
      refine lv_aload_n hx hb dX9_look_133 rfl (lv_at hl 0 rfl) ?_
      refine q_get (C := RX9) (T := TX9) (N := 42) (ci := 9) (v := .int (I2 0 28)) hx hb hts in_X9_look_X9 hown hK hP (oX9 h0) rfl 28 (by decide) (hts (.fieldLink RX9 164 "RowsOnlyPrimesModel" "at" "I") (by decide +kernel)) (fun _ h9 => h9) rfl dX9_look_134 ?_
      obtain ⟨g6, hf⟩ := gd_ok hf
      refine q_iald hx hb hK hP (a0X9_15 h0) g6 dX9_look_137 ?_
      obtain ⟨v7, h8, hf⟩ := bd_ok hf
      refine q_cSi (va_runS (As := [.int (I2 15 (I2 0 28).toNatClampNeg)]) (rest := []) ⟨hx, hb, hml, hown, hts⟩ (c_X9_isDigit l (D := D) (ad := ad) (cy := cy) (sa := sa) (va := va) (I := I2) (J := J) (S := S) h0 (I2 15 (I2 0 28).toNatClampNeg) h8) (va_cwS 1 hts gX9_look_X9_isDigit rfl rfl rfl (by decide +kernel) ⟨Nat.le_of_ble_eq_true rfl, Nat.le_of_ble_eq_true rfl⟩) ⟨qPre_blind _, fun U hU hW => ⟨rfl, qPre_of hP hK hE hN hS U hU hW⟩⟩ rfl rfl hl.1 rfl (lv_room (Nat.le_of_ble_eq_true rfl)) dX9_look_138 ⟨Nat.le_of_ble_eq_true rfl, Nat.le_of_ble_eq_true rfl⟩) ?_
      refine lv_if_eq (tgt := 231) hx hb dX9_look_141 (by decide) (fun cc => ?_) (fun cc => ?_)
      · have hf := (if_ok hf).1 cc
        refine lv_aload_n hx hb dX9_look_231 rfl (lv_at hl 0 rfl) ?_
        refine lv_aload_n hx hb dX9_look_232 rfl (lv_at hl 0 rfl) ?_
        refine q_get (C := RX9) (T := TX9) (N := 42) (ci := 9) (v := .ref (ad 15)) hx hb hts in_X9_look_X9 hown hK hP (oX9 h0) rfl 6 (by decide) (hts (.fieldLink RX9 31 "RowsOnlyPrimesModel" "tape" "[I") (by decide +kernel)) (fun _ h9 => h9) rfl dX9_look_233 ?_
        refine lv_aload_n hx hb dX9_look_236 rfl (lv_at hl 0 rfl) ?_
        refine q_get (C := RX9) (T := TX9) (N := 42) (ci := 9) (v := .int (I2 0 28)) hx hb hts in_X9_look_X9 hown hK hP (oX9 h0) rfl 28 (by decide) (hts (.fieldLink RX9 164 "RowsOnlyPrimesModel" "at" "I") (by decide +kernel)) (fun _ h9 => h9) rfl dX9_look_237 ?_
        obtain ⟨g9, hf⟩ := gd_ok hf
        refine q_iald hx hb hK hP (a0X9_15 h0) g9 dX9_look_240 ?_
        refine lv_bipush (v := 59) hx hb dX9_look_241 (by decide) ?_
        refine lv_icmp_ne (tgt := 250) hx hb dX9_look_243 (by decide) (fun cc => ?_) (fun cc => ?_)
        · have hf := (if_ok hf).2 cc
          refine lv_iconst (v := 4) hx hb dX9_look_250 (by decide) ?_
          exact w_X9_look_251 C hK hE hN h0   (4 : Int32) I2 _ _ _ hf (lv_sub hl [0] rfl) hP hS
        · have hf := (if_ok hf).1 cc
          refine lv_iconst (v := 3) hx hb dX9_look_246 (by decide) ?_
          refine lv_goto (tgt := 251) hx hb dX9_look_247 (by decide) ?_
          exact w_X9_look_251 C hK hE hN h0   (3 : Int32) I2 _ _ _ hf (lv_sub hl [0] rfl) hP hS
      · have hf := (if_ok hf).2 cc
        refine lv_aload_n hx hb dX9_look_144 rfl (lv_at hl 0 rfl) ?_
        refine lv_iconst (v := 2) hx hb dX9_look_145 (by decide) ?_
        obtain ⟨I10, eI10, hf⟩ := lt_ok hf
        refine q_put (C := RX9) (T := TX9) (N := 42) (ci := 9) (v := .int (2 : Int32)) (x := (2 : Int32)) (ty := .int) hx hb hts in_X9_look_X9 tyX9 tyX9_ok nmX9 hown hK hP hN hS (oX9 h0) rfl 29 (by decide) (hts (.fieldLink RX9 173 "RowsOnlyPrimesModel" "token" "I") (by decide +kernel)) (fun _ h9 => h9) rfl (by decide +kernel) rfl rfl (fun _ _ => rfl) (fun _ _ => Nat.le_of_ble_eq_true rfl) dX9_look_146 (fun H locs hP hS => ?_)
        rw [← eI10] at hP
        exact w_X9_look_149 C hK hE hN h0  1000 I10 _ _ _ hf (lv_sub hl [0] rfl) hP hS
    · have hf := (if_ok hf).2 cc
      refine lv_aload_n hx hb dX9_look_85 rfl (lv_at hl 0 rfl) ?_
      refine lv_iconst (v := 1) hx hb dX9_look_86 (by decide) ?_
      obtain ⟨I11, eI11, hf⟩ := lt_ok hf
      refine q_put (C := RX9) (T := TX9) (N := 42) (ci := 9) (v := .int (1 : Int32)) (x := (1 : Int32)) (ty := .int) hx hb hts in_X9_look_X9 tyX9 tyX9_ok nmX9 hown hK hP hN hS (oX9 h0) rfl 29 (by decide) (hts (.fieldLink RX9 173 "RowsOnlyPrimesModel" "token" "I") (by decide +kernel)) (fun _ h9 => h9) rfl (by decide +kernel) rfl rfl (fun _ _ => rfl) (fun _ _ => Nat.le_of_ble_eq_true rfl) dX9_look_87 (fun H locs hP hS => ?_)
      rw [← eI11] at hP
      exact w_X9_look_90 C hK hE hN h0  1000 I11 _ _ _ hf (lv_sub hl [0] rfl) hP hS
  · have hf := (if_ok hf).1 cc
    refine lv_aload_n hx hb dX9_look_62 rfl (lv_at hl 0 rfl) ?_
    refine lv_iconst (v := 0) hx hb dX9_look_63 (by decide) ?_
    obtain ⟨I12, eI12, hf⟩ := lt_ok hf
    refine q_put (C := RX9) (T := TX9) (N := 42) (ci := 9) (v := .int (0 : Int32)) (x := (0 : Int32)) (ty := .int) hx hb hts in_X9_look_X9 tyX9 tyX9_ok nmX9 hown hK hP hN hS (oX9 h0) rfl 29 (by decide) (hts (.fieldLink RX9 173 "RowsOnlyPrimesModel" "token" "I") (by decide +kernel)) (fun _ h9 => h9) rfl (by decide +kernel) rfl rfl (fun _ _ => rfl) (fun _ _ => Nat.le_of_ble_eq_true rfl) dX9_look_64 (fun H locs hP hS => ?_)
    rw [← eI12] at hP
    refine lv_goto (tgt := 264) hx hb dX9_look_67 (by decide) ?_
    have e9 := Option.some.inj hf
    have eI9 : I12 = Ie := e9
    exact W.vret hx hb hr (fun t ht _ => ⟨⟨(), rfl, trivial, by show qP D _ ad _ _ _ t.heap; rw [ht, ← eI9]; exact hP⟩, hS.F ht⟩) hS.2.2 dX9_look_264
set_option maxHeartbeats 4000000 in
set_option maxRecDepth 100000 in
theorem w_X9_look_0 {S : Nat → Prop} (C : qC p s m args meth c cX9_look 1 RX9 wsX9_look none) (hK : qK D cy sa s) (hE : qEnv sa va (qA S ad) s s.heap) (hN : qN S ad) (h0 : isM0 S)   {J : qJ} {Ie : qI} : ∀ (n : Nat)   (I : qI) (ls : Array Slot) (H : Heap) (locs : List Loc), f_X9_look_0 n I = some Ie → lv_has ls 1 [(0, .ref (ad 0))] → qP D S ad (eM ad cy) I J H → va_S (qA S ad) s.heap H locs → W p l e (headSpec wsX9_look r_X9_look).room s m args below meth c H locs 0 0 (MQ below (va_Qv (S := Unit) (fun _ => True) (fun _ t => qP D S ad (eM ad cy) Ie J t.heap) (qA S ad)) args s 0 0 (qA S ad)) (F0 m 0 ls []) := by
  have C0 := C
  obtain ⟨⟨hx, hb, hml, hown, hts⟩, hr, hlocks⟩ := C0
  intro n
  induction n with
  | zero =>
    intro I ls H locs hf hl hP hS
    rw [f_X9_look_0] at hf
    cases hf
  | succ n ih =>
    intro I ls H locs hf hl hP hS
    rw [f_X9_look_0] at hf
    refine lv_aload_n hx hb dX9_look_0 rfl (lv_at hl 0 rfl) ?_
    refine q_get (C := RX9) (T := TX9) (N := 42) (ci := 9) (v := .int (I 0 28)) hx hb hts in_X9_look_X9 hown hK hP (oX9 h0) rfl 28 (by decide) (hts (.fieldLink RX9 164 "RowsOnlyPrimesModel" "at" "I") (by decide +kernel)) (fun _ h9 => h9) rfl dX9_look_1 ?_
    refine lv_aload_n hx hb dX9_look_4 rfl (lv_at hl 0 rfl) ?_
    refine q_get (C := RX9) (T := TX9) (N := 42) (ci := 9) (v := .int (I 0 7)) hx hb hts in_X9_look_X9 hown hK hP (oX9 h0) rfl 7 (by decide) (hts (.fieldLink RX9 161 "RowsOnlyPrimesModel" "tapeSize" "I") (by decide +kernel)) (fun _ h9 => h9) rfl dX9_look_5 ?_
    refine lv_icmp_ge (tgt := 38) hx hb dX9_look_8 (by decide) (fun cc => ?_) (fun cc => ?_)
    · have hf := (if_ok hf).1 cc
      exact w_X9_look_38 C hK hE hN h0   I _ _ _ hf (lv_sub hl [0] rfl) hP hS
    · have hf := (if_ok hf).2 cc
      refine lv_aload_n hx hb dX9_look_11 rfl (lv_at hl 0 rfl) ?_
      refine q_get (C := RX9) (T := TX9) (N := 42) (ci := 9) (v := .ref (ad 15)) hx hb hts in_X9_look_X9 hown hK hP (oX9 h0) rfl 6 (by decide) (hts (.fieldLink RX9 31 "RowsOnlyPrimesModel" "tape" "[I") (by decide +kernel)) (fun _ h9 => h9) rfl dX9_look_12 ?_
      refine lv_aload_n hx hb dX9_look_15 rfl (lv_at hl 0 rfl) ?_
      refine q_get (C := RX9) (T := TX9) (N := 42) (ci := 9) (v := .int (I 0 28)) hx hb hts in_X9_look_X9 hown hK hP (oX9 h0) rfl 28 (by decide) (hts (.fieldLink RX9 164 "RowsOnlyPrimesModel" "at" "I") (by decide +kernel)) (fun _ h9 => h9) rfl dX9_look_16 ?_
      obtain ⟨g1, hf⟩ := gd_ok hf
      refine q_iald hx hb hK hP (a0X9_15 h0) g1 dX9_look_19 ?_
      refine lv_bipush (v := 32) hx hb dX9_look_20 (by decide) ?_
      refine lv_icmp_ne (tgt := 38) hx hb dX9_look_22 (by decide) (fun cc => ?_) (fun cc => ?_)
      · have hf := (if_ok hf).2 cc
        exact w_X9_look_38 C hK hE hN h0   I _ _ _ hf (lv_sub hl [0] rfl) hP hS
      · have hf := (if_ok hf).1 cc
        refine lv_aload_n hx hb dX9_look_25 rfl (lv_at hl 0 rfl) ?_
        refine lv_dup hx hb dX9_look_26 rfl ?_
        refine q_get (C := RX9) (T := TX9) (N := 42) (ci := 9) (v := .int (I 0 28)) hx hb hts in_X9_look_X9 hown hK hP (oX9 h0) rfl 28 (by decide) (hts (.fieldLink RX9 164 "RowsOnlyPrimesModel" "at" "I") (by decide +kernel)) (fun _ h9 => h9) rfl dX9_look_27 ?_
        refine lv_iconst (v := 1) hx hb dX9_look_30 (by decide) ?_
        refine lv_iadd hx hb dX9_look_31 ?_
        obtain ⟨I2, eI2, hf⟩ := lt_ok hf
        refine q_put (C := RX9) (T := TX9) (N := 42) (ci := 9) (v := .int ((I 0 28) + (1 : Int32))) (x := ((I 0 28) + (1 : Int32))) (ty := .int) hx hb hts in_X9_look_X9 tyX9 tyX9_ok nmX9 hown hK hP hN hS (oX9 h0) rfl 28 (by decide) (hts (.fieldLink RX9 164 "RowsOnlyPrimesModel" "at" "I") (by decide +kernel)) (fun _ h9 => h9) rfl (by decide +kernel) rfl rfl (fun _ _ => rfl) (fun _ _ => Nat.le_of_ble_eq_true rfl) dX9_look_32 (fun H locs hP hS => ?_)
        rw [← eI2] at hP
        refine lv_goto (tgt := 0) hx hb dX9_look_35 (by decide) ?_
        exact ih I2 _ _ _ hf (lv_sub hl [0] rfl) hP hS
set_option maxHeartbeats 4000000 in
set_option maxRecDepth 100000 in
theorem c_X9_look (l : Launch) {D : va_G} {ad : Nat → Nat} {cy : Nat → ClassId} {sa va : Nat → Nat} {I : qI} {J : qJ} {S : Nat → Prop} (h0 : isM0 S)    {Ie : qI} (hf : f_X9_look I = some Ie) : Met l yX9_look wsX9_look r_X9_look (va_Pc [.ref (ad 0)] (qPre D S ad cy sa va (eM ad cy) I J)) (va_Qv (S := Unit) (fun _ => True) (fun _ t => qP D S ad (eM ad cy) Ie J t.heap) (qA S ad)) 0 0 (qA S ad) := by
  refine Met.ofW (cc := cX9_look) (maxL := 1) (ret := none) (by decide) rfl ?_
  intro p e s m args below meth c s₁ B hml hv
  obtain ⟨rfl, hP, hK, hE, hN⟩ := hv
  have C : qC p s m _ meth c cX9_look 1 RX9 wsX9_look none := ⟨⟨B.exec, B.bytes, hml, findClass_of_methodNamed B.named, atoms_spec (ws := wsX9_look) B.pre⟩, B.returns, B.notSynchronized⟩
  have C0 := C
  obtain ⟨⟨hx, hb, hml, hown, hts⟩, hr, hlocks⟩ := C0
  have hS : va_S (qA S ad) s.heap s.heap [] := va_S.rf
  have hl := lv_entry ([.ref (ad 0)]) (n := 1) (Nat.le_of_ble_eq_true rfl)
  rw [lg_entry_eq]
  generalize (lg_sl ([.ref (ad 0)]) ++ List.replicate (1 - (lg_sl ([.ref (ad 0)])).length) Slot.unset).toArray = ls at hl ⊢
  have hl : lv_has ls 1 [(0, .ref (ad 0))] := hl
  unfold f_X9_look at hf
  exact w_X9_look_0 C hK hE hN h0  1000 I _ _ _ hf (lv_sub hl [0] rfl) hP hS
abbrev r_X9_wrong : Room := { frames := 0, cells := 0, slots := 0, locals := 0 }
theorem in_X9_wrong_X9 : ∀ w ∈ u_ws RX9 TX9 42, w ∈ wsX9_wrong := by decide +kernel
set_option maxHeartbeats 4000000 in
set_option maxRecDepth 100000 in
theorem c_X9_wrong (l : Launch) {D : va_G} {ad : Nat → Nat} {cy : Nat → ClassId} {sa va : Nat → Nat} {I : qI} {J : qJ} {S : Nat → Prop} (h0 : isM0 S)    {r : Int32} {Ie : qI} (hf : f_X9_wrong I = some (r, Ie)) : Met l yX9_wrong wsX9_wrong r_X9_wrong (va_Pc [.ref (ad 0)] (qPre D S ad cy sa va (eM ad cy) I J)) (va_Qi (S := Unit) (fun x _ => x = r) (fun _ t => qP D S ad (eM ad cy) Ie J t.heap) (qA S ad)) 0 0 (qA S ad) := by
  refine Met.ofW (cc := cX9_wrong) (maxL := 1) (ret := (some .boolean)) (by decide) rfl ?_
  intro p e s m args below meth c s₁ B hml hv
  obtain ⟨rfl, hP, hK, hE, hN⟩ := hv
  have C : qC p s m _ meth c cX9_wrong 1 RX9 wsX9_wrong (some .boolean) := ⟨⟨B.exec, B.bytes, hml, findClass_of_methodNamed B.named, atoms_spec (ws := wsX9_wrong) B.pre⟩, B.returns, B.notSynchronized⟩
  have C0 := C
  obtain ⟨⟨hx, hb, hml, hown, hts⟩, hr, hlocks⟩ := C0
  have hS : va_S (qA S ad) s.heap s.heap [] := va_S.rf
  have hl := lv_entry ([.ref (ad 0)]) (n := 1) (Nat.le_of_ble_eq_true rfl)
  rw [lg_entry_eq]
  generalize (lg_sl ([.ref (ad 0)]) ++ List.replicate (1 - (lg_sl ([.ref (ad 0)])).length) Slot.unset).toArray = ls at hl ⊢
  have hl : lv_has ls 1 [(0, .ref (ad 0))] := hl
  unfold f_X9_wrong at hf
  refine lv_aload_n hx hb dX9_wrong_0 rfl (lv_at hl 0 rfl) ?_
  refine lv_aload_n hx hb dX9_wrong_1 rfl (lv_at hl 0 rfl) ?_
  refine q_get (C := RX9) (T := TX9) (N := 42) (ci := 9) (v := .int (I 0 30)) hx hb hts in_X9_wrong_X9 hown hK hP (oX9 h0) rfl 30 (by decide) (hts (.fieldLink RX9 167 "RowsOnlyPrimesModel" "from" "I") (by decide +kernel)) (fun _ h9 => h9) rfl dX9_wrong_2 ?_
  obtain ⟨I1, eI1, hf⟩ := lt_ok hf
  refine q_put (C := RX9) (T := TX9) (N := 42) (ci := 9) (v := .int (I 0 30)) (x := (I 0 30)) (ty := .int) hx hb hts in_X9_wrong_X9 tyX9 tyX9_ok nmX9 hown hK hP hN hS (oX9 h0) rfl 32 (by decide) (hts (.fieldLink RX9 182 "RowsOnlyPrimesModel" "fault" "I") (by decide +kernel)) (fun _ h9 => h9) rfl (by decide +kernel) rfl rfl (fun _ _ => rfl) (fun _ _ => Nat.le_of_ble_eq_true rfl) dX9_wrong_5 (fun H locs hP hS => ?_)
  rw [← eI1] at hP
  refine lv_iconst (v := 0) hx hb dX9_wrong_8 (by decide) ?_
  have e9 := Option.some.inj hf
  have eI9 : I1 = Ie := (congrArg Prod.snd e9)
  exact W.zret (ty := .boolean) hx hb hr rfl (fun t ht _ => ⟨⟨_, (), rfl, (congrArg Prod.fst e9), by show qP D _ ad _ _ _ t.heap; rw [ht, ← eI9]; exact hP⟩, hS.F ht⟩) hS.2.2 dX9_wrong_9
abbrev r_X9_isWord : Room := { frames := 6, cells := 0, slots := 0, locals := 126 }
theorem in_X9_isWord_X9 : ∀ w ∈ u_ws RX9 TX9 42, w ∈ wsX9_isWord := by decide +kernel
set_option maxHeartbeats 4000000 in
set_option maxRecDepth 100000 in
theorem w_X9_isWord_28 {S : Nat → Prop} (C : qC p s m args meth c cX9_isWord 3 RX9 wsX9_isWord (some .boolean)) (hK : qK D cy sa s) (hE : qEnv sa va (qA S ad) s s.heap) (hN : qN S ad) (h0 : isM0 S) (w0 : Nat) (hw0 : w0 < 9) {I : qI} {J : qJ} (hP : qP D S ad (eM ad cy) I J s.heap) {r : Int32} : ∀ (n : Nat) (x2 : Int32)  (ls : Array Slot), f_X9_isWord_28 w0 I n x2 = some r → lv_has ls 3 [(0, .ref (ad 0)), (1, .ref (sa w0)), (2, .int x2)] → W p l e (headSpec wsX9_isWord r_X9_isWord).room s m args below meth c s.heap [] 0 0 (MQ below (vp_Si (fun x => x = r)) args s 0 0 (fun _ => False)) (F0 m 28 ls []) := by
  have C0 := C
  obtain ⟨⟨hx, hb, hml, hown, hts⟩, hr, hlocks⟩ := C0
  intro n
  induction n with
  | zero =>
    intro x2 ls hf hl
    rw [f_X9_isWord_28] at hf
    cases hf
  | succ n ih =>
    intro x2 ls hf hl
    rw [f_X9_isWord_28] at hf
    refine lv_iload_n hx hb dX9_isWord_28 rfl (lv_at hl 2 rfl) ?_
    refine lv_aload_n hx hb dX9_isWord_29 rfl (lv_at hl 1 rfl) ?_
    obtain ⟨v1, h2, hf⟩ := bd_ok hf
    refine q_cSi (va_runV (As := []) (rest := [.int x2]) ⟨hx, hb, hml, hown, hts⟩ (c_J0_length_8abf5 l (S := S) (ee := (eM ad cy)) (D := D) (ad := ad) (cy := cy) (sa := sa) (va := va) (I := I) (J := J) w0 hw0 h2) (cwV 0 hts gX9_isWord_J0_length_8abf5 rfl rfl rfl (by decide +kernel) ⟨Nat.le_of_ble_eq_true rfl, Nat.le_of_ble_eq_true rfl⟩) ⟨qPre_blind _, vk_recv hE.2.1 hw0 va_S.rf, fun U hU hW => ⟨rfl, qPre_of hP hK hE hN va_S.rf U hU hW⟩⟩ rfl rfl hl.1 rfl (lv_room (Nat.le_of_ble_eq_true rfl)) dX9_isWord_30 ⟨Nat.le_of_ble_eq_true rfl, Nat.le_of_ble_eq_true rfl⟩) ?_
    refine lv_icmp_ge (tgt := 63) hx hb dX9_isWord_33 (by decide) (fun cc => ?_) (fun cc => ?_)
    · have hf := (if_ok hf).1 cc
      refine lv_iconst (v := 1) hx hb dX9_isWord_63 (by decide) ?_
      exact W.zret (ty := .boolean) hx hb hr rfl (fun t ht _ => ⟨_, rfl, Option.some.inj hf, ht⟩) (fun _ h => by cases h) dX9_isWord_64
    · have hf := (if_ok hf).2 cc
      refine lv_aload_n hx hb dX9_isWord_36 rfl (lv_at hl 0 rfl) ?_
      refine q_get (C := RX9) (T := TX9) (N := 42) (ci := 9) (v := .ref (ad 15)) hx hb hts in_X9_isWord_X9 hown hK hP (oX9 h0) rfl 6 (by decide) (hts (.fieldLink RX9 31 "RowsOnlyPrimesModel" "tape" "[I") (by decide +kernel)) (fun _ h9 => h9) rfl dX9_isWord_37 ?_
      refine lv_aload_n hx hb dX9_isWord_40 rfl (lv_at hl 0 rfl) ?_
      refine q_get (C := RX9) (T := TX9) (N := 42) (ci := 9) (v := .int (I 0 30)) hx hb hts in_X9_isWord_X9 hown hK hP (oX9 h0) rfl 30 (by decide) (hts (.fieldLink RX9 167 "RowsOnlyPrimesModel" "from" "I") (by decide +kernel)) (fun _ h9 => h9) rfl dX9_isWord_41 ?_
      refine lv_iload_n hx hb dX9_isWord_44 rfl (lv_at hl 2 rfl) ?_
      refine lv_iadd hx hb dX9_isWord_45 ?_
      obtain ⟨g3, hf⟩ := gd_ok hf
      refine q_iald hx hb hK hP (a0X9_15 h0) g3 dX9_isWord_46 ?_
      refine lv_aload_n hx hb dX9_isWord_47 rfl (lv_at hl 1 rfl) ?_
      refine lv_iload_n hx hb dX9_isWord_48 rfl (lv_at hl 2 rfl) ?_
      obtain ⟨v4, h5, hf⟩ := bd_ok hf
      refine q_cSi (va_runV (As := [.int x2]) (rest := [.int (I 15 ((I 0 30) + x2).toNatClampNeg)]) ⟨hx, hb, hml, hown, hts⟩ (c_J0_charAt_5068e l (S := S) (ee := (eM ad cy)) (D := D) (ad := ad) (cy := cy) (sa := sa) (va := va) (I := I) (J := J) w0 hw0 x2 h5) (cwV 1 hts gX9_isWord_J0_charAt_5068e rfl rfl rfl (by decide +kernel) ⟨Nat.le_of_ble_eq_true rfl, Nat.le_of_ble_eq_true rfl⟩) ⟨qPre_blind _, vk_recv hE.2.1 hw0 va_S.rf, fun U hU hW => ⟨rfl, qPre_of hP hK hE hN va_S.rf U hU hW⟩⟩ rfl rfl hl.1 rfl (lv_room (Nat.le_of_ble_eq_true rfl)) dX9_isWord_49 ⟨Nat.le_of_ble_eq_true rfl, Nat.le_of_ble_eq_true rfl⟩) ?_
      refine lv_icmp_eq (tgt := 57) hx hb dX9_isWord_52 (by decide) (fun cc => ?_) (fun cc => ?_)
      · have hf := (if_ok hf).1 cc
        refine lv_iinc (v := (x2 + (1 : Int32))) (lv' := [(2, .int (x2 + (1 : Int32))), (0, .ref (ad 0)), (1, .ref (sa w0))]) hx hb dX9_isWord_57 hl (k := 2) rfl rfl (by decide) rfl (fun ls hl => ?_)
        refine lv_goto (tgt := 28) hx hb dX9_isWord_60 (by decide) ?_
        exact ih (x2 + (1 : Int32)) _ hf (lv_sub hl [1, 2, 0] rfl)
      · have hf := (if_ok hf).2 cc
        refine lv_iconst (v := 0) hx hb dX9_isWord_55 (by decide) ?_
        exact W.zret (ty := .boolean) hx hb hr rfl (fun t ht _ => ⟨_, rfl, Option.some.inj hf, ht⟩) (fun _ h => by cases h) dX9_isWord_56
set_option maxHeartbeats 4000000 in
set_option maxRecDepth 100000 in
theorem c_X9_isWord (l : Launch) {D : va_G} {ad : Nat → Nat} {cy : Nat → ClassId} {sa va : Nat → Nat} {I : qI} {J : qJ} {S : Nat → Prop} (h0 : isM0 S) (w0 : Nat) (hw0 : w0 < 9)  {r : Int32} (hf : f_X9_isWord w0 I = some r) : Met l yX9_isWord wsX9_isWord r_X9_isWord (va_Pc [.ref (ad 0), .ref (sa w0)] (qPre D S ad cy sa va (eM ad cy) I J)) (vp_Si (fun x => x = r)) 0 0 (fun _ => False) := by
  refine Met.ofW (cc := cX9_isWord) (maxL := 3) (ret := (some .boolean)) (by decide) rfl ?_
  intro p e s m args below meth c s₁ B hml hv
  obtain ⟨rfl, hP, hK, hE, hN⟩ := hv
  have C : qC p s m _ meth c cX9_isWord 3 RX9 wsX9_isWord (some .boolean) := ⟨⟨B.exec, B.bytes, hml, findClass_of_methodNamed B.named, atoms_spec (ws := wsX9_isWord) B.pre⟩, B.returns, B.notSynchronized⟩
  have C0 := C
  obtain ⟨⟨hx, hb, hml, hown, hts⟩, hr, hlocks⟩ := C0
  have hl := lv_entry ([.ref (ad 0), .ref (sa w0)]) (n := 3) (Nat.le_of_ble_eq_true rfl)
  rw [lg_entry_eq]
  generalize (lg_sl ([.ref (ad 0), .ref (sa w0)]) ++ List.replicate (3 - (lg_sl ([.ref (ad 0), .ref (sa w0)])).length) Slot.unset).toArray = ls at hl ⊢
  have hl : lv_has ls 3 [(0, .ref (ad 0)), (1, .ref (sa w0))] := hl
  unfold f_X9_isWord at hf
  refine lv_aload_n hx hb dX9_isWord_0 rfl (lv_at hl 0 rfl) ?_
  refine q_get (C := RX9) (T := TX9) (N := 42) (ci := 9) (v := .int (I 0 29)) hx hb hts in_X9_isWord_X9 hown hK hP (oX9 h0) rfl 29 (by decide) (hts (.fieldLink RX9 173 "RowsOnlyPrimesModel" "token" "I") (by decide +kernel)) (fun _ h9 => h9) rfl dX9_isWord_1 ?_
  refine lv_iconst (v := 1) hx hb dX9_isWord_4 (by decide) ?_
  refine lv_icmp_ne (tgt := 24) hx hb dX9_isWord_5 (by decide) (fun cc => ?_) (fun cc => ?_)
  · have hf := (if_ok hf).2 cc
    refine lv_iconst (v := 0) hx hb dX9_isWord_24 (by decide) ?_
    exact W.zret (ty := .boolean) hx hb hr rfl (fun t ht _ => ⟨_, rfl, Option.some.inj hf, ht⟩) (fun _ h => by cases h) dX9_isWord_25
  · have hf := (if_ok hf).1 cc
    refine lv_aload_n hx hb dX9_isWord_8 rfl (lv_at hl 0 rfl) ?_
    refine q_get (C := RX9) (T := TX9) (N := 42) (ci := 9) (v := .int (I 0 28)) hx hb hts in_X9_isWord_X9 hown hK hP (oX9 h0) rfl 28 (by decide) (hts (.fieldLink RX9 164 "RowsOnlyPrimesModel" "at" "I") (by decide +kernel)) (fun _ h9 => h9) rfl dX9_isWord_9 ?_
    refine lv_aload_n hx hb dX9_isWord_12 rfl (lv_at hl 0 rfl) ?_
    refine q_get (C := RX9) (T := TX9) (N := 42) (ci := 9) (v := .int (I 0 30)) hx hb hts in_X9_isWord_X9 hown hK hP (oX9 h0) rfl 30 (by decide) (hts (.fieldLink RX9 167 "RowsOnlyPrimesModel" "from" "I") (by decide +kernel)) (fun _ h9 => h9) rfl dX9_isWord_13 ?_
    refine lv_isub hx hb dX9_isWord_16 ?_
    refine lv_aload_n hx hb dX9_isWord_17 rfl (lv_at hl 1 rfl) ?_
    obtain ⟨v1, h2, hf⟩ := bd_ok hf
    refine q_cSi (va_runV (As := []) (rest := [.int ((I 0 28) - (I 0 30))]) ⟨hx, hb, hml, hown, hts⟩ (c_J0_length_8abf5 l (S := S) (ee := (eM ad cy)) (D := D) (ad := ad) (cy := cy) (sa := sa) (va := va) (I := I) (J := J) w0 hw0 h2) (cwV 0 hts gX9_isWord_J0_length_8abf5 rfl rfl rfl (by decide +kernel) ⟨Nat.le_of_ble_eq_true rfl, Nat.le_of_ble_eq_true rfl⟩) ⟨qPre_blind _, vk_recv hE.2.1 hw0 va_S.rf, fun U hU hW => ⟨rfl, qPre_of hP hK hE hN va_S.rf U hU hW⟩⟩ rfl rfl hl.1 rfl (lv_room (Nat.le_of_ble_eq_true rfl)) dX9_isWord_18 ⟨Nat.le_of_ble_eq_true rfl, Nat.le_of_ble_eq_true rfl⟩) ?_
    refine lv_icmp_eq (tgt := 26) hx hb dX9_isWord_21 (by decide) (fun cc => ?_) (fun cc => ?_)
    · have hf := (if_ok hf).1 cc
      refine lv_iconst (v := 0) hx hb dX9_isWord_26 (by decide) ?_
      refine lv_istore_n (lv' := [(2, .int (0 : Int32)), (0, .ref (ad 0)), (1, .ref (sa w0))]) hx hb dX9_isWord_27 rfl hl (by decide) rfl (fun ls hl => ?_)
      exact w_X9_isWord_28 C hK hE hN h0 w0 hw0 hP  1000 (0 : Int32) _ hf (lv_sub hl [1, 2, 0] rfl)
    · have hf := (if_ok hf).2 cc
      refine lv_iconst (v := 0) hx hb dX9_isWord_24 (by decide) ?_
      exact W.zret (ty := .boolean) hx hb hr rfl (fun t ht _ => ⟨_, rfl, Option.some.inj hf, ht⟩) (fun _ h => by cases h) dX9_isWord_25
abbrev r_X9_number : Room := { frames := 2, cells := 0, slots := 0, locals := 40 }
theorem in_X9_number_X9 : ∀ w ∈ u_ws RX9 TX9 42, w ∈ wsX9_number := by decide +kernel
set_option maxHeartbeats 4000000 in
set_option maxRecDepth 100000 in
theorem w_X9_number_23 {S : Nat → Prop} (C : qC p s m args meth c cX9_number 4 RX9 wsX9_number (some .boolean)) (hK : qK D cy sa s) (hE : qEnv sa va (qA S ad) s s.heap) (hN : qN S ad) (h0 : isM0 S)   {J : qJ} {r : Int32} {Ie : qI} : ∀   (I : qI) (ls : Array Slot) (H : Heap) (locs : List Loc), f_X9_number_23 I = some (r, Ie) → lv_has ls 4 [(0, .ref (ad 0))] → qP D S ad (eM ad cy) I J H → va_S (qA S ad) s.heap H locs → W p l e (headSpec wsX9_number r_X9_number).room s m args below meth c H locs 0 0 (MQ below (va_Qi (S := Unit) (fun x _ => x = r) (fun _ t => qP D S ad (eM ad cy) Ie J t.heap) (qA S ad)) args s 0 0 (qA S ad)) (F0 m 23 ls []) := by
  have C0 := C
  obtain ⟨⟨hx, hb, hml, hown, hts⟩, hr, hlocks⟩ := C0
  intro I ls H locs hf hl hP hS
  unfold f_X9_number_23 at hf
  refine lv_aload_n hx hb dX9_number_23 rfl (lv_at hl 0 rfl) ?_
  obtain ⟨v1, I2, h3, hf⟩ := bd2_ok hf
  refine q_cEi (va_runV (As := []) (rest := []) ⟨hx, hb, hml, hown, hts⟩ (c_X9_wrong l (D := D) (ad := ad) (cy := cy) (sa := sa) (va := va) (I := I) (J := J) (S := S) h0  h3) (cwV 0 hts gX9_number_X9_wrong rfl rfl rfl (by decide +kernel) ⟨Nat.le_of_ble_eq_true rfl, Nat.le_of_ble_eq_true rfl⟩) ⟨qPre_blind _, q_recv hK hP (oX9 h0) rfl, fun U hU hW => ⟨rfl, qPre_of hP hK hE hN hS U hU hW⟩⟩ rfl rfl hl.1 rfl (lv_room (Nat.le_of_ble_eq_true rfl)) dX9_number_24 ⟨Nat.le_of_ble_eq_true rfl, Nat.le_of_ble_eq_true rfl⟩) hS (fun H locs hP hS => ?_)
  obtain ⟨g4, hf⟩ := gd_ok hf
  have e9 := Option.some.inj hf
  have eI9 : I2 = Ie := (congrArg Prod.snd e9)
  exact W.zret (ty := .boolean) hx hb hr (q_narZ g4) (fun t ht _ => ⟨⟨_, (), rfl, (congrArg Prod.fst e9), by show qP D _ ad _ _ _ t.heap; rw [ht, ← eI9]; exact hP⟩, hS.F ht⟩) hS.2.2 dX9_number_27
set_option maxHeartbeats 4000000 in
set_option maxRecDepth 100000 in
theorem c_X9_number (l : Launch) {D : va_G} {ad : Nat → Nat} {cy : Nat → ClassId} {sa va : Nat → Nat} {I : qI} {J : qJ} {S : Nat → Prop} (h0 : isM0 S)   (p0 : Int32) (p1 : Int32) (p2 : Int32) {r : Int32} {Ie : qI} (hf : f_X9_number p0 p1 p2 I = some (r, Ie)) : Met l yX9_number wsX9_number r_X9_number (va_Pc [.ref (ad 0), .int p0, .int p1, .int p2] (qPre D S ad cy sa va (eM ad cy) I J)) (va_Qi (S := Unit) (fun x _ => x = r) (fun _ t => qP D S ad (eM ad cy) Ie J t.heap) (qA S ad)) 0 0 (qA S ad) := by
  refine Met.ofW (cc := cX9_number) (maxL := 4) (ret := (some .boolean)) (by decide) rfl ?_
  intro p e s m args below meth c s₁ B hml hv
  obtain ⟨rfl, hP, hK, hE, hN⟩ := hv
  have C : qC p s m _ meth c cX9_number 4 RX9 wsX9_number (some .boolean) := ⟨⟨B.exec, B.bytes, hml, findClass_of_methodNamed B.named, atoms_spec (ws := wsX9_number) B.pre⟩, B.returns, B.notSynchronized⟩
  have C0 := C
  obtain ⟨⟨hx, hb, hml, hown, hts⟩, hr, hlocks⟩ := C0
  have hS : va_S (qA S ad) s.heap s.heap [] := va_S.rf
  have hl := lv_entry ([.ref (ad 0), .int p0, .int p1, .int p2]) (n := 4) (Nat.le_of_ble_eq_true rfl)
  rw [lg_entry_eq]
  generalize (lg_sl ([.ref (ad 0), .int p0, .int p1, .int p2]) ++ List.replicate (4 - (lg_sl ([.ref (ad 0), .int p0, .int p1, .int p2])).length) Slot.unset).toArray = ls at hl ⊢
  have hl : lv_has ls 4 [(0, .ref (ad 0)), (1, .int p0), (2, .int p1), (3, .int p2)] := hl
  unfold f_X9_number at hf
  refine lv_aload_n hx hb dX9_number_0 rfl (lv_at hl 0 rfl) ?_
  refine q_get (C := RX9) (T := TX9) (N := 42) (ci := 9) (v := .int (I 0 29)) hx hb hts in_X9_number_X9 hown hK hP (oX9 h0) rfl 29 (by decide) (hts (.fieldLink RX9 173 "RowsOnlyPrimesModel" "token" "I") (by decide +kernel)) (fun _ h9 => h9) rfl dX9_number_1 ?_
  refine lv_iconst (v := 2) hx hb dX9_number_4 (by decide) ?_
  refine lv_icmp_ne (tgt := 23) hx hb dX9_number_5 (by decide) (fun cc => ?_) (fun cc => ?_)
  · have hf := (if_ok hf).2 cc
    exact w_X9_number_23 C hK hE hN h0   I _ _ _ hf (lv_sub hl [0] rfl) hP hS
  · have hf := (if_ok hf).1 cc
    refine lv_aload_n hx hb dX9_number_8 rfl (lv_at hl 0 rfl) ?_
    refine q_get (C := RX9) (T := TX9) (N := 42) (ci := 9) (v := .int (I 0 31)) hx hb hts in_X9_number_X9 hown hK hP (oX9 h0) rfl 31 (by decide) (hts (.fieldLink RX9 170 "RowsOnlyPrimesModel" "figures" "I") (by decide +kernel)) (fun _ h9 => h9) rfl dX9_number_9 ?_
    refine lv_i2l hx hb dX9_number_12 rfl ?_
    refine lv_iload_n hx hb dX9_number_13 rfl (lv_at hl 2 rfl) ?_
    refine lv_i2l hx hb dX9_number_14 rfl ?_
    refine lv_iload_n hx hb dX9_number_15 rfl (lv_at hl 3 rfl) ?_
    refine lv_i2l hx hb dX9_number_16 rfl ?_
    obtain ⟨v1, h2, hf⟩ := bd_ok hf
    refine q_cSi (va_runS (As := [.long ((I 0 31).toInt64), .long p1.toInt64, .long p2.toInt64]) (rest := []) ⟨hx, hb, hml, hown, hts⟩ (c_X9_in l (D := D) (ad := ad) (cy := cy) (sa := sa) (va := va) (I := I) (J := J) (S := S) h0 ((I 0 31).toInt64) p1.toInt64 p2.toInt64 h2) (va_cwS 3 hts gX9_number_X9_in rfl rfl rfl (by decide +kernel) ⟨Nat.le_of_ble_eq_true rfl, Nat.le_of_ble_eq_true rfl⟩) ⟨qPre_blind _, fun U hU hW => ⟨rfl, qPre_of hP hK hE hN hS U hU hW⟩⟩ rfl rfl hl.1 rfl (lv_room (Nat.le_of_ble_eq_true rfl)) dX9_number_17 ⟨Nat.le_of_ble_eq_true rfl, Nat.le_of_ble_eq_true rfl⟩) ?_
    refine lv_if_ne (tgt := 28) hx hb dX9_number_20 (by decide) (fun cc => ?_) (fun cc => ?_)
    · have hf := (if_ok hf).2 cc
      refine lv_aload_n hx hb dX9_number_28 rfl (lv_at hl 0 rfl) ?_
      refine q_get (C := RX9) (T := TX9) (N := 42) (ci := 9) (v := .ref (ad 23)) hx hb hts in_X9_number_X9 hown hK hP (oX9 h0) rfl 33 (by decide) (hts (.fieldLink RX9 71 "RowsOnlyPrimesModel" "told" "[I") (by decide +kernel)) (fun _ h9 => h9) rfl dX9_number_29 ?_
      refine lv_iload_n hx hb dX9_number_32 rfl (lv_at hl 1 rfl) ?_
      refine lv_aload_n hx hb dX9_number_33 rfl (lv_at hl 0 rfl) ?_
      refine q_get (C := RX9) (T := TX9) (N := 42) (ci := 9) (v := .int (I 0 31)) hx hb hts in_X9_number_X9 hown hK hP (oX9 h0) rfl 31 (by decide) (hts (.fieldLink RX9 170 "RowsOnlyPrimesModel" "figures" "I") (by decide +kernel)) (fun _ h9 => h9) rfl dX9_number_34 ?_
      obtain ⟨g3, hf⟩ := gd_ok hf
      obtain ⟨I4, eI4, hf⟩ := lt_ok hf
      refine q_iast hx hb hK hP hN hS (a0X9_23 h0) g3 dX9_number_37 (fun H locs hP hS => ?_)
      have hP : qP D S ad (eM ad cy) I4 J H := by rw [eI4]; exact hP
      refine lv_aload_n hx hb dX9_number_38 rfl (lv_at hl 0 rfl) ?_
      obtain ⟨I5, h6, hf⟩ := bd_ok hf
      refine q_cEv (va_runV (As := []) (rest := []) ⟨hx, hb, hml, hown, hts⟩ (c_X9_look l (D := D) (ad := ad) (cy := cy) (sa := sa) (va := va) (I := I4) (J := J) (S := S) h0  h6) (cwV 0 hts gX9_number_X9_look rfl rfl rfl (by decide +kernel) ⟨Nat.le_of_ble_eq_true rfl, Nat.le_of_ble_eq_true rfl⟩) ⟨qPre_blind _, q_recv hK hP (oX9 h0) rfl, fun U hU hW => ⟨rfl, qPre_of hP hK hE hN hS U hU hW⟩⟩ rfl rfl hl.1 rfl (lv_room (Nat.le_of_ble_eq_true rfl)) dX9_number_39 ⟨Nat.le_of_ble_eq_true rfl, Nat.le_of_ble_eq_true rfl⟩) hS (fun H locs hP hS => ?_)
      refine lv_iconst (v := 1) hx hb dX9_number_42 (by decide) ?_
      have e9 := Option.some.inj hf
      have eI9 : I5 = Ie := (congrArg Prod.snd e9)
      exact W.zret (ty := .boolean) hx hb hr rfl (fun t ht _ => ⟨⟨_, (), rfl, (congrArg Prod.fst e9), by show qP D _ ad _ _ _ t.heap; rw [ht, ← eI9]; exact hP⟩, hS.F ht⟩) hS.2.2 dX9_number_43
    · have hf := (if_ok hf).1 cc
      exact w_X9_number_23 C hK hE hN h0   I _ _ _ hf (lv_sub hl [0] rfl) hP hS
abbrev r_X9_tells : Room := { frames := 3, cells := 0, slots := 0, locals := 63 }
set_option maxHeartbeats 4000000 in
set_option maxRecDepth 100000 in
theorem c_X9_tells (l : Launch) {D : va_G} {ad : Nat → Nat} {cy : Nat → ClassId} {sa va : Nat → Nat} {I : qI} {J : qJ} {S : Nat → Prop} (h0 : isM0 S)   (p0 : Int32) (p1 : Int32) {r : Int32} {Ie : qI} (hf : f_X9_tells p0 p1 I = some (r, Ie)) : Met l yX9_tells wsX9_tells r_X9_tells (va_Pc [.ref (ad 0), .int p0, .int p1] (qPre D S ad cy sa va (eM ad cy) I J)) (va_Qi (S := Unit) (fun x _ => x = r) (fun _ t => qP D S ad (eM ad cy) Ie J t.heap) (qA S ad)) 0 0 (qA S ad) := by
  refine Met.ofW (cc := cX9_tells) (maxL := 3) (ret := (some .boolean)) (by decide) rfl ?_
  intro p e s m args below meth c s₁ B hml hv
  obtain ⟨rfl, hP, hK, hE, hN⟩ := hv
  have C : qC p s m _ meth c cX9_tells 3 RX9 wsX9_tells (some .boolean) := ⟨⟨B.exec, B.bytes, hml, findClass_of_methodNamed B.named, atoms_spec (ws := wsX9_tells) B.pre⟩, B.returns, B.notSynchronized⟩
  have C0 := C
  obtain ⟨⟨hx, hb, hml, hown, hts⟩, hr, hlocks⟩ := C0
  have hS : va_S (qA S ad) s.heap s.heap [] := va_S.rf
  have hl := lv_entry ([.ref (ad 0), .int p0, .int p1]) (n := 3) (Nat.le_of_ble_eq_true rfl)
  rw [lg_entry_eq]
  generalize (lg_sl ([.ref (ad 0), .int p0, .int p1]) ++ List.replicate (3 - (lg_sl ([.ref (ad 0), .int p0, .int p1])).length) Slot.unset).toArray = ls at hl ⊢
  have hl : lv_has ls 3 [(0, .ref (ad 0)), (1, .int p0), (2, .int p1)] := hl
  unfold f_X9_tells at hf
  refine lv_aload_n hx hb dX9_tells_0 rfl (lv_at hl 0 rfl) ?_
  obtain ⟨I1, h2, hf⟩ := bd_ok hf
  refine q_cEv (va_runV (As := []) (rest := []) ⟨hx, hb, hml, hown, hts⟩ (c_X9_look l (D := D) (ad := ad) (cy := cy) (sa := sa) (va := va) (I := I) (J := J) (S := S) h0  h2) (cwV 0 hts gX9_tells_X9_look rfl rfl rfl (by decide +kernel) ⟨Nat.le_of_ble_eq_true rfl, Nat.le_of_ble_eq_true rfl⟩) ⟨qPre_blind _, q_recv hK hP (oX9 h0) rfl, fun U hU hW => ⟨rfl, qPre_of hP hK hE hN hS U hU hW⟩⟩ rfl rfl hl.1 rfl (lv_room (Nat.le_of_ble_eq_true rfl)) dX9_tells_1 ⟨Nat.le_of_ble_eq_true rfl, Nat.le_of_ble_eq_true rfl⟩) hS (fun H locs hP hS => ?_)
  refine lv_aload_n hx hb dX9_tells_4 rfl (lv_at hl 0 rfl) ?_
  refine lv_iconst (v := 0) hx hb dX9_tells_5 (by decide) ?_
  refine lv_iload_n hx hb dX9_tells_6 rfl (lv_at hl 1 rfl) ?_
  refine lv_iload_n hx hb dX9_tells_7 rfl (lv_at hl 2 rfl) ?_
  obtain ⟨v3, I4, h5, hf⟩ := bd2_ok hf
  refine q_cEi (va_runV (As := [.int (0 : Int32), .int p0, .int p1]) (rest := []) ⟨hx, hb, hml, hown, hts⟩ (c_X9_number l (D := D) (ad := ad) (cy := cy) (sa := sa) (va := va) (I := I1) (J := J) (S := S) h0 (0 : Int32) p0 p1 h5) (cwV 3 hts gX9_tells_X9_number rfl rfl rfl (by decide +kernel) ⟨Nat.le_of_ble_eq_true rfl, Nat.le_of_ble_eq_true rfl⟩) ⟨qPre_blind _, q_recv hK hP (oX9 h0) rfl, fun U hU hW => ⟨rfl, qPre_of hP hK hE hN hS U hU hW⟩⟩ rfl rfl hl.1 rfl (lv_room (Nat.le_of_ble_eq_true rfl)) dX9_tells_8 ⟨Nat.le_of_ble_eq_true rfl, Nat.le_of_ble_eq_true rfl⟩) hS (fun H locs hP hS => ?_)
  obtain ⟨g6, hf⟩ := gd_ok hf
  have e9 := Option.some.inj hf
  have eI9 : I4 = Ie := (congrArg Prod.snd e9)
  exact W.zret (ty := .boolean) hx hb hr (q_narZ g6) (fun t ht _ => ⟨⟨_, (), rfl, (congrArg Prod.fst e9), by show qP D _ ad _ _ _ t.heap; rw [ht, ← eI9]; exact hP⟩, hS.F ht⟩) hS.2.2 dX9_tells_11
abbrev r_X9_tellsParty : Room := { frames := 4, cells := 0, slots := 0, locals := 85 }
theorem in_X9_tellsParty_X9 : ∀ w ∈ u_ws RX9 TX9 42, w ∈ wsX9_tellsParty := by decide +kernel
set_option maxHeartbeats 4000000 in
set_option maxRecDepth 100000 in
theorem w_X9_tellsParty_47 {S : Nat → Prop} (C : qC p s m args meth c cX9_tellsParty 2 RX9 wsX9_tellsParty (some .boolean)) (hK : qK D cy sa s) (hE : qEnv sa va (qA S ad) s s.heap) (hN : qN S ad) (h0 : isM0 S)   {J : qJ} {r : Int32} {Ie : qI} : ∀ (xs0 : Int32)  (I : qI) (ls : Array Slot) (H : Heap) (locs : List Loc), f_X9_tellsParty_47 xs0 I = some (r, Ie) → lv_has ls 2 [(0, .ref (ad 0))] → qP D S ad (eM ad cy) I J H → va_S (qA S ad) s.heap H locs → W p l e (headSpec wsX9_tellsParty r_X9_tellsParty).room s m args below meth c H locs 0 0 (MQ below (va_Qi (S := Unit) (fun x _ => x = r) (fun _ t => qP D S ad (eM ad cy) Ie J t.heap) (qA S ad)) args s 0 0 (qA S ad)) (F0 m 47 ls [.int xs0]) := by
  have C0 := C
  obtain ⟨⟨hx, hb, hml, hown, hts⟩, hr, hlocks⟩ := C0
  intro xs0 I ls H locs hf hl hP hS
  unfold f_X9_tellsParty_47 at hf
  refine lv_istore_n (lv' := [(1, .int xs0), (0, .ref (ad 0))]) hx hb dX9_tellsParty_47 rfl hl (by decide) rfl (fun ls hl => ?_)
  refine lv_iload_n hx hb dX9_tellsParty_48 rfl (lv_at hl 0 rfl) ?_
  refine lv_if_eq (tgt := 80) hx hb dX9_tellsParty_49 (by decide) (fun cc => ?_) (fun cc => ?_)
  · have hf := (if_ok hf).1 cc
    refine lv_iload_n hx hb dX9_tellsParty_80 rfl (lv_at hl 0 rfl) ?_
    obtain ⟨g1, hf⟩ := gd_ok hf
    have e9 := Option.some.inj hf
    have eI9 : I = Ie := (congrArg Prod.snd e9)
    exact W.zret (ty := .boolean) hx hb hr (q_narZ g1) (fun t ht _ => ⟨⟨_, (), rfl, (congrArg Prod.fst e9), by show qP D _ ad _ _ _ t.heap; rw [ht, ← eI9]; exact hP⟩, hS.F ht⟩) hS.2.2 dX9_tellsParty_81
  · have hf := (if_ok hf).2 cc
    refine lv_aload_n hx hb dX9_tellsParty_52 rfl (lv_at hl 1 rfl) ?_
    refine lv_aload_n hx hb dX9_tellsParty_53 rfl (lv_at hl 1 rfl) ?_
    refine q_get (C := RX9) (T := TX9) (N := 42) (ci := 9) (v := .ref (ad 23)) hx hb hts in_X9_tellsParty_X9 hown hK hP (oX9 h0) rfl 33 (by decide) (hts (.fieldLink RX9 71 "RowsOnlyPrimesModel" "told" "[I") (by decide +kernel)) (fun _ h9 => h9) rfl dX9_tellsParty_54 ?_
    refine lv_iconst (v := 0) hx hb dX9_tellsParty_57 (by decide) ?_
    refine q_iald hx hb hK hP (a0X9_23 h0) (by decide) dX9_tellsParty_58 ?_
    refine q_top (y := (I 23 0)) rfl ?_
    refine lv_aload_n hx hb dX9_tellsParty_59 rfl (lv_at hl 1 rfl) ?_
    refine q_get (C := RX9) (T := TX9) (N := 42) (ci := 9) (v := .ref (ad 23)) hx hb hts in_X9_tellsParty_X9 hown hK hP (oX9 h0) rfl 33 (by decide) (hts (.fieldLink RX9 71 "RowsOnlyPrimesModel" "told" "[I") (by decide +kernel)) (fun _ h9 => h9) rfl dX9_tellsParty_60 ?_
    refine lv_iconst (v := 1) hx hb dX9_tellsParty_63 (by decide) ?_
    refine q_iald hx hb hK hP (a0X9_23 h0) (by decide) dX9_tellsParty_64 ?_
    refine q_top (y := (I 23 1)) rfl ?_
    refine lv_aload_n hx hb dX9_tellsParty_65 rfl (lv_at hl 1 rfl) ?_
    refine q_get (C := RX9) (T := TX9) (N := 42) (ci := 9) (v := .ref (ad 23)) hx hb hts in_X9_tellsParty_X9 hown hK hP (oX9 h0) rfl 33 (by decide) (hts (.fieldLink RX9 71 "RowsOnlyPrimesModel" "told" "[I") (by decide +kernel)) (fun _ h9 => h9) rfl dX9_tellsParty_66 ?_
    refine lv_iconst (v := 2) hx hb dX9_tellsParty_69 (by decide) ?_
    refine q_iald hx hb hK hP (a0X9_23 h0) (by decide) dX9_tellsParty_70 ?_
    refine q_top (y := (I 23 2)) rfl ?_
    refine lv_aload_n hx hb dX9_tellsParty_71 rfl (lv_at hl 1 rfl) ?_
    refine q_get (C := RX9) (T := TX9) (N := 42) (ci := 9) (v := .ref (ad 23)) hx hb hts in_X9_tellsParty_X9 hown hK hP (oX9 h0) rfl 33 (by decide) (hts (.fieldLink RX9 71 "RowsOnlyPrimesModel" "told" "[I") (by decide +kernel)) (fun _ h9 => h9) rfl dX9_tellsParty_72 ?_
    refine lv_iconst (v := 3) hx hb dX9_tellsParty_75 (by decide) ?_
    refine q_iald hx hb hK hP (a0X9_23 h0) (by decide) dX9_tellsParty_76 ?_
    refine q_top (y := (I 23 3)) rfl ?_
    obtain ⟨I2, h3, hf⟩ := bd_ok hf
    refine q_cEv (va_runV (As := [.int (I 23 0), .int (I 23 1), .int (I 23 2), .int (I 23 3)]) (rest := []) ⟨hx, hb, hml, hown, hts⟩ (c_X9_addParty l (D := D) (ad := ad) (cy := cy) (sa := sa) (va := va) (I := I) (J := J) (S := S) h0 (I 23 0) (I 23 1) (I 23 2) (I 23 3) h3) (cwV 4 hts gX9_tellsParty_X9_addParty rfl rfl rfl (by decide +kernel) ⟨Nat.le_of_ble_eq_true rfl, Nat.le_of_ble_eq_true rfl⟩) ⟨qPre_blind _, q_recv hK hP (oX9 h0) rfl, fun U hU hW => ⟨rfl, qPre_of hP hK hE hN hS U hU hW⟩⟩ rfl rfl hl.1 rfl (lv_room (Nat.le_of_ble_eq_true rfl)) dX9_tellsParty_77 ⟨Nat.le_of_ble_eq_true rfl, Nat.le_of_ble_eq_true rfl⟩) hS (fun H locs hP hS => ?_)
    refine lv_iload_n hx hb dX9_tellsParty_80 rfl (lv_at hl 0 rfl) ?_
    obtain ⟨g4, hf⟩ := gd_ok hf
    have e9 := Option.some.inj hf
    have eI9 : I2 = Ie := (congrArg Prod.snd e9)
    exact W.zret (ty := .boolean) hx hb hr (q_narZ g4) (fun t ht _ => ⟨⟨_, (), rfl, (congrArg Prod.fst e9), by show qP D _ ad _ _ _ t.heap; rw [ht, ← eI9]; exact hP⟩, hS.F ht⟩) hS.2.2 dX9_tellsParty_81
set_option maxHeartbeats 4000000 in
set_option maxRecDepth 100000 in
theorem w_X9_tellsParty_46 {S : Nat → Prop} (C : qC p s m args meth c cX9_tellsParty 2 RX9 wsX9_tellsParty (some .boolean)) (hK : qK D cy sa s) (hE : qEnv sa va (qA S ad) s s.heap) (hN : qN S ad) (h0 : isM0 S)   {J : qJ} {r : Int32} {Ie : qI} : ∀   (I : qI) (ls : Array Slot) (H : Heap) (locs : List Loc), f_X9_tellsParty_46 I = some (r, Ie) → lv_has ls 2 [(0, .ref (ad 0))] → qP D S ad (eM ad cy) I J H → va_S (qA S ad) s.heap H locs → W p l e (headSpec wsX9_tellsParty r_X9_tellsParty).room s m args below meth c H locs 0 0 (MQ below (va_Qi (S := Unit) (fun x _ => x = r) (fun _ t => qP D S ad (eM ad cy) Ie J t.heap) (qA S ad)) args s 0 0 (qA S ad)) (F0 m 46 ls []) := by
  have C0 := C
  obtain ⟨⟨hx, hb, hml, hown, hts⟩, hr, hlocks⟩ := C0
  intro I ls H locs hf hl hP hS
  unfold f_X9_tellsParty_46 at hf
  refine lv_iconst (v := 0) hx hb dX9_tellsParty_46 (by decide) ?_
  exact w_X9_tellsParty_47 C hK hE hN h0   (0 : Int32) I _ _ _ hf (lv_sub hl [0] rfl) hP hS
set_option maxHeartbeats 4000000 in
set_option maxRecDepth 100000 in
theorem c_X9_tellsParty (l : Launch) {D : va_G} {ad : Nat → Nat} {cy : Nat → ClassId} {sa va : Nat → Nat} {I : qI} {J : qJ} {S : Nat → Prop} (h0 : isM0 S)    {r : Int32} {Ie : qI} (hf : f_X9_tellsParty I = some (r, Ie)) : Met l yX9_tellsParty wsX9_tellsParty r_X9_tellsParty (va_Pc [.ref (ad 0)] (qPre D S ad cy sa va (eM ad cy) I J)) (va_Qi (S := Unit) (fun x _ => x = r) (fun _ t => qP D S ad (eM ad cy) Ie J t.heap) (qA S ad)) 0 0 (qA S ad) := by
  refine Met.ofW (cc := cX9_tellsParty) (maxL := 2) (ret := (some .boolean)) (by decide) rfl ?_
  intro p e s m args below meth c s₁ B hml hv
  obtain ⟨rfl, hP, hK, hE, hN⟩ := hv
  have C : qC p s m _ meth c cX9_tellsParty 2 RX9 wsX9_tellsParty (some .boolean) := ⟨⟨B.exec, B.bytes, hml, findClass_of_methodNamed B.named, atoms_spec (ws := wsX9_tellsParty) B.pre⟩, B.returns, B.notSynchronized⟩
  have C0 := C
  obtain ⟨⟨hx, hb, hml, hown, hts⟩, hr, hlocks⟩ := C0
  have hS : va_S (qA S ad) s.heap s.heap [] := va_S.rf
  have hl := lv_entry ([.ref (ad 0)]) (n := 2) (Nat.le_of_ble_eq_true rfl)
  rw [lg_entry_eq]
  generalize (lg_sl ([.ref (ad 0)]) ++ List.replicate (2 - (lg_sl ([.ref (ad 0)])).length) Slot.unset).toArray = ls at hl ⊢
  have hl : lv_has ls 2 [(0, .ref (ad 0))] := hl
  unfold f_X9_tellsParty at hf
  refine lv_aload_n hx hb dX9_tellsParty_0 rfl (lv_at hl 0 rfl) ?_
  refine lv_iconst (v := 0) hx hb dX9_tellsParty_1 (by decide) ?_
  refine lv_iconst (v := 5) hx hb dX9_tellsParty_2 (by decide) ?_
  obtain ⟨v1, I2, h3, hf⟩ := bd2_ok hf
  refine q_cEi (va_runV (As := [.int (0 : Int32), .int (5 : Int32)]) (rest := []) ⟨hx, hb, hml, hown, hts⟩ (c_X9_tells l (D := D) (ad := ad) (cy := cy) (sa := sa) (va := va) (I := I) (J := J) (S := S) h0 (0 : Int32) (5 : Int32) h3) (cwV 2 hts gX9_tellsParty_X9_tells rfl rfl rfl (by decide +kernel) ⟨Nat.le_of_ble_eq_true rfl, Nat.le_of_ble_eq_true rfl⟩) ⟨qPre_blind _, q_recv hK hP (oX9 h0) rfl, fun U hU hW => ⟨rfl, qPre_of hP hK hE hN hS U hU hW⟩⟩ rfl rfl hl.1 rfl (lv_room (Nat.le_of_ble_eq_true rfl)) dX9_tellsParty_3 ⟨Nat.le_of_ble_eq_true rfl, Nat.le_of_ble_eq_true rfl⟩) hS (fun H locs hP hS => ?_)
  refine lv_if_eq (tgt := 46) hx hb dX9_tellsParty_6 (by decide) (fun cc => ?_) (fun cc => ?_)
  · have hf := (if_ok hf).1 cc
    exact w_X9_tellsParty_46 C hK hE hN h0   I2 _ _ _ hf (lv_sub hl [0] rfl) hP hS
  · have hf := (if_ok hf).2 cc
    refine lv_aload_n hx hb dX9_tellsParty_9 rfl (lv_at hl 0 rfl) ?_
    refine lv_iconst (v := 1) hx hb dX9_tellsParty_10 (by decide) ?_
    refine lv_iconst (v := 0) hx hb dX9_tellsParty_11 (by decide) ?_
    refine lv_bipush (v := 9) hx hb dX9_tellsParty_12 (by decide) ?_
    obtain ⟨v4, I5, h6, hf⟩ := bd2_ok hf
    refine q_cEi (va_runV (As := [.int (1 : Int32), .int (0 : Int32), .int (9 : Int32)]) (rest := []) ⟨hx, hb, hml, hown, hts⟩ (c_X9_number l (D := D) (ad := ad) (cy := cy) (sa := sa) (va := va) (I := I2) (J := J) (S := S) h0 (1 : Int32) (0 : Int32) (9 : Int32) h6) (cwV 3 hts gX9_tellsParty_X9_number rfl rfl rfl (by decide +kernel) ⟨Nat.le_of_ble_eq_true rfl, Nat.le_of_ble_eq_true rfl⟩) ⟨qPre_blind _, q_recv hK hP (oX9 h0) rfl, fun U hU hW => ⟨rfl, qPre_of hP hK hE hN hS U hU hW⟩⟩ rfl rfl hl.1 rfl (lv_room (Nat.le_of_ble_eq_true rfl)) dX9_tellsParty_14 ⟨Nat.le_of_ble_eq_true rfl, Nat.le_of_ble_eq_true rfl⟩) hS (fun H locs hP hS => ?_)
    refine lv_if_eq (tgt := 46) hx hb dX9_tellsParty_17 (by decide) (fun cc => ?_) (fun cc => ?_)
    · have hf := (if_ok hf).1 cc
      exact w_X9_tellsParty_46 C hK hE hN h0   I5 _ _ _ hf (lv_sub hl [0] rfl) hP hS
    · have hf := (if_ok hf).2 cc
      refine lv_aload_n hx hb dX9_tellsParty_20 rfl (lv_at hl 0 rfl) ?_
      refine lv_iconst (v := 2) hx hb dX9_tellsParty_21 (by decide) ?_
      refine lv_iconst (v := 1) hx hb dX9_tellsParty_22 (by decide) ?_
      refine lv_bipush (v := 40) hx hb dX9_tellsParty_23 (by decide) ?_
      obtain ⟨v7, I8, h9, hf⟩ := bd2_ok hf
      refine q_cEi (va_runV (As := [.int (2 : Int32), .int (1 : Int32), .int (40 : Int32)]) (rest := []) ⟨hx, hb, hml, hown, hts⟩ (c_X9_number l (D := D) (ad := ad) (cy := cy) (sa := sa) (va := va) (I := I5) (J := J) (S := S) h0 (2 : Int32) (1 : Int32) (40 : Int32) h9) (cwV 3 hts gX9_tellsParty_X9_number rfl rfl rfl (by decide +kernel) ⟨Nat.le_of_ble_eq_true rfl, Nat.le_of_ble_eq_true rfl⟩) ⟨qPre_blind _, q_recv hK hP (oX9 h0) rfl, fun U hU hW => ⟨rfl, qPre_of hP hK hE hN hS U hU hW⟩⟩ rfl rfl hl.1 rfl (lv_room (Nat.le_of_ble_eq_true rfl)) dX9_tellsParty_25 ⟨Nat.le_of_ble_eq_true rfl, Nat.le_of_ble_eq_true rfl⟩) hS (fun H locs hP hS => ?_)
      refine lv_if_eq (tgt := 46) hx hb dX9_tellsParty_28 (by decide) (fun cc => ?_) (fun cc => ?_)
      · have hf := (if_ok hf).1 cc
        exact w_X9_tellsParty_46 C hK hE hN h0   I8 _ _ _ hf (lv_sub hl [0] rfl) hP hS
      · have hf := (if_ok hf).2 cc
        refine lv_aload_n hx hb dX9_tellsParty_31 rfl (lv_at hl 0 rfl) ?_
        refine lv_iconst (v := 3) hx hb dX9_tellsParty_32 (by decide) ?_
        refine lv_iconst (v := 0) hx hb dX9_tellsParty_33 (by decide) ?_
        refine lv_bipush (v := 99) hx hb dX9_tellsParty_34 (by decide) ?_
        obtain ⟨v10, I11, h12, hf⟩ := bd2_ok hf
        refine q_cEi (va_runV (As := [.int (3 : Int32), .int (0 : Int32), .int (99 : Int32)]) (rest := []) ⟨hx, hb, hml, hown, hts⟩ (c_X9_number l (D := D) (ad := ad) (cy := cy) (sa := sa) (va := va) (I := I8) (J := J) (S := S) h0 (3 : Int32) (0 : Int32) (99 : Int32) h12) (cwV 3 hts gX9_tellsParty_X9_number rfl rfl rfl (by decide +kernel) ⟨Nat.le_of_ble_eq_true rfl, Nat.le_of_ble_eq_true rfl⟩) ⟨qPre_blind _, q_recv hK hP (oX9 h0) rfl, fun U hU hW => ⟨rfl, qPre_of hP hK hE hN hS U hU hW⟩⟩ rfl rfl hl.1 rfl (lv_room (Nat.le_of_ble_eq_true rfl)) dX9_tellsParty_36 ⟨Nat.le_of_ble_eq_true rfl, Nat.le_of_ble_eq_true rfl⟩) hS (fun H locs hP hS => ?_)
        refine lv_if_eq (tgt := 46) hx hb dX9_tellsParty_39 (by decide) (fun cc => ?_) (fun cc => ?_)
        · have hf := (if_ok hf).1 cc
          exact w_X9_tellsParty_46 C hK hE hN h0   I11 _ _ _ hf (lv_sub hl [0] rfl) hP hS
        · have hf := (if_ok hf).2 cc
          refine lv_iconst (v := 1) hx hb dX9_tellsParty_42 (by decide) ?_
          refine lv_goto (tgt := 47) hx hb dX9_tellsParty_43 (by decide) ?_
          exact w_X9_tellsParty_47 C hK hE hN h0   (1 : Int32) I11 _ _ _ hf (lv_sub hl [0] rfl) hP hS
abbrev r_X9_tellsTwo : Room := { frames := 4, cells := 0, slots := 0, locals := 85 }
theorem in_X9_tellsTwo_X9 : ∀ w ∈ u_ws RX9 TX9 42, w ∈ wsX9_tellsTwo := by decide +kernel
set_option maxHeartbeats 4000000 in
set_option maxRecDepth 100000 in
theorem w_X9_tellsTwo_42 {S : Nat → Prop} (C : qC p s m args meth c cX9_tellsTwo 3 RX9 wsX9_tellsTwo (some .boolean)) (hK : qK D cy sa s) (hE : qEnv sa va (qA S ad) s s.heap) (hN : qN S ad) (h0 : isM0 S)   {J : qJ} {r : Int32} {Ie : qI} : ∀ (x1 : Int32)  (I : qI) (ls : Array Slot) (H : Heap) (locs : List Loc), f_X9_tellsTwo_42 x1 I = some (r, Ie) → lv_has ls 3 [(0, .ref (ad 0)), (1, .int x1)] → qP D S ad (eM ad cy) I J H → va_S (qA S ad) s.heap H locs → W p l e (headSpec wsX9_tellsTwo r_X9_tellsTwo).room s m args below meth c H locs 0 0 (MQ below (va_Qi (S := Unit) (fun x _ => x = r) (fun _ t => qP D S ad (eM ad cy) Ie J t.heap) (qA S ad)) args s 0 0 (qA S ad)) (F0 m 42 ls []) := by
  have C0 := C
  obtain ⟨⟨hx, hb, hml, hown, hts⟩, hr, hlocks⟩ := C0
  intro x1 I ls H locs hf hl hP hS
  unfold f_X9_tellsTwo_42 at hf
  refine lv_aload_n hx hb dX9_tellsTwo_42 rfl (lv_at hl 0 rfl) ?_
  refine lv_iconst (v := 1) hx hb dX9_tellsTwo_43 (by decide) ?_
  refine lv_iconst (v := 0) hx hb dX9_tellsTwo_44 (by decide) ?_
  refine lv_aload_n hx hb dX9_tellsTwo_45 rfl (lv_at hl 0 rfl) ?_
  refine q_get (C := RX9) (T := TX9) (N := 42) (ci := 9) (v := .int (I 0 17)) hx hb hts in_X9_tellsTwo_X9 hown hK hP (oX9 h0) rfl 17 (by decide) (hts (.fieldLink RX9 93 "RowsOnlyPrimesModel" "parties" "I") (by decide +kernel)) (fun _ h9 => h9) rfl dX9_tellsTwo_46 ?_
  refine lv_iconst (v := 1) hx hb dX9_tellsTwo_49 (by decide) ?_
  refine lv_isub hx hb dX9_tellsTwo_50 ?_
  obtain ⟨v1, I2, h3, hf⟩ := bd2_ok hf
  refine q_cEi (va_runV (As := [.int (1 : Int32), .int (0 : Int32), .int ((I 0 17) - (1 : Int32))]) (rest := []) ⟨hx, hb, hml, hown, hts⟩ (c_X9_number l (D := D) (ad := ad) (cy := cy) (sa := sa) (va := va) (I := I) (J := J) (S := S) h0 (1 : Int32) (0 : Int32) ((I 0 17) - (1 : Int32)) h3) (cwV 3 hts gX9_tellsTwo_X9_number rfl rfl rfl (by decide +kernel) ⟨Nat.le_of_ble_eq_true rfl, Nat.le_of_ble_eq_true rfl⟩) ⟨qPre_blind _, q_recv hK hP (oX9 h0) rfl, fun U hU hW => ⟨rfl, qPre_of hP hK hE hN hS U hU hW⟩⟩ rfl rfl hl.1 rfl (lv_room (Nat.le_of_ble_eq_true rfl)) dX9_tellsTwo_51 ⟨Nat.le_of_ble_eq_true rfl, Nat.le_of_ble_eq_true rfl⟩) hS (fun H locs hP hS => ?_)
  refine lv_istore_n (lv' := [(2, .int v1), (0, .ref (ad 0)), (1, .int x1)]) hx hb dX9_tellsTwo_54 rfl hl (by decide) rfl (fun ls hl => ?_)
  refine lv_iload_n hx hb dX9_tellsTwo_55 rfl (lv_at hl 0 rfl) ?_
  refine lv_if_eq (tgt := 76) hx hb dX9_tellsTwo_56 (by decide) (fun cc => ?_) (fun cc => ?_)
  · have hf := (if_ok hf).1 cc
    refine lv_iload_n hx hb dX9_tellsTwo_76 rfl (lv_at hl 0 rfl) ?_
    obtain ⟨g4, hf⟩ := gd_ok hf
    have e9 := Option.some.inj hf
    have eI9 : I2 = Ie := (congrArg Prod.snd e9)
    exact W.zret (ty := .boolean) hx hb hr (q_narZ g4) (fun t ht _ => ⟨⟨_, (), rfl, (congrArg Prod.fst e9), by show qP D _ ad _ _ _ t.heap; rw [ht, ← eI9]; exact hP⟩, hS.F ht⟩) hS.2.2 dX9_tellsTwo_77
  · have hf := (if_ok hf).2 cc
    refine lv_aload_n hx hb dX9_tellsTwo_59 rfl (lv_at hl 1 rfl) ?_
    refine lv_aload_n hx hb dX9_tellsTwo_60 rfl (lv_at hl 1 rfl) ?_
    refine q_get (C := RX9) (T := TX9) (N := 42) (ci := 9) (v := .ref (ad 23)) hx hb hts in_X9_tellsTwo_X9 hown hK hP (oX9 h0) rfl 33 (by decide) (hts (.fieldLink RX9 71 "RowsOnlyPrimesModel" "told" "[I") (by decide +kernel)) (fun _ h9 => h9) rfl dX9_tellsTwo_61 ?_
    refine lv_iconst (v := 0) hx hb dX9_tellsTwo_64 (by decide) ?_
    refine q_iald hx hb hK hP (a0X9_23 h0) (by decide) dX9_tellsTwo_65 ?_
    refine q_top (y := (I2 23 0)) rfl ?_
    refine lv_aload_n hx hb dX9_tellsTwo_66 rfl (lv_at hl 1 rfl) ?_
    refine q_get (C := RX9) (T := TX9) (N := 42) (ci := 9) (v := .ref (ad 23)) hx hb hts in_X9_tellsTwo_X9 hown hK hP (oX9 h0) rfl 33 (by decide) (hts (.fieldLink RX9 71 "RowsOnlyPrimesModel" "told" "[I") (by decide +kernel)) (fun _ h9 => h9) rfl dX9_tellsTwo_67 ?_
    refine lv_iconst (v := 1) hx hb dX9_tellsTwo_70 (by decide) ?_
    refine q_iald hx hb hK hP (a0X9_23 h0) (by decide) dX9_tellsTwo_71 ?_
    refine q_top (y := (I2 23 1)) rfl ?_
    refine lv_iload_n hx hb dX9_tellsTwo_72 rfl (lv_at hl 2 rfl) ?_
    obtain ⟨I5, h6, hf⟩ := bd_ok hf
    refine q_cEv (va_runV (As := [.int (I2 23 0), .int (I2 23 1), .int x1]) (rest := []) ⟨hx, hb, hml, hown, hts⟩ (c_X9_binds l (D := D) (ad := ad) (cy := cy) (sa := sa) (va := va) (I := I2) (J := J) (S := S) h0 (I2 23 0) (I2 23 1) x1 h6) (cwV 3 hts gX9_tellsTwo_X9_binds rfl rfl rfl (by decide +kernel) ⟨Nat.le_of_ble_eq_true rfl, Nat.le_of_ble_eq_true rfl⟩) ⟨qPre_blind _, q_recv hK hP (oX9 h0) rfl, fun U hU hW => ⟨rfl, qPre_of hP hK hE hN hS U hU hW⟩⟩ rfl rfl hl.1 rfl (lv_room (Nat.le_of_ble_eq_true rfl)) dX9_tellsTwo_73 ⟨Nat.le_of_ble_eq_true rfl, Nat.le_of_ble_eq_true rfl⟩) hS (fun H locs hP hS => ?_)
    refine lv_iload_n hx hb dX9_tellsTwo_76 rfl (lv_at hl 0 rfl) ?_
    obtain ⟨g7, hf⟩ := gd_ok hf
    have e9 := Option.some.inj hf
    have eI9 : I5 = Ie := (congrArg Prod.snd e9)
    exact W.zret (ty := .boolean) hx hb hr (q_narZ g7) (fun t ht _ => ⟨⟨_, (), rfl, (congrArg Prod.fst e9), by show qP D _ ad _ _ _ t.heap; rw [ht, ← eI9]; exact hP⟩, hS.F ht⟩) hS.2.2 dX9_tellsTwo_77
set_option maxHeartbeats 4000000 in
set_option maxRecDepth 100000 in
theorem c_X9_tellsTwo (l : Launch) {D : va_G} {ad : Nat → Nat} {cy : Nat → ClassId} {sa va : Nat → Nat} {I : qI} {J : qJ} {S : Nat → Prop} (h0 : isM0 S)   (p0 : Int32) {r : Int32} {Ie : qI} (hf : f_X9_tellsTwo p0 I = some (r, Ie)) : Met l yX9_tellsTwo wsX9_tellsTwo r_X9_tellsTwo (va_Pc [.ref (ad 0), .int p0] (qPre D S ad cy sa va (eM ad cy) I J)) (va_Qi (S := Unit) (fun x _ => x = r) (fun _ t => qP D S ad (eM ad cy) Ie J t.heap) (qA S ad)) 0 0 (qA S ad) := by
  refine Met.ofW (cc := cX9_tellsTwo) (maxL := 3) (ret := (some .boolean)) (by decide) rfl ?_
  intro p e s m args below meth c s₁ B hml hv
  obtain ⟨rfl, hP, hK, hE, hN⟩ := hv
  have C : qC p s m _ meth c cX9_tellsTwo 3 RX9 wsX9_tellsTwo (some .boolean) := ⟨⟨B.exec, B.bytes, hml, findClass_of_methodNamed B.named, atoms_spec (ws := wsX9_tellsTwo) B.pre⟩, B.returns, B.notSynchronized⟩
  have C0 := C
  obtain ⟨⟨hx, hb, hml, hown, hts⟩, hr, hlocks⟩ := C0
  have hS : va_S (qA S ad) s.heap s.heap [] := va_S.rf
  have hl := lv_entry ([.ref (ad 0), .int p0]) (n := 3) (Nat.le_of_ble_eq_true rfl)
  rw [lg_entry_eq]
  generalize (lg_sl ([.ref (ad 0), .int p0]) ++ List.replicate (3 - (lg_sl ([.ref (ad 0), .int p0])).length) Slot.unset).toArray = ls at hl ⊢
  have hl : lv_has ls 3 [(0, .ref (ad 0)), (1, .int p0)] := hl
  unfold f_X9_tellsTwo at hf
  refine lv_aload_n hx hb dX9_tellsTwo_0 rfl (lv_at hl 0 rfl) ?_
  refine lv_iconst (v := 0) hx hb dX9_tellsTwo_1 (by decide) ?_
  refine lv_aload_n hx hb dX9_tellsTwo_2 rfl (lv_at hl 0 rfl) ?_
  refine q_get (C := RX9) (T := TX9) (N := 42) (ci := 9) (v := .int (I 0 17)) hx hb hts in_X9_tellsTwo_X9 hown hK hP (oX9 h0) rfl 17 (by decide) (hts (.fieldLink RX9 93 "RowsOnlyPrimesModel" "parties" "I") (by decide +kernel)) (fun _ h9 => h9) rfl dX9_tellsTwo_3 ?_
  refine lv_iconst (v := 1) hx hb dX9_tellsTwo_6 (by decide) ?_
  refine lv_isub hx hb dX9_tellsTwo_7 ?_
  obtain ⟨v1, I2, h3, hf⟩ := bd2_ok hf
  refine q_cEi (va_runV (As := [.int (0 : Int32), .int ((I 0 17) - (1 : Int32))]) (rest := []) ⟨hx, hb, hml, hown, hts⟩ (c_X9_tells l (D := D) (ad := ad) (cy := cy) (sa := sa) (va := va) (I := I) (J := J) (S := S) h0 (0 : Int32) ((I 0 17) - (1 : Int32)) h3) (cwV 2 hts gX9_tellsTwo_X9_tells rfl rfl rfl (by decide +kernel) ⟨Nat.le_of_ble_eq_true rfl, Nat.le_of_ble_eq_true rfl⟩) ⟨qPre_blind _, q_recv hK hP (oX9 h0) rfl, fun U hU hW => ⟨rfl, qPre_of hP hK hE hN hS U hU hW⟩⟩ rfl rfl hl.1 rfl (lv_room (Nat.le_of_ble_eq_true rfl)) dX9_tellsTwo_8 ⟨Nat.le_of_ble_eq_true rfl, Nat.le_of_ble_eq_true rfl⟩) hS (fun H locs hP hS => ?_)
  refine lv_if_ne (tgt := 16) hx hb dX9_tellsTwo_11 (by decide) (fun cc => ?_) (fun cc => ?_)
  · have hf := (if_ok hf).2 cc
    refine lv_aload_n hx hb dX9_tellsTwo_16 rfl (lv_at hl 0 rfl) ?_
    refine q_get (C := RX9) (T := TX9) (N := 42) (ci := 9) (v := .int (I2 0 29)) hx hb hts in_X9_tellsTwo_X9 hown hK hP (oX9 h0) rfl 29 (by decide) (hts (.fieldLink RX9 173 "RowsOnlyPrimesModel" "token" "I") (by decide +kernel)) (fun _ h9 => h9) rfl dX9_tellsTwo_17 ?_
    refine lv_iconst (v := 2) hx hb dX9_tellsTwo_20 (by decide) ?_
    refine lv_icmp_ne (tgt := 42) hx hb dX9_tellsTwo_21 (by decide) (fun cc => ?_) (fun cc => ?_)
    · have hf := (if_ok hf).2 cc
      exact w_X9_tellsTwo_42 C hK hE hN h0   p0 I2 _ _ _ hf (lv_sub hl [0, 1] rfl) hP hS
    · have hf := (if_ok hf).1 cc
      refine lv_aload_n hx hb dX9_tellsTwo_24 rfl (lv_at hl 0 rfl) ?_
      refine q_get (C := RX9) (T := TX9) (N := 42) (ci := 9) (v := .int (I2 0 31)) hx hb hts in_X9_tellsTwo_X9 hown hK hP (oX9 h0) rfl 31 (by decide) (hts (.fieldLink RX9 170 "RowsOnlyPrimesModel" "figures" "I") (by decide +kernel)) (fun _ h9 => h9) rfl dX9_tellsTwo_25 ?_
      refine lv_aload_n hx hb dX9_tellsTwo_28 rfl (lv_at hl 0 rfl) ?_
      refine q_get (C := RX9) (T := TX9) (N := 42) (ci := 9) (v := .ref (ad 23)) hx hb hts in_X9_tellsTwo_X9 hown hK hP (oX9 h0) rfl 33 (by decide) (hts (.fieldLink RX9 71 "RowsOnlyPrimesModel" "told" "[I") (by decide +kernel)) (fun _ h9 => h9) rfl dX9_tellsTwo_29 ?_
      refine lv_iconst (v := 0) hx hb dX9_tellsTwo_32 (by decide) ?_
      refine q_iald hx hb hK hP (a0X9_23 h0) (by decide) dX9_tellsTwo_33 ?_
      refine q_top (y := (I2 23 0)) rfl ?_
      refine lv_icmp_ne (tgt := 42) hx hb dX9_tellsTwo_34 (by decide) (fun cc => ?_) (fun cc => ?_)
      · have hf := (if_ok hf).2 cc
        exact w_X9_tellsTwo_42 C hK hE hN h0   p0 I2 _ _ _ hf (lv_sub hl [0, 1] rfl) hP hS
      · have hf := (if_ok hf).1 cc
        refine lv_aload_n hx hb dX9_tellsTwo_37 rfl (lv_at hl 0 rfl) ?_
        obtain ⟨v4, I5, h6, hf⟩ := bd2_ok hf
        refine q_cEi (va_runV (As := []) (rest := []) ⟨hx, hb, hml, hown, hts⟩ (c_X9_wrong l (D := D) (ad := ad) (cy := cy) (sa := sa) (va := va) (I := I2) (J := J) (S := S) h0  h6) (cwV 0 hts gX9_tellsTwo_X9_wrong rfl rfl rfl (by decide +kernel) ⟨Nat.le_of_ble_eq_true rfl, Nat.le_of_ble_eq_true rfl⟩) ⟨qPre_blind _, q_recv hK hP (oX9 h0) rfl, fun U hU hW => ⟨rfl, qPre_of hP hK hE hN hS U hU hW⟩⟩ rfl rfl hl.1 rfl (lv_room (Nat.le_of_ble_eq_true rfl)) dX9_tellsTwo_38 ⟨Nat.le_of_ble_eq_true rfl, Nat.le_of_ble_eq_true rfl⟩) hS (fun H locs hP hS => ?_)
        obtain ⟨g7, hf⟩ := gd_ok hf
        have e9 := Option.some.inj hf
        have eI9 : I5 = Ie := (congrArg Prod.snd e9)
        exact W.zret (ty := .boolean) hx hb hr (q_narZ g7) (fun t ht _ => ⟨⟨_, (), rfl, (congrArg Prod.fst e9), by show qP D _ ad _ _ _ t.heap; rw [ht, ← eI9]; exact hP⟩, hS.F ht⟩) hS.2.2 dX9_tellsTwo_41
  · have hf := (if_ok hf).1 cc
    refine lv_iconst (v := 0) hx hb dX9_tellsTwo_14 (by decide) ?_
    have e9 := Option.some.inj hf
    have eI9 : I2 = Ie := (congrArg Prod.snd e9)
    exact W.zret (ty := .boolean) hx hb hr rfl (fun t ht _ => ⟨⟨_, (), rfl, (congrArg Prod.fst e9), by show qP D _ ad _ _ _ t.heap; rw [ht, ← eI9]; exact hP⟩, hS.F ht⟩) hS.2.2 dX9_tellsTwo_15
end
