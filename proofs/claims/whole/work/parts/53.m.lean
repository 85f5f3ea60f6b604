/-! machine: X9_bids X9_noTold X9_isAboard X9_findCrossed X9_crossed X9_goesAsTold X9_judge X9_behind X9_crosses X9_cross X9_goesBack X9_comesBack X9_below X9_goesDay (written by wip/gen/gen.py) -/
section
variable {p : Program} {l : Launch} {e : Env} {s : State} {m : MethodId} {args : Array Value} {below : List Frame} {meth : Method} {c : Code} {D : va_G} {ad : Nat → Nat} {cy : Nat → ClassId} {sa va : Nat → Nat}
abbrev r_X9_bids : Room := { frames := 2, cells := 0, slots := 0, locals := 46 }
theorem in_X9_bids_X9 : ∀ w ∈ u_ws RX9 TX9 42, w ∈ wsX9_bids := by decide +kernel
set_option maxHeartbeats 4000000 in
set_option maxRecDepth 100000 in
theorem w_X9_bids_69 {S : Nat → Prop} (C : qC p s m args meth c cX9_bids 5 RX9 wsX9_bids (some .int)) (hK : qK D cy sa s) (hE : qEnv sa va (qA S ad) s s.heap) (hN : qN S ad) (h0 : isM0 S)   {J : qJ} {r : Int32} {Ie : qI} : ∀ (n : Nat) (x1 : Int32) (x4 : Int32)  (I : qI) (ls : Array Slot) (H : Heap) (locs : List Loc), f_X9_bids_69 n x1 x4 I = some (r, Ie) → lv_has ls 5 [(0, .ref (ad 0)), (1, .int x1), (4, .int x4)] → qP D S ad (eM ad cy) I J H → va_S (qA S ad) s.heap H locs → W p l e (headSpec wsX9_bids r_X9_bids).room s m args below meth c H locs 0 0 (MQ below (va_Qi (S := Unit) (fun x _ => x = r) (fun _ t => qP D S ad (eM ad cy) Ie J t.heap) (qA S ad)) args s 0 0 (qA S ad)) (F0 m 69 ls []) := by
  have C0 := C
  obtain ⟨⟨hx, hb, hml, hown, hts⟩, hr, hlocks⟩ := C0
  intro n
  induction n with
  | zero =>
    intro x1 x4 I ls H locs hf hl hP hS
    rw [f_X9_bids_69] at hf
    cases hf
  | succ n ih =>
    intro x1 x4 I ls H locs hf hl hP hS
    rw [f_X9_bids_69] at hf
    refine lv_iload hx hb dX9_bids_69 (lv_at hl 2 rfl) ?_
    refine lv_iconst (v := 3) hx hb dX9_bids_71 (by decide) ?_
    refine lv_icmp_gt (tgt := 107) hx hb dX9_bids_72 (by decide) (fun cc => ?_) (fun cc => ?_)
    · have hf := (if_ok hf).1 cc
      refine lv_iconst (v := 0) hx hb dX9_bids_107 (by decide) ?_
      have e9 := Option.some.inj hf
      have eI9 : I = Ie := (congrArg Prod.snd e9)
      exact W.iret hx hb hr (fun t ht _ => ⟨⟨_, (), rfl, (congrArg Prod.fst e9), by show qP D _ ad _ _ _ t.heap; rw [ht, ← eI9]; exact hP⟩, hS.F ht⟩) hS.2.2 dX9_bids_108
    · have hf := (if_ok hf).2 cc
      refine lv_iload hx hb dX9_bids_75 (lv_at hl 2 rfl) ?_
      refine lv_aload_n hx hb dX9_bids_77 rfl (lv_at hl 0 rfl) ?_
      refine q_get (C := RX9) (T := TX9) (N := 42) (ci := 9) (v := .ref (ad 20)) hx hb hts in_X9_bids_X9 hown hK hP (oX9 h0) rfl 22 (by decide) (hts (.fieldLink RX9 59 "RowsOnlyPrimesModel" "purse" "[I") (by decide +kernel)) (fun _ h9 => h9) rfl dX9_bids_78 ?_
      refine lv_iload_n hx hb dX9_bids_81 rfl (lv_at hl 1 rfl) ?_
      obtain ⟨g1, hf⟩ := gd_ok hf
      refine q_iald hx hb hK hP (a0X9_20 h0) g1 dX9_bids_82 ?_
      refine lv_icmp_gt (tgt := 107) hx hb dX9_bids_83 (by decide) (fun cc => ?_) (fun cc => ?_)
      · have hf := (if_ok hf).1 cc
        refine lv_iconst (v := 0) hx hb dX9_bids_107 (by decide) ?_
        have e9 := Option.some.inj hf
        have eI9 : I = Ie := (congrArg Prod.snd e9)
        exact W.iret hx hb hr (fun t ht _ => ⟨⟨_, (), rfl, (congrArg Prod.fst e9), by show qP D _ ad _ _ _ t.heap; rw [ht, ← eI9]; exact hP⟩, hS.F ht⟩) hS.2.2 dX9_bids_108
      · have hf := (if_ok hf).2 cc
        refine lv_aload_n hx hb dX9_bids_86 rfl (lv_at hl 0 rfl) ?_
        refine q_get (C := RX9) (T := TX9) (N := 42) (ci := 9) (v := .ref (ad 27)) hx hb hts in_X9_bids_X9 hown hK hP (oX9 h0) rfl 38 (by decide) (hts (.fieldLink RX9 85 "RowsOnlyPrimesModel" "wins" "[[Z") (by decide +kernel)) (fun _ h9 => h9) rfl dX9_bids_87 ?_
        refine lv_iconst (v := 1) hx hb dX9_bids_90 (by decide) ?_
        refine q_aald (t := 6) hx hb hK hP (a0X9_27 h0) rfl rfl (by decide) dX9_bids_91 ?_
        refine lv_iload hx hb dX9_bids_92 (lv_at hl 2 rfl) ?_
        obtain ⟨g2, hf⟩ := gd_ok hf
        refine q_zald hx hb hK hP (aX9_27k h0 (j := 1) (by decide)) g2 dX9_bids_94 ?_
        refine lv_if_ne (tgt := 101) hx hb dX9_bids_95 (by decide) (fun cc => ?_) (fun cc => ?_)
        · have hf := (if_ok hf).2 cc
          refine lv_iinc (v := (x4 + (1 : Int32))) (lv' := [(4, .int (x4 + (1 : Int32))), (0, .ref (ad 0)), (1, .int x1)]) hx hb dX9_bids_101 hl (k := 2) rfl rfl (by decide) rfl (fun ls hl => ?_)
          refine lv_goto (tgt := 69) hx hb dX9_bids_104 (by decide) ?_
          exact ih x1 (x4 + (1 : Int32)) I _ _ _ hf (lv_sub hl [1, 2, 0] rfl) hP hS
        · have hf := (if_ok hf).1 cc
          refine lv_iload hx hb dX9_bids_98 (lv_at hl 2 rfl) ?_
          have e9 := Option.some.inj hf
          have eI9 : I = Ie := (congrArg Prod.snd e9)
          exact W.iret hx hb hr (fun t ht _ => ⟨⟨_, (), rfl, (congrArg Prod.fst e9), by show qP D _ ad _ _ _ t.heap; rw [ht, ← eI9]; exact hP⟩, hS.F ht⟩) hS.2.2 dX9_bids_100
set_option maxHeartbeats 4000000 in
set_option maxRecDepth 100000 in
theorem w_X9_bids_31 {S : Nat → Prop} (C : qC p s m args meth c cX9_bids 5 RX9 wsX9_bids (some .int)) (hK : qK D cy sa s) (hE : qEnv sa va (qA S ad) s s.heap) (hN : qN S ad) (h0 : isM0 S)   {J : qJ} {r : Int32} {Ie : qI} : ∀   (I : qI) (ls : Array Slot) (H : Heap) (locs : List Loc), f_X9_bids_31 I = some (r, Ie) → lv_has ls 5 [(0, .ref (ad 0))] → qP D S ad (eM ad cy) I J H → va_S (qA S ad) s.heap H locs → W p l e (headSpec wsX9_bids r_X9_bids).room s m args below meth c H locs 0 0 (MQ below (va_Qi (S := Unit) (fun x _ => x = r) (fun _ t => qP D S ad (eM ad cy) Ie J t.heap) (qA S ad)) args s 0 0 (qA S ad)) (F0 m 31 ls []) := by
  have C0 := C
  obtain ⟨⟨hx, hb, hml, hown, hts⟩, hr, hlocks⟩ := C0
  intro I ls H locs hf hl hP hS
  unfold f_X9_bids_31 at hf
  refine lv_aload_n hx hb dX9_bids_31 rfl (lv_at hl 0 rfl) ?_
  refine lv_sipush (v := -1002) hx hb dX9_bids_32 (by decide) ?_
  obtain ⟨v1, I2, h3, hf⟩ := bd2_ok hf
  refine q_cEi (va_runV (As := [.int (-1002 : Int32)]) (rest := []) ⟨hx, hb, hml, hown, hts⟩ (c_X9_refuse l (D := D) (ad := ad) (cy := cy) (sa := sa) (va := va) (I := I) (J := J) (S := S) h0 (-1002 : Int32) h3) (cwV 1 hts gX9_bids_X9_refuse rfl rfl rfl (by decide +kernel) ⟨Nat.le_of_ble_eq_true rfl, Nat.le_of_ble_eq_true rfl⟩) ⟨qPre_blind _, q_recv hK hP (oX9 h0) rfl, fun U hU hW => ⟨rfl, qPre_of hP hK hE hN hS U hU hW⟩⟩ rfl rfl hl.1 rfl (lv_room (Nat.le_of_ble_eq_true rfl)) dX9_bids_35 ⟨Nat.le_of_ble_eq_true rfl, Nat.le_of_ble_eq_true rfl⟩) hS (fun H locs hP hS => ?_)
  have e9 := Option.some.inj hf
  have eI9 : I2 = Ie := (congrArg Prod.snd e9)
  exact W.iret hx hb hr (fun t ht _ => ⟨⟨_, (), rfl, (congrArg Prod.fst e9), by show qP D _ ad _ _ _ t.heap; rw [ht, ← eI9]; exact hP⟩, hS.F ht⟩) hS.2.2 dX9_bids_38
set_option maxHeartbeats 4000000 in
set_option maxRecDepth 100000 in
theorem c_X9_bids (l : Launch) {D : va_G} {ad : Nat → Nat} {cy : Nat → ClassId} {sa va : Nat → Nat} {I : qI} {J : qJ} {S : Nat → Prop} (h0 : isM0 S)   (p0 : Int32) (p1 : Int32) (p2 : Int32) {r : Int32} {Ie : qI} (hf : f_X9_bids p0 p1 p2 I = some (r, Ie)) : Met l yX9_bids wsX9_bids r_X9_bids (va_Pc [.ref (ad 0), .int p0, .int p1, .int p2] (qPre D S ad cy sa va (eM ad cy) I J)) (va_Qi (S := Unit) (fun x _ => x = r) (fun _ t => qP D S ad (eM ad cy) Ie J t.heap) (qA S ad)) 0 0 (qA S ad) := by
  refine Met.ofW (cc := cX9_bids) (maxL := 5) (ret := (some .int)) (by decide) rfl ?_
  intro p e s m args below meth c s₁ B hml hv
  obtain ⟨rfl, hP, hK, hE, hN⟩ := hv
  have C : qC p s m _ meth c cX9_bids 5 RX9 wsX9_bids (some .int) := ⟨⟨B.exec, B.bytes, hml, findClass_of_methodNamed B.named, atoms_spec (ws := wsX9_bids) B.pre⟩, B.returns, B.notSynchronized⟩
  have C0 := C
  obtain ⟨⟨hx, hb, hml, hown, hts⟩, hr, hlocks⟩ := C0
  have hS : va_S (qA S ad) s.heap s.heap [] := va_S.rf
  have hl := lv_entry ([.ref (ad 0), .int p0, .int p1, .int p2]) (n := 5) (Nat.le_of_ble_eq_true rfl)
  rw [lg_entry_eq]
  generalize (lg_sl ([.ref (ad 0), .int p0, .int p1, .int p2]) ++ List.replicate (5 - (lg_sl ([.ref (ad 0), .int p0, .int p1, .int p2])).length) Slot.unset).toArray = ls at hl ⊢
  have hl : lv_has ls 5 [(0, .ref (ad 0)), (1, .int p0), (2, .int p1), (3, .int p2)] := hl
  unfold f_X9_bids at hf
  refine lv_aload_n hx hb dX9_bids_0 rfl (lv_at hl 0 rfl) ?_
  refine lv_iload_n hx hb dX9_bids_1 rfl (lv_at hl 1 rfl) ?_
  obtain ⟨v1, h2, hf⟩ := bd_ok hf
  refine q_cSi (va_runV (As := [.int p0]) (rest := []) ⟨hx, hb, hml, hown, hts⟩ (c_X9_isParty l (D := D) (ad := ad) (cy := cy) (sa := sa) (va := va) (I := I) (J := J) (S := S) h0 p0 h2) (cwV 1 hts gX9_bids_X9_isParty rfl rfl rfl (by decide +kernel) ⟨Nat.le_of_ble_eq_true rfl, Nat.le_of_ble_eq_true rfl⟩) ⟨qPre_blind _, q_recv hK hP (oX9 h0) rfl, fun U hU hW => ⟨rfl, qPre_of hP hK hE hN hS U hU hW⟩⟩ rfl rfl hl.1 rfl (lv_room (Nat.le_of_ble_eq_true rfl)) dX9_bids_2 ⟨Nat.le_of_ble_eq_true rfl, Nat.le_of_ble_eq_true rfl⟩) ?_
  refine lv_if_eq (tgt := 31) hx hb dX9_bids_5 (by decide) (fun cc => ?_) (fun cc => ?_)
  · have hf := (if_ok hf).1 cc
    exact w_X9_bids_31 C hK hE hN h0   I _ _ _ hf (lv_sub hl [0] rfl) hP hS
  · have hf := (if_ok hf).2 cc
    refine lv_aload_n hx hb dX9_bids_8 rfl (lv_at hl 0 rfl) ?_
    refine lv_iload_n hx hb dX9_bids_9 rfl (lv_at hl 2 rfl) ?_
    obtain ⟨v3, h4, hf⟩ := bd_ok hf
    refine q_cSi (va_runV (As := [.int p1]) (rest := []) ⟨hx, hb, hml, hown, hts⟩ (c_X9_isParty l (D := D) (ad := ad) (cy := cy) (sa := sa) (va := va) (I := I) (J := J) (S := S) h0 p1 h4) (cwV 1 hts gX9_bids_X9_isParty rfl rfl rfl (by decide +kernel) ⟨Nat.le_of_ble_eq_true rfl, Nat.le_of_ble_eq_true rfl⟩) ⟨qPre_blind _, q_recv hK hP (oX9 h0) rfl, fun U hU hW => ⟨rfl, qPre_of hP hK hE hN hS U hU hW⟩⟩ rfl rfl hl.1 rfl (lv_room (Nat.le_of_ble_eq_true rfl)) dX9_bids_10 ⟨Nat.le_of_ble_eq_true rfl, Nat.le_of_ble_eq_true rfl⟩) ?_
    refine lv_if_eq (tgt := 31) hx hb dX9_bids_13 (by decide) (fun cc => ?_) (fun cc => ?_)
    · have hf := (if_ok hf).1 cc
      exact w_X9_bids_31 C hK hE hN h0   I _ _ _ hf (lv_sub hl [0] rfl) hP hS
    · have hf := (if_ok hf).2 cc
      refine lv_iload_n hx hb dX9_bids_16 rfl (lv_at hl 1 rfl) ?_
      refine lv_iload_n hx hb dX9_bids_17 rfl (lv_at hl 2 rfl) ?_
      refine lv_icmp_eq (tgt := 31) hx hb dX9_bids_18 (by decide) (fun cc => ?_) (fun cc => ?_)
      · have hf := (if_ok hf).1 cc
        exact w_X9_bids_31 C hK hE hN h0   I _ _ _ hf (lv_sub hl [0] rfl) hP hS
      · have hf := (if_ok hf).2 cc
        refine lv_iload_n hx hb dX9_bids_21 rfl (lv_at hl 3 rfl) ?_
        refine lv_i2l hx hb dX9_bids_22 rfl ?_
        refine lv_lconst (v := 0) hx hb dX9_bids_23 (by decide) ?_
        refine lv_lconst (v := 1) hx hb dX9_bids_24 (by decide) ?_
        obtain ⟨v5, h6, hf⟩ := bd_ok hf
        refine q_cSi (va_runS (As := [.long p2.toInt64, .long (0 : Int64), .long (1 : Int64)]) (rest := []) ⟨hx, hb, hml, hown, hts⟩ (c_X9_in l (D := D) (ad := ad) (cy := cy) (sa := sa) (va := va) (I := I) (J := J) (S := S) h0 p2.toInt64 (0 : Int64) (1 : Int64) h6) (va_cwS 3 hts gX9_bids_X9_in rfl rfl rfl (by decide +kernel) ⟨Nat.le_of_ble_eq_true rfl, Nat.le_of_ble_eq_true rfl⟩) ⟨qPre_blind _, fun U hU hW => ⟨rfl, qPre_of hP hK hE hN hS U hU hW⟩⟩ rfl rfl hl.1 rfl (lv_room (Nat.le_of_ble_eq_true rfl)) dX9_bids_25 ⟨Nat.le_of_ble_eq_true rfl, Nat.le_of_ble_eq_true rfl⟩) ?_
        refine lv_if_ne (tgt := 39) hx hb dX9_bids_28 (by decide) (fun cc => ?_) (fun cc => ?_)
        · have hf := (if_ok hf).2 cc
          refine lv_aload_n hx hb dX9_bids_39 rfl (lv_at hl 0 rfl) ?_
          refine lv_iload_n hx hb dX9_bids_40 rfl (lv_at hl 1 rfl) ?_
          refine lv_iload_n hx hb dX9_bids_41 rfl (lv_at hl 2 rfl) ?_
          obtain ⟨I7, h8, hf⟩ := bd_ok hf
          refine q_cEv (va_runV (As := [.int p0, .int p1]) (rest := []) ⟨hx, hb, hml, hown, hts⟩ (c_X9_findBids l (D := D) (ad := ad) (cy := cy) (sa := sa) (va := va) (I := I) (J := J) (S := S) h0 p0 p1 h8) (cwV 2 hts gX9_bids_X9_findBids rfl rfl rfl (by decide +kernel) ⟨Nat.le_of_ble_eq_true rfl, Nat.le_of_ble_eq_true rfl⟩) ⟨qPre_blind _, q_recv hK hP (oX9 h0) rfl, fun U hU hW => ⟨rfl, qPre_of hP hK hE hN hS U hU hW⟩⟩ rfl rfl hl.1 rfl (lv_room (Nat.le_of_ble_eq_true rfl)) dX9_bids_42 ⟨Nat.le_of_ble_eq_true rfl, Nat.le_of_ble_eq_true rfl⟩) hS (fun H locs hP hS => ?_)
          refine lv_iload_n hx hb dX9_bids_45 rfl (lv_at hl 3 rfl) ?_
          refine lv_if_ne (tgt := 66) hx hb dX9_bids_46 (by decide) (fun cc => ?_) (fun cc => ?_)
          · have hf := (if_ok hf).2 cc
            refine lv_iconst (v := 1) hx hb dX9_bids_66 (by decide) ?_
            refine lv_istore (lv' := [(4, .int (1 : Int32)), (0, .ref (ad 0)), (1, .int p0), (2, .int p1), (3, .int p2)]) hx hb dX9_bids_67 hl (by decide) rfl (fun ls hl => ?_)
            exact w_X9_bids_69 C hK hE hN h0  1000 p0 (1 : Int32) I7 _ _ _ hf (lv_sub hl [1, 2, 0] rfl) hP hS
          · have hf := (if_ok hf).1 cc
            refine lv_aload_n hx hb dX9_bids_49 rfl (lv_at hl 0 rfl) ?_
            refine q_get (C := RX9) (T := TX9) (N := 42) (ci := 9) (v := .ref (ad 27)) hx hb hts in_X9_bids_X9 hown hK hP (oX9 h0) rfl 38 (by decide) (hts (.fieldLink RX9 85 "RowsOnlyPrimesModel" "wins" "[[Z") (by decide +kernel)) (fun _ h9 => h9) rfl dX9_bids_50 ?_
            refine lv_iconst (v := 0) hx hb dX9_bids_53 (by decide) ?_
            refine q_aald (t := 6) hx hb hK hP (a0X9_27 h0) rfl rfl (by decide) dX9_bids_54 ?_
            refine lv_iconst (v := 0) hx hb dX9_bids_55 (by decide) ?_
            refine q_zald hx hb hK hP (aX9_27k h0 (j := 0) (by decide)) (by decide) dX9_bids_56 ?_
            refine q_top (y := (I7 (28 + 0) 0)) rfl ?_
            refine lv_if_eq (tgt := 64) hx hb dX9_bids_57 (by decide) (fun cc => ?_) (fun cc => ?_)
            · have hf := (if_ok hf).1 cc
              refine lv_iconst (v := 0) hx hb dX9_bids_64 (by decide) ?_
              have e9 := Option.some.inj hf
              have eI9 : I7 = Ie := (congrArg Prod.snd e9)
              exact W.iret hx hb hr (fun t ht _ => ⟨⟨_, (), rfl, (congrArg Prod.fst e9), by show qP D _ ad _ _ _ t.heap; rw [ht, ← eI9]; exact hP⟩, hS.F ht⟩) hS.2.2 dX9_bids_65
            · have hf := (if_ok hf).2 cc
              refine lv_iconst (v := 1) hx hb dX9_bids_60 (by decide) ?_
              refine lv_goto (tgt := 65) hx hb dX9_bids_61 (by decide) ?_
              have e9 := Option.some.inj hf
              have eI9 : I7 = Ie := (congrArg Prod.snd e9)
              exact W.iret hx hb hr (fun t ht _ => ⟨⟨_, (), rfl, (congrArg Prod.fst e9), by show qP D _ ad _ _ _ t.heap; rw [ht, ← eI9]; exact hP⟩, hS.F ht⟩) hS.2.2 dX9_bids_65
        · have hf := (if_ok hf).1 cc
          exact w_X9_bids_31 C hK hE hN h0   I _ _ _ hf (lv_sub hl [0] rfl) hP hS
abbrev r_X9_noTold : Room := { frames := 2, cells := 0, slots := 0, locals := 46 }
theorem in_X9_noTold_X9 : ∀ w ∈ u_ws RX9 TX9 42, w ∈ wsX9_noTold := by decide +kernel
set_option maxHeartbeats 4000000 in
set_option maxRecDepth 100000 in
theorem w_X9_noTold_28 {S : Nat → Prop} (C : qC p s m args meth c cX9_noTold 6 RX9 wsX9_noTold (some .int)) (hK : qK D cy sa s) (hE : qEnv sa va (qA S ad) s s.heap) (hN : qN S ad) (h0 : isM0 S)   {J : qJ} {r : Int32} {Ie : qI} : ∀   (I : qI) (ls : Array Slot) (H : Heap) (locs : List Loc), f_X9_noTold_28 I = some (r, Ie) → lv_has ls 6 [(0, .ref (ad 0))] → qP D S ad (eM ad cy) I J H → va_S (qA S ad) s.heap H locs → W p l e (headSpec wsX9_noTold r_X9_noTold).room s m args below meth c H locs 0 0 (MQ below (va_Qi (S := Unit) (fun x _ => x = r) (fun _ t => qP D S ad (eM ad cy) Ie J t.heap) (qA S ad)) args s 0 0 (qA S ad)) (F0 m 28 ls []) := by
  have C0 := C
  obtain ⟨⟨hx, hb, hml, hown, hts⟩, hr, hlocks⟩ := C0
  intro I ls H locs hf hl hP hS
  unfold f_X9_noTold_28 at hf
  refine lv_aload_n hx hb dX9_noTold_28 rfl (lv_at hl 0 rfl) ?_
  refine lv_sipush (v := -1002) hx hb dX9_noTold_29 (by decide) ?_
  obtain ⟨v1, I2, h3, hf⟩ := bd2_ok hf
  refine q_cEi (va_runV (As := [.int (-1002 : Int32)]) (rest := []) ⟨hx, hb, hml, hown, hts⟩ (c_X9_refuse l (D := D) (ad := ad) (cy := cy) (sa := sa) (va := va) (I := I) (J := J) (S := S) h0 (-1002 : Int32) h3) (cwV 1 hts gX9_noTold_X9_refuse rfl rfl rfl (by decide +kernel) ⟨Nat.le_of_ble_eq_true rfl, Nat.le_of_ble_eq_true rfl⟩) ⟨qPre_blind _, q_recv hK hP (oX9 h0) rfl, fun U hU hW => ⟨rfl, qPre_of hP hK hE hN hS U hU hW⟩⟩ rfl rfl hl.1 rfl (lv_room (Nat.le_of_ble_eq_true rfl)) dX9_noTold_32 ⟨Nat.le_of_ble_eq_true rfl, Nat.le_of_ble_eq_true rfl⟩) hS (fun H locs hP hS => ?_)
  have e9 := Option.some.inj hf
  have eI9 : I2 = Ie := (congrArg Prod.snd e9)
  exact W.iret hx hb hr (fun t ht _ => ⟨⟨_, (), rfl, (congrArg Prod.fst e9), by show qP D _ ad _ _ _ t.heap; rw [ht, ← eI9]; exact hP⟩, hS.F ht⟩) hS.2.2 dX9_noTold_35
set_option maxHeartbeats 4000000 in
set_option maxRecDepth 100000 in
theorem c_X9_noTold (l : Launch) {D : va_G} {ad : Nat → Nat} {cy : Nat → ClassId} {sa va : Nat → Nat} {I : qI} {J : qJ} {S : Nat → Prop} (h0 : isM0 S)   (p0 : Int32) (p1 : Int32) (p2 : Int32) (p3 : Int32) {r : Int32} {Ie : qI} (hf : f_X9_noTold p0 p1 p2 p3 I = some (r, Ie)) : Met l yX9_noTold wsX9_noTold r_X9_noTold (va_Pc [.ref (ad 0), .int p0, .int p1, .int p2, .int p3] (qPre D S ad cy sa va (eM ad cy) I J)) (va_Qi (S := Unit) (fun x _ => x = r) (fun _ t => qP D S ad (eM ad cy) Ie J t.heap) (qA S ad)) 0 0 (qA S ad) := by
  refine Met.ofW (cc := cX9_noTold) (maxL := 6) (ret := (some .int)) (by decide) rfl ?_
  intro p e s m args below meth c s₁ B hml hv
  obtain ⟨rfl, hP, hK, hE, hN⟩ := hv
  have C : qC p s m _ meth c cX9_noTold 6 RX9 wsX9_noTold (some .int) := ⟨⟨B.exec, B.bytes, hml, findClass_of_methodNamed B.named, atoms_spec (ws := wsX9_noTold) B.pre⟩, B.returns, B.notSynchronized⟩
  have C0 := C
  obtain ⟨⟨hx, hb, hml, hown, hts⟩, hr, hlocks⟩ := C0
  have hS : va_S (qA S ad) s.heap s.heap [] := va_S.rf
  have hl := lv_entry ([.ref (ad 0), .int p0, .int p1, .int p2, .int p3]) (n := 6) (Nat.le_of_ble_eq_true rfl)
  rw [lg_entry_eq]
  generalize (lg_sl ([.ref (ad 0), .int p0, .int p1, .int p2, .int p3]) ++ List.replicate (6 - (lg_sl ([.ref (ad 0), .int p0, .int p1, .int p2, .int p3])).length) Slot.unset).toArray = ls at hl ⊢
  have hl : lv_has ls 6 [(0, .ref (ad 0)), (1, .int p0), (2, .int p1), (3, .int p2), (4, .int p3)] := hl
  unfold f_X9_noTold at hf
  refine lv_iload_n hx hb dX9_noTold_0 rfl (lv_at hl 1 rfl) ?_
  refine lv_i2l hx hb dX9_noTold_1 rfl ?_
  refine lv_lconst (v := 0) hx hb dX9_noTold_2 (by decide) ?_
  refine lv_ldc2 (own := RX9) (v := 7) hx hb hown (hts (.constantLong RX9 103 (7)) (by decide +kernel)) dX9_noTold_3 ?_
  obtain ⟨v1, h2, hf⟩ := bd_ok hf
  refine q_cSi (va_runS (As := [.long p0.toInt64, .long (0 : Int64), .long (7 : Int64)]) (rest := []) ⟨hx, hb, hml, hown, hts⟩ (c_X9_in l (D := D) (ad := ad) (cy := cy) (sa := sa) (va := va) (I := I) (J := J) (S := S) h0 p0.toInt64 (0 : Int64) (7 : Int64) h2) (va_cwS 3 hts gX9_noTold_X9_in rfl rfl rfl (by decide +kernel) ⟨Nat.le_of_ble_eq_true rfl, Nat.le_of_ble_eq_true rfl⟩) ⟨qPre_blind _, fun U hU hW => ⟨rfl, qPre_of hP hK hE hN hS U hU hW⟩⟩ rfl rfl hl.1 rfl (lv_room (Nat.le_of_ble_eq_true rfl)) dX9_noTold_6 ⟨Nat.le_of_ble_eq_true rfl, Nat.le_of_ble_eq_true rfl⟩) ?_
  refine lv_if_eq (tgt := 28) hx hb dX9_noTold_9 (by decide) (fun cc => ?_) (fun cc => ?_)
  · have hf := (if_ok hf).1 cc
    exact w_X9_noTold_28 C hK hE hN h0   I _ _ _ hf (lv_sub hl [0] rfl) hP hS
  · have hf := (if_ok hf).2 cc
    refine lv_iload_n hx hb dX9_noTold_12 rfl (lv_at hl 2 rfl) ?_
    refine lv_i2l hx hb dX9_noTold_13 rfl ?_
    refine lv_lconst (v := 0) hx hb dX9_noTold_14 (by decide) ?_
    refine lv_iload_n hx hb dX9_noTold_15 rfl (lv_at hl 3 rfl) ?_
    refine lv_i2l hx hb dX9_noTold_16 rfl ?_
    obtain ⟨v3, h4, hf⟩ := bd_ok hf
    refine q_cSi (va_runS (As := [.long p1.toInt64, .long (0 : Int64), .long p2.toInt64]) (rest := []) ⟨hx, hb, hml, hown, hts⟩ (c_X9_in l (D := D) (ad := ad) (cy := cy) (sa := sa) (va := va) (I := I) (J := J) (S := S) h0 p1.toInt64 (0 : Int64) p2.toInt64 h4) (va_cwS 3 hts gX9_noTold_X9_in rfl rfl rfl (by decide +kernel) ⟨Nat.le_of_ble_eq_true rfl, Nat.le_of_ble_eq_true rfl⟩) ⟨qPre_blind _, fun U hU hW => ⟨rfl, qPre_of hP hK hE hN hS U hU hW⟩⟩ rfl rfl hl.1 rfl (lv_room (Nat.le_of_ble_eq_true rfl)) dX9_noTold_17 ⟨Nat.le_of_ble_eq_true rfl, Nat.le_of_ble_eq_true rfl⟩) ?_
    refine lv_if_eq (tgt := 28) hx hb dX9_noTold_20 (by decide) (fun cc => ?_) (fun cc => ?_)
    · have hf := (if_ok hf).1 cc
      exact w_X9_noTold_28 C hK hE hN h0   I _ _ _ hf (lv_sub hl [0] rfl) hP hS
    · have hf := (if_ok hf).2 cc
      refine lv_iload hx hb dX9_noTold_23 (lv_at hl 4 rfl) ?_
      refine lv_if_ne (tgt := 36) hx hb dX9_noTold_25 (by decide) (fun cc => ?_) (fun cc => ?_)
      · have hf := (if_ok hf).2 cc
        refine lv_aload_n hx hb dX9_noTold_36 rfl (lv_at hl 0 rfl) ?_
        refine lv_iload_n hx hb dX9_noTold_37 rfl (lv_at hl 1 rfl) ?_
        obtain ⟨v5, I6, h7, hf⟩ := bd2_ok hf
        refine q_cEi (va_runV (As := [.int p0]) (rest := []) ⟨hx, hb, hml, hown, hts⟩ (c_X9_noRow l (D := D) (ad := ad) (cy := cy) (sa := sa) (va := va) (I := I) (J := J) (S := S) h0 p0 h7) (cwV 1 hts gX9_noTold_X9_noRow rfl rfl rfl (by decide +kernel) ⟨Nat.le_of_ble_eq_true rfl, Nat.le_of_ble_eq_true rfl⟩) ⟨qPre_blind _, q_recv hK hP (oX9 h0) rfl, fun U hU hW => ⟨rfl, qPre_of hP hK hE hN hS U hU hW⟩⟩ rfl rfl hl.1 rfl (lv_room (Nat.le_of_ble_eq_true rfl)) dX9_noTold_38 ⟨Nat.le_of_ble_eq_true rfl, Nat.le_of_ble_eq_true rfl⟩) hS (fun H locs hP hS => ?_)
        refine lv_istore (lv' := [(5, .int v5), (0, .ref (ad 0)), (1, .int p0), (2, .int p1), (3, .int p2), (4, .int p3)]) hx hb dX9_noTold_41 hl (by decide) rfl (fun ls hl => ?_)
        refine lv_iload hx hb dX9_noTold_43 (lv_at hl 0 rfl) ?_
        refine lv_if_eq (tgt := 51) hx hb dX9_noTold_45 (by decide) (fun cc => ?_) (fun cc => ?_)
        · have hf := (if_ok hf).1 cc
          refine lv_aload_n hx hb dX9_noTold_51 rfl (lv_at hl 1 rfl) ?_
          refine q_get (C := RX9) (T := TX9) (N := 42) (ci := 9) (v := .ref (ad 3)) hx hb hts in_X9_noTold_X9 hown hK hP (oX9 h0) rfl 2 (by decide) (hts (.fieldLink RX9 16 "RowsOnlyPrimesModel" "rowSize" "[I") (by decide +kernel)) (fun _ h9 => h9) rfl dX9_noTold_52 ?_
          refine lv_iload_n hx hb dX9_noTold_55 rfl (lv_at hl 2 rfl) ?_
          obtain ⟨g8, hf⟩ := gd_ok hf
          refine q_iald hx hb hK hP (a0X9_3 h0) g8 dX9_noTold_56 ?_
          refine lv_iload_n hx hb dX9_noTold_57 rfl (lv_at hl 3 rfl) ?_
          refine lv_icmp_ge (tgt := 71) hx hb dX9_noTold_58 (by decide) (fun cc => ?_) (fun cc => ?_)
          · have hf := (if_ok hf).1 cc
            refine lv_iconst (v := 0) hx hb dX9_noTold_71 (by decide) ?_
            have e9 := Option.some.inj hf
            have eI9 : I6 = Ie := (congrArg Prod.snd e9)
            exact W.iret hx hb hr (fun t ht _ => ⟨⟨_, (), rfl, (congrArg Prod.fst e9), by show qP D _ ad _ _ _ t.heap; rw [ht, ← eI9]; exact hP⟩, hS.F ht⟩) hS.2.2 dX9_noTold_72
          · have hf := (if_ok hf).2 cc
            refine lv_aload_n hx hb dX9_noTold_61 rfl (lv_at hl 1 rfl) ?_
            refine lv_sipush (v := -1002) hx hb dX9_noTold_62 (by decide) ?_
            obtain ⟨v9, I10, h11, hf⟩ := bd2_ok hf
            refine q_cEi (va_runV (As := [.int (-1002 : Int32)]) (rest := []) ⟨hx, hb, hml, hown, hts⟩ (c_X9_refuse l (D := D) (ad := ad) (cy := cy) (sa := sa) (va := va) (I := I6) (J := J) (S := S) h0 (-1002 : Int32) h11) (cwV 1 hts gX9_noTold_X9_refuse rfl rfl rfl (by decide +kernel) ⟨Nat.le_of_ble_eq_true rfl, Nat.le_of_ble_eq_true rfl⟩) ⟨qPre_blind _, q_recv hK hP (oX9 h0) rfl, fun U hU hW => ⟨rfl, qPre_of hP hK hE hN hS U hU hW⟩⟩ rfl rfl hl.1 rfl (lv_room (Nat.le_of_ble_eq_true rfl)) dX9_noTold_65 ⟨Nat.le_of_ble_eq_true rfl, Nat.le_of_ble_eq_true rfl⟩) hS (fun H locs hP hS => ?_)
            refine lv_goto (tgt := 72) hx hb dX9_noTold_68 (by decide) ?_
            have e9 := Option.some.inj hf
            have eI9 : I10 = Ie := (congrArg Prod.snd e9)
            exact W.iret hx hb hr (fun t ht _ => ⟨⟨_, (), rfl, (congrArg Prod.fst e9), by show qP D _ ad _ _ _ t.heap; rw [ht, ← eI9]; exact hP⟩, hS.F ht⟩) hS.2.2 dX9_noTold_72
        · have hf := (if_ok hf).2 cc
          refine lv_iload hx hb dX9_noTold_48 (lv_at hl 0 rfl) ?_
          have e9 := Option.some.inj hf
          have eI9 : I6 = Ie := (congrArg Prod.snd e9)
          exact W.iret hx hb hr (fun t ht _ => ⟨⟨_, (), rfl, (congrArg Prod.fst e9), by show qP D _ ad _ _ _ t.heap; rw [ht, ← eI9]; exact hP⟩, hS.F ht⟩) hS.2.2 dX9_noTold_50
      · have hf := (if_ok hf).1 cc
        exact w_X9_noTold_28 C hK hE hN h0   I _ _ _ hf (lv_sub hl [0] rfl) hP hS
abbrev r_X9_isAboard : Room := { frames := 2, cells := 0, slots := 0, locals := 48 }
theorem in_X9_isAboard_X9 : ∀ w ∈ u_ws RX9 TX9 42, w ∈ wsX9_isAboard := by decide +kernel
set_option maxHeartbeats 4000000 in
set_option maxRecDepth 100000 in
theorem c_X9_isAboard (l : Launch) {D : va_G} {ad : Nat → Nat} {cy : Nat → ClassId} {sa va : Nat → Nat} {I : qI} {J : qJ} {S : Nat → Prop} (h0 : isM0 S)   (p0 : Int32) (p1 : Int64) {r : Int32} (hf : f_X9_isAboard p0 p1 I = some r) : Met l yX9_isAboard wsX9_isAboard r_X9_isAboard (va_Pc [.ref (ad 0), .int p0, .long p1] (qPre D S ad cy sa va (eM ad cy) I J)) (vp_Si (fun x => x = r)) 0 0 (fun _ => False) := by
  refine Met.ofW (cc := cX9_isAboard) (maxL := 4) (ret := (some .boolean)) (by decide) rfl ?_
  intro p e s m args below meth c s₁ B hml hv
  obtain ⟨rfl, hP, hK, hE, hN⟩ := hv
  have C : qC p s m _ meth c cX9_isAboard 4 RX9 wsX9_isAboard (some .boolean) := ⟨⟨B.exec, B.bytes, hml, findClass_of_methodNamed B.named, atoms_spec (ws := wsX9_isAboard) B.pre⟩, B.returns, B.notSynchronized⟩
  have C0 := C
  obtain ⟨⟨hx, hb, hml, hown, hts⟩, hr, hlocks⟩ := C0
  have hl := lv_entry ([.ref (ad 0), .int p0, .long p1]) (n := 4) (Nat.le_of_ble_eq_true rfl)
  rw [lg_entry_eq]
  generalize (lg_sl ([.ref (ad 0), .int p0, .long p1]) ++ List.replicate (4 - (lg_sl ([.ref (ad 0), .int p0, .long p1])).length) Slot.unset).toArray = ls at hl ⊢
  have hl : lv_has ls 4 [(0, .ref (ad 0)), (1, .int p0), (2, .long p1)] := hl
  unfold f_X9_isAboard at hf
  refine lv_aload_n hx hb dX9_isAboard_0 rfl (lv_at hl 0 rfl) ?_
  refine lv_iload_n hx hb dX9_isAboard_1 rfl (lv_at hl 1 rfl) ?_
  obtain ⟨v1, h2, hf⟩ := bd_ok hf
  refine q_cSi (va_runV (As := [.int p0]) (rest := []) ⟨hx, hb, hml, hown, hts⟩ (c_X9_maySit l (D := D) (ad := ad) (cy := cy) (sa := sa) (va := va) (I := I) (J := J) (S := S) h0 p0 h2) (cwV 1 hts gX9_isAboard_X9_maySit rfl rfl rfl (by decide +kernel) ⟨Nat.le_of_ble_eq_true rfl, Nat.le_of_ble_eq_true rfl⟩) ⟨qPre_blind _, q_recv hK hP (oX9 h0) rfl, fun U hU hW => ⟨rfl, qPre_of hP hK hE hN va_S.rf U hU hW⟩⟩ rfl rfl hl.1 rfl (lv_room (Nat.le_of_ble_eq_true rfl)) dX9_isAboard_2 ⟨Nat.le_of_ble_eq_true rfl, Nat.le_of_ble_eq_true rfl⟩) ?_
  refine lv_if_eq (tgt := 40) hx hb dX9_isAboard_5 (by decide) (fun cc => ?_) (fun cc => ?_)
  · have hf := (if_ok hf).1 cc
    refine lv_iconst (v := 0) hx hb dX9_isAboard_40 (by decide) ?_
    exact W.zret (ty := .boolean) hx hb hr rfl (fun t ht _ => ⟨_, rfl, Option.some.inj hf, ht⟩) (fun _ h => by cases h) dX9_isAboard_41
  · have hf := (if_ok hf).2 cc
    refine lv_lload_n hx hb dX9_isAboard_8 rfl (lv_at hl 2 rfl) ?_
    refine lv_aload_n hx hb dX9_isAboard_9 rfl (lv_at hl 0 rfl) ?_
    refine lv_iload_n hx hb dX9_isAboard_10 rfl (lv_at hl 1 rfl) ?_
    obtain ⟨v3, h4, hf⟩ := bd_ok hf
    refine q_cSi (va_runV (As := [.int p0]) (rest := [.long p1]) ⟨hx, hb, hml, hown, hts⟩ (c_X9_headsTogether l (D := D) (ad := ad) (cy := cy) (sa := sa) (va := va) (I := I) (J := J) (S := S) h0 p0 h4) (cwV 1 hts gX9_isAboard_X9_headsTogether rfl rfl rfl (by decide +kernel) ⟨Nat.le_of_ble_eq_true rfl, Nat.le_of_ble_eq_true rfl⟩) ⟨qPre_blind _, q_recv hK hP (oX9 h0) rfl, fun U hU hW => ⟨rfl, qPre_of hP hK hE hN va_S.rf U hU hW⟩⟩ rfl rfl hl.1 rfl (lv_room (Nat.le_of_ble_eq_true rfl)) dX9_isAboard_11 ⟨Nat.le_of_ble_eq_true rfl, Nat.le_of_ble_eq_true rfl⟩) ?_
    refine lv_i2l hx hb dX9_isAboard_14 rfl ?_
    refine lv_lsub hx hb dX9_isAboard_15 ?_
    refine lv_lconst (v := 0) hx hb dX9_isAboard_16 (by decide) ?_
    refine lv_aload_n hx hb dX9_isAboard_17 rfl (lv_at hl 0 rfl) ?_
    refine q_get (C := RX9) (T := TX9) (N := 42) (ci := 9) (v := .int (I 0 12)) hx hb hts in_X9_isAboard_X9 hown hK hP (oX9 h0) rfl 12 (by decide) (hts (.fieldLink RX9 44 "RowsOnlyPrimesModel" "hermits" "I") (by decide +kernel)) (fun _ h9 => h9) rfl dX9_isAboard_18 ?_
    refine lv_i2l hx hb dX9_isAboard_21 rfl ?_
    obtain ⟨v5, h6, hf⟩ := bd_ok hf
    refine q_cSi (va_runS (As := [.long (p1 - v3.toInt64), .long (0 : Int64), .long ((I 0 12).toInt64)]) (rest := []) ⟨hx, hb, hml, hown, hts⟩ (c_X9_in l (D := D) (ad := ad) (cy := cy) (sa := sa) (va := va) (I := I) (J := J) (S := S) h0 (p1 - v3.toInt64) (0 : Int64) ((I 0 12).toInt64) h6) (va_cwS 3 hts gX9_isAboard_X9_in rfl rfl rfl (by decide +kernel) ⟨Nat.le_of_ble_eq_true rfl, Nat.le_of_ble_eq_true rfl⟩) ⟨qPre_blind _, fun U hU hW => ⟨rfl, qPre_of hP hK hE hN va_S.rf U hU hW⟩⟩ rfl rfl hl.1 rfl (lv_room (Nat.le_of_ble_eq_true rfl)) dX9_isAboard_22 ⟨Nat.le_of_ble_eq_true rfl, Nat.le_of_ble_eq_true rfl⟩) ?_
    refine lv_if_eq (tgt := 40) hx hb dX9_isAboard_25 (by decide) (fun cc => ?_) (fun cc => ?_)
    · have hf := (if_ok hf).1 cc
      refine lv_iconst (v := 0) hx hb dX9_isAboard_40 (by decide) ?_
      exact W.zret (ty := .boolean) hx hb hr rfl (fun t ht _ => ⟨_, rfl, Option.some.inj hf, ht⟩) (fun _ h => by cases h) dX9_isAboard_41
    · have hf := (if_ok hf).2 cc
      refine lv_aload_n hx hb dX9_isAboard_28 rfl (lv_at hl 0 rfl) ?_
      refine lv_lload_n hx hb dX9_isAboard_29 rfl (lv_at hl 2 rfl) ?_
      obtain ⟨v7, h8, hf⟩ := bd_ok hf
      refine q_cSi (va_runV (As := [.long p1]) (rest := []) ⟨hx, hb, hml, hown, hts⟩ (c_X9_goesNow l (D := D) (ad := ad) (cy := cy) (sa := sa) (va := va) (I := I) (J := J) (S := S) h0 p1 h8) (cwV 1 hts gX9_isAboard_X9_goesNow rfl rfl rfl (by decide +kernel) ⟨Nat.le_of_ble_eq_true rfl, Nat.le_of_ble_eq_true rfl⟩) ⟨qPre_blind _, q_recv hK hP (oX9 h0) rfl, fun U hU hW => ⟨rfl, qPre_of hP hK hE hN va_S.rf U hU hW⟩⟩ rfl rfl hl.1 rfl (lv_room (Nat.le_of_ble_eq_true rfl)) dX9_isAboard_30 ⟨Nat.le_of_ble_eq_true rfl, Nat.le_of_ble_eq_true rfl⟩) ?_
      refine lv_if_eq (tgt := 40) hx hb dX9_isAboard_33 (by decide) (fun cc => ?_) (fun cc => ?_)
      · have hf := (if_ok hf).1 cc
        refine lv_iconst (v := 0) hx hb dX9_isAboard_40 (by decide) ?_
        exact W.zret (ty := .boolean) hx hb hr rfl (fun t ht _ => ⟨_, rfl, Option.some.inj hf, ht⟩) (fun _ h => by cases h) dX9_isAboard_41
      · have hf := (if_ok hf).2 cc
        refine lv_iconst (v := 1) hx hb dX9_isAboard_36 (by decide) ?_
        refine lv_goto (tgt := 41) hx hb dX9_isAboard_37 (by decide) ?_
        exact W.zret (ty := .boolean) hx hb hr rfl (fun t ht _ => ⟨_, rfl, Option.some.inj hf, ht⟩) (fun _ h => by cases h) dX9_isAboard_41
abbrev r_X9_findCrossed : Room := { frames := 3, cells := 0, slots := 0, locals := 71 }
theorem in_X9_findCrossed_X9 : ∀ w ∈ u_ws RX9 TX9 42, w ∈ wsX9_findCrossed := by decide +kernel
set_option maxHeartbeats 4000000 in
set_option maxRecDepth 100000 in
theorem w_X9_findCrossed_166 {S : Nat → Prop} (C : qC p s m args meth c cX9_findCrossed 8 RX9 wsX9_findCrossed none) (hK : qK D cy sa s) (hE : qEnv sa va (qA S ad) s s.heap) (hN : qN S ad) (h0 : isM0 S)   {Ie : qI} (k35 : Int32 → Int32 → Int32 → qI → qJ → Option qI) (hk35 : ∀ (x1 : Int32) (x3 : Int32) (x4 : Int32)  (I : qI) (J : qJ) (ls : Array Slot) (H : Heap) (locs : List Loc), k35 x1 x3 x4 I J = some Ie → lv_has ls 8 [(0, .ref (ad 0)), (1, .int x1), (3, .int x3), (4, .int x4)] → qP D S ad (eM ad cy) I J H → va_S (qA S ad) s.heap H locs → W p l e (headSpec wsX9_findCrossed r_X9_findCrossed).room s m args below meth c H locs 0 0 (MQ below (va_Qv (S := Unit) (fun _ => True) (fun _ t => qP D S ad (eM ad cy) Ie J t.heap) (qA S ad)) args s 0 0 (qA S ad)) (F0 m 35 ls [])) (k69 : Int32 → Int32 → Int32 → Int32 → qI → qJ → Option qI) (hk69 : ∀ (x1 : Int32) (x3 : Int32) (x4 : Int32) (x5 : Int32)  (I : qI) (J : qJ) (ls : Array Slot) (H : Heap) (locs : List Loc), k69 x1 x3 x4 x5 I J = some Ie → lv_has ls 8 [(0, .ref (ad 0)), (1, .int x1), (3, .int x3), (4, .int x4), (5, .int x5)] → qP D S ad (eM ad cy) I J H → va_S (qA S ad) s.heap H locs → W p l e (headSpec wsX9_findCrossed r_X9_findCrossed).room s m args below meth c H locs 0 0 (MQ below (va_Qv (S := Unit) (fun _ => True) (fun _ t => qP D S ad (eM ad cy) Ie J t.heap) (qA S ad)) args s 0 0 (qA S ad)) (F0 m 69 ls [])) (k113 : Int32 → Int32 → Int32 → Int32 → Int32 → Int32 → qI → qJ → Option qI) (hk113 : ∀ (x1 : Int32) (x3 : Int32) (x4 : Int32) (x5 : Int32) (x6 : Int32) (x7 : Int32)  (I : qI) (J : qJ) (ls : Array Slot) (H : Heap) (locs : List Loc), k113 x1 x3 x4 x5 x6 x7 I J = some Ie → lv_has ls 8 [(0, .ref (ad 0)), (1, .int x1), (3, .int x3), (4, .int x4), (5, .int x5), (6, .int x6), (7, .int x7)] → qP D S ad (eM ad cy) I J H → va_S (qA S ad) s.heap H locs → W p l e (headSpec wsX9_findCrossed r_X9_findCrossed).room s m args below meth c H locs 0 0 (MQ below (va_Qv (S := Unit) (fun _ => True) (fun _ t => qP D S ad (eM ad cy) Ie J t.heap) (qA S ad)) args s 0 0 (qA S ad)) (F0 m 113 ls [])) : ∀ (x1 : Int32) (x3 : Int32) (x4 : Int32) (x5 : Int32) (x6 : Int32) (x7 : Int32) (xs0 : Int32) (xs1 : Int32) (xs2 : Int32) (cs3 : Nat) (hcs3 : qAI S (eM ad cy) cy cs3 256) (I : qI) (J : qJ) (ls : Array Slot) (H : Heap) (locs : List Loc), f_X9_findCrossed_166 k35 k69 k113 x1 x3 x4 x5 x6 x7 xs0 xs1 xs2 cs3 I J = some Ie → lv_has ls 8 [(0, .ref (ad 0)), (1, .int x1), (3, .int x3), (4, .int x4), (5, .int x5), (6, .int x6), (7, .int x7)] → qP D S ad (eM ad cy) I J H → va_S (qA S ad) s.heap H locs → W p l e (headSpec wsX9_findCrossed r_X9_findCrossed).room s m args below meth c H locs 0 0 (MQ below (va_Qv (S := Unit) (fun _ => True) (fun _ t => qP D S ad (eM ad cy) Ie J t.heap) (qA S ad)) args s 0 0 (qA S ad)) (F0 m 166 ls [.int xs0, .int xs1, .int xs2, .ref (ad cs3)]) := by
  have C0 := C
  obtain ⟨⟨hx, hb, hml, hown, hts⟩, hr, hlocks⟩ := C0
  intro x1 x3 x4 x5 x6 x7 xs0 xs1 xs2 cs3 hcs3 I J ls H locs hf hl hP hS
  unfold f_X9_findCrossed_166 at hf
  refine lv_iadd hx hb dX9_findCrossed_166 ?_
  obtain ⟨g1, hf⟩ := gd_ok hf
  obtain ⟨I2, eI2, hf⟩ := lt_ok hf
  refine q_iast hx hb hK hP hN hS hcs3 g1 dX9_findCrossed_167 (fun H locs hP hS => ?_)
  have hP : qP D S ad (eM ad cy) I2 J H := by rw [eI2]; exact hP
  refine lv_iinc (v := (x7 + (1 : Int32))) (lv' := [(7, .int (x7 + (1 : Int32))), (0, .ref (ad 0)), (1, .int x1), (3, .int x3), (4, .int x4), (5, .int x5), (6, .int x6)]) hx hb dX9_findCrossed_168 hl (k := 6) rfl rfl (by decide) rfl (fun ls hl => ?_)
  refine lv_goto (tgt := 113) hx hb dX9_findCrossed_171 (by decide) ?_
  exact hk113 x1 x3 x4 x5 x6 (x7 + (1 : Int32)) I2 J _ _ _ hf (lv_sub hl [1, 2, 3, 4, 5, 6, 0] rfl) hP hS
set_option maxHeartbeats 4000000 in
set_option maxRecDepth 100000 in
theorem w_X9_findCrossed_113 {S : Nat → Prop} (C : qC p s m args meth c cX9_findCrossed 8 RX9 wsX9_findCrossed none) (hK : qK D cy sa s) (hE : qEnv sa va (qA S ad) s s.heap) (hN : qN S ad) (h0 : isM0 S)   {Ie : qI} (k35 : Int32 → Int32 → Int32 → qI → qJ → Option qI) (hk35 : ∀ (x1 : Int32) (x3 : Int32) (x4 : Int32)  (I : qI) (J : qJ) (ls : Array Slot) (H : Heap) (locs : List Loc), k35 x1 x3 x4 I J = some Ie → lv_has ls 8 [(0, .ref (ad 0)), (1, .int x1), (3, .int x3), (4, .int x4)] → qP D S ad (eM ad cy) I J H → va_S (qA S ad) s.heap H locs → W p l e (headSpec wsX9_findCrossed r_X9_findCrossed).room s m args below meth c H locs 0 0 (MQ below (va_Qv (S := Unit) (fun _ => True) (fun _ t => qP D S ad (eM ad cy) Ie J t.heap) (qA S ad)) args s 0 0 (qA S ad)) (F0 m 35 ls [])) (k69 : Int32 → Int32 → Int32 → Int32 → qI → qJ → Option qI) (hk69 : ∀ (x1 : Int32) (x3 : Int32) (x4 : Int32) (x5 : Int32)  (I : qI) (J : qJ) (ls : Array Slot) (H : Heap) (locs : List Loc), k69 x1 x3 x4 x5 I J = some Ie → lv_has ls 8 [(0, .ref (ad 0)), (1, .int x1), (3, .int x3), (4, .int x4), (5, .int x5)] → qP D S ad (eM ad cy) I J H → va_S (qA S ad) s.heap H locs → W p l e (headSpec wsX9_findCrossed r_X9_findCrossed).room s m args below meth c H locs 0 0 (MQ below (va_Qv (S := Unit) (fun _ => True) (fun _ t => qP D S ad (eM ad cy) Ie J t.heap) (qA S ad)) args s 0 0 (qA S ad)) (F0 m 69 ls [])) : ∀ (n : Nat) (x1 : Int32) (x3 : Int32) (x4 : Int32) (x5 : Int32) (x6 : Int32) (x7 : Int32)  (I : qI) (J : qJ) (ls : Array Slot) (H : Heap) (locs : List Loc), f_X9_findCrossed_113 k35 k69 n x1 x3 x4 x5 x6 x7 I J = some Ie → lv_has ls 8 [(0, .ref (ad 0)), (1, .int x1), (3, .int x3), (4, .int x4), (5, .int x5), (6, .int x6), (7, .int x7)] → qP D S ad (eM ad cy) I J H → va_S (qA S ad) s.heap H locs → W p l e (headSpec wsX9_findCrossed r_X9_findCrossed).room s m args below meth c H locs 0 0 (MQ below (va_Qv (S := Unit) (fun _ => True) (fun _ t => qP D S ad (eM ad cy) Ie J t.heap) (qA S ad)) args s 0 0 (qA S ad)) (F0 m 113 ls []) := by
  have C0 := C
  obtain ⟨⟨hx, hb, hml, hown, hts⟩, hr, hlocks⟩ := C0
  intro n
  induction n with
  | zero =>
    intro x1 x3 x4 x5 x6 x7 I J ls H locs hf hl hP hS
    rw [f_X9_findCrossed_113] at hf
    cases hf
  | succ n ih =>
    intro x1 x3 x4 x5 x6 x7 I J ls H locs hf hl hP hS
    rw [f_X9_findCrossed_113] at hf
    refine lv_iload hx hb dX9_findCrossed_113 (lv_at hl 6 rfl) ?_
    refine lv_iload_n hx hb dX9_findCrossed_115 rfl (lv_at hl 2 rfl) ?_
    refine lv_icmp_gt (tgt := 174) hx hb dX9_findCrossed_116 (by decide) (fun cc => ?_) (fun cc => ?_)
    · have hf := (if_ok hf).1 cc
      refine lv_iinc (v := (x5 + (1 : Int32))) (lv' := [(5, .int (x5 + (1 : Int32))), (0, .ref (ad 0)), (1, .int x1), (3, .int x3), (4, .int x4), (6, .int x6), (7, .int x7)]) hx hb dX9_findCrossed_174 hl (k := 4) rfl rfl (by decide) rfl (fun ls hl => ?_)
      refine lv_goto (tgt := 69) hx hb dX9_findCrossed_177 (by decide) ?_
      exact hk69 x1 x3 x4 (x5 + (1 : Int32)) I J _ _ _ hf (lv_sub hl [1, 2, 3, 4, 0] rfl) hP hS
    · have hf := (if_ok hf).2 cc
      refine lv_iload hx hb dX9_findCrossed_119 (lv_at hl 5 rfl) ?_
      refine lv_if_eq (tgt := 174) hx hb dX9_findCrossed_121 (by decide) (fun cc => ?_) (fun cc => ?_)
      · have hf := (if_ok hf).1 cc
        refine lv_iinc (v := (x5 + (1 : Int32))) (lv' := [(5, .int (x5 + (1 : Int32))), (0, .ref (ad 0)), (1, .int x1), (3, .int x3), (4, .int x4), (6, .int x6), (7, .int x7)]) hx hb dX9_findCrossed_174 hl (k := 4) rfl rfl (by decide) rfl (fun ls hl => ?_)
        refine lv_goto (tgt := 69) hx hb dX9_findCrossed_177 (by decide) ?_
        exact hk69 x1 x3 x4 (x5 + (1 : Int32)) I J _ _ _ hf (lv_sub hl [1, 2, 3, 4, 0] rfl) hP hS
      · have hf := (if_ok hf).2 cc
        refine lv_aload_n hx hb dX9_findCrossed_124 rfl (lv_at hl 0 rfl) ?_
        refine q_get (C := RX9) (T := TX9) (N := 42) (ci := 9) (v := .ref (ad 30)) hx hb hts in_X9_findCrossed_X9 hown hK hP (oX9 h0) rfl 39 (by decide) (hts (.fieldLink RX9 90 "RowsOnlyPrimesModel" "goesOn" "[[I") (by decide +kernel)) (fun _ h9 => h9) rfl dX9_findCrossed_125 ?_
        refine lv_iload hx hb dX9_findCrossed_128 (lv_at hl 3 rfl) ?_
        obtain ⟨g1, hf⟩ := gd_ok hf
        refine q_aald (t := 4) hx hb hK hP (a0X9_30 h0) rfl rfl g1 dX9_findCrossed_130 ?_
        refine lv_iload hx hb dX9_findCrossed_131 (lv_at hl 6 rfl) ?_
        refine lv_dup2_11 hx hb dX9_findCrossed_133 rfl rfl ?_
        obtain ⟨g2, hf⟩ := gd_ok hf
        refine q_iald hx hb hK hP (aX9_30k h0 (j := x4.toNatClampNeg) (qin_lt g1)) g2 dX9_findCrossed_134 ?_
        refine lv_iload hx hb dX9_findCrossed_135 (lv_at hl 4 rfl) ?_
        refine lv_iload hx hb dX9_findCrossed_137 (lv_at hl 6 rfl) ?_
        refine lv_iconst (v := -1) hx hb dX9_findCrossed_139 (by decide) ?_
        refine lv_ixor hx hb dX9_findCrossed_140 ?_
        refine lv_iand hx hb dX9_findCrossed_141 ?_
        refine lv_if_ne (tgt := 165) hx hb dX9_findCrossed_142 (by decide) (fun cc => ?_) (fun cc => ?_)
        · have hf := (if_ok hf).2 cc
          refine lv_iconst (v := 0) hx hb dX9_findCrossed_165 (by decide) ?_
          exact w_X9_findCrossed_166 C hK hE hN h0 k35 hk35 k69 hk69 (f_X9_findCrossed_113 k35 k69 n) ih  x1 x3 x4 x5 x6 x7 (0 : Int32) (I (31 + x4.toNatClampNeg) x7.toNatClampNeg) x7 (31 + x4.toNatClampNeg) (aX9_30k h0 (j := x4.toNatClampNeg) (qin_lt g1)) I J _ _ _ hf (lv_sub hl [0, 1, 2, 3, 4, 5, 6] rfl) hP hS
        · have hf := (if_ok hf).1 cc
          refine lv_aload_n hx hb dX9_findCrossed_145 rfl (lv_at hl 0 rfl) ?_
          refine q_get (C := RX9) (T := TX9) (N := 42) (ci := 9) (v := .ref (ad 30)) hx hb hts in_X9_findCrossed_X9 hown hK hP (oX9 h0) rfl 39 (by decide) (hts (.fieldLink RX9 90 "RowsOnlyPrimesModel" "goesOn" "[[I") (by decide +kernel)) (fun _ h9 => h9) rfl dX9_findCrossed_146 ?_
          refine lv_iload hx hb dX9_findCrossed_149 (lv_at hl 3 rfl) ?_
          refine lv_iconst (v := 1) hx hb dX9_findCrossed_151 (by decide) ?_
          refine lv_iadd hx hb dX9_findCrossed_152 ?_
          obtain ⟨g3, hf⟩ := gd_ok hf
          refine q_aald (t := 4) hx hb hK hP (a0X9_30 h0) rfl rfl g3 dX9_findCrossed_153 ?_
          refine lv_iload hx hb dX9_findCrossed_154 (lv_at hl 6 rfl) ?_
          refine lv_iload hx hb dX9_findCrossed_156 (lv_at hl 4 rfl) ?_
          refine lv_iconst (v := -1) hx hb dX9_findCrossed_158 (by decide) ?_
          refine lv_ixor hx hb dX9_findCrossed_159 ?_
          refine lv_iand hx hb dX9_findCrossed_160 ?_
          obtain ⟨g4, hf⟩ := gd_ok hf
          refine q_iald hx hb hK hP (aX9_30k h0 (j := (x4 + (1 : Int32)).toNatClampNeg) (qin_lt g3)) g4 dX9_findCrossed_161 ?_
          refine lv_goto (tgt := 166) hx hb dX9_findCrossed_162 (by decide) ?_
          exact w_X9_findCrossed_166 C hK hE hN h0 k35 hk35 k69 hk69 (f_X9_findCrossed_113 k35 k69 n) ih  x1 x3 x4 x5 x6 x7 (I (31 + (x4 + (1 : Int32)).toNatClampNeg) (x7 &&& (x5 ^^^ (-1 : Int32))).toNatClampNeg) (I (31 + x4.toNatClampNeg) x7.toNatClampNeg) x7 (31 + x4.toNatClampNeg) (aX9_30k h0 (j := x4.toNatClampNeg) (qin_lt g1)) I J _ _ _ hf (lv_sub hl [0, 1, 2, 3, 4, 5, 6] rfl) hP hS
set_option maxHeartbeats 4000000 in
set_option maxRecDepth 100000 in
theorem w_X9_findCrossed_69 {S : Nat → Prop} (C : qC p s m args meth c cX9_findCrossed 8 RX9 wsX9_findCrossed none) (hK : qK D cy sa s) (hE : qEnv sa va (qA S ad) s s.heap) (hN : qN S ad) (h0 : isM0 S)   {Ie : qI} (k35 : Int32 → Int32 → Int32 → qI → qJ → Option qI) (hk35 : ∀ (x1 : Int32) (x3 : Int32) (x4 : Int32)  (I : qI) (J : qJ) (ls : Array Slot) (H : Heap) (locs : List Loc), k35 x1 x3 x4 I J = some Ie → lv_has ls 8 [(0, .ref (ad 0)), (1, .int x1), (3, .int x3), (4, .int x4)] → qP D S ad (eM ad cy) I J H → va_S (qA S ad) s.heap H locs → W p l e (headSpec wsX9_findCrossed r_X9_findCrossed).room s m args below meth c H locs 0 0 (MQ below (va_Qv (S := Unit) (fun _ => True) (fun _ t => qP D S ad (eM ad cy) Ie J t.heap) (qA S ad)) args s 0 0 (qA S ad)) (F0 m 35 ls [])) : ∀ (n : Nat) (x1 : Int32) (x3 : Int32) (x4 : Int32) (x5 : Int32)  (I : qI) (J : qJ) (ls : Array Slot) (H : Heap) (locs : List Loc), f_X9_findCrossed_69 k35 n x1 x3 x4 x5 I J = some Ie → lv_has ls 8 [(0, .ref (ad 0)), (1, .int x1), (3, .int x3), (4, .int x4), (5, .int x5)] → qP D S ad (eM ad cy) I J H → va_S (qA S ad) s.heap H locs → W p l e (headSpec wsX9_findCrossed r_X9_findCrossed).room s m args below meth c H locs 0 0 (MQ below (va_Qv (S := Unit) (fun _ => True) (fun _ t => qP D S ad (eM ad cy) Ie J t.heap) (qA S ad)) args s 0 0 (qA S ad)) (F0 m 69 ls []) := by
  have C0 := C
  obtain ⟨⟨hx, hb, hml, hown, hts⟩, hr, hlocks⟩ := C0
  intro n
  induction n with
  | zero =>
    intro x1 x3 x4 x5 I J ls H locs hf hl hP hS
    rw [f_X9_findCrossed_69] at hf
    cases hf
  | succ n ih =>
    intro x1 x3 x4 x5 I J ls H locs hf hl hP hS
    rw [f_X9_findCrossed_69] at hf
    refine lv_iload hx hb dX9_findCrossed_69 (lv_at hl 4 rfl) ?_
    refine lv_iload_n hx hb dX9_findCrossed_71 rfl (lv_at hl 2 rfl) ?_
    refine lv_icmp_gt (tgt := 180) hx hb dX9_findCrossed_72 (by decide) (fun cc => ?_) (fun cc => ?_)
    · have hf := (if_ok hf).1 cc
      refine lv_iinc (v := (x4 + (-1 : Int32))) (lv' := [(4, .int (x4 + (-1 : Int32))), (0, .ref (ad 0)), (1, .int x1), (3, .int x3), (5, .int x5)]) hx hb dX9_findCrossed_180 hl (k := 3) rfl rfl (by decide) rfl (fun ls hl => ?_)
      refine lv_goto (tgt := 35) hx hb dX9_findCrossed_183 (by decide) ?_
      exact hk35 x1 x3 (x4 + (-1 : Int32)) I J _ _ _ hf (lv_sub hl [1, 2, 3, 0] rfl) hP hS
    · have hf := (if_ok hf).2 cc
      refine lv_iload hx hb dX9_findCrossed_75 (lv_at hl 4 rfl) ?_
      refine lv_iload_n hx hb dX9_findCrossed_77 rfl (lv_at hl 2 rfl) ?_
      refine lv_iconst (v := -1) hx hb dX9_findCrossed_78 (by decide) ?_
      refine lv_ixor hx hb dX9_findCrossed_79 ?_
      refine lv_iand hx hb dX9_findCrossed_80 ?_
      refine lv_if_ne (tgt := 106) hx hb dX9_findCrossed_81 (by decide) (fun cc => ?_) (fun cc => ?_)
      · have hf := (if_ok hf).2 cc
        refine lv_iconst (v := 0) hx hb dX9_findCrossed_106 (by decide) ?_
        refine lv_istore (lv' := [(6, .int (0 : Int32)), (0, .ref (ad 0)), (1, .int x1), (3, .int x3), (4, .int x4), (5, .int x5)]) hx hb dX9_findCrossed_107 hl (by decide) rfl (fun ls hl => ?_)
        refine lv_iload hx hb dX9_findCrossed_109 (lv_at hl 5 rfl) ?_
        refine lv_istore (lv' := [(7, .int x5), (6, .int (0 : Int32)), (0, .ref (ad 0)), (1, .int x1), (3, .int x3), (4, .int x4), (5, .int x5)]) hx hb dX9_findCrossed_111 hl (by decide) rfl (fun ls hl => ?_)
        exact w_X9_findCrossed_113 C hK hE hN h0 k35 hk35 (f_X9_findCrossed_69 k35 n) ih 1000 x1 x3 x4 x5 (0 : Int32) x5 I J _ _ _ hf (lv_sub hl [2, 3, 4, 5, 6, 1, 0] rfl) hP hS
      · have hf := (if_ok hf).1 cc
        refine lv_aload_n hx hb dX9_findCrossed_84 rfl (lv_at hl 0 rfl) ?_
        refine lv_iload hx hb dX9_findCrossed_85 (lv_at hl 4 rfl) ?_
        refine lv_aload_n hx hb dX9_findCrossed_87 rfl (lv_at hl 0 rfl) ?_
        refine q_get (C := RX9) (T := TX9) (N := 42) (ci := 9) (v := .ref (ad 4)) hx hb hts in_X9_findCrossed_X9 hown hK hP (oX9 h0) rfl 3 (by decide) (hts (.fieldLink RX9 21 "RowsOnlyPrimesModel" "rows" "[[J") (by decide +kernel)) (fun _ h9 => h9) rfl dX9_findCrossed_88 ?_
        refine lv_iload_n hx hb dX9_findCrossed_91 rfl (lv_at hl 1 rfl) ?_
        obtain ⟨g1, hf⟩ := gd_ok hf
        refine q_aald (t := 5) hx hb hK hP (a0X9_4 h0) rfl rfl g1 dX9_findCrossed_92 ?_
        refine lv_iload hx hb dX9_findCrossed_93 (lv_at hl 3 rfl) ?_
        obtain ⟨g2, hf⟩ := gd_ok hf
        refine q_lald hx hb hK hP (aX9_4k h0 (j := x1.toNatClampNeg) (qin_lt g1)) g2 dX9_findCrossed_95 ?_
        obtain ⟨v3, h4, hf⟩ := bd_ok hf
        refine q_cSi (va_runV (As := [.int x5, .long (J (5 + x1.toNatClampNeg) x4.toNatClampNeg)]) (rest := []) ⟨hx, hb, hml, hown, hts⟩ (c_X9_isAboard l (D := D) (ad := ad) (cy := cy) (sa := sa) (va := va) (I := I) (J := J) (S := S) h0 x5 (J (5 + x1.toNatClampNeg) x4.toNatClampNeg) h4) (cwV 2 hts gX9_findCrossed_X9_isAboard rfl rfl rfl (by decide +kernel) ⟨Nat.le_of_ble_eq_true rfl, Nat.le_of_ble_eq_true rfl⟩) ⟨qPre_blind _, q_recv hK hP (oX9 h0) rfl, fun U hU hW => ⟨rfl, qPre_of hP hK hE hN hS U hU hW⟩⟩ rfl rfl hl.1 rfl (lv_room (Nat.le_of_ble_eq_true rfl)) dX9_findCrossed_96 ⟨Nat.le_of_ble_eq_true rfl, Nat.le_of_ble_eq_true rfl⟩) ?_
        refine lv_if_eq (tgt := 106) hx hb dX9_findCrossed_99 (by decide) (fun cc => ?_) (fun cc => ?_)
        · have hf := (if_ok hf).1 cc
          refine lv_iconst (v := 0) hx hb dX9_findCrossed_106 (by decide) ?_
          refine lv_istore (lv' := [(6, .int (0 : Int32)), (0, .ref (ad 0)), (1, .int x1), (3, .int x3), (4, .int x4), (5, .int x5)]) hx hb dX9_findCrossed_107 hl (by decide) rfl (fun ls hl => ?_)
          refine lv_iload hx hb dX9_findCrossed_109 (lv_at hl 5 rfl) ?_
          refine lv_istore (lv' := [(7, .int x5), (6, .int (0 : Int32)), (0, .ref (ad 0)), (1, .int x1), (3, .int x3), (4, .int x4), (5, .int x5)]) hx hb dX9_findCrossed_111 hl (by decide) rfl (fun ls hl => ?_)
          exact w_X9_findCrossed_113 C hK hE hN h0 k35 hk35 (f_X9_findCrossed_69 k35 n) ih 1000 x1 x3 x4 x5 (0 : Int32) x5 I J _ _ _ hf (lv_sub hl [2, 3, 4, 5, 6, 1, 0] rfl) hP hS
        · have hf := (if_ok hf).2 cc
          refine lv_iconst (v := 1) hx hb dX9_findCrossed_102 (by decide) ?_
          refine lv_goto (tgt := 107) hx hb dX9_findCrossed_103 (by decide) ?_
          refine lv_istore (lv' := [(6, .int (1 : Int32)), (0, .ref (ad 0)), (1, .int x1), (3, .int x3), (4, .int x4), (5, .int x5)]) hx hb dX9_findCrossed_107 hl (by decide) rfl (fun ls hl => ?_)
          refine lv_iload hx hb dX9_findCrossed_109 (lv_at hl 5 rfl) ?_
          refine lv_istore (lv' := [(7, .int x5), (6, .int (1 : Int32)), (0, .ref (ad 0)), (1, .int x1), (3, .int x3), (4, .int x4), (5, .int x5)]) hx hb dX9_findCrossed_111 hl (by decide) rfl (fun ls hl => ?_)
          exact w_X9_findCrossed_113 C hK hE hN h0 k35 hk35 (f_X9_findCrossed_69 k35 n) ih 1000 x1 x3 x4 x5 (1 : Int32) x5 I J _ _ _ hf (lv_sub hl [2, 3, 4, 5, 6, 1, 0] rfl) hP hS
set_option maxHeartbeats 4000000 in
set_option maxRecDepth 100000 in
theorem w_X9_findCrossed_43 {S : Nat → Prop} (C : qC p s m args meth c cX9_findCrossed 8 RX9 wsX9_findCrossed none) (hK : qK D cy sa s) (hE : qEnv sa va (qA S ad) s s.heap) (hN : qN S ad) (h0 : isM0 S)   {Ie : qI} (k35 : Int32 → Int32 → Int32 → qI → qJ → Option qI) (hk35 : ∀ (x1 : Int32) (x3 : Int32) (x4 : Int32)  (I : qI) (J : qJ) (ls : Array Slot) (H : Heap) (locs : List Loc), k35 x1 x3 x4 I J = some Ie → lv_has ls 8 [(0, .ref (ad 0)), (1, .int x1), (3, .int x3), (4, .int x4)] → qP D S ad (eM ad cy) I J H → va_S (qA S ad) s.heap H locs → W p l e (headSpec wsX9_findCrossed r_X9_findCrossed).room s m args below meth c H locs 0 0 (MQ below (va_Qv (S := Unit) (fun _ => True) (fun _ t => qP D S ad (eM ad cy) Ie J t.heap) (qA S ad)) args s 0 0 (qA S ad)) (F0 m 35 ls [])) : ∀ (n : Nat) (x1 : Int32) (x3 : Int32) (x4 : Int32) (x5 : Int32)  (I : qI) (J : qJ) (ls : Array Slot) (H : Heap) (locs : List Loc), f_X9_findCrossed_43 k35 n x1 x3 x4 x5 I J = some Ie → lv_has ls 8 [(0, .ref (ad 0)), (1, .int x1), (3, .int x3), (4, .int x4), (5, .int x5)] → qP D S ad (eM ad cy) I J H → va_S (qA S ad) s.heap H locs → W p l e (headSpec wsX9_findCrossed r_X9_findCrossed).room s m args below meth c H locs 0 0 (MQ below (va_Qv (S := Unit) (fun _ => True) (fun _ t => qP D S ad (eM ad cy) Ie J t.heap) (qA S ad)) args s 0 0 (qA S ad)) (F0 m 43 ls []) := by
  have C0 := C
  obtain ⟨⟨hx, hb, hml, hown, hts⟩, hr, hlocks⟩ := C0
  intro n
  induction n with
  | zero =>
    intro x1 x3 x4 x5 I J ls H locs hf hl hP hS
    rw [f_X9_findCrossed_43] at hf
    cases hf
  | succ n ih =>
    intro x1 x3 x4 x5 I J ls H locs hf hl hP hS
    rw [f_X9_findCrossed_43] at hf
    refine lv_iload hx hb dX9_findCrossed_43 (lv_at hl 4 rfl) ?_
    refine lv_iload_n hx hb dX9_findCrossed_45 rfl (lv_at hl 2 rfl) ?_
    refine lv_icmp_gt (tgt := 66) hx hb dX9_findCrossed_46 (by decide) (fun cc => ?_) (fun cc => ?_)
    · have hf := (if_ok hf).1 cc
      refine lv_iconst (v := 1) hx hb dX9_findCrossed_66 (by decide) ?_
      refine lv_istore (lv' := [(5, .int (1 : Int32)), (0, .ref (ad 0)), (1, .int x1), (3, .int x3), (4, .int x4)]) hx hb dX9_findCrossed_67 hl (by decide) rfl (fun ls hl => ?_)
      exact w_X9_findCrossed_69 C hK hE hN h0 k35 hk35 1000 x1 x3 x4 (1 : Int32) I J _ _ _ hf (lv_sub hl [1, 2, 3, 4, 0] rfl) hP hS
    · have hf := (if_ok hf).2 cc
      refine lv_aload_n hx hb dX9_findCrossed_49 rfl (lv_at hl 0 rfl) ?_
      refine q_get (C := RX9) (T := TX9) (N := 42) (ci := 9) (v := .ref (ad 30)) hx hb hts in_X9_findCrossed_X9 hown hK hP (oX9 h0) rfl 39 (by decide) (hts (.fieldLink RX9 90 "RowsOnlyPrimesModel" "goesOn" "[[I") (by decide +kernel)) (fun _ h9 => h9) rfl dX9_findCrossed_50 ?_
      refine lv_iload hx hb dX9_findCrossed_53 (lv_at hl 3 rfl) ?_
      obtain ⟨g1, hf⟩ := gd_ok hf
      refine q_aald (t := 4) hx hb hK hP (a0X9_30 h0) rfl rfl g1 dX9_findCrossed_55 ?_
      refine lv_iload hx hb dX9_findCrossed_56 (lv_at hl 4 rfl) ?_
      refine lv_iconst (v := 0) hx hb dX9_findCrossed_58 (by decide) ?_
      obtain ⟨g2, hf⟩ := gd_ok hf
      obtain ⟨I3, eI3, hf⟩ := lt_ok hf
      refine q_iast hx hb hK hP hN hS (aX9_30k h0 (j := x4.toNatClampNeg) (qin_lt g1)) g2 dX9_findCrossed_59 (fun H locs hP hS => ?_)
      have hP : qP D S ad (eM ad cy) I3 J H := by rw [eI3]; exact hP
      refine lv_iinc (v := (x5 + (1 : Int32))) (lv' := [(5, .int (x5 + (1 : Int32))), (0, .ref (ad 0)), (1, .int x1), (3, .int x3), (4, .int x4)]) hx hb dX9_findCrossed_60 hl (k := 4) rfl rfl (by decide) rfl (fun ls hl => ?_)
      refine lv_goto (tgt := 43) hx hb dX9_findCrossed_63 (by decide) ?_
      exact ih x1 x3 x4 (x5 + (1 : Int32)) I3 J _ _ _ hf (lv_sub hl [1, 2, 3, 4, 0] rfl) hP hS
set_option maxHeartbeats 4000000 in
set_option maxRecDepth 100000 in
theorem w_X9_findCrossed_35 {S : Nat → Prop} (C : qC p s m args meth c cX9_findCrossed 8 RX9 wsX9_findCrossed none) (hK : qK D cy sa s) (hE : qEnv sa va (qA S ad) s s.heap) (hN : qN S ad) (h0 : isM0 S)   {Ie : qI} : ∀ (n : Nat) (x1 : Int32) (x3 : Int32) (x4 : Int32)  (I : qI) (J : qJ) (ls : Array Slot) (H : Heap) (locs : List Loc), f_X9_findCrossed_35 n x1 x3 x4 I J = some Ie → lv_has ls 8 [(0, .ref (ad 0)), (1, .int x1), (3, .int x3), (4, .int x4)] → qP D S ad (eM ad cy) I J H → va_S (qA S ad) s.heap H locs → W p l e (headSpec wsX9_findCrossed r_X9_findCrossed).room s m args below meth c H locs 0 0 (MQ below (va_Qv (S := Unit) (fun _ => True) (fun _ t => qP D S ad (eM ad cy) Ie J t.heap) (qA S ad)) args s 0 0 (qA S ad)) (F0 m 35 ls []) := by
  have C0 := C
  obtain ⟨⟨hx, hb, hml, hown, hts⟩, hr, hlocks⟩ := C0
  intro n
  induction n with
  | zero =>
    intro x1 x3 x4 I J ls H locs hf hl hP hS
    rw [f_X9_findCrossed_35] at hf
    cases hf
  | succ n ih =>
    intro x1 x3 x4 I J ls H locs hf hl hP hS
    rw [f_X9_findCrossed_35] at hf
    refine lv_iload hx hb dX9_findCrossed_35 (lv_at hl 3 rfl) ?_
    refine lv_if_lt (tgt := 186) hx hb dX9_findCrossed_37 (by decide) (fun cc => ?_) (fun cc => ?_)
    · have hf := (if_ok hf).1 cc
      have e9 := Option.some.inj hf
      have eI9 : I = Ie := e9
      exact W.vret hx hb hr (fun t ht _ => ⟨⟨(), rfl, trivial, by show qP D _ ad _ _ _ t.heap; rw [ht, ← eI9]; exact hP⟩, hS.F ht⟩) hS.2.2 dX9_findCrossed_186
    · have hf := (if_ok hf).2 cc
      refine lv_iconst (v := 0) hx hb dX9_findCrossed_40 (by decide) ?_
      refine lv_istore (lv' := [(5, .int (0 : Int32)), (0, .ref (ad 0)), (1, .int x1), (3, .int x3), (4, .int x4)]) hx hb dX9_findCrossed_41 hl (by decide) rfl (fun ls hl => ?_)
      exact w_X9_findCrossed_43 C hK hE hN h0 (f_X9_findCrossed_35 n) ih 1000 x1 x3 x4 (0 : Int32) I J _ _ _ hf (lv_sub hl [1, 2, 3, 4, 0] rfl) hP hS
set_option maxHeartbeats 4000000 in
set_option maxRecDepth 100000 in
theorem w_X9_findCrossed_8 {S : Nat → Prop} (C : qC p s m args meth c cX9_findCrossed 8 RX9 wsX9_findCrossed none) (hK : qK D cy sa s) (hE : qEnv sa va (qA S ad) s s.heap) (hN : qN S ad) (h0 : isM0 S)   {Ie : qI} : ∀ (n : Nat) (x1 : Int32) (x2 : Int32) (x3 : Int32) (x4 : Int32)  (I : qI) (J : qJ) (ls : Array Slot) (H : Heap) (locs : List Loc), f_X9_findCrossed_8 n x1 x2 x3 x4 I J = some Ie → lv_has ls 8 [(0, .ref (ad 0)), (1, .int x1), (2, .int x2), (3, .int x3), (4, .int x4)] → qP D S ad (eM ad cy) I J H → va_S (qA S ad) s.heap H locs → W p l e (headSpec wsX9_findCrossed r_X9_findCrossed).room s m args below meth c H locs 0 0 (MQ below (va_Qv (S := Unit) (fun _ => True) (fun _ t => qP D S ad (eM ad cy) Ie J t.heap) (qA S ad)) args s 0 0 (qA S ad)) (F0 m 8 ls []) := by
  have C0 := C
  obtain ⟨⟨hx, hb, hml, hown, hts⟩, hr, hlocks⟩ := C0
  intro n
  induction n with
  | zero =>
    intro x1 x2 x3 x4 I J ls H locs hf hl hP hS
    rw [f_X9_findCrossed_8] at hf
    cases hf
  | succ n ih =>
    intro x1 x2 x3 x4 I J ls H locs hf hl hP hS
    rw [f_X9_findCrossed_8] at hf
    refine lv_iload hx hb dX9_findCrossed_8 (lv_at hl 4 rfl) ?_
    refine lv_iload_n hx hb dX9_findCrossed_10 rfl (lv_at hl 3 rfl) ?_
    refine lv_icmp_gt (tgt := 30) hx hb dX9_findCrossed_11 (by decide) (fun cc => ?_) (fun cc => ?_)
    · have hf := (if_ok hf).1 cc
      refine lv_iload_n hx hb dX9_findCrossed_30 rfl (lv_at hl 2 rfl) ?_
      refine lv_iconst (v := 1) hx hb dX9_findCrossed_31 (by decide) ?_
      refine lv_isub hx hb dX9_findCrossed_32 ?_
      refine lv_istore (lv' := [(4, .int (x2 - (1 : Int32))), (0, .ref (ad 0)), (1, .int x1), (2, .int x2), (3, .int x3)]) hx hb dX9_findCrossed_33 hl (by decide) rfl (fun ls hl => ?_)
      exact w_X9_findCrossed_35 C hK hE hN h0  1000 x1 x3 (x2 - (1 : Int32)) I J _ _ _ hf (lv_sub hl [1, 2, 4, 0] rfl) hP hS
    · have hf := (if_ok hf).2 cc
      refine lv_aload_n hx hb dX9_findCrossed_14 rfl (lv_at hl 0 rfl) ?_
      refine q_get (C := RX9) (T := TX9) (N := 42) (ci := 9) (v := .ref (ad 30)) hx hb hts in_X9_findCrossed_X9 hown hK hP (oX9 h0) rfl 39 (by decide) (hts (.fieldLink RX9 90 "RowsOnlyPrimesModel" "goesOn" "[[I") (by decide +kernel)) (fun _ h9 => h9) rfl dX9_findCrossed_15 ?_
      refine lv_iload_n hx hb dX9_findCrossed_18 rfl (lv_at hl 2 rfl) ?_
      obtain ⟨g1, hf⟩ := gd_ok hf
      refine q_aald (t := 4) hx hb hK hP (a0X9_30 h0) rfl rfl g1 dX9_findCrossed_19 ?_
      refine lv_iload hx hb dX9_findCrossed_20 (lv_at hl 4 rfl) ?_
      refine lv_iconst (v := 1) hx hb dX9_findCrossed_22 (by decide) ?_
      obtain ⟨g2, hf⟩ := gd_ok hf
      obtain ⟨I3, eI3, hf⟩ := lt_ok hf
      refine q_iast hx hb hK hP hN hS (aX9_30k h0 (j := x2.toNatClampNeg) (qin_lt g1)) g2 dX9_findCrossed_23 (fun H locs hP hS => ?_)
      have hP : qP D S ad (eM ad cy) I3 J H := by rw [eI3]; exact hP
      refine lv_iinc (v := (x4 + (1 : Int32))) (lv' := [(4, .int (x4 + (1 : Int32))), (0, .ref (ad 0)), (1, .int x1), (2, .int x2), (3, .int x3)]) hx hb dX9_findCrossed_24 hl (k := 4) rfl rfl (by decide) rfl (fun ls hl => ?_)
      refine lv_goto (tgt := 8) hx hb dX9_findCrossed_27 (by decide) ?_
      exact ih x1 x2 x3 (x4 + (1 : Int32)) I3 J _ _ _ hf (lv_sub hl [1, 2, 3, 4, 0] rfl) hP hS
set_option maxHeartbeats 4000000 in
set_option maxRecDepth 100000 in
theorem c_X9_findCrossed (l : Launch) {D : va_G} {ad : Nat → Nat} {cy : Nat → ClassId} {sa va : Nat → Nat} {I : qI} {J : qJ} {S : Nat → Prop} (h0 : isM0 S)   (p0 : Int32) (p1 : Int32) {Ie : qI} (hf : f_X9_findCrossed p0 p1 I J = some Ie) : Met l yX9_findCrossed wsX9_findCrossed r_X9_findCrossed (va_Pc [.ref (ad 0), .int p0, .int p1] (qPre D S ad cy sa va (eM ad cy) I J)) (va_Qv (S := Unit) (fun _ => True) (fun _ t => qP D S ad (eM ad cy) Ie J t.heap) (qA S ad)) 0 0 (qA S ad) := by
  refine Met.ofW (cc := cX9_findCrossed) (maxL := 8) (ret := none) (by decide) rfl ?_
  intro p e s m args below meth c s₁ B hml hv
  obtain ⟨rfl, hP, hK, hE, hN⟩ := hv
  have C : qC p s m _ meth c cX9_findCrossed 8 RX9 wsX9_findCrossed none := ⟨⟨B.exec, B.bytes, hml, findClass_of_methodNamed B.named, atoms_spec (ws := wsX9_findCrossed) B.pre⟩, B.returns, B.notSynchronized⟩
  have C0 := C
  obtain ⟨⟨hx, hb, hml, hown, hts⟩, hr, hlocks⟩ := C0
  have hS : va_S (qA S ad) s.heap s.heap [] := va_S.rf
  have hl := lv_entry ([.ref (ad 0), .int p0, .int p1]) (n := 8) (Nat.le_of_ble_eq_true rfl)
  rw [lg_entry_eq]
  generalize (lg_sl ([.ref (ad 0), .int p0, .int p1]) ++ List.replicate (8 - (lg_sl ([.ref (ad 0), .int p0, .int p1])).length) Slot.unset).toArray = ls at hl ⊢
  have hl : lv_has ls 8 [(0, .ref (ad 0)), (1, .int p0), (2, .int p1)] := hl
  unfold f_X9_findCrossed at hf
  refine lv_aload_n hx hb dX9_findCrossed_0 rfl (lv_at hl 0 rfl) ?_
  obtain ⟨v1, h2, hf⟩ := bd_ok hf
  refine q_cSi (va_runV (As := []) (rest := []) ⟨hx, hb, hml, hown, hts⟩ (c_X9_waitingBits l (D := D) (ad := ad) (cy := cy) (sa := sa) (va := va) (I := I) (J := J) (S := S) h0  h2) (cwV 0 hts gX9_findCrossed_X9_waitingBits rfl rfl rfl (by decide +kernel) ⟨Nat.le_of_ble_eq_true rfl, Nat.le_of_ble_eq_true rfl⟩) ⟨qPre_blind _, q_recv hK hP (oX9 h0) rfl, fun U hU hW => ⟨rfl, qPre_of hP hK hE hN hS U hU hW⟩⟩ rfl rfl hl.1 rfl (lv_room (Nat.le_of_ble_eq_true rfl)) dX9_findCrossed_1 ⟨Nat.le_of_ble_eq_true rfl, Nat.le_of_ble_eq_true rfl⟩) ?_
  refine lv_istore_n (lv' := [(3, .int v1), (0, .ref (ad 0)), (1, .int p0), (2, .int p1)]) hx hb dX9_findCrossed_4 rfl hl (by decide) rfl (fun ls hl => ?_)
  refine lv_iconst (v := 0) hx hb dX9_findCrossed_5 (by decide) ?_
  refine lv_istore (lv' := [(4, .int (0 : Int32)), (3, .int v1), (0, .ref (ad 0)), (1, .int p0), (2, .int p1)]) hx hb dX9_findCrossed_6 hl (by decide) rfl (fun ls hl => ?_)
  exact w_X9_findCrossed_8 C hK hE hN h0  1000 p0 p1 v1 (0 : Int32) I J _ _ _ hf (lv_sub hl [2, 3, 4, 1, 0] rfl) hP hS
abbrev r_X9_crossed : Room := { frames := 4, cells := 0, slots := 0, locals := 98 }
theorem in_X9_crossed_X9 : ∀ w ∈ u_ws RX9 TX9 42, w ∈ wsX9_crossed := by decide +kernel
set_option maxHeartbeats 4000000 in
set_option maxRecDepth 100000 in
theorem w_X9_crossed_97 {S : Nat → Prop} (C : qC p s m args meth c cX9_crossed 8 RX9 wsX9_crossed (some .int)) (hK : qK D cy sa s) (hE : qEnv sa va (qA S ad) s s.heap) (hN : qN S ad) (h0 : isM0 S)   {r : Int32} {Ie : qI} (k54 : Int32 → Int32 → Int32 → Int32 → qI → qJ → Option (Int32 × qI)) (hk54 : ∀ (x1 : Int32) (x2 : Int32) (x5 : Int32) (x6 : Int32)  (I : qI) (J : qJ) (ls : Array Slot) (H : Heap) (locs : List Loc), k54 x1 x2 x5 x6 I J = some (r, Ie) → lv_has ls 8 [(0, .ref (ad 0)), (1, .int x1), (2, .int x2), (5, .int x5), (6, .int x6)] → qP D S ad (eM ad cy) I J H → va_S (qA S ad) s.heap H locs → W p l e (headSpec wsX9_crossed r_X9_crossed).room s m args below meth c H locs 0 0 (MQ below (va_Qi (S := Unit) (fun x _ => x = r) (fun _ t => qP D S ad (eM ad cy) Ie J t.heap) (qA S ad)) args s 0 0 (qA S ad)) (F0 m 54 ls [])) : ∀ (x1 : Int32) (x2 : Int32) (x5 : Int32) (x6 : Int32) (xs0 : Int32)  (I : qI) (J : qJ) (ls : Array Slot) (H : Heap) (locs : List Loc), f_X9_crossed_97 k54 x1 x2 x5 x6 xs0 I J = some (r, Ie) → lv_has ls 8 [(0, .ref (ad 0)), (1, .int x1), (2, .int x2), (5, .int x5), (6, .int x6)] → qP D S ad (eM ad cy) I J H → va_S (qA S ad) s.heap H locs → W p l e (headSpec wsX9_crossed r_X9_crossed).room s m args below meth c H locs 0 0 (MQ below (va_Qi (S := Unit) (fun x _ => x = r) (fun _ t => qP D S ad (eM ad cy) Ie J t.heap) (qA S ad)) args s 0 0 (qA S ad)) (F0 m 97 ls [.int xs0]) := by
  have C0 := C
  obtain ⟨⟨hx, hb, hml, hown, hts⟩, hr, hlocks⟩ := C0
  intro x1 x2 x5 x6 xs0 I J ls H locs hf hl hP hS
  unfold f_X9_crossed_97 at hf
  refine lv_istore (lv' := [(7, .int xs0), (0, .ref (ad 0)), (1, .int x1), (2, .int x2), (5, .int x5), (6, .int x6)]) hx hb dX9_crossed_97 hl (by decide) rfl (fun ls hl => ?_)
  refine lv_iload hx hb dX9_crossed_99 (lv_at hl 0 rfl) ?_
  refine lv_if_eq (tgt := 124) hx hb dX9_crossed_101 (by decide) (fun cc => ?_) (fun cc => ?_)
  · have hf := (if_ok hf).1 cc
    refine lv_iinc (v := (x6 + (1 : Int32))) (lv' := [(6, .int (x6 + (1 : Int32))), (7, .int xs0), (0, .ref (ad 0)), (1, .int x1), (2, .int x2), (5, .int x5)]) hx hb dX9_crossed_124 hl (k := 5) rfl rfl (by decide) rfl (fun ls hl => ?_)
    refine lv_goto (tgt := 54) hx hb dX9_crossed_127 (by decide) ?_
    exact hk54 x1 x2 x5 (x6 + (1 : Int32)) I J _ _ _ hf (lv_sub hl [2, 3, 4, 5, 0] rfl) hP hS
  · have hf := (if_ok hf).2 cc
    refine lv_aload_n hx hb dX9_crossed_104 rfl (lv_at hl 1 rfl) ?_
    refine q_get (C := RX9) (T := TX9) (N := 42) (ci := 9) (v := .ref (ad 30)) hx hb hts in_X9_crossed_X9 hown hK hP (oX9 h0) rfl 39 (by decide) (hts (.fieldLink RX9 90 "RowsOnlyPrimesModel" "goesOn" "[[I") (by decide +kernel)) (fun _ h9 => h9) rfl dX9_crossed_105 ?_
    refine lv_iconst (v := 1) hx hb dX9_crossed_108 (by decide) ?_
    refine q_aald (t := 4) hx hb hK hP (a0X9_30 h0) rfl rfl (by decide) dX9_crossed_109 ?_
    refine lv_iload hx hb dX9_crossed_110 (lv_at hl 4 rfl) ?_
    refine lv_iload hx hb dX9_crossed_112 (lv_at hl 5 rfl) ?_
    refine lv_iconst (v := -1) hx hb dX9_crossed_114 (by decide) ?_
    refine lv_ixor hx hb dX9_crossed_115 ?_
    refine lv_iand hx hb dX9_crossed_116 ?_
    obtain ⟨g1, hf⟩ := gd_ok hf
    refine q_iald hx hb hK hP (aX9_30k h0 (j := 1) (by decide)) g1 dX9_crossed_117 ?_
    refine lv_if_le (tgt := 124) hx hb dX9_crossed_118 (by decide) (fun cc => ?_) (fun cc => ?_)
    · have hf := (if_ok hf).1 cc
      refine lv_iinc (v := (x6 + (1 : Int32))) (lv' := [(6, .int (x6 + (1 : Int32))), (7, .int xs0), (0, .ref (ad 0)), (1, .int x1), (2, .int x2), (5, .int x5)]) hx hb dX9_crossed_124 hl (k := 5) rfl rfl (by decide) rfl (fun ls hl => ?_)
      refine lv_goto (tgt := 54) hx hb dX9_crossed_127 (by decide) ?_
      exact hk54 x1 x2 x5 (x6 + (1 : Int32)) I J _ _ _ hf (lv_sub hl [2, 3, 4, 5, 0] rfl) hP hS
    · have hf := (if_ok hf).2 cc
      refine lv_iload hx hb dX9_crossed_121 (lv_at hl 5 rfl) ?_
      have e9 := Option.some.inj hf
      have eI9 : I = Ie := (congrArg Prod.snd e9)
      exact W.iret hx hb hr (fun t ht _ => ⟨⟨_, (), rfl, (congrArg Prod.fst e9), by show qP D _ ad _ _ _ t.heap; rw [ht, ← eI9]; exact hP⟩, hS.F ht⟩) hS.2.2 dX9_crossed_123
set_option maxHeartbeats 4000000 in
set_option maxRecDepth 100000 in
theorem w_X9_crossed_96 {S : Nat → Prop} (C : qC p s m args meth c cX9_crossed 8 RX9 wsX9_crossed (some .int)) (hK : qK D cy sa s) (hE : qEnv sa va (qA S ad) s s.heap) (hN : qN S ad) (h0 : isM0 S)   {r : Int32} {Ie : qI} (k54 : Int32 → Int32 → Int32 → Int32 → qI → qJ → Option (Int32 × qI)) (hk54 : ∀ (x1 : Int32) (x2 : Int32) (x5 : Int32) (x6 : Int32)  (I : qI) (J : qJ) (ls : Array Slot) (H : Heap) (locs : List Loc), k54 x1 x2 x5 x6 I J = some (r, Ie) → lv_has ls 8 [(0, .ref (ad 0)), (1, .int x1), (2, .int x2), (5, .int x5), (6, .int x6)] → qP D S ad (eM ad cy) I J H → va_S (qA S ad) s.heap H locs → W p l e (headSpec wsX9_crossed r_X9_crossed).room s m args below meth c H locs 0 0 (MQ below (va_Qi (S := Unit) (fun x _ => x = r) (fun _ t => qP D S ad (eM ad cy) Ie J t.heap) (qA S ad)) args s 0 0 (qA S ad)) (F0 m 54 ls [])) : ∀ (x1 : Int32) (x2 : Int32) (x5 : Int32) (x6 : Int32)  (I : qI) (J : qJ) (ls : Array Slot) (H : Heap) (locs : List Loc), f_X9_crossed_96 k54 x1 x2 x5 x6 I J = some (r, Ie) → lv_has ls 8 [(0, .ref (ad 0)), (1, .int x1), (2, .int x2), (5, .int x5), (6, .int x6)] → qP D S ad (eM ad cy) I J H → va_S (qA S ad) s.heap H locs → W p l e (headSpec wsX9_crossed r_X9_crossed).room s m args below meth c H locs 0 0 (MQ below (va_Qi (S := Unit) (fun x _ => x = r) (fun _ t => qP D S ad (eM ad cy) Ie J t.heap) (qA S ad)) args s 0 0 (qA S ad)) (F0 m 96 ls []) := by
  have C0 := C
  obtain ⟨⟨hx, hb, hml, hown, hts⟩, hr, hlocks⟩ := C0
  intro x1 x2 x5 x6 I J ls H locs hf hl hP hS
  unfold f_X9_crossed_96 at hf
  refine lv_iconst (v := 0) hx hb dX9_crossed_96 (by decide) ?_
  exact w_X9_crossed_97 C hK hE hN h0 k54 hk54  x1 x2 x5 x6 (0 : Int32) I J _ _ _ hf (lv_sub hl [0, 1, 2, 3, 4] rfl) hP hS
set_option maxHeartbeats 4000000 in
set_option maxRecDepth 100000 in
theorem w_X9_crossed_54 {S : Nat → Prop} (C : qC p s m args meth c cX9_crossed 8 RX9 wsX9_crossed (some .int)) (hK : qK D cy sa s) (hE : qEnv sa va (qA S ad) s s.heap) (hN : qN S ad) (h0 : isM0 S)   {r : Int32} {Ie : qI} : ∀ (n : Nat) (x1 : Int32) (x2 : Int32) (x5 : Int32) (x6 : Int32)  (I : qI) (J : qJ) (ls : Array Slot) (H : Heap) (locs : List Loc), f_X9_crossed_54 n x1 x2 x5 x6 I J = some (r, Ie) → lv_has ls 8 [(0, .ref (ad 0)), (1, .int x1), (2, .int x2), (5, .int x5), (6, .int x6)] → qP D S ad (eM ad cy) I J H → va_S (qA S ad) s.heap H locs → W p l e (headSpec wsX9_crossed r_X9_crossed).room s m args below meth c H locs 0 0 (MQ below (va_Qi (S := Unit) (fun x _ => x = r) (fun _ t => qP D S ad (eM ad cy) Ie J t.heap) (qA S ad)) args s 0 0 (qA S ad)) (F0 m 54 ls []) := by
  have C0 := C
  obtain ⟨⟨hx, hb, hml, hown, hts⟩, hr, hlocks⟩ := C0
  intro n
  induction n with
  | zero =>
    intro x1 x2 x5 x6 I J ls H locs hf hl hP hS
    rw [f_X9_crossed_54] at hf
    cases hf
  | succ n ih =>
    intro x1 x2 x5 x6 I J ls H locs hf hl hP hS
    rw [f_X9_crossed_54] at hf
    refine lv_iload hx hb dX9_crossed_54 (lv_at hl 4 rfl) ?_
    refine lv_iload hx hb dX9_crossed_56 (lv_at hl 3 rfl) ?_
    refine lv_icmp_gt (tgt := 130) hx hb dX9_crossed_58 (by decide) (fun cc => ?_) (fun cc => ?_)
    · have hf := (if_ok hf).1 cc
      refine lv_iconst (v := -1) hx hb dX9_crossed_130 (by decide) ?_
      have e9 := Option.some.inj hf
      have eI9 : I = Ie := (congrArg Prod.snd e9)
      exact W.iret hx hb hr (fun t ht _ => ⟨⟨_, (), rfl, (congrArg Prod.fst e9), by show qP D _ ad _ _ _ t.heap; rw [ht, ← eI9]; exact hP⟩, hS.F ht⟩) hS.2.2 dX9_crossed_131
    · have hf := (if_ok hf).2 cc
      refine lv_iload_n hx hb dX9_crossed_61 rfl (lv_at hl 2 rfl) ?_
      refine lv_if_le (tgt := 130) hx hb dX9_crossed_62 (by decide) (fun cc => ?_) (fun cc => ?_)
      · have hf := (if_ok hf).1 cc
        refine lv_iconst (v := -1) hx hb dX9_crossed_130 (by decide) ?_
        have e9 := Option.some.inj hf
        have eI9 : I = Ie := (congrArg Prod.snd e9)
        exact W.iret hx hb hr (fun t ht _ => ⟨⟨_, (), rfl, (congrArg Prod.fst e9), by show qP D _ ad _ _ _ t.heap; rw [ht, ← eI9]; exact hP⟩, hS.F ht⟩) hS.2.2 dX9_crossed_131
      · have hf := (if_ok hf).2 cc
        refine lv_iload hx hb dX9_crossed_65 (lv_at hl 4 rfl) ?_
        refine lv_iload hx hb dX9_crossed_67 (lv_at hl 3 rfl) ?_
        refine lv_iconst (v := -1) hx hb dX9_crossed_69 (by decide) ?_
        refine lv_ixor hx hb dX9_crossed_70 ?_
        refine lv_iand hx hb dX9_crossed_71 ?_
        refine lv_if_ne (tgt := 96) hx hb dX9_crossed_72 (by decide) (fun cc => ?_) (fun cc => ?_)
        · have hf := (if_ok hf).2 cc
          exact w_X9_crossed_96 C hK hE hN h0 (f_X9_crossed_54 n) ih  x1 x2 x5 x6 I J _ _ _ hf (lv_sub hl [0, 1, 2, 3, 4] rfl) hP hS
        · have hf := (if_ok hf).1 cc
          refine lv_aload_n hx hb dX9_crossed_75 rfl (lv_at hl 0 rfl) ?_
          refine lv_iload hx hb dX9_crossed_76 (lv_at hl 4 rfl) ?_
          refine lv_aload_n hx hb dX9_crossed_78 rfl (lv_at hl 0 rfl) ?_
          refine q_get (C := RX9) (T := TX9) (N := 42) (ci := 9) (v := .ref (ad 4)) hx hb hts in_X9_crossed_X9 hown hK hP (oX9 h0) rfl 3 (by decide) (hts (.fieldLink RX9 21 "RowsOnlyPrimesModel" "rows" "[[J") (by decide +kernel)) (fun _ h9 => h9) rfl dX9_crossed_79 ?_
          refine lv_iload_n hx hb dX9_crossed_82 rfl (lv_at hl 1 rfl) ?_
          obtain ⟨g1, hf⟩ := gd_ok hf
          refine q_aald (t := 5) hx hb hK hP (a0X9_4 h0) rfl rfl g1 dX9_crossed_83 ?_
          refine lv_iconst (v := 0) hx hb dX9_crossed_84 (by decide) ?_
          refine q_lald hx hb hK hP (aX9_4k h0 (j := x1.toNatClampNeg) (qin_lt g1)) (by decide) dX9_crossed_85 ?_
          refine q_topl (y := (J (5 + x1.toNatClampNeg) 0)) rfl ?_
          obtain ⟨v2, h3, hf⟩ := bd_ok hf
          refine q_cSi (va_runV (As := [.int x6, .long (J (5 + x1.toNatClampNeg) 0)]) (rest := []) ⟨hx, hb, hml, hown, hts⟩ (c_X9_isAboard l (D := D) (ad := ad) (cy := cy) (sa := sa) (va := va) (I := I) (J := J) (S := S) h0 x6 (J (5 + x1.toNatClampNeg) 0) h3) (cwV 2 hts gX9_crossed_X9_isAboard rfl rfl rfl (by decide +kernel) ⟨Nat.le_of_ble_eq_true rfl, Nat.le_of_ble_eq_true rfl⟩) ⟨qPre_blind _, q_recv hK hP (oX9 h0) rfl, fun U hU hW => ⟨rfl, qPre_of hP hK hE hN hS U hU hW⟩⟩ rfl rfl hl.1 rfl (lv_room (Nat.le_of_ble_eq_true rfl)) dX9_crossed_86 ⟨Nat.le_of_ble_eq_true rfl, Nat.le_of_ble_eq_true rfl⟩) ?_
          refine lv_if_eq (tgt := 96) hx hb dX9_crossed_89 (by decide) (fun cc => ?_) (fun cc => ?_)
          · have hf := (if_ok hf).1 cc
            exact w_X9_crossed_96 C hK hE hN h0 (f_X9_crossed_54 n) ih  x1 x2 x5 x6 I J _ _ _ hf (lv_sub hl [0, 1, 2, 3, 4] rfl) hP hS
          · have hf := (if_ok hf).2 cc
            refine lv_iconst (v := 1) hx hb dX9_crossed_92 (by decide) ?_
            refine lv_goto (tgt := 97) hx hb dX9_crossed_93 (by decide) ?_
            exact w_X9_crossed_97 C hK hE hN h0 (f_X9_crossed_54 n) ih  x1 x2 x5 x6 (1 : Int32) I J _ _ _ hf (lv_sub hl [0, 1, 2, 3, 4] rfl) hP hS
set_option maxHeartbeats 4000000 in
set_option maxRecDepth 100000 in
theorem c_X9_crossed (l : Launch) {D : va_G} {ad : Nat → Nat} {cy : Nat → ClassId} {sa va : Nat → Nat} {I : qI} {J : qJ} {S : Nat → Prop} (h0 : isM0 S)   (p0 : Int32) (p1 : Int32) (p2 : Int32) {r : Int32} {Ie : qI} (hf : f_X9_crossed p0 p1 p2 I J = some (r, Ie)) : Met l yX9_crossed wsX9_crossed r_X9_crossed (va_Pc [.ref (ad 0), .int p0, .int p1, .int p2] (qPre D S ad cy sa va (eM ad cy) I J)) (va_Qi (S := Unit) (fun x _ => x = r) (fun _ t => qP D S ad (eM ad cy) Ie J t.heap) (qA S ad)) 0 0 (qA S ad) := by
  refine Met.ofW (cc := cX9_crossed) (maxL := 8) (ret := (some .int)) (by decide) rfl ?_
  intro p e s m args below meth c s₁ B hml hv
  obtain ⟨rfl, hP, hK, hE, hN⟩ := hv
  have C : qC p s m _ meth c cX9_crossed 8 RX9 wsX9_crossed (some .int) := ⟨⟨B.exec, B.bytes, hml, findClass_of_methodNamed B.named, atoms_spec (ws := wsX9_crossed) B.pre⟩, B.returns, B.notSynchronized⟩
  have C0 := C
  obtain ⟨⟨hx, hb, hml, hown, hts⟩, hr, hlocks⟩ := C0
  have hS : va_S (qA S ad) s.heap s.heap [] := va_S.rf
  have hl := lv_entry ([.ref (ad 0), .int p0, .int p1, .int p2]) (n := 8) (Nat.le_of_ble_eq_true rfl)
  rw [lg_entry_eq]
  generalize (lg_sl ([.ref (ad 0), .int p0, .int p1, .int p2]) ++ List.replicate (8 - (lg_sl ([.ref (ad 0), .int p0, .int p1, .int p2])).length) Slot.unset).toArray = ls at hl ⊢
  have hl : lv_has ls 8 [(0, .ref (ad 0)), (1, .int p0), (2, .int p1), (3, .int p2)] := hl
  unfold f_X9_crossed at hf
  refine lv_aload_n hx hb dX9_crossed_0 rfl (lv_at hl 0 rfl) ?_
  refine lv_iload_n hx hb dX9_crossed_1 rfl (lv_at hl 1 rfl) ?_
  refine lv_iload_n hx hb dX9_crossed_2 rfl (lv_at hl 2 rfl) ?_
  refine lv_bipush (v := 8) hx hb dX9_crossed_3 (by decide) ?_
  refine lv_iload_n hx hb dX9_crossed_5 rfl (lv_at hl 3 rfl) ?_
  refine lv_i2l hx hb dX9_crossed_6 rfl ?_
  refine lv_lconst (v := 0) hx hb dX9_crossed_7 (by decide) ?_
  refine lv_lconst (v := 1) hx hb dX9_crossed_8 (by decide) ?_
  obtain ⟨v1, h2, hf⟩ := bd_ok hf
  refine q_cSi (va_runS (As := [.long p2.toInt64, .long (0 : Int64), .long (1 : Int64)]) (rest := [.int (8 : Int32), .int p1, .int p0, .ref (ad 0)]) ⟨hx, hb, hml, hown, hts⟩ (c_X9_in l (D := D) (ad := ad) (cy := cy) (sa := sa) (va := va) (I := I) (J := J) (S := S) h0 p2.toInt64 (0 : Int64) (1 : Int64) h2) (va_cwS 3 hts gX9_crossed_X9_in rfl rfl rfl (by decide +kernel) ⟨Nat.le_of_ble_eq_true rfl, Nat.le_of_ble_eq_true rfl⟩) ⟨qPre_blind _, fun U hU hW => ⟨rfl, qPre_of hP hK hE hN hS U hU hW⟩⟩ rfl rfl hl.1 rfl (lv_room (Nat.le_of_ble_eq_true rfl)) dX9_crossed_9 ⟨Nat.le_of_ble_eq_true rfl, Nat.le_of_ble_eq_true rfl⟩) ?_
  obtain ⟨v3, I4, h5, hf⟩ := bd2_ok hf
  refine q_cEi (va_runV (As := [.int p0, .int p1, .int (8 : Int32), .int v1]) (rest := []) ⟨hx, hb, hml, hown, hts⟩ (c_X9_noTold l (D := D) (ad := ad) (cy := cy) (sa := sa) (va := va) (I := I) (J := J) (S := S) h0 p0 p1 (8 : Int32) v1 h5) (cwV 4 hts gX9_crossed_X9_noTold rfl rfl rfl (by decide +kernel) ⟨Nat.le_of_ble_eq_true rfl, Nat.le_of_ble_eq_true rfl⟩) ⟨qPre_blind _, q_recv hK hP (oX9 h0) rfl, fun U hU hW => ⟨rfl, qPre_of hP hK hE hN hS U hU hW⟩⟩ rfl rfl hl.1 rfl (lv_room (Nat.le_of_ble_eq_true rfl)) dX9_crossed_12 ⟨Nat.le_of_ble_eq_true rfl, Nat.le_of_ble_eq_true rfl⟩) hS (fun H locs hP hS => ?_)
  refine lv_istore (lv' := [(4, .int v3), (0, .ref (ad 0)), (1, .int p0), (2, .int p1), (3, .int p2)]) hx hb dX9_crossed_15 hl (by decide) rfl (fun ls hl => ?_)
  refine lv_iload hx hb dX9_crossed_17 (lv_at hl 0 rfl) ?_
  refine lv_if_eq (tgt := 25) hx hb dX9_crossed_19 (by decide) (fun cc => ?_) (fun cc => ?_)
  · have hf := (if_ok hf).1 cc
    refine lv_aload_n hx hb dX9_crossed_25 rfl (lv_at hl 1 rfl) ?_
    refine lv_iload_n hx hb dX9_crossed_26 rfl (lv_at hl 2 rfl) ?_
    refine lv_iload_n hx hb dX9_crossed_27 rfl (lv_at hl 3 rfl) ?_
    obtain ⟨I6, h7, hf⟩ := bd_ok hf
    refine q_cEv (va_runV (As := [.int p0, .int p1]) (rest := []) ⟨hx, hb, hml, hown, hts⟩ (c_X9_findCrossed l (D := D) (ad := ad) (cy := cy) (sa := sa) (va := va) (I := I4) (J := J) (S := S) h0 p0 p1 h7) (cwV 2 hts gX9_crossed_X9_findCrossed rfl rfl rfl (by decide +kernel) ⟨Nat.le_of_ble_eq_true rfl, Nat.le_of_ble_eq_true rfl⟩) ⟨qPre_blind _, q_recv hK hP (oX9 h0) rfl, fun U hU hW => ⟨rfl, qPre_of hP hK hE hN hS U hU hW⟩⟩ rfl rfl hl.1 rfl (lv_room (Nat.le_of_ble_eq_true rfl)) dX9_crossed_28 ⟨Nat.le_of_ble_eq_true rfl, Nat.le_of_ble_eq_true rfl⟩) hS (fun H locs hP hS => ?_)
    refine lv_aload_n hx hb dX9_crossed_31 rfl (lv_at hl 1 rfl) ?_
    obtain ⟨v8, h9, hf⟩ := bd_ok hf
    refine q_cSi (va_runV (As := []) (rest := []) ⟨hx, hb, hml, hown, hts⟩ (c_X9_waitingBits l (D := D) (ad := ad) (cy := cy) (sa := sa) (va := va) (I := I6) (J := J) (S := S) h0  h9) (cwV 0 hts gX9_crossed_X9_waitingBits rfl rfl rfl (by decide +kernel) ⟨Nat.le_of_ble_eq_true rfl, Nat.le_of_ble_eq_true rfl⟩) ⟨qPre_blind _, q_recv hK hP (oX9 h0) rfl, fun U hU hW => ⟨rfl, qPre_of hP hK hE hN hS U hU hW⟩⟩ rfl rfl hl.1 rfl (lv_room (Nat.le_of_ble_eq_true rfl)) dX9_crossed_32 ⟨Nat.le_of_ble_eq_true rfl, Nat.le_of_ble_eq_true rfl⟩) ?_
    refine lv_istore (lv' := [(5, .int v8), (4, .int v3), (0, .ref (ad 0)), (1, .int p0), (2, .int p1), (3, .int p2)]) hx hb dX9_crossed_35 hl (by decide) rfl (fun ls hl => ?_)
    refine lv_iload_n hx hb dX9_crossed_37 rfl (lv_at hl 5 rfl) ?_
    refine lv_if_ne (tgt := 51) hx hb dX9_crossed_38 (by decide) (fun cc => ?_) (fun cc => ?_)
    · have hf := (if_ok hf).2 cc
      refine lv_iconst (v := 1) hx hb dX9_crossed_51 (by decide) ?_
      refine lv_istore (lv' := [(6, .int (1 : Int32)), (5, .int v8), (4, .int v3), (0, .ref (ad 0)), (1, .int p0), (2, .int p1), (3, .int p2)]) hx hb dX9_crossed_52 hl (by decide) rfl (fun ls hl => ?_)
      exact w_X9_crossed_54 C hK hE hN h0  1000 p0 p1 v8 (1 : Int32) I6 J _ _ _ hf (lv_sub hl [3, 4, 5, 1, 0] rfl) hP hS
    · have hf := (if_ok hf).1 cc
      refine lv_aload_n hx hb dX9_crossed_41 rfl (lv_at hl 2 rfl) ?_
      refine q_get (C := RX9) (T := TX9) (N := 42) (ci := 9) (v := .ref (ad 30)) hx hb hts in_X9_crossed_X9 hown hK hP (oX9 h0) rfl 39 (by decide) (hts (.fieldLink RX9 90 "RowsOnlyPrimesModel" "goesOn" "[[I") (by decide +kernel)) (fun _ h9 => h9) rfl dX9_crossed_42 ?_
      refine lv_iconst (v := 0) hx hb dX9_crossed_45 (by decide) ?_
      refine q_aald (t := 4) hx hb hK hP (a0X9_30 h0) rfl rfl (by decide) dX9_crossed_46 ?_
      refine lv_iload hx hb dX9_crossed_47 (lv_at hl 0 rfl) ?_
      obtain ⟨g10, hf⟩ := gd_ok hf
      refine q_iald hx hb hK hP (aX9_30k h0 (j := 0) (by decide)) g10 dX9_crossed_49 ?_
      have e9 := Option.some.inj hf
      have eI9 : I6 = Ie := (congrArg Prod.snd e9)
      exact W.iret hx hb hr (fun t ht _ => ⟨⟨_, (), rfl, (congrArg Prod.fst e9), by show qP D _ ad _ _ _ t.heap; rw [ht, ← eI9]; exact hP⟩, hS.F ht⟩) hS.2.2 dX9_crossed_50
  · have hf := (if_ok hf).2 cc
    refine lv_iload hx hb dX9_crossed_22 (lv_at hl 0 rfl) ?_
    have e9 := Option.some.inj hf
    have eI9 : I4 = Ie := (congrArg Prod.snd e9)
    exact W.iret hx hb hr (fun t ht _ => ⟨⟨_, (), rfl, (congrArg Prod.fst e9), by show qP D _ ad _ _ _ t.heap; rw [ht, ← eI9]; exact hP⟩, hS.F ht⟩) hS.2.2 dX9_crossed_24
abbrev r_X9_goesAsTold : Room := { frames := 4, cells := 0, slots := 0, locals := 93 }
theorem in_X9_goesAsTold_X9 : ∀ w ∈ u_ws RX9 TX9 42, w ∈ wsX9_goesAsTold := by decide +kernel
set_option maxHeartbeats 4000000 in
set_option maxRecDepth 100000 in
theorem w_X9_goesAsTold_119 {S : Nat → Prop} (C : qC p s m args meth c cX9_goesAsTold 5 RX9 wsX9_goesAsTold none) (hK : qK D cy sa s) (hE : qEnv sa va (qA S ad) s s.heap) (hN : qN S ad) (h0 : isM0 S)   {Ie : qI} (k12 : Int32 → Int32 → Int32 → qI → qJ → Option qI) (hk12 : ∀ (x1 : Int32) (x2 : Int32) (x3 : Int32)  (I : qI) (J : qJ) (ls : Array Slot) (H : Heap) (locs : List Loc), k12 x1 x2 x3 I J = some Ie → lv_has ls 5 [(0, .ref (ad 0)), (1, .int x1), (2, .int x2), (3, .int x3)] → qP D S ad (eM ad cy) I J H → va_S (qA S ad) s.heap H locs → W p l e (headSpec wsX9_goesAsTold r_X9_goesAsTold).room s m args below meth c H locs 0 0 (MQ below (va_Qv (S := Unit) (fun _ => True) (fun _ t => qP D S ad (eM ad cy) Ie J t.heap) (qA S ad)) args s 0 0 (qA S ad)) (F0 m 12 ls [])) : ∀ (x1 : Int32) (x2 : Int32) (x3 : Int32) (xs0 : Int32) (xs1 : Int32)  (I : qI) (J : qJ) (ls : Array Slot) (H : Heap) (locs : List Loc), f_X9_goesAsTold_119 k12 x1 x2 x3 xs0 xs1 I J = some Ie → lv_has ls 5 [(0, .ref (ad 0)), (1, .int x1), (2, .int x2), (3, .int x3)] → qP D S ad (eM ad cy) I J H → va_S (qA S ad) s.heap H locs → W p l e (headSpec wsX9_goesAsTold r_X9_goesAsTold).room s m args below meth c H locs 0 0 (MQ below (va_Qv (S := Unit) (fun _ => True) (fun _ t => qP D S ad (eM ad cy) Ie J t.heap) (qA S ad)) args s 0 0 (qA S ad)) (F0 m 119 ls [.int xs0, .int xs1, .ref (ad 0)]) := by
  have C0 := C
  obtain ⟨⟨hx, hb, hml, hown, hts⟩, hr, hlocks⟩ := C0
  intro x1 x2 x3 xs0 xs1 I J ls H locs hf hl hP hS
  unfold f_X9_goesAsTold_119 at hf
  refine lv_ior hx hb dX9_goesAsTold_119 ?_
  obtain ⟨I1, eI1, hf⟩ := lt_ok hf
  refine q_put (C := RX9) (T := TX9) (N := 42) (ci := 9) (v := .int (xs1 ||| xs0)) (x := (xs1 ||| xs0)) (ty := .int) hx hb hts in_X9_goesAsTold_X9 tyX9 tyX9_ok nmX9 hown hK hP hN hS (oX9 h0) rfl 18 (by decide) (hts (.fieldLink RX9 100 "RowsOnlyPrimesModel" "over" "I") (by decide +kernel)) (fun _ h9 => h9) rfl (by decide +kernel) rfl rfl (fun _ _ => rfl) (fun _ _ => Nat.le_of_ble_eq_true rfl) dX9_goesAsTold_120 (fun H locs hP hS => ?_)
  rw [← eI1] at hP
  refine lv_iinc (v := (x3 + (1 : Int32))) (lv' := [(3, .int (x3 + (1 : Int32))), (0, .ref (ad 0)), (1, .int x1), (2, .int x2)]) hx hb dX9_goesAsTold_123 hl (k := 3) rfl rfl (by decide) rfl (fun ls hl => ?_)
  refine lv_goto (tgt := 12) hx hb dX9_goesAsTold_126 (by decide) ?_
  exact hk12 x1 x2 (x3 + (1 : Int32)) I1 J _ _ _ hf (lv_sub hl [1, 2, 3, 0] rfl) hP hS
set_option maxHeartbeats 4000000 in
set_option maxRecDepth 100000 in
theorem w_X9_goesAsTold_91 {S : Nat → Prop} (C : qC p s m args meth c cX9_goesAsTold 5 RX9 wsX9_goesAsTold none) (hK : qK D cy sa s) (hE : qEnv sa va (qA S ad) s s.heap) (hN : qN S ad) (h0 : isM0 S)   {Ie : qI} (k12 : Int32 → Int32 → Int32 → qI → qJ → Option qI) (hk12 : ∀ (x1 : Int32) (x2 : Int32) (x3 : Int32)  (I : qI) (J : qJ) (ls : Array Slot) (H : Heap) (locs : List Loc), k12 x1 x2 x3 I J = some Ie → lv_has ls 5 [(0, .ref (ad 0)), (1, .int x1), (2, .int x2), (3, .int x3)] → qP D S ad (eM ad cy) I J H → va_S (qA S ad) s.heap H locs → W p l e (headSpec wsX9_goesAsTold r_X9_goesAsTold).room s m args below meth c H locs 0 0 (MQ below (va_Qv (S := Unit) (fun _ => True) (fun _ t => qP D S ad (eM ad cy) Ie J t.heap) (qA S ad)) args s 0 0 (qA S ad)) (F0 m 12 ls [])) : ∀ (x1 : Int32) (x2 : Int32) (x3 : Int32) (x4 : Int32) (xs0 : Int32) (xs1 : Int32)  (I : qI) (J : qJ) (ls : Array Slot) (H : Heap) (locs : List Loc), f_X9_goesAsTold_91 k12 x1 x2 x3 x4 xs0 xs1 I J = some Ie → lv_has ls 5 [(0, .ref (ad 0)), (1, .int x1), (2, .int x2), (3, .int x3), (4, .int x4)] → qP D S ad (eM ad cy) I J H → va_S (qA S ad) s.heap H locs → W p l e (headSpec wsX9_goesAsTold r_X9_goesAsTold).room s m args below meth c H locs 0 0 (MQ below (va_Qv (S := Unit) (fun _ => True) (fun _ t => qP D S ad (eM ad cy) Ie J t.heap) (qA S ad)) args s 0 0 (qA S ad)) (F0 m 91 ls [.int xs0, .int xs1, .ref (ad 0)]) := by
  have C0 := C
  obtain ⟨⟨hx, hb, hml, hown, hts⟩, hr, hlocks⟩ := C0
  intro x1 x2 x3 x4 xs0 xs1 I J ls H locs hf hl hP hS
  unfold f_X9_goesAsTold_91 at hf
  refine lv_iadd hx hb dX9_goesAsTold_91 ?_
  obtain ⟨I1, eI1, hf⟩ := lt_ok hf
  refine q_put (C := RX9) (T := TX9) (N := 42) (ci := 9) (v := .int (xs1 + xs0)) (x := (xs1 + xs0)) (ty := .int) hx hb hts in_X9_goesAsTold_X9 tyX9 tyX9_ok nmX9 hown hK hP hN hS (oX9 h0) rfl 41 (by decide) (hts (.fieldLink RX9 328 "RowsOnlyPrimesModel" "hired" "I") (by decide +kernel)) (fun _ h9 => h9) rfl (by decide +kernel) rfl rfl (fun _ _ => rfl) (fun _ _ => Nat.le_of_ble_eq_true rfl) dX9_goesAsTold_92 (fun H locs hP hS => ?_)
  rw [← eI1] at hP
  refine lv_aload_n hx hb dX9_goesAsTold_95 rfl (lv_at hl 0 rfl) ?_
  refine lv_dup hx hb dX9_goesAsTold_96 rfl ?_
  refine q_get (C := RX9) (T := TX9) (N := 42) (ci := 9) (v := .int (I1 0 18)) hx hb hts in_X9_goesAsTold_X9 hown hK hP (oX9 h0) rfl 18 (by decide) (hts (.fieldLink RX9 100 "RowsOnlyPrimesModel" "over" "I") (by decide +kernel)) (fun _ h9 => h9) rfl dX9_goesAsTold_97 ?_
  refine lv_iload hx hb dX9_goesAsTold_100 (lv_at hl 4 rfl) ?_
  refine lv_iconst (v := -1) hx hb dX9_goesAsTold_102 (by decide) ?_
  refine lv_icmp_ne (tgt := 110) hx hb dX9_goesAsTold_103 (by decide) (fun cc => ?_) (fun cc => ?_)
  · have hf := (if_ok hf).2 cc
    refine lv_aload_n hx hb dX9_goesAsTold_110 rfl (lv_at hl 0 rfl) ?_
    refine q_get (C := RX9) (T := TX9) (N := 42) (ci := 9) (v := .ref (ad 4)) hx hb hts in_X9_goesAsTold_X9 hown hK hP (oX9 h0) rfl 3 (by decide) (hts (.fieldLink RX9 21 "RowsOnlyPrimesModel" "rows" "[[J") (by decide +kernel)) (fun _ h9 => h9) rfl dX9_goesAsTold_111 ?_
    refine lv_iload_n hx hb dX9_goesAsTold_114 rfl (lv_at hl 1 rfl) ?_
    obtain ⟨g2, hf⟩ := gd_ok hf
    refine q_aald (t := 5) hx hb hK hP (a0X9_4 h0) rfl rfl g2 dX9_goesAsTold_115 ?_
    refine lv_iload_n hx hb dX9_goesAsTold_116 rfl (lv_at hl 3 rfl) ?_
    obtain ⟨g3, hf⟩ := gd_ok hf
    refine q_lald hx hb hK hP (aX9_4k h0 (j := x1.toNatClampNeg) (qin_lt g2)) g3 dX9_goesAsTold_117 ?_
    refine lv_l2i hx hb dX9_goesAsTold_118 rfl ?_
    exact w_X9_goesAsTold_119 C hK hE hN h0 k12 hk12  x1 x2 x3 ((J (5 + x1.toNatClampNeg) x3.toNatClampNeg).toInt32) (I1 0 18) I1 J _ _ _ hf (lv_sub hl [0, 1, 2, 3] rfl) hP hS
  · have hf := (if_ok hf).1 cc
    refine lv_iconst (v := 0) hx hb dX9_goesAsTold_106 (by decide) ?_
    refine lv_goto (tgt := 119) hx hb dX9_goesAsTold_107 (by decide) ?_
    exact w_X9_goesAsTold_119 C hK hE hN h0 k12 hk12  x1 x2 x3 (0 : Int32) (I1 0 18) I1 J _ _ _ hf (lv_sub hl [0, 1, 2, 3] rfl) hP hS
set_option maxHeartbeats 4000000 in
set_option maxRecDepth 100000 in
theorem w_X9_goesAsTold_71 {S : Nat → Prop} (C : qC p s m args meth c cX9_goesAsTold 5 RX9 wsX9_goesAsTold none) (hK : qK D cy sa s) (hE : qEnv sa va (qA S ad) s s.heap) (hN : qN S ad) (h0 : isM0 S)   {Ie : qI} (k12 : Int32 → Int32 → Int32 → qI → qJ → Option qI) (hk12 : ∀ (x1 : Int32) (x2 : Int32) (x3 : Int32)  (I : qI) (J : qJ) (ls : Array Slot) (H : Heap) (locs : List Loc), k12 x1 x2 x3 I J = some Ie → lv_has ls 5 [(0, .ref (ad 0)), (1, .int x1), (2, .int x2), (3, .int x3)] → qP D S ad (eM ad cy) I J H → va_S (qA S ad) s.heap H locs → W p l e (headSpec wsX9_goesAsTold r_X9_goesAsTold).room s m args below meth c H locs 0 0 (MQ below (va_Qv (S := Unit) (fun _ => True) (fun _ t => qP D S ad (eM ad cy) Ie J t.heap) (qA S ad)) args s 0 0 (qA S ad)) (F0 m 12 ls [])) : ∀ (x1 : Int32) (x2 : Int32) (x3 : Int32) (x4 : Int32) (xs0 : Int32)  (I : qI) (J : qJ) (ls : Array Slot) (H : Heap) (locs : List Loc), f_X9_goesAsTold_71 k12 x1 x2 x3 x4 xs0 I J = some Ie → lv_has ls 5 [(0, .ref (ad 0)), (1, .int x1), (2, .int x2), (3, .int x3), (4, .int x4)] → qP D S ad (eM ad cy) I J H → va_S (qA S ad) s.heap H locs → W p l e (headSpec wsX9_goesAsTold r_X9_goesAsTold).room s m args below meth c H locs 0 0 (MQ below (va_Qv (S := Unit) (fun _ => True) (fun _ t => qP D S ad (eM ad cy) Ie J t.heap) (qA S ad)) args s 0 0 (qA S ad)) (F0 m 71 ls [.int xs0, .ref (ad 0)]) := by
  have C0 := C
  obtain ⟨⟨hx, hb, hml, hown, hts⟩, hr, hlocks⟩ := C0
  intro x1 x2 x3 x4 xs0 I J ls H locs hf hl hP hS
  unfold f_X9_goesAsTold_71 at hf
  obtain ⟨I1, eI1, hf⟩ := lt_ok hf
  refine q_put (C := RX9) (T := TX9) (N := 42) (ci := 9) (v := .int xs0) (x := xs0) (ty := .int) hx hb hts in_X9_goesAsTold_X9 tyX9 tyX9_ok nmX9 hown hK hP hN hS (oX9 h0) rfl 40 (by decide) (hts (.fieldLink RX9 325 "RowsOnlyPrimesModel" "wrongAt" "I") (by decide +kernel)) (fun _ h9 => h9) rfl (by decide +kernel) rfl rfl (fun _ _ => rfl) (fun _ _ => Nat.le_of_ble_eq_true rfl) dX9_goesAsTold_71 (fun H locs hP hS => ?_)
  rw [← eI1] at hP
  refine lv_aload_n hx hb dX9_goesAsTold_74 rfl (lv_at hl 0 rfl) ?_
  refine lv_dup hx hb dX9_goesAsTold_75 rfl ?_
  refine q_get (C := RX9) (T := TX9) (N := 42) (ci := 9) (v := .int (I1 0 41)) hx hb hts in_X9_goesAsTold_X9 hown hK hP (oX9 h0) rfl 41 (by decide) (hts (.fieldLink RX9 328 "RowsOnlyPrimesModel" "hired" "I") (by decide +kernel)) (fun _ h9 => h9) rfl dX9_goesAsTold_76 ?_
  refine lv_iload hx hb dX9_goesAsTold_79 (lv_at hl 4 rfl) ?_
  refine lv_iconst (v := -1) hx hb dX9_goesAsTold_81 (by decide) ?_
  refine lv_icmp_ne (tgt := 89) hx hb dX9_goesAsTold_82 (by decide) (fun cc => ?_) (fun cc => ?_)
  · have hf := (if_ok hf).2 cc
    refine lv_iload hx hb dX9_goesAsTold_89 (lv_at hl 4 rfl) ?_
    exact w_X9_goesAsTold_91 C hK hE hN h0 k12 hk12  x1 x2 x3 x4 x4 (I1 0 41) I1 J _ _ _ hf (lv_sub hl [0, 1, 2, 3, 4] rfl) hP hS
  · have hf := (if_ok hf).1 cc
    refine lv_iconst (v := 0) hx hb dX9_goesAsTold_85 (by decide) ?_
    refine lv_goto (tgt := 91) hx hb dX9_goesAsTold_86 (by decide) ?_
    exact w_X9_goesAsTold_91 C hK hE hN h0 k12 hk12  x1 x2 x3 x4 (0 : Int32) (I1 0 41) I1 J _ _ _ hf (lv_sub hl [0, 1, 2, 3, 4] rfl) hP hS
set_option maxHeartbeats 4000000 in
set_option maxRecDepth 100000 in
theorem w_X9_goesAsTold_57 {S : Nat → Prop} (C : qC p s m args meth c cX9_goesAsTold 5 RX9 wsX9_goesAsTold none) (hK : qK D cy sa s) (hE : qEnv sa va (qA S ad) s s.heap) (hN : qN S ad) (h0 : isM0 S)   {Ie : qI} (k12 : Int32 → Int32 → Int32 → qI → qJ → Option qI) (hk12 : ∀ (x1 : Int32) (x2 : Int32) (x3 : Int32)  (I : qI) (J : qJ) (ls : Array Slot) (H : Heap) (locs : List Loc), k12 x1 x2 x3 I J = some Ie → lv_has ls 5 [(0, .ref (ad 0)), (1, .int x1), (2, .int x2), (3, .int x3)] → qP D S ad (eM ad cy) I J H → va_S (qA S ad) s.heap H locs → W p l e (headSpec wsX9_goesAsTold r_X9_goesAsTold).room s m args below meth c H locs 0 0 (MQ below (va_Qv (S := Unit) (fun _ => True) (fun _ t => qP D S ad (eM ad cy) Ie J t.heap) (qA S ad)) args s 0 0 (qA S ad)) (F0 m 12 ls [])) : ∀ (x1 : Int32) (x2 : Int32) (x3 : Int32) (xs0 : Int32)  (I : qI) (J : qJ) (ls : Array Slot) (H : Heap) (locs : List Loc), f_X9_goesAsTold_57 k12 x1 x2 x3 xs0 I J = some Ie → lv_has ls 5 [(0, .ref (ad 0)), (1, .int x1), (2, .int x2), (3, .int x3)] → qP D S ad (eM ad cy) I J H → va_S (qA S ad) s.heap H locs → W p l e (headSpec wsX9_goesAsTold r_X9_goesAsTold).room s m args below meth c H locs 0 0 (MQ below (va_Qv (S := Unit) (fun _ => True) (fun _ t => qP D S ad (eM ad cy) Ie J t.heap) (qA S ad)) args s 0 0 (qA S ad)) (F0 m 57 ls [.int xs0]) := by
  have C0 := C
  obtain ⟨⟨hx, hb, hml, hown, hts⟩, hr, hlocks⟩ := C0
  intro x1 x2 x3 xs0 I J ls H locs hf hl hP hS
  unfold f_X9_goesAsTold_57 at hf
  refine lv_istore (lv' := [(4, .int xs0), (0, .ref (ad 0)), (1, .int x1), (2, .int x2), (3, .int x3)]) hx hb dX9_goesAsTold_57 hl (by decide) rfl (fun ls hl => ?_)
  refine lv_aload_n hx hb dX9_goesAsTold_59 rfl (lv_at hl 1 rfl) ?_
  refine lv_iload hx hb dX9_goesAsTold_60 (lv_at hl 0 rfl) ?_
  refine lv_iconst (v := -1) hx hb dX9_goesAsTold_62 (by decide) ?_
  refine lv_icmp_ne (tgt := 70) hx hb dX9_goesAsTold_63 (by decide) (fun cc => ?_) (fun cc => ?_)
  · have hf := (if_ok hf).2 cc
    refine lv_iconst (v := -1) hx hb dX9_goesAsTold_70 (by decide) ?_
    exact w_X9_goesAsTold_71 C hK hE hN h0 k12 hk12  x1 x2 x3 xs0 (-1 : Int32) I J _ _ _ hf (lv_sub hl [1, 2, 3, 4, 0] rfl) hP hS
  · have hf := (if_ok hf).1 cc
    refine lv_iload_n hx hb dX9_goesAsTold_66 rfl (lv_at hl 4 rfl) ?_
    refine lv_goto (tgt := 71) hx hb dX9_goesAsTold_67 (by decide) ?_
    exact w_X9_goesAsTold_71 C hK hE hN h0 k12 hk12  x1 x2 x3 xs0 x3 I J _ _ _ hf (lv_sub hl [1, 2, 3, 4, 0] rfl) hP hS
set_option maxHeartbeats 4000000 in
set_option maxRecDepth 100000 in
theorem w_X9_goesAsTold_12 {S : Nat → Prop} (C : qC p s m args meth c cX9_goesAsTold 5 RX9 wsX9_goesAsTold none) (hK : qK D cy sa s) (hE : qEnv sa va (qA S ad) s s.heap) (hN : qN S ad) (h0 : isM0 S)   {Ie : qI} : ∀ (n : Nat) (x1 : Int32) (x2 : Int32) (x3 : Int32)  (I : qI) (J : qJ) (ls : Array Slot) (H : Heap) (locs : List Loc), f_X9_goesAsTold_12 n x1 x2 x3 I J = some Ie → lv_has ls 5 [(0, .ref (ad 0)), (1, .int x1), (2, .int x2), (3, .int x3)] → qP D S ad (eM ad cy) I J H → va_S (qA S ad) s.heap H locs → W p l e (headSpec wsX9_goesAsTold r_X9_goesAsTold).room s m args below meth c H locs 0 0 (MQ below (va_Qv (S := Unit) (fun _ => True) (fun _ t => qP D S ad (eM ad cy) Ie J t.heap) (qA S ad)) args s 0 0 (qA S ad)) (F0 m 12 ls []) := by
  have C0 := C
  obtain ⟨⟨hx, hb, hml, hown, hts⟩, hr, hlocks⟩ := C0
  intro n
  induction n with
  | zero =>
    intro x1 x2 x3 I J ls H locs hf hl hP hS
    rw [f_X9_goesAsTold_12] at hf
    cases hf
  | succ n ih =>
    intro x1 x2 x3 I J ls H locs hf hl hP hS
    rw [f_X9_goesAsTold_12] at hf
    refine lv_iload_n hx hb dX9_goesAsTold_12 rfl (lv_at hl 3 rfl) ?_
    refine lv_iload_n hx hb dX9_goesAsTold_13 rfl (lv_at hl 2 rfl) ?_
    refine lv_icmp_ge (tgt := 129) hx hb dX9_goesAsTold_14 (by decide) (fun cc => ?_) (fun cc => ?_)
    · have hf := (if_ok hf).1 cc
      have e9 := Option.some.inj hf
      have eI9 : I = Ie := e9
      exact W.vret hx hb hr (fun t ht _ => ⟨⟨(), rfl, trivial, by show qP D _ ad _ _ _ t.heap; rw [ht, ← eI9]; exact hP⟩, hS.F ht⟩) hS.2.2 dX9_goesAsTold_129
    · have hf := (if_ok hf).2 cc
      refine lv_aload_n hx hb dX9_goesAsTold_17 rfl (lv_at hl 0 rfl) ?_
      refine q_get (C := RX9) (T := TX9) (N := 42) (ci := 9) (v := .int (I 0 40)) hx hb hts in_X9_goesAsTold_X9 hown hK hP (oX9 h0) rfl 40 (by decide) (hts (.fieldLink RX9 325 "RowsOnlyPrimesModel" "wrongAt" "I") (by decide +kernel)) (fun _ h9 => h9) rfl dX9_goesAsTold_18 ?_
      refine lv_iconst (v := -1) hx hb dX9_goesAsTold_21 (by decide) ?_
      refine lv_icmp_ne (tgt := 129) hx hb dX9_goesAsTold_22 (by decide) (fun cc => ?_) (fun cc => ?_)
      · have hf := (if_ok hf).2 cc
        have e9 := Option.some.inj hf
        have eI9 : I = Ie := e9
        exact W.vret hx hb hr (fun t ht _ => ⟨⟨(), rfl, trivial, by show qP D _ ad _ _ _ t.heap; rw [ht, ← eI9]; exact hP⟩, hS.F ht⟩) hS.2.2 dX9_goesAsTold_129
      · have hf := (if_ok hf).1 cc
        refine lv_aload_n hx hb dX9_goesAsTold_25 rfl (lv_at hl 0 rfl) ?_
        refine lv_aload_n hx hb dX9_goesAsTold_26 rfl (lv_at hl 0 rfl) ?_
        refine q_get (C := RX9) (T := TX9) (N := 42) (ci := 9) (v := .ref (ad 4)) hx hb hts in_X9_goesAsTold_X9 hown hK hP (oX9 h0) rfl 3 (by decide) (hts (.fieldLink RX9 21 "RowsOnlyPrimesModel" "rows" "[[J") (by decide +kernel)) (fun _ h9 => h9) rfl dX9_goesAsTold_27 ?_
        refine lv_iload_n hx hb dX9_goesAsTold_30 rfl (lv_at hl 1 rfl) ?_
        obtain ⟨g1, hf⟩ := gd_ok hf
        refine q_aald (t := 5) hx hb hK hP (a0X9_4 h0) rfl rfl g1 dX9_goesAsTold_31 ?_
        refine lv_iload_n hx hb dX9_goesAsTold_32 rfl (lv_at hl 3 rfl) ?_
        obtain ⟨g2, hf⟩ := gd_ok hf
        refine q_lald hx hb hK hP (aX9_4k h0 (j := x1.toNatClampNeg) (qin_lt g1)) g2 dX9_goesAsTold_33 ?_
        obtain ⟨v3, h4, hf⟩ := bd_ok hf
        refine q_cSi (va_runV (As := [.long (J (5 + x1.toNatClampNeg) x3.toNatClampNeg)]) (rest := []) ⟨hx, hb, hml, hown, hts⟩ (c_X9_isGroup l (D := D) (ad := ad) (cy := cy) (sa := sa) (va := va) (I := I) (J := J) (S := S) h0 (J (5 + x1.toNatClampNeg) x3.toNatClampNeg) h4) (cwV 1 hts gX9_goesAsTold_X9_isGroup rfl rfl rfl (by decide +kernel) ⟨Nat.le_of_ble_eq_true rfl, Nat.le_of_ble_eq_true rfl⟩) ⟨qPre_blind _, q_recv hK hP (oX9 h0) rfl, fun U hU hW => ⟨rfl, qPre_of hP hK hE hN hS U hU hW⟩⟩ rfl rfl hl.1 rfl (lv_room (Nat.le_of_ble_eq_true rfl)) dX9_goesAsTold_34 ⟨Nat.le_of_ble_eq_true rfl, Nat.le_of_ble_eq_true rfl⟩) ?_
        refine lv_if_eq (tgt := 56) hx hb dX9_goesAsTold_37 (by decide) (fun cc => ?_) (fun cc => ?_)
        · have hf := (if_ok hf).1 cc
          refine lv_iconst (v := -1) hx hb dX9_goesAsTold_56 (by decide) ?_
          exact w_X9_goesAsTold_57 C hK hE hN h0 (f_X9_goesAsTold_12 n) ih  x1 x2 x3 (-1 : Int32) I J _ _ _ hf (lv_sub hl [0, 1, 2, 3] rfl) hP hS
        · have hf := (if_ok hf).2 cc
          refine lv_aload_n hx hb dX9_goesAsTold_40 rfl (lv_at hl 0 rfl) ?_
          refine lv_aload_n hx hb dX9_goesAsTold_41 rfl (lv_at hl 0 rfl) ?_
          refine q_get (C := RX9) (T := TX9) (N := 42) (ci := 9) (v := .ref (ad 4)) hx hb hts in_X9_goesAsTold_X9 hown hK hP (oX9 h0) rfl 3 (by decide) (hts (.fieldLink RX9 21 "RowsOnlyPrimesModel" "rows" "[[J") (by decide +kernel)) (fun _ h9 => h9) rfl dX9_goesAsTold_42 ?_
          refine lv_iload_n hx hb dX9_goesAsTold_45 rfl (lv_at hl 1 rfl) ?_
          obtain ⟨g5, hf⟩ := gd_ok hf
          refine q_aald (t := 5) hx hb hK hP (a0X9_4 h0) rfl rfl g5 dX9_goesAsTold_46 ?_
          refine lv_iload_n hx hb dX9_goesAsTold_47 rfl (lv_at hl 3 rfl) ?_
          obtain ⟨g6, hf⟩ := gd_ok hf
          refine q_lald hx hb hK hP (aX9_4k h0 (j := x1.toNatClampNeg) (qin_lt g5)) g6 dX9_goesAsTold_48 ?_
          refine lv_l2i hx hb dX9_goesAsTold_49 rfl ?_
          obtain ⟨v7, h8, hf⟩ := bd_ok hf
          refine q_cSi (va_runV (As := [.int ((J (5 + x1.toNatClampNeg) x3.toNatClampNeg).toInt32)]) (rest := []) ⟨hx, hb, hml, hown, hts⟩ (c_X9_hireOf l (D := D) (ad := ad) (cy := cy) (sa := sa) (va := va) (I := I) (J := J) (S := S) h0 ((J (5 + x1.toNatClampNeg) x3.toNatClampNeg).toInt32) h8) (cwV 1 hts gX9_goesAsTold_X9_hireOf rfl rfl rfl (by decide +kernel) ⟨Nat.le_of_ble_eq_true rfl, Nat.le_of_ble_eq_true rfl⟩) ⟨qPre_blind _, q_recv hK hP (oX9 h0) rfl, fun U hU hW => ⟨rfl, qPre_of hP hK hE hN hS U hU hW⟩⟩ rfl rfl hl.1 rfl (lv_room (Nat.le_of_ble_eq_true rfl)) dX9_goesAsTold_50 ⟨Nat.le_of_ble_eq_true rfl, Nat.le_of_ble_eq_true rfl⟩) ?_
          refine lv_goto (tgt := 57) hx hb dX9_goesAsTold_53 (by decide) ?_
          exact w_X9_goesAsTold_57 C hK hE hN h0 (f_X9_goesAsTold_12 n) ih  x1 x2 x3 v7 I J _ _ _ hf (lv_sub hl [0, 1, 2, 3] rfl) hP hS
set_option maxHeartbeats 4000000 in
set_option maxRecDepth 100000 in
theorem c_X9_goesAsTold (l : Launch) {D : va_G} {ad : Nat → Nat} {cy : Nat → ClassId} {sa va : Nat → Nat} {I : qI} {J : qJ} {S : Nat → Prop} (h0 : isM0 S)   (p0 : Int32) (p1 : Int32) {Ie : qI} (hf : f_X9_goesAsTold p0 p1 I J = some Ie) : Met l yX9_goesAsTold wsX9_goesAsTold r_X9_goesAsTold (va_Pc [.ref (ad 0), .int p0, .int p1] (qPre D S ad cy sa va (eM ad cy) I J)) (va_Qv (S := Unit) (fun _ => True) (fun _ t => qP D S ad (eM ad cy) Ie J t.heap) (qA S ad)) 0 0 (qA S ad) := by
  refine Met.ofW (cc := cX9_goesAsTold) (maxL := 5) (ret := none) (by decide) rfl ?_
  intro p e s m args below meth c s₁ B hml hv
  obtain ⟨rfl, hP, hK, hE, hN⟩ := hv
  have C : qC p s m _ meth c cX9_goesAsTold 5 RX9 wsX9_goesAsTold none := ⟨⟨B.exec, B.bytes, hml, findClass_of_methodNamed B.named, atoms_spec (ws := wsX9_goesAsTold) B.pre⟩, B.returns, B.notSynchronized⟩
  have C0 := C
  obtain ⟨⟨hx, hb, hml, hown, hts⟩, hr, hlocks⟩ := C0
  have hS : va_S (qA S ad) s.heap s.heap [] := va_S.rf
  have hl := lv_entry ([.ref (ad 0), .int p0, .int p1]) (n := 5) (Nat.le_of_ble_eq_true rfl)
  rw [lg_entry_eq]
  generalize (lg_sl ([.ref (ad 0), .int p0, .int p1]) ++ List.replicate (5 - (lg_sl ([.ref (ad 0), .int p0, .int p1])).length) Slot.unset).toArray = ls at hl ⊢
  have hl : lv_has ls 5 [(0, .ref (ad 0)), (1, .int p0), (2, .int p1)] := hl
  unfold f_X9_goesAsTold at hf
  refine lv_aload_n hx hb dX9_goesAsTold_0 rfl (lv_at hl 0 rfl) ?_
  refine lv_iconst (v := -1) hx hb dX9_goesAsTold_1 (by decide) ?_
  obtain ⟨I1, eI1, hf⟩ := lt_ok hf
  refine q_put (C := RX9) (T := TX9) (N := 42) (ci := 9) (v := .int (-1 : Int32)) (x := (-1 : Int32)) (ty := .int) hx hb hts in_X9_goesAsTold_X9 tyX9 tyX9_ok nmX9 hown hK hP hN hS (oX9 h0) rfl 40 (by decide) (hts (.fieldLink RX9 325 "RowsOnlyPrimesModel" "wrongAt" "I") (by decide +kernel)) (fun _ h9 => h9) rfl (by decide +kernel) rfl rfl (fun _ _ => rfl) (fun _ _ => Nat.le_of_ble_eq_true rfl) dX9_goesAsTold_2 (fun H locs hP hS => ?_)
  rw [← eI1] at hP
  refine lv_aload_n hx hb dX9_goesAsTold_5 rfl (lv_at hl 0 rfl) ?_
  refine lv_iconst (v := 0) hx hb dX9_goesAsTold_6 (by decide) ?_
  obtain ⟨I2, eI2, hf⟩ := lt_ok hf
  refine q_put (C := RX9) (T := TX9) (N := 42) (ci := 9) (v := .int (0 : Int32)) (x := (0 : Int32)) (ty := .int) hx hb hts in_X9_goesAsTold_X9 tyX9 tyX9_ok nmX9 hown hK hP hN hS (oX9 h0) rfl 41 (by decide) (hts (.fieldLink RX9 328 "RowsOnlyPrimesModel" "hired" "I") (by decide +kernel)) (fun _ h9 => h9) rfl (by decide +kernel) rfl rfl (fun _ _ => rfl) (fun _ _ => Nat.le_of_ble_eq_true rfl) dX9_goesAsTold_7 (fun H locs hP hS => ?_)
  rw [← eI2] at hP
  refine lv_iconst (v := 0) hx hb dX9_goesAsTold_10 (by decide) ?_
  refine lv_istore_n (lv' := [(3, .int (0 : Int32)), (0, .ref (ad 0)), (1, .int p0), (2, .int p1)]) hx hb dX9_goesAsTold_11 rfl hl (by decide) rfl (fun ls hl => ?_)
  exact w_X9_goesAsTold_12 C hK hE hN h0  1000 p0 p1 (0 : Int32) I2 J _ _ _ hf (lv_sub hl [1, 2, 3, 0] rfl) hP hS
abbrev r_X9_judge : Room := { frames := 5, cells := 0, slots := 0, locals := 117 }
theorem in_X9_judge_X9 : ∀ w ∈ u_ws RX9 TX9 42, w ∈ wsX9_judge := by decide +kernel
set_option maxHeartbeats 4000000 in
set_option maxRecDepth 100000 in
theorem c_X9_judge (l : Launch) {D : va_G} {ad : Nat → Nat} {cy : Nat → ClassId} {sa va : Nat → Nat} {I : qI} {J : qJ} {S : Nat → Prop} (h0 : isM0 S)   (p0 : Int32) (p1 : Int32) {r : Int32} {Ie : qI} (hf : f_X9_judge p0 p1 I J = some (r, Ie)) : Met l yX9_judge wsX9_judge r_X9_judge (va_Pc [.ref (ad 0), .int p0, .int p1] (qPre D S ad cy sa va (eM ad cy) I J)) (va_Qi (S := Unit) (fun x _ => x = r) (fun _ t => qP D S ad (eM ad cy) Ie J t.heap) (qA S ad)) 0 0 (qA S ad) := by
  refine Met.ofW (cc := cX9_judge) (maxL := 5) (ret := (some .int)) (by decide) rfl ?_
  intro p e s m args below meth c s₁ B hml hv
  obtain ⟨rfl, hP, hK, hE, hN⟩ := hv
  have C : qC p s m _ meth c cX9_judge 5 RX9 wsX9_judge (some .int) := ⟨⟨B.exec, B.bytes, hml, findClass_of_methodNamed B.named, atoms_spec (ws := wsX9_judge) B.pre⟩, B.returns, B.notSynchronized⟩
  have C0 := C
  obtain ⟨⟨hx, hb, hml, hown, hts⟩, hr, hlocks⟩ := C0
  have hS : va_S (qA S ad) s.heap s.heap [] := va_S.rf
  have hl := lv_entry ([.ref (ad 0), .int p0, .int p1]) (n := 5) (Nat.le_of_ble_eq_true rfl)
  rw [lg_entry_eq]
  generalize (lg_sl ([.ref (ad 0), .int p0, .int p1]) ++ List.replicate (5 - (lg_sl ([.ref (ad 0), .int p0, .int p1])).length) Slot.unset).toArray = ls at hl ⊢
  have hl : lv_has ls 5 [(0, .ref (ad 0)), (1, .int p0), (2, .int p1)] := hl
  unfold f_X9_judge at hf
  refine lv_aload_n hx hb dX9_judge_0 rfl (lv_at hl 0 rfl) ?_
  refine lv_iload_n hx hb dX9_judge_1 rfl (lv_at hl 1 rfl) ?_
  refine lv_iload_n hx hb dX9_judge_2 rfl (lv_at hl 2 rfl) ?_
  refine lv_bipush (v := 40) hx hb dX9_judge_3 (by decide) ?_
  refine lv_iconst (v := 1) hx hb dX9_judge_5 (by decide) ?_
  obtain ⟨v1, I2, h3, hf⟩ := bd2_ok hf
  refine q_cEi (va_runV (As := [.int p0, .int p1, .int (40 : Int32), .int (1 : Int32)]) (rest := []) ⟨hx, hb, hml, hown, hts⟩ (c_X9_noTold l (D := D) (ad := ad) (cy := cy) (sa := sa) (va := va) (I := I) (J := J) (S := S) h0 p0 p1 (40 : Int32) (1 : Int32) h3) (cwV 4 hts gX9_judge_X9_noTold rfl rfl rfl (by decide +kernel) ⟨Nat.le_of_ble_eq_true rfl, Nat.le_of_ble_eq_true rfl⟩) ⟨qPre_blind _, q_recv hK hP (oX9 h0) rfl, fun U hU hW => ⟨rfl, qPre_of hP hK hE hN hS U hU hW⟩⟩ rfl rfl hl.1 rfl (lv_room (Nat.le_of_ble_eq_true rfl)) dX9_judge_6 ⟨Nat.le_of_ble_eq_true rfl, Nat.le_of_ble_eq_true rfl⟩) hS (fun H locs hP hS => ?_)
  refine lv_istore_n (lv' := [(3, .int v1), (0, .ref (ad 0)), (1, .int p0), (2, .int p1)]) hx hb dX9_judge_9 rfl hl (by decide) rfl (fun ls hl => ?_)
  refine lv_iload_n hx hb dX9_judge_10 rfl (lv_at hl 0 rfl) ?_
  refine lv_if_eq (tgt := 16) hx hb dX9_judge_11 (by decide) (fun cc => ?_) (fun cc => ?_)
  · have hf := (if_ok hf).1 cc
    refine lv_aload_n hx hb dX9_judge_16 rfl (lv_at hl 1 rfl) ?_
    refine q_get (C := RX9) (T := TX9) (N := 42) (ci := 9) (v := .int (I2 0 18)) hx hb hts in_X9_judge_X9 hown hK hP (oX9 h0) rfl 18 (by decide) (hts (.fieldLink RX9 100 "RowsOnlyPrimesModel" "over" "I") (by decide +kernel)) (fun _ h9 => h9) rfl dX9_judge_17 ?_
    refine lv_istore (lv' := [(4, .int (I2 0 18)), (3, .int v1), (0, .ref (ad 0)), (1, .int p0), (2, .int p1)]) hx hb dX9_judge_20 hl (by decide) rfl (fun ls hl => ?_)
    refine lv_aload_n hx hb dX9_judge_22 rfl (lv_at hl 2 rfl) ?_
    refine lv_iload_n hx hb dX9_judge_23 rfl (lv_at hl 3 rfl) ?_
    refine lv_iload_n hx hb dX9_judge_24 rfl (lv_at hl 4 rfl) ?_
    obtain ⟨I4, h5, hf⟩ := bd_ok hf
    refine q_cEv (va_runV (As := [.int p0, .int p1]) (rest := []) ⟨hx, hb, hml, hown, hts⟩ (c_X9_goesAsTold l (D := D) (ad := ad) (cy := cy) (sa := sa) (va := va) (I := I2) (J := J) (S := S) h0 p0 p1 h5) (cwV 2 hts gX9_judge_X9_goesAsTold rfl rfl rfl (by decide +kernel) ⟨Nat.le_of_ble_eq_true rfl, Nat.le_of_ble_eq_true rfl⟩) ⟨qPre_blind _, q_recv hK hP (oX9 h0) rfl, fun U hU hW => ⟨rfl, qPre_of hP hK hE hN hS U hU hW⟩⟩ rfl rfl hl.1 rfl (lv_room (Nat.le_of_ble_eq_true rfl)) dX9_judge_25 ⟨Nat.le_of_ble_eq_true rfl, Nat.le_of_ble_eq_true rfl⟩) hS (fun H locs hP hS => ?_)
    refine lv_aload_n hx hb dX9_judge_28 rfl (lv_at hl 2 rfl) ?_
    refine lv_iload hx hb dX9_judge_29 (lv_at hl 0 rfl) ?_
    obtain ⟨I6, eI6, hf⟩ := lt_ok hf
    refine q_put (C := RX9) (T := TX9) (N := 42) (ci := 9) (v := .int (I2 0 18)) (x := (I2 0 18)) (ty := .int) hx hb hts in_X9_judge_X9 tyX9 tyX9_ok nmX9 hown hK hP hN hS (oX9 h0) rfl 18 (by decide) (hts (.fieldLink RX9 100 "RowsOnlyPrimesModel" "over" "I") (by decide +kernel)) (fun _ h9 => h9) rfl (by decide +kernel) rfl rfl (fun _ _ => rfl) (fun _ _ => Nat.le_of_ble_eq_true rfl) dX9_judge_31 (fun H locs hP hS => ?_)
    rw [← eI6] at hP
    refine lv_aload_n hx hb dX9_judge_34 rfl (lv_at hl 2 rfl) ?_
    refine q_get (C := RX9) (T := TX9) (N := 42) (ci := 9) (v := .int (I6 0 40)) hx hb hts in_X9_judge_X9 hown hK hP (oX9 h0) rfl 40 (by decide) (hts (.fieldLink RX9 325 "RowsOnlyPrimesModel" "wrongAt" "I") (by decide +kernel)) (fun _ h9 => h9) rfl dX9_judge_35 ?_
    have e9 := Option.some.inj hf
    have eI9 : I6 = Ie := (congrArg Prod.snd e9)
    exact W.iret hx hb hr (fun t ht _ => ⟨⟨_, (), rfl, (congrArg Prod.fst e9), by show qP D _ ad _ _ _ t.heap; rw [ht, ← eI9]; exact hP⟩, hS.F ht⟩) hS.2.2 dX9_judge_38
  · have hf := (if_ok hf).2 cc
    refine lv_iload_n hx hb dX9_judge_14 rfl (lv_at hl 0 rfl) ?_
    have e9 := Option.some.inj hf
    have eI9 : I2 = Ie := (congrArg Prod.snd e9)
    exact W.iret hx hb hr (fun t ht _ => ⟨⟨_, (), rfl, (congrArg Prod.fst e9), by show qP D _ ad _ _ _ t.heap; rw [ht, ← eI9]; exact hP⟩, hS.F ht⟩) hS.2.2 dX9_judge_15
abbrev r_X9_behind : Room := { frames := 5, cells := 0, slots := 0, locals := 117 }
theorem in_X9_behind_X9 : ∀ w ∈ u_ws RX9 TX9 42, w ∈ wsX9_behind := by decide +kernel
set_option maxHeartbeats 4000000 in
set_option maxRecDepth 100000 in
theorem c_X9_behind (l : Launch) {D : va_G} {ad : Nat → Nat} {cy : Nat → ClassId} {sa va : Nat → Nat} {I : qI} {J : qJ} {S : Nat → Prop} (h0 : isM0 S)   (p0 : Int32) (p1 : Int32) (p2 : Int32) {r : Int32} {Ie : qI} (hf : f_X9_behind p0 p1 p2 I J = some (r, Ie)) : Met l yX9_behind wsX9_behind r_X9_behind (va_Pc [.ref (ad 0), .int p0, .int p1, .int p2] (qPre D S ad cy sa va (eM ad cy) I J)) (va_Qi (S := Unit) (fun x _ => x = r) (fun _ t => qP D S ad (eM ad cy) Ie J t.heap) (qA S ad)) 0 0 (qA S ad) := by
  refine Met.ofW (cc := cX9_behind) (maxL := 7) (ret := (some .int)) (by decide) rfl ?_
  intro p e s m args below meth c s₁ B hml hv
  obtain ⟨rfl, hP, hK, hE, hN⟩ := hv
  have C : qC p s m _ meth c cX9_behind 7 RX9 wsX9_behind (some .int) := ⟨⟨B.exec, B.bytes, hml, findClass_of_methodNamed B.named, atoms_spec (ws := wsX9_behind) B.pre⟩, B.returns, B.notSynchronized⟩
  have C0 := C
  obtain ⟨⟨hx, hb, hml, hown, hts⟩, hr, hlocks⟩ := C0
  have hS : va_S (qA S ad) s.heap s.heap [] := va_S.rf
  have hl := lv_entry ([.ref (ad 0), .int p0, .int p1, .int p2]) (n := 7) (Nat.le_of_ble_eq_true rfl)
  rw [lg_entry_eq]
  generalize (lg_sl ([.ref (ad 0), .int p0, .int p1, .int p2]) ++ List.replicate (7 - (lg_sl ([.ref (ad 0), .int p0, .int p1, .int p2])).length) Slot.unset).toArray = ls at hl ⊢
  have hl : lv_has ls 7 [(0, .ref (ad 0)), (1, .int p0), (2, .int p1), (3, .int p2)] := hl
  unfold f_X9_behind at hf
  refine lv_aload_n hx hb dX9_behind_0 rfl (lv_at hl 0 rfl) ?_
  refine lv_iload_n hx hb dX9_behind_1 rfl (lv_at hl 1 rfl) ?_
  refine lv_iload_n hx hb dX9_behind_2 rfl (lv_at hl 2 rfl) ?_
  refine lv_bipush (v := 40) hx hb dX9_behind_3 (by decide) ?_
  refine lv_iload_n hx hb dX9_behind_5 rfl (lv_at hl 3 rfl) ?_
  refine lv_i2l hx hb dX9_behind_6 rfl ?_
  refine lv_lconst (v := 0) hx hb dX9_behind_7 (by decide) ?_
  refine lv_lconst (v := 1) hx hb dX9_behind_8 (by decide) ?_
  obtain ⟨v1, h2, hf⟩ := bd_ok hf
  refine q_cSi (va_runS (As := [.long p2.toInt64, .long (0 : Int64), .long (1 : Int64)]) (rest := [.int (40 : Int32), .int p1, .int p0, .ref (ad 0)]) ⟨hx, hb, hml, hown, hts⟩ (c_X9_in l (D := D) (ad := ad) (cy := cy) (sa := sa) (va := va) (I := I) (J := J) (S := S) h0 p2.toInt64 (0 : Int64) (1 : Int64) h2) (va_cwS 3 hts gX9_behind_X9_in rfl rfl rfl (by decide +kernel) ⟨Nat.le_of_ble_eq_true rfl, Nat.le_of_ble_eq_true rfl⟩) ⟨qPre_blind _, fun U hU hW => ⟨rfl, qPre_of hP hK hE hN hS U hU hW⟩⟩ rfl rfl hl.1 rfl (lv_room (Nat.le_of_ble_eq_true rfl)) dX9_behind_9 ⟨Nat.le_of_ble_eq_true rfl, Nat.le_of_ble_eq_true rfl⟩) ?_
  obtain ⟨v3, I4, h5, hf⟩ := bd2_ok hf
  refine q_cEi (va_runV (As := [.int p0, .int p1, .int (40 : Int32), .int v1]) (rest := []) ⟨hx, hb, hml, hown, hts⟩ (c_X9_noTold l (D := D) (ad := ad) (cy := cy) (sa := sa) (va := va) (I := I) (J := J) (S := S) h0 p0 p1 (40 : Int32) v1 h5) (cwV 4 hts gX9_behind_X9_noTold rfl rfl rfl (by decide +kernel) ⟨Nat.le_of_ble_eq_true rfl, Nat.le_of_ble_eq_true rfl⟩) ⟨qPre_blind _, q_recv hK hP (oX9 h0) rfl, fun U hU hW => ⟨rfl, qPre_of hP hK hE hN hS U hU hW⟩⟩ rfl rfl hl.1 rfl (lv_room (Nat.le_of_ble_eq_true rfl)) dX9_behind_12 ⟨Nat.le_of_ble_eq_true rfl, Nat.le_of_ble_eq_true rfl⟩) hS (fun H locs hP hS => ?_)
  refine lv_istore (lv' := [(4, .int v3), (0, .ref (ad 0)), (1, .int p0), (2, .int p1), (3, .int p2)]) hx hb dX9_behind_15 hl (by decide) rfl (fun ls hl => ?_)
  refine lv_iload hx hb dX9_behind_17 (lv_at hl 0 rfl) ?_
  refine lv_if_eq (tgt := 25) hx hb dX9_behind_19 (by decide) (fun cc => ?_) (fun cc => ?_)
  · have hf := (if_ok hf).1 cc
    refine lv_aload_n hx hb dX9_behind_25 rfl (lv_at hl 1 rfl) ?_
    refine q_get (C := RX9) (T := TX9) (N := 42) (ci := 9) (v := .int (I4 0 18)) hx hb hts in_X9_behind_X9 hown hK hP (oX9 h0) rfl 18 (by decide) (hts (.fieldLink RX9 100 "RowsOnlyPrimesModel" "over" "I") (by decide +kernel)) (fun _ h9 => h9) rfl dX9_behind_26 ?_
    refine lv_istore (lv' := [(5, .int (I4 0 18)), (4, .int v3), (0, .ref (ad 0)), (1, .int p0), (2, .int p1), (3, .int p2)]) hx hb dX9_behind_29 hl (by decide) rfl (fun ls hl => ?_)
    refine lv_aload_n hx hb dX9_behind_31 rfl (lv_at hl 2 rfl) ?_
    refine lv_iload_n hx hb dX9_behind_32 rfl (lv_at hl 3 rfl) ?_
    refine lv_iload_n hx hb dX9_behind_33 rfl (lv_at hl 4 rfl) ?_
    obtain ⟨I6, h7, hf⟩ := bd_ok hf
    refine q_cEv (va_runV (As := [.int p0, .int p1]) (rest := []) ⟨hx, hb, hml, hown, hts⟩ (c_X9_goesAsTold l (D := D) (ad := ad) (cy := cy) (sa := sa) (va := va) (I := I4) (J := J) (S := S) h0 p0 p1 h7) (cwV 2 hts gX9_behind_X9_goesAsTold rfl rfl rfl (by decide +kernel) ⟨Nat.le_of_ble_eq_true rfl, Nat.le_of_ble_eq_true rfl⟩) ⟨qPre_blind _, q_recv hK hP (oX9 h0) rfl, fun U hU hW => ⟨rfl, qPre_of hP hK hE hN hS U hU hW⟩⟩ rfl rfl hl.1 rfl (lv_room (Nat.le_of_ble_eq_true rfl)) dX9_behind_34 ⟨Nat.le_of_ble_eq_true rfl, Nat.le_of_ble_eq_true rfl⟩) hS (fun H locs hP hS => ?_)
    refine lv_aload_n hx hb dX9_behind_37 rfl (lv_at hl 2 rfl) ?_
    refine q_get (C := RX9) (T := TX9) (N := 42) (ci := 9) (v := .int (I6 0 18)) hx hb hts in_X9_behind_X9 hown hK hP (oX9 h0) rfl 18 (by decide) (hts (.fieldLink RX9 100 "RowsOnlyPrimesModel" "over" "I") (by decide +kernel)) (fun _ h9 => h9) rfl dX9_behind_38 ?_
    refine lv_istore (lv' := [(6, .int (I6 0 18)), (5, .int (I4 0 18)), (4, .int v3), (0, .ref (ad 0)), (1, .int p0), (2, .int p1), (3, .int p2)]) hx hb dX9_behind_41 hl (by decide) rfl (fun ls hl => ?_)
    refine lv_aload_n hx hb dX9_behind_43 rfl (lv_at hl 3 rfl) ?_
    refine lv_iload hx hb dX9_behind_44 (lv_at hl 1 rfl) ?_
    obtain ⟨I8, eI8, hf⟩ := lt_ok hf
    refine q_put (C := RX9) (T := TX9) (N := 42) (ci := 9) (v := .int (I4 0 18)) (x := (I4 0 18)) (ty := .int) hx hb hts in_X9_behind_X9 tyX9 tyX9_ok nmX9 hown hK hP hN hS (oX9 h0) rfl 18 (by decide) (hts (.fieldLink RX9 100 "RowsOnlyPrimesModel" "over" "I") (by decide +kernel)) (fun _ h9 => h9) rfl (by decide +kernel) rfl rfl (fun _ _ => rfl) (fun _ _ => Nat.le_of_ble_eq_true rfl) dX9_behind_46 (fun H locs hP hS => ?_)
    rw [← eI8] at hP
    refine lv_aload_n hx hb dX9_behind_49 rfl (lv_at hl 3 rfl) ?_
    refine q_get (C := RX9) (T := TX9) (N := 42) (ci := 9) (v := .int (I8 0 40)) hx hb hts in_X9_behind_X9 hown hK hP (oX9 h0) rfl 40 (by decide) (hts (.fieldLink RX9 325 "RowsOnlyPrimesModel" "wrongAt" "I") (by decide +kernel)) (fun _ h9 => h9) rfl dX9_behind_50 ?_
    refine lv_iconst (v := -1) hx hb dX9_behind_53 (by decide) ?_
    refine lv_icmp_eq (tgt := 67) hx hb dX9_behind_54 (by decide) (fun cc => ?_) (fun cc => ?_)
    · have hf := (if_ok hf).1 cc
      refine lv_iload_n hx hb dX9_behind_67 rfl (lv_at hl 6 rfl) ?_
      refine lv_if_ne (tgt := 76) hx hb dX9_behind_68 (by decide) (fun cc => ?_) (fun cc => ?_)
      · have hf := (if_ok hf).2 cc
        refine lv_aload_n hx hb dX9_behind_76 rfl (lv_at hl 3 rfl) ?_
        refine q_get (C := RX9) (T := TX9) (N := 42) (ci := 9) (v := .int (I8 0 41)) hx hb hts in_X9_behind_X9 hown hK hP (oX9 h0) rfl 41 (by decide) (hts (.fieldLink RX9 328 "RowsOnlyPrimesModel" "hired" "I") (by decide +kernel)) (fun _ h9 => h9) rfl dX9_behind_77 ?_
        have e9 := Option.some.inj hf
        have eI9 : I8 = Ie := (congrArg Prod.snd e9)
        exact W.iret hx hb hr (fun t ht _ => ⟨⟨_, (), rfl, (congrArg Prod.fst e9), by show qP D _ ad _ _ _ t.heap; rw [ht, ← eI9]; exact hP⟩, hS.F ht⟩) hS.2.2 dX9_behind_80
      · have hf := (if_ok hf).1 cc
        refine lv_iload hx hb dX9_behind_71 (lv_at hl 0 rfl) ?_
        refine lv_goto (tgt := 80) hx hb dX9_behind_73 (by decide) ?_
        have e9 := Option.some.inj hf
        have eI9 : I8 = Ie := (congrArg Prod.snd e9)
        exact W.iret hx hb hr (fun t ht _ => ⟨⟨_, (), rfl, (congrArg Prod.fst e9), by show qP D _ ad _ _ _ t.heap; rw [ht, ← eI9]; exact hP⟩, hS.F ht⟩) hS.2.2 dX9_behind_80
    · have hf := (if_ok hf).2 cc
      refine lv_aload_n hx hb dX9_behind_57 rfl (lv_at hl 3 rfl) ?_
      refine lv_sipush (v := -1005) hx hb dX9_behind_58 (by decide) ?_
      obtain ⟨v9, I10, h11, hf⟩ := bd2_ok hf
      refine q_cEi (va_runV (As := [.int (-1005 : Int32)]) (rest := []) ⟨hx, hb, hml, hown, hts⟩ (c_X9_refuse l (D := D) (ad := ad) (cy := cy) (sa := sa) (va := va) (I := I8) (J := J) (S := S) h0 (-1005 : Int32) h11) (cwV 1 hts gX9_behind_X9_refuse rfl rfl rfl (by decide +kernel) ⟨Nat.le_of_ble_eq_true rfl, Nat.le_of_ble_eq_true rfl⟩) ⟨qPre_blind _, q_recv hK hP (oX9 h0) rfl, fun U hU hW => ⟨rfl, qPre_of hP hK hE hN hS U hU hW⟩⟩ rfl rfl hl.1 rfl (lv_room (Nat.le_of_ble_eq_true rfl)) dX9_behind_61 ⟨Nat.le_of_ble_eq_true rfl, Nat.le_of_ble_eq_true rfl⟩) hS (fun H locs hP hS => ?_)
      refine lv_goto (tgt := 80) hx hb dX9_behind_64 (by decide) ?_
      have e9 := Option.some.inj hf
      have eI9 : I10 = Ie := (congrArg Prod.snd e9)
      exact W.iret hx hb hr (fun t ht _ => ⟨⟨_, (), rfl, (congrArg Prod.fst e9), by show qP D _ ad _ _ _ t.heap; rw [ht, ← eI9]; exact hP⟩, hS.F ht⟩) hS.2.2 dX9_behind_80
  · have hf := (if_ok hf).2 cc
    refine lv_iload hx hb dX9_behind_22 (lv_at hl 0 rfl) ?_
    have e9 := Option.some.inj hf
    have eI9 : I4 = Ie := (congrArg Prod.snd e9)
    exact W.iret hx hb hr (fun t ht _ => ⟨⟨_, (), rfl, (congrArg Prod.fst e9), by show qP D _ ad _ _ _ t.heap; rw [ht, ← eI9]; exact hP⟩, hS.F ht⟩) hS.2.2 dX9_behind_24
abbrev r_X9_crosses : Room := { frames := 0, cells := 0, slots := 0, locals := 0 }
theorem in_X9_crosses_X9 : ∀ w ∈ u_ws RX9 TX9 42, w ∈ wsX9_crosses := by decide +kernel
set_option maxHeartbeats 4000000 in
set_option maxRecDepth 100000 in
theorem c_X9_crosses (l : Launch) {D : va_G} {ad : Nat → Nat} {cy : Nat → ClassId} {sa va : Nat → Nat} {I : qI} {J : qJ} {S : Nat → Prop} (h0 : isM0 S)   (p0 : Int32) (p1 : Int32) {Ie : qI} (hf : f_X9_crosses p0 p1 I = some Ie) : Met l yX9_crosses wsX9_crosses r_X9_crosses (va_Pc [.ref (ad 0), .int p0, .int p1] (qPre D S ad cy sa va (eM ad cy) I J)) (va_Qv (S := Unit) (fun _ => True) (fun _ t => qP D S ad (eM ad cy) Ie J t.heap) (qA S ad)) 0 0 (qA S ad) := by
  refine Met.ofW (cc := cX9_crosses) (maxL := 3) (ret := none) (by decide) rfl ?_
  intro p e s m args below meth c s₁ B hml hv
  obtain ⟨rfl, hP, hK, hE, hN⟩ := hv
  have C : qC p s m _ meth c cX9_crosses 3 RX9 wsX9_crosses none := ⟨⟨B.exec, B.bytes, hml, findClass_of_methodNamed B.named, atoms_spec (ws := wsX9_crosses) B.pre⟩, B.returns, B.notSynchronized⟩
  have C0 := C
  obtain ⟨⟨hx, hb, hml, hown, hts⟩, hr, hlocks⟩ := C0
  have hS : va_S (qA S ad) s.heap s.heap [] := va_S.rf
  have hl := lv_entry ([.ref (ad 0), .int p0, .int p1]) (n := 3) (Nat.le_of_ble_eq_true rfl)
  rw [lg_entry_eq]
  generalize (lg_sl ([.ref (ad 0), .int p0, .int p1]) ++ List.replicate (3 - (lg_sl ([.ref (ad 0), .int p0, .int p1])).length) Slot.unset).toArray = ls at hl ⊢
  have hl : lv_has ls 3 [(0, .ref (ad 0)), (1, .int p0), (2, .int p1)] := hl
  unfold f_X9_crosses at hf
  refine lv_aload_n hx hb dX9_crosses_0 rfl (lv_at hl 0 rfl) ?_
  refine lv_dup hx hb dX9_crosses_1 rfl ?_
  refine q_get (C := RX9) (T := TX9) (N := 42) (ci := 9) (v := .int (I 0 18)) hx hb hts in_X9_crosses_X9 hown hK hP (oX9 h0) rfl 18 (by decide) (hts (.fieldLink RX9 100 "RowsOnlyPrimesModel" "over" "I") (by decide +kernel)) (fun _ h9 => h9) rfl dX9_crosses_2 ?_
  refine lv_iload_n hx hb dX9_crosses_5 rfl (lv_at hl 1 rfl) ?_
  refine lv_ior hx hb dX9_crosses_6 ?_
  obtain ⟨I1, eI1, hf⟩ := lt_ok hf
  refine q_put (C := RX9) (T := TX9) (N := 42) (ci := 9) (v := .int ((I 0 18) ||| p0)) (x := ((I 0 18) ||| p0)) (ty := .int) hx hb hts in_X9_crosses_X9 tyX9 tyX9_ok nmX9 hown hK hP hN hS (oX9 h0) rfl 18 (by decide) (hts (.fieldLink RX9 100 "RowsOnlyPrimesModel" "over" "I") (by decide +kernel)) (fun _ h9 => h9) rfl (by decide +kernel) rfl rfl (fun _ _ => rfl) (fun _ _ => Nat.le_of_ble_eq_true rfl) dX9_crosses_7 (fun H locs hP hS => ?_)
  rw [← eI1] at hP
  refine lv_aload_n hx hb dX9_crosses_10 rfl (lv_at hl 0 rfl) ?_
  refine lv_dup hx hb dX9_crosses_11 rfl ?_
  refine q_get (C := RX9) (T := TX9) (N := 42) (ci := 9) (v := .int (I1 0 16)) hx hb hts in_X9_crosses_X9 hown hK hP (oX9 h0) rfl 16 (by decide) (hts (.fieldLink RX9 334 "RowsOnlyPrimesModel" "crossings" "I") (by decide +kernel)) (fun _ h9 => h9) rfl dX9_crosses_12 ?_
  refine lv_iconst (v := 1) hx hb dX9_crosses_15 (by decide) ?_
  refine lv_iadd hx hb dX9_crosses_16 ?_
  obtain ⟨I2, eI2, hf⟩ := lt_ok hf
  refine q_put (C := RX9) (T := TX9) (N := 42) (ci := 9) (v := .int ((I1 0 16) + (1 : Int32))) (x := ((I1 0 16) + (1 : Int32))) (ty := .int) hx hb hts in_X9_crosses_X9 tyX9 tyX9_ok nmX9 hown hK hP hN hS (oX9 h0) rfl 16 (by decide) (hts (.fieldLink RX9 334 "RowsOnlyPrimesModel" "crossings" "I") (by decide +kernel)) (fun _ h9 => h9) rfl (by decide +kernel) rfl rfl (fun _ _ => rfl) (fun _ _ => Nat.le_of_ble_eq_true rfl) dX9_crosses_17 (fun H locs hP hS => ?_)
  rw [← eI2] at hP
  refine lv_aload_n hx hb dX9_crosses_20 rfl (lv_at hl 0 rfl) ?_
  refine lv_dup hx hb dX9_crosses_21 rfl ?_
  refine q_get (C := RX9) (T := TX9) (N := 42) (ci := 9) (v := .int (I2 0 15)) hx hb hts in_X9_crosses_X9 hown hK hP (oX9 h0) rfl 15 (by decide) (hts (.fieldLink RX9 337 "RowsOnlyPrimesModel" "paid" "I") (by decide +kernel)) (fun _ h9 => h9) rfl dX9_crosses_22 ?_
  refine lv_iload_n hx hb dX9_crosses_25 rfl (lv_at hl 2 rfl) ?_
  refine lv_aload_n hx hb dX9_crosses_26 rfl (lv_at hl 0 rfl) ?_
  refine q_get (C := RX9) (T := TX9) (N := 42) (ci := 9) (v := .int (I2 0 13)) hx hb hts in_X9_crosses_X9 hown hK hP (oX9 h0) rfl 13 (by decide) (hts (.fieldLink RX9 47 "RowsOnlyPrimesModel" "cost" "I") (by decide +kernel)) (fun _ h9 => h9) rfl dX9_crosses_27 ?_
  refine lv_imul hx hb dX9_crosses_30 ?_
  refine lv_iadd hx hb dX9_crosses_31 ?_
  obtain ⟨I3, eI3, hf⟩ := lt_ok hf
  refine q_put (C := RX9) (T := TX9) (N := 42) (ci := 9) (v := .int ((I2 0 15) + (p1 * (I2 0 13)))) (x := ((I2 0 15) + (p1 * (I2 0 13)))) (ty := .int) hx hb hts in_X9_crosses_X9 tyX9 tyX9_ok nmX9 hown hK hP hN hS (oX9 h0) rfl 15 (by decide) (hts (.fieldLink RX9 337 "RowsOnlyPrimesModel" "paid" "I") (by decide +kernel)) (fun _ h9 => h9) rfl (by decide +kernel) rfl rfl (fun _ _ => rfl) (fun _ _ => Nat.le_of_ble_eq_true rfl) dX9_crosses_32 (fun H locs hP hS => ?_)
  rw [← eI3] at hP
  refine lv_aload_n hx hb dX9_crosses_35 rfl (lv_at hl 0 rfl) ?_
  refine lv_dup hx hb dX9_crosses_36 rfl ?_
  refine q_get (C := RX9) (T := TX9) (N := 42) (ci := 9) (v := .int (I3 0 14)) hx hb hts in_X9_crosses_X9 hown hK hP (oX9 h0) rfl 14 (by decide) (hts (.fieldLink RX9 340 "RowsOnlyPrimesModel" "minutes" "I") (by decide +kernel)) (fun _ h9 => h9) rfl dX9_crosses_37 ?_
  refine lv_bipush (v := 20) hx hb dX9_crosses_40 (by decide) ?_
  refine lv_iadd hx hb dX9_crosses_42 ?_
  obtain ⟨I4, eI4, hf⟩ := lt_ok hf
  refine q_put (C := RX9) (T := TX9) (N := 42) (ci := 9) (v := .int ((I3 0 14) + (20 : Int32))) (x := ((I3 0 14) + (20 : Int32))) (ty := .int) hx hb hts in_X9_crosses_X9 tyX9 tyX9_ok nmX9 hown hK hP hN hS (oX9 h0) rfl 14 (by decide) (hts (.fieldLink RX9 340 "RowsOnlyPrimesModel" "minutes" "I") (by decide +kernel)) (fun _ h9 => h9) rfl (by decide +kernel) rfl rfl (fun _ _ => rfl) (fun _ _ => Nat.le_of_ble_eq_true rfl) dX9_crosses_43 (fun H locs hP hS => ?_)
  rw [← eI4] at hP
  have e9 := Option.some.inj hf
  have eI9 : I4 = Ie := e9
  exact W.vret hx hb hr (fun t ht _ => ⟨⟨(), rfl, trivial, by show qP D _ ad _ _ _ t.heap; rw [ht, ← eI9]; exact hP⟩, hS.F ht⟩) hS.2.2 dX9_crosses_46
abbrev r_X9_cross : Room := { frames := 4, cells := 0, slots := 0, locals := 93 }
set_option maxHeartbeats 4000000 in
set_option maxRecDepth 100000 in
theorem c_X9_cross (l : Launch) {D : va_G} {ad : Nat → Nat} {cy : Nat → ClassId} {sa va : Nat → Nat} {I : qI} {J : qJ} {S : Nat → Prop} (h0 : isM0 S)   (p0 : Int32) {r : Int32} {Ie : qI} (hf : f_X9_cross p0 I = some (r, Ie)) : Met l yX9_cross wsX9_cross r_X9_cross (va_Pc [.ref (ad 0), .int p0] (qPre D S ad cy sa va (eM ad cy) I J)) (va_Qi (S := Unit) (fun x _ => x = r) (fun _ t => qP D S ad (eM ad cy) Ie J t.heap) (qA S ad)) 0 0 (qA S ad) := by
  refine Met.ofW (cc := cX9_cross) (maxL := 3) (ret := (some .int)) (by decide) rfl ?_
  intro p e s m args below meth c s₁ B hml hv
  obtain ⟨rfl, hP, hK, hE, hN⟩ := hv
  have C : qC p s m _ meth c cX9_cross 3 RX9 wsX9_cross (some .int) := ⟨⟨B.exec, B.bytes, hml, findClass_of_methodNamed B.named, atoms_spec (ws := wsX9_cross) B.pre⟩, B.returns, B.notSynchronized⟩
  have C0 := C
  obtain ⟨⟨hx, hb, hml, hown, hts⟩, hr, hlocks⟩ := C0
  have hS : va_S (qA S ad) s.heap s.heap [] := va_S.rf
  have hl := lv_entry ([.ref (ad 0), .int p0]) (n := 3) (Nat.le_of_ble_eq_true rfl)
  rw [lg_entry_eq]
  generalize (lg_sl ([.ref (ad 0), .int p0]) ++ List.replicate (3 - (lg_sl ([.ref (ad 0), .int p0])).length) Slot.unset).toArray = ls at hl ⊢
  have hl : lv_has ls 3 [(0, .ref (ad 0)), (1, .int p0)] := hl
  unfold f_X9_cross at hf
  refine lv_aload_n hx hb dX9_cross_0 rfl (lv_at hl 0 rfl) ?_
  refine lv_iload_n hx hb dX9_cross_1 rfl (lv_at hl 1 rfl) ?_
  refine lv_i2l hx hb dX9_cross_2 rfl ?_
  obtain ⟨v1, h2, hf⟩ := bd_ok hf
  refine q_cSi (va_runV (As := [.long p0.toInt64]) (rest := []) ⟨hx, hb, hml, hown, hts⟩ (c_X9_isGroup l (D := D) (ad := ad) (cy := cy) (sa := sa) (va := va) (I := I) (J := J) (S := S) h0 p0.toInt64 h2) (cwV 1 hts gX9_cross_X9_isGroup rfl rfl rfl (by decide +kernel) ⟨Nat.le_of_ble_eq_true rfl, Nat.le_of_ble_eq_true rfl⟩) ⟨qPre_blind _, q_recv hK hP (oX9 h0) rfl, fun U hU hW => ⟨rfl, qPre_of hP hK hE hN hS U hU hW⟩⟩ rfl rfl hl.1 rfl (lv_room (Nat.le_of_ble_eq_true rfl)) dX9_cross_3 ⟨Nat.le_of_ble_eq_true rfl, Nat.le_of_ble_eq_true rfl⟩) ?_
  refine lv_if_ne (tgt := 17) hx hb dX9_cross_6 (by decide) (fun cc => ?_) (fun cc => ?_)
  · have hf := (if_ok hf).2 cc
    refine lv_aload_n hx hb dX9_cross_17 rfl (lv_at hl 0 rfl) ?_
    refine lv_iload_n hx hb dX9_cross_18 rfl (lv_at hl 1 rfl) ?_
    obtain ⟨v3, h4, hf⟩ := bd_ok hf
    refine q_cSi (va_runV (As := [.int p0]) (rest := []) ⟨hx, hb, hml, hown, hts⟩ (c_X9_hireOf l (D := D) (ad := ad) (cy := cy) (sa := sa) (va := va) (I := I) (J := J) (S := S) h0 p0 h4) (cwV 1 hts gX9_cross_X9_hireOf rfl rfl rfl (by decide +kernel) ⟨Nat.le_of_ble_eq_true rfl, Nat.le_of_ble_eq_true rfl⟩) ⟨qPre_blind _, q_recv hK hP (oX9 h0) rfl, fun U hU hW => ⟨rfl, qPre_of hP hK hE hN hS U hU hW⟩⟩ rfl rfl hl.1 rfl (lv_room (Nat.le_of_ble_eq_true rfl)) dX9_cross_19 ⟨Nat.le_of_ble_eq_true rfl, Nat.le_of_ble_eq_true rfl⟩) ?_
    refine lv_istore_n (lv' := [(2, .int v3), (0, .ref (ad 0)), (1, .int p0)]) hx hb dX9_cross_22 rfl hl (by decide) rfl (fun ls hl => ?_)
    refine lv_iload_n hx hb dX9_cross_23 rfl (lv_at hl 0 rfl) ?_
    refine lv_iconst (v := -1) hx hb dX9_cross_24 (by decide) ?_
    refine lv_icmp_ne (tgt := 36) hx hb dX9_cross_25 (by decide) (fun cc => ?_) (fun cc => ?_)
    · have hf := (if_ok hf).2 cc
      refine lv_aload_n hx hb dX9_cross_36 rfl (lv_at hl 1 rfl) ?_
      refine lv_iload_n hx hb dX9_cross_37 rfl (lv_at hl 2 rfl) ?_
      refine lv_iload_n hx hb dX9_cross_38 rfl (lv_at hl 0 rfl) ?_
      obtain ⟨I5, h6, hf⟩ := bd_ok hf
      refine q_cEv (va_runV (As := [.int p0, .int v3]) (rest := []) ⟨hx, hb, hml, hown, hts⟩ (c_X9_crosses l (D := D) (ad := ad) (cy := cy) (sa := sa) (va := va) (I := I) (J := J) (S := S) h0 p0 v3 h6) (cwV 2 hts gX9_cross_X9_crosses rfl rfl rfl (by decide +kernel) ⟨Nat.le_of_ble_eq_true rfl, Nat.le_of_ble_eq_true rfl⟩) ⟨qPre_blind _, q_recv hK hP (oX9 h0) rfl, fun U hU hW => ⟨rfl, qPre_of hP hK hE hN hS U hU hW⟩⟩ rfl rfl hl.1 rfl (lv_room (Nat.le_of_ble_eq_true rfl)) dX9_cross_39 ⟨Nat.le_of_ble_eq_true rfl, Nat.le_of_ble_eq_true rfl⟩) hS (fun H locs hP hS => ?_)
      refine lv_iload_n hx hb dX9_cross_42 rfl (lv_at hl 0 rfl) ?_
      have e9 := Option.some.inj hf
      have eI9 : I5 = Ie := (congrArg Prod.snd e9)
      exact W.iret hx hb hr (fun t ht _ => ⟨⟨_, (), rfl, (congrArg Prod.fst e9), by show qP D _ ad _ _ _ t.heap; rw [ht, ← eI9]; exact hP⟩, hS.F ht⟩) hS.2.2 dX9_cross_43
    · have hf := (if_ok hf).1 cc
      refine lv_aload_n hx hb dX9_cross_28 rfl (lv_at hl 1 rfl) ?_
      refine lv_sipush (v := -1005) hx hb dX9_cross_29 (by decide) ?_
      obtain ⟨v7, I8, h9, hf⟩ := bd2_ok hf
      refine q_cEi (va_runV (As := [.int (-1005 : Int32)]) (rest := []) ⟨hx, hb, hml, hown, hts⟩ (c_X9_refuse l (D := D) (ad := ad) (cy := cy) (sa := sa) (va := va) (I := I) (J := J) (S := S) h0 (-1005 : Int32) h9) (cwV 1 hts gX9_cross_X9_refuse rfl rfl rfl (by decide +kernel) ⟨Nat.le_of_ble_eq_true rfl, Nat.le_of_ble_eq_true rfl⟩) ⟨qPre_blind _, q_recv hK hP (oX9 h0) rfl, fun U hU hW => ⟨rfl, qPre_of hP hK hE hN hS U hU hW⟩⟩ rfl rfl hl.1 rfl (lv_room (Nat.le_of_ble_eq_true rfl)) dX9_cross_32 ⟨Nat.le_of_ble_eq_true rfl, Nat.le_of_ble_eq_true rfl⟩) hS (fun H locs hP hS => ?_)
      have e9 := Option.some.inj hf
      have eI9 : I8 = Ie := (congrArg Prod.snd e9)
      exact W.iret hx hb hr (fun t ht _ => ⟨⟨_, (), rfl, (congrArg Prod.fst e9), by show qP D _ ad _ _ _ t.heap; rw [ht, ← eI9]; exact hP⟩, hS.F ht⟩) hS.2.2 dX9_cross_35
  · have hf := (if_ok hf).1 cc
    refine lv_aload_n hx hb dX9_cross_9 rfl (lv_at hl 0 rfl) ?_
    refine lv_sipush (v := -1002) hx hb dX9_cross_10 (by decide) ?_
    obtain ⟨v10, I11, h12, hf⟩ := bd2_ok hf
    refine q_cEi (va_runV (As := [.int (-1002 : Int32)]) (rest := []) ⟨hx, hb, hml, hown, hts⟩ (c_X9_refuse l (D := D) (ad := ad) (cy := cy) (sa := sa) (va := va) (I := I) (J := J) (S := S) h0 (-1002 : Int32) h12) (cwV 1 hts gX9_cross_X9_refuse rfl rfl rfl (by decide +kernel) ⟨Nat.le_of_ble_eq_true rfl, Nat.le_of_ble_eq_true rfl⟩) ⟨qPre_blind _, q_recv hK hP (oX9 h0) rfl, fun U hU hW => ⟨rfl, qPre_of hP hK hE hN hS U hU hW⟩⟩ rfl rfl hl.1 rfl (lv_room (Nat.le_of_ble_eq_true rfl)) dX9_cross_13 ⟨Nat.le_of_ble_eq_true rfl, Nat.le_of_ble_eq_true rfl⟩) hS (fun H locs hP hS => ?_)
    have e9 := Option.some.inj hf
    have eI9 : I11 = Ie := (congrArg Prod.snd e9)
    exact W.iret hx hb hr (fun t ht _ => ⟨⟨_, (), rfl, (congrArg Prod.fst e9), by show qP D _ ad _ _ _ t.heap; rw [ht, ← eI9]; exact hP⟩, hS.F ht⟩) hS.2.2 dX9_cross_16
abbrev r_X9_goesBack : Room := { frames := 0, cells := 0, slots := 0, locals := 0 }
theorem in_X9_goesBack_X9 : ∀ w ∈ u_ws RX9 TX9 42, w ∈ wsX9_goesBack := by decide +kernel
set_option maxHeartbeats 4000000 in
set_option maxRecDepth 100000 in
theorem c_X9_goesBack (l : Launch) {D : va_G} {ad : Nat → Nat} {cy : Nat → ClassId} {sa va : Nat → Nat} {I : qI} {J : qJ} {S : Nat → Prop} (h0 : isM0 S)   (p0 : Int32) {Ie : qI} (hf : f_X9_goesBack p0 I = some Ie) : Met l yX9_goesBack wsX9_goesBack r_X9_goesBack (va_Pc [.ref (ad 0), .int p0] (qPre D S ad cy sa va (eM ad cy) I J)) (va_Qv (S := Unit) (fun _ => True) (fun _ t => qP D S ad (eM ad cy) Ie J t.heap) (qA S ad)) 0 0 (qA S ad) := by
  refine Met.ofW (cc := cX9_goesBack) (maxL := 2) (ret := none) (by decide) rfl ?_
  intro p e s m args below meth c s₁ B hml hv
  obtain ⟨rfl, hP, hK, hE, hN⟩ := hv
  have C : qC p s m _ meth c cX9_goesBack 2 RX9 wsX9_goesBack none := ⟨⟨B.exec, B.bytes, hml, findClass_of_methodNamed B.named, atoms_spec (ws := wsX9_goesBack) B.pre⟩, B.returns, B.notSynchronized⟩
  have C0 := C
  obtain ⟨⟨hx, hb, hml, hown, hts⟩, hr, hlocks⟩ := C0
  have hS : va_S (qA S ad) s.heap s.heap [] := va_S.rf
  have hl := lv_entry ([.ref (ad 0), .int p0]) (n := 2) (Nat.le_of_ble_eq_true rfl)
  rw [lg_entry_eq]
  generalize (lg_sl ([.ref (ad 0), .int p0]) ++ List.replicate (2 - (lg_sl ([.ref (ad 0), .int p0])).length) Slot.unset).toArray = ls at hl ⊢
  have hl : lv_has ls 2 [(0, .ref (ad 0)), (1, .int p0)] := hl
  unfold f_X9_goesBack at hf
  refine lv_aload_n hx hb dX9_goesBack_0 rfl (lv_at hl 0 rfl) ?_
  refine lv_dup hx hb dX9_goesBack_1 rfl ?_
  refine q_get (C := RX9) (T := TX9) (N := 42) (ci := 9) (v := .int (I 0 18)) hx hb hts in_X9_goesBack_X9 hown hK hP (oX9 h0) rfl 18 (by decide) (hts (.fieldLink RX9 100 "RowsOnlyPrimesModel" "over" "I") (by decide +kernel)) (fun _ h9 => h9) rfl dX9_goesBack_2 ?_
  refine lv_iconst (v := 1) hx hb dX9_goesBack_5 (by decide) ?_
  refine lv_iload_n hx hb dX9_goesBack_6 rfl (lv_at hl 1 rfl) ?_
  refine lv_ishl hx hb dX9_goesBack_7 ?_
  refine lv_iconst (v := -1) hx hb dX9_goesBack_8 (by decide) ?_
  refine lv_ixor hx hb dX9_goesBack_9 ?_
  refine lv_iand hx hb dX9_goesBack_10 ?_
  obtain ⟨I1, eI1, hf⟩ := lt_ok hf
  refine q_put (C := RX9) (T := TX9) (N := 42) (ci := 9) (v := .int ((I 0 18) &&& (((1 : Int32) <<< (p0 &&& (31 : Int32))) ^^^ (-1 : Int32)))) (x := ((I 0 18) &&& (((1 : Int32) <<< (p0 &&& (31 : Int32))) ^^^ (-1 : Int32)))) (ty := .int) hx hb hts in_X9_goesBack_X9 tyX9 tyX9_ok nmX9 hown hK hP hN hS (oX9 h0) rfl 18 (by decide) (hts (.fieldLink RX9 100 "RowsOnlyPrimesModel" "over" "I") (by decide +kernel)) (fun _ h9 => h9) rfl (by decide +kernel) rfl rfl (fun _ _ => rfl) (fun _ _ => Nat.le_of_ble_eq_true rfl) dX9_goesBack_11 (fun H locs hP hS => ?_)
  rw [← eI1] at hP
  refine lv_aload_n hx hb dX9_goesBack_14 rfl (lv_at hl 0 rfl) ?_
  refine lv_dup hx hb dX9_goesBack_15 rfl ?_
  refine q_get (C := RX9) (T := TX9) (N := 42) (ci := 9) (v := .int (I1 0 14)) hx hb hts in_X9_goesBack_X9 hown hK hP (oX9 h0) rfl 14 (by decide) (hts (.fieldLink RX9 340 "RowsOnlyPrimesModel" "minutes" "I") (by decide +kernel)) (fun _ h9 => h9) rfl dX9_goesBack_16 ?_
  refine lv_bipush (v := 20) hx hb dX9_goesBack_19 (by decide) ?_
  refine lv_iadd hx hb dX9_goesBack_21 ?_
  obtain ⟨I2, eI2, hf⟩ := lt_ok hf
  refine q_put (C := RX9) (T := TX9) (N := 42) (ci := 9) (v := .int ((I1 0 14) + (20 : Int32))) (x := ((I1 0 14) + (20 : Int32))) (ty := .int) hx hb hts in_X9_goesBack_X9 tyX9 tyX9_ok nmX9 hown hK hP hN hS (oX9 h0) rfl 14 (by decide) (hts (.fieldLink RX9 340 "RowsOnlyPrimesModel" "minutes" "I") (by decide +kernel)) (fun _ h9 => h9) rfl (by decide +kernel) rfl rfl (fun _ _ => rfl) (fun _ _ => Nat.le_of_ble_eq_true rfl) dX9_goesBack_22 (fun H locs hP hS => ?_)
  rw [← eI2] at hP
  have e9 := Option.some.inj hf
  have eI9 : I2 = Ie := e9
  exact W.vret hx hb hr (fun t ht _ => ⟨⟨(), rfl, trivial, by show qP D _ ad _ _ _ t.heap; rw [ht, ← eI9]; exact hP⟩, hS.F ht⟩) hS.2.2 dX9_goesBack_25
abbrev r_X9_comesBack : Room := { frames := 2, cells := 0, slots := 0, locals := 46 }
theorem in_X9_comesBack_X9 : ∀ w ∈ u_ws RX9 TX9 42, w ∈ wsX9_comesBack := by decide +kernel
set_option maxHeartbeats 4000000 in
set_option maxRecDepth 100000 in
theorem c_X9_comesBack (l : Launch) {D : va_G} {ad : Nat → Nat} {cy : Nat → ClassId} {sa va : Nat → Nat} {I : qI} {J : qJ} {S : Nat → Prop} (h0 : isM0 S)   (p0 : Int32) {r : Int32} {Ie : qI} (hf : f_X9_comesBack p0 I = some (r, Ie)) : Met l yX9_comesBack wsX9_comesBack r_X9_comesBack (va_Pc [.ref (ad 0), .int p0] (qPre D S ad cy sa va (eM ad cy) I J)) (va_Qi (S := Unit) (fun x _ => x = r) (fun _ t => qP D S ad (eM ad cy) Ie J t.heap) (qA S ad)) 0 0 (qA S ad) := by
  refine Met.ofW (cc := cX9_comesBack) (maxL := 2) (ret := (some .int)) (by decide) rfl ?_
  intro p e s m args below meth c s₁ B hml hv
  obtain ⟨rfl, hP, hK, hE, hN⟩ := hv
  have C : qC p s m _ meth c cX9_comesBack 2 RX9 wsX9_comesBack (some .int) := ⟨⟨B.exec, B.bytes, hml, findClass_of_methodNamed B.named, atoms_spec (ws := wsX9_comesBack) B.pre⟩, B.returns, B.notSynchronized⟩
  have C0 := C
  obtain ⟨⟨hx, hb, hml, hown, hts⟩, hr, hlocks⟩ := C0
  have hS : va_S (qA S ad) s.heap s.heap [] := va_S.rf
  have hl := lv_entry ([.ref (ad 0), .int p0]) (n := 2) (Nat.le_of_ble_eq_true rfl)
  rw [lg_entry_eq]
  generalize (lg_sl ([.ref (ad 0), .int p0]) ++ List.replicate (2 - (lg_sl ([.ref (ad 0), .int p0])).length) Slot.unset).toArray = ls at hl ⊢
  have hl : lv_has ls 2 [(0, .ref (ad 0)), (1, .int p0)] := hl
  unfold f_X9_comesBack at hf
  refine lv_aload_n hx hb dX9_comesBack_0 rfl (lv_at hl 0 rfl) ?_
  refine lv_iload_n hx hb dX9_comesBack_1 rfl (lv_at hl 1 rfl) ?_
  obtain ⟨v1, h2, hf⟩ := bd_ok hf
  refine q_cSi (va_runV (As := [.int p0]) (rest := []) ⟨hx, hb, hml, hown, hts⟩ (c_X9_isParty l (D := D) (ad := ad) (cy := cy) (sa := sa) (va := va) (I := I) (J := J) (S := S) h0 p0 h2) (cwV 1 hts gX9_comesBack_X9_isParty rfl rfl rfl (by decide +kernel) ⟨Nat.le_of_ble_eq_true rfl, Nat.le_of_ble_eq_true rfl⟩) ⟨qPre_blind _, q_recv hK hP (oX9 h0) rfl, fun U hU hW => ⟨rfl, qPre_of hP hK hE hN hS U hU hW⟩⟩ rfl rfl hl.1 rfl (lv_room (Nat.le_of_ble_eq_true rfl)) dX9_comesBack_2 ⟨Nat.le_of_ble_eq_true rfl, Nat.le_of_ble_eq_true rfl⟩) ?_
  refine lv_if_ne (tgt := 16) hx hb dX9_comesBack_5 (by decide) (fun cc => ?_) (fun cc => ?_)
  · have hf := (if_ok hf).2 cc
    refine lv_aload_n hx hb dX9_comesBack_16 rfl (lv_at hl 0 rfl) ?_
    refine lv_iload_n hx hb dX9_comesBack_17 rfl (lv_at hl 1 rfl) ?_
    obtain ⟨v3, h4, hf⟩ := bd_ok hf
    refine q_cSi (va_runV (As := [.int p0]) (rest := []) ⟨hx, hb, hml, hown, hts⟩ (c_X9_isOver l (D := D) (ad := ad) (cy := cy) (sa := sa) (va := va) (I := I) (J := J) (S := S) h0 p0 h4) (cwV 1 hts gX9_comesBack_X9_isOver rfl rfl rfl (by decide +kernel) ⟨Nat.le_of_ble_eq_true rfl, Nat.le_of_ble_eq_true rfl⟩) ⟨qPre_blind _, q_recv hK hP (oX9 h0) rfl, fun U hU hW => ⟨rfl, qPre_of hP hK hE hN hS U hU hW⟩⟩ rfl rfl hl.1 rfl (lv_room (Nat.le_of_ble_eq_true rfl)) dX9_comesBack_18 ⟨Nat.le_of_ble_eq_true rfl, Nat.le_of_ble_eq_true rfl⟩) ?_
    refine lv_if_ne (tgt := 32) hx hb dX9_comesBack_21 (by decide) (fun cc => ?_) (fun cc => ?_)
    · have hf := (if_ok hf).2 cc
      refine lv_aload_n hx hb dX9_comesBack_32 rfl (lv_at hl 0 rfl) ?_
      refine lv_iload_n hx hb dX9_comesBack_33 rfl (lv_at hl 1 rfl) ?_
      obtain ⟨I5, h6, hf⟩ := bd_ok hf
      refine q_cEv (va_runV (As := [.int p0]) (rest := []) ⟨hx, hb, hml, hown, hts⟩ (c_X9_goesBack l (D := D) (ad := ad) (cy := cy) (sa := sa) (va := va) (I := I) (J := J) (S := S) h0 p0 h6) (cwV 1 hts gX9_comesBack_X9_goesBack rfl rfl rfl (by decide +kernel) ⟨Nat.le_of_ble_eq_true rfl, Nat.le_of_ble_eq_true rfl⟩) ⟨qPre_blind _, q_recv hK hP (oX9 h0) rfl, fun U hU hW => ⟨rfl, qPre_of hP hK hE hN hS U hU hW⟩⟩ rfl rfl hl.1 rfl (lv_room (Nat.le_of_ble_eq_true rfl)) dX9_comesBack_34 ⟨Nat.le_of_ble_eq_true rfl, Nat.le_of_ble_eq_true rfl⟩) hS (fun H locs hP hS => ?_)
      refine lv_aload_n hx hb dX9_comesBack_37 rfl (lv_at hl 0 rfl) ?_
      refine q_get (C := RX9) (T := TX9) (N := 42) (ci := 9) (v := .int (I5 0 14)) hx hb hts in_X9_comesBack_X9 hown hK hP (oX9 h0) rfl 14 (by decide) (hts (.fieldLink RX9 340 "RowsOnlyPrimesModel" "minutes" "I") (by decide +kernel)) (fun _ h9 => h9) rfl dX9_comesBack_38 ?_
      have e9 := Option.some.inj hf
      have eI9 : I5 = Ie := (congrArg Prod.snd e9)
      exact W.iret hx hb hr (fun t ht _ => ⟨⟨_, (), rfl, (congrArg Prod.fst e9), by show qP D _ ad _ _ _ t.heap; rw [ht, ← eI9]; exact hP⟩, hS.F ht⟩) hS.2.2 dX9_comesBack_41
    · have hf := (if_ok hf).1 cc
      refine lv_aload_n hx hb dX9_comesBack_24 rfl (lv_at hl 0 rfl) ?_
      refine lv_sipush (v := -1005) hx hb dX9_comesBack_25 (by decide) ?_
      obtain ⟨v7, I8, h9, hf⟩ := bd2_ok hf
      refine q_cEi (va_runV (As := [.int (-1005 : Int32)]) (rest := []) ⟨hx, hb, hml, hown, hts⟩ (c_X9_refuse l (D := D) (ad := ad) (cy := cy) (sa := sa) (va := va) (I := I) (J := J) (S := S) h0 (-1005 : Int32) h9) (cwV 1 hts gX9_comesBack_X9_refuse rfl rfl rfl (by decide +kernel) ⟨Nat.le_of_ble_eq_true rfl, Nat.le_of_ble_eq_true rfl⟩) ⟨qPre_blind _, q_recv hK hP (oX9 h0) rfl, fun U hU hW => ⟨rfl, qPre_of hP hK hE hN hS U hU hW⟩⟩ rfl rfl hl.1 rfl (lv_room (Nat.le_of_ble_eq_true rfl)) dX9_comesBack_28 ⟨Nat.le_of_ble_eq_true rfl, Nat.le_of_ble_eq_true rfl⟩) hS (fun H locs hP hS => ?_)
      have e9 := Option.some.inj hf
      have eI9 : I8 = Ie := (congrArg Prod.snd e9)
      exact W.iret hx hb hr (fun t ht _ => ⟨⟨_, (), rfl, (congrArg Prod.fst e9), by show qP D _ ad _ _ _ t.heap; rw [ht, ← eI9]; exact hP⟩, hS.F ht⟩) hS.2.2 dX9_comesBack_31
  · have hf := (if_ok hf).1 cc
    refine lv_aload_n hx hb dX9_comesBack_8 rfl (lv_at hl 0 rfl) ?_
    refine lv_sipush (v := -1002) hx hb dX9_comesBack_9 (by decide) ?_
    obtain ⟨v10, I11, h12, hf⟩ := bd2_ok hf
    refine q_cEi (va_runV (As := [.int (-1002 : Int32)]) (rest := []) ⟨hx, hb, hml, hown, hts⟩ (c_X9_refuse l (D := D) (ad := ad) (cy := cy) (sa := sa) (va := va) (I := I) (J := J) (S := S) h0 (-1002 : Int32) h12) (cwV 1 hts gX9_comesBack_X9_refuse rfl rfl rfl (by decide +kernel) ⟨Nat.le_of_ble_eq_true rfl, Nat.le_of_ble_eq_true rfl⟩) ⟨qPre_blind _, q_recv hK hP (oX9 h0) rfl, fun U hU hW => ⟨rfl, qPre_of hP hK hE hN hS U hU hW⟩⟩ rfl rfl hl.1 rfl (lv_room (Nat.le_of_ble_eq_true rfl)) dX9_comesBack_12 ⟨Nat.le_of_ble_eq_true rfl, Nat.le_of_ble_eq_true rfl⟩) hS (fun H locs hP hS => ?_)
    have e9 := Option.some.inj hf
    have eI9 : I11 = Ie := (congrArg Prod.snd e9)
    exact W.iret hx hb hr (fun t ht _ => ⟨⟨_, (), rfl, (congrArg Prod.fst e9), by show qP D _ ad _ _ _ t.heap; rw [ht, ← eI9]; exact hP⟩, hS.F ht⟩) hS.2.2 dX9_comesBack_15
abbrev r_X9_below : Room := { frames := 0, cells := 0, slots := 0, locals := 0 }
theorem in_X9_below_X9 : ∀ w ∈ u_ws RX9 TX9 42, w ∈ wsX9_below := by decide +kernel
set_option maxHeartbeats 4000000 in
set_option maxRecDepth 100000 in
theorem c_X9_below (l : Launch) {D : va_G} {ad : Nat → Nat} {cy : Nat → ClassId} {sa va : Nat → Nat} {I : qI} {J : qJ} {S : Nat → Prop} (h0 : isM0 S)   (p0 : Int32) {r : Int32} {Ie : qI} (hf : f_X9_below p0 I = some (r, Ie)) : Met l yX9_below wsX9_below r_X9_below (va_Pc [.ref (ad 0), .int p0] (qPre D S ad cy sa va (eM ad cy) I J)) (va_Qi (S := Unit) (fun x _ => x = r) (fun _ t => qP D S ad (eM ad cy) Ie J t.heap) (qA S ad)) 0 0 (qA S ad) := by
  refine Met.ofW (cc := cX9_below) (maxL := 2) (ret := (some .int)) (by decide) rfl ?_
  intro p e s m args below meth c s₁ B hml hv
  obtain ⟨rfl, hP, hK, hE, hN⟩ := hv
  have C : qC p s m _ meth c cX9_below 2 RX9 wsX9_below (some .int) := ⟨⟨B.exec, B.bytes, hml, findClass_of_methodNamed B.named, atoms_spec (ws := wsX9_below) B.pre⟩, B.returns, B.notSynchronized⟩
  have C0 := C
  obtain ⟨⟨hx, hb, hml, hown, hts⟩, hr, hlocks⟩ := C0
  have hS : va_S (qA S ad) s.heap s.heap [] := va_S.rf
  have hl := lv_entry ([.ref (ad 0), .int p0]) (n := 2) (Nat.le_of_ble_eq_true rfl)
  rw [lg_entry_eq]
  generalize (lg_sl ([.ref (ad 0), .int p0]) ++ List.replicate (2 - (lg_sl ([.ref (ad 0), .int p0])).length) Slot.unset).toArray = ls at hl ⊢
  have hl : lv_has ls 2 [(0, .ref (ad 0)), (1, .int p0)] := hl
  unfold f_X9_below at hf
  refine lv_aload_n hx hb dX9_below_0 rfl (lv_at hl 0 rfl) ?_
  refine lv_aload_n hx hb dX9_below_1 rfl (lv_at hl 0 rfl) ?_
  refine q_get (C := RX9) (T := TX9) (N := 42) (ci := 9) (v := .int (I 0 25)) hx hb hts in_X9_below_X9 hown hK hP (oX9 h0) rfl 25 (by decide) (hts (.fieldLink RX9 68 "RowsOnlyPrimesModel" "seed" "I") (by decide +kernel)) (fun _ h9 => h9) rfl dX9_below_2 ?_
  refine lv_ldcw (own := RX9) (v := 1103515245) hx hb hown (hts (.constant RX9 350 (1103515245)) (by decide +kernel)) dX9_below_5 ?_
  refine lv_imul hx hb dX9_below_8 ?_
  refine lv_sipush (v := 12345) hx hb dX9_below_9 (by decide) ?_
  refine lv_iadd hx hb dX9_below_12 ?_
  obtain ⟨I1, eI1, hf⟩ := lt_ok hf
  refine q_put (C := RX9) (T := TX9) (N := 42) (ci := 9) (v := .int (((I 0 25) * (1103515245 : Int32)) + (12345 : Int32))) (x := (((I 0 25) * (1103515245 : Int32)) + (12345 : Int32))) (ty := .int) hx hb hts in_X9_below_X9 tyX9 tyX9_ok nmX9 hown hK hP hN hS (oX9 h0) rfl 25 (by decide) (hts (.fieldLink RX9 68 "RowsOnlyPrimesModel" "seed" "I") (by decide +kernel)) (fun _ h9 => h9) rfl (by decide +kernel) rfl rfl (fun _ _ => rfl) (fun _ _ => Nat.le_of_ble_eq_true rfl) dX9_below_13 (fun H locs hP hS => ?_)
  rw [← eI1] at hP
  refine lv_aload_n hx hb dX9_below_16 rfl (lv_at hl 0 rfl) ?_
  refine q_get (C := RX9) (T := TX9) (N := 42) (ci := 9) (v := .int (I1 0 25)) hx hb hts in_X9_below_X9 hown hK hP (oX9 h0) rfl 25 (by decide) (hts (.fieldLink RX9 68 "RowsOnlyPrimesModel" "seed" "I") (by decide +kernel)) (fun _ h9 => h9) rfl dX9_below_17 ?_
  refine lv_bipush (v := 16) hx hb dX9_below_20 (by decide) ?_
  refine lv_iushr hx hb dX9_below_22 rfl ?_
  refine lv_iload_n hx hb dX9_below_23 rfl (lv_at hl 1 rfl) ?_
  obtain ⟨g2, hf⟩ := gd_ok hf
  refine lv_irem hx hb dX9_below_24 g2 ?_
  have e9 := Option.some.inj hf
  have eI9 : I1 = Ie := (congrArg Prod.snd e9)
  exact W.iret hx hb hr (fun t ht _ => ⟨⟨_, (), rfl, (congrArg Prod.fst e9), by show qP D _ ad _ _ _ t.heap; rw [ht, ← eI9]; exact hP⟩, hS.F ht⟩) hS.2.2 dX9_below_25
abbrev r_X9_goesDay : Room := { frames := 4, cells := 0, slots := 0, locals := 93 }
theorem in_X9_goesDay_X9 : ∀ w ∈ u_ws RX9 TX9 42, w ∈ wsX9_goesDay := by decide +kernel
set_option maxHeartbeats 4000000 in
set_option maxRecDepth 100000 in
theorem w_X9_goesDay_87 {S : Nat → Prop} (C : qC p s m args meth c cX9_goesDay 4 RX9 wsX9_goesDay (some .boolean)) (hK : qK D cy sa s) (hE : qEnv sa va (qA S ad) s s.heap) (hN : qN S ad) (h0 : isM0 S)   {J : qJ} {r : Int32} {Ie : qI} : ∀ (x2 : Int32)  (I : qI) (ls : Array Slot) (H : Heap) (locs : List Loc), f_X9_goesDay_87 x2 I = some (r, Ie) → lv_has ls 4 [(0, .ref (ad 0)), (2, .int x2)] → qP D S ad (eM ad cy) I J H → va_S (qA S ad) s.heap H locs → W p l e (headSpec wsX9_goesDay r_X9_goesDay).room s m args below meth c H locs 0 0 (MQ below (va_Qi (S := Unit) (fun x _ => x = r) (fun _ t => qP D S ad (eM ad cy) Ie J t.heap) (qA S ad)) args s 0 0 (qA S ad)) (F0 m 87 ls []) := by
  have C0 := C
  obtain ⟨⟨hx, hb, hml, hown, hts⟩, hr, hlocks⟩ := C0
  intro x2 I ls H locs hf hl hP hS
  unfold f_X9_goesDay_87 at hf
  refine lv_aload_n hx hb dX9_goesDay_87 rfl (lv_at hl 0 rfl) ?_
  refine lv_dup hx hb dX9_goesDay_88 rfl ?_
  refine q_get (C := RX9) (T := TX9) (N := 42) (ci := 9) (v := .int (I 0 14)) hx hb hts in_X9_goesDay_X9 hown hK hP (oX9 h0) rfl 14 (by decide) (hts (.fieldLink RX9 340 "RowsOnlyPrimesModel" "minutes" "I") (by decide +kernel)) (fun _ h9 => h9) rfl dX9_goesDay_89 ?_
  refine lv_bipush (v := 60) hx hb dX9_goesDay_92 (by decide) ?_
  refine lv_iadd hx hb dX9_goesDay_94 ?_
  obtain ⟨I1, eI1, hf⟩ := lt_ok hf
  refine q_put (C := RX9) (T := TX9) (N := 42) (ci := 9) (v := .int ((I 0 14) + (60 : Int32))) (x := ((I 0 14) + (60 : Int32))) (ty := .int) hx hb hts in_X9_goesDay_X9 tyX9 tyX9_ok nmX9 hown hK hP hN hS (oX9 h0) rfl 14 (by decide) (hts (.fieldLink RX9 340 "RowsOnlyPrimesModel" "minutes" "I") (by decide +kernel)) (fun _ h9 => h9) rfl (by decide +kernel) rfl rfl (fun _ _ => rfl) (fun _ _ => Nat.le_of_ble_eq_true rfl) dX9_goesDay_95 (fun H locs hP hS => ?_)
  rw [← eI1] at hP
  refine lv_iload_n hx hb dX9_goesDay_98 rfl (lv_at hl 1 rfl) ?_
  refine lv_iconst (v := -1) hx hb dX9_goesDay_99 (by decide) ?_
  refine lv_icmp_eq (tgt := 107) hx hb dX9_goesDay_100 (by decide) (fun cc => ?_) (fun cc => ?_)
  · have hf := (if_ok hf).1 cc
    refine lv_iconst (v := 0) hx hb dX9_goesDay_107 (by decide) ?_
    have e9 := Option.some.inj hf
    have eI9 : I1 = Ie := (congrArg Prod.snd e9)
    exact W.zret (ty := .boolean) hx hb hr rfl (fun t ht _ => ⟨⟨_, (), rfl, (congrArg Prod.fst e9), by show qP D _ ad _ _ _ t.heap; rw [ht, ← eI9]; exact hP⟩, hS.F ht⟩) hS.2.2 dX9_goesDay_108
  · have hf := (if_ok hf).2 cc
    refine lv_iconst (v := 1) hx hb dX9_goesDay_103 (by decide) ?_
    refine lv_goto (tgt := 108) hx hb dX9_goesDay_104 (by decide) ?_
    have e9 := Option.some.inj hf
    have eI9 : I1 = Ie := (congrArg Prod.snd e9)
    exact W.zret (ty := .boolean) hx hb hr rfl (fun t ht _ => ⟨⟨_, (), rfl, (congrArg Prod.fst e9), by show qP D _ ad _ _ _ t.heap; rw [ht, ← eI9]; exact hP⟩, hS.F ht⟩) hS.2.2 dX9_goesDay_108
set_option maxHeartbeats 4000000 in
set_option maxRecDepth 100000 in
theorem w_X9_goesDay_4 {S : Nat → Prop} (C : qC p s m args meth c cX9_goesDay 4 RX9 wsX9_goesDay (some .boolean)) (hK : qK D cy sa s) (hE : qEnv sa va (qA S ad) s s.heap) (hN : qN S ad) (h0 : isM0 S)   {J : qJ} {r : Int32} {Ie : qI} : ∀ (n : Nat) (x1 : Int32) (x2 : Int32)  (I : qI) (ls : Array Slot) (H : Heap) (locs : List Loc), f_X9_goesDay_4 n x1 x2 I = some (r, Ie) → lv_has ls 4 [(0, .ref (ad 0)), (1, .int x1), (2, .int x2)] → qP D S ad (eM ad cy) I J H → va_S (qA S ad) s.heap H locs → W p l e (headSpec wsX9_goesDay r_X9_goesDay).room s m args below meth c H locs 0 0 (MQ below (va_Qi (S := Unit) (fun x _ => x = r) (fun _ t => qP D S ad (eM ad cy) Ie J t.heap) (qA S ad)) args s 0 0 (qA S ad)) (F0 m 4 ls []) := by
  have C0 := C
  obtain ⟨⟨hx, hb, hml, hown, hts⟩, hr, hlocks⟩ := C0
  intro n
  induction n with
  | zero =>
    intro x1 x2 I ls H locs hf hl hP hS
    rw [f_X9_goesDay_4] at hf
    cases hf
  | succ n ih =>
    intro x1 x2 I ls H locs hf hl hP hS
    rw [f_X9_goesDay_4] at hf
    refine lv_iload_n hx hb dX9_goesDay_4 rfl (lv_at hl 2 rfl) ?_
    refine lv_aload_n hx hb dX9_goesDay_5 rfl (lv_at hl 0 rfl) ?_
    refine q_get (C := RX9) (T := TX9) (N := 42) (ci := 9) (v := .int (I 0 17)) hx hb hts in_X9_goesDay_X9 hown hK hP (oX9 h0) rfl 17 (by decide) (hts (.fieldLink RX9 93 "RowsOnlyPrimesModel" "parties" "I") (by decide +kernel)) (fun _ h9 => h9) rfl dX9_goesDay_6 ?_
    refine lv_icmp_ge (tgt := 45) hx hb dX9_goesDay_9 (by decide) (fun cc => ?_) (fun cc => ?_)
    · have hf := (if_ok hf).1 cc
      refine lv_aload_n hx hb dX9_goesDay_45 rfl (lv_at hl 0 rfl) ?_
      refine lv_iload_n hx hb dX9_goesDay_46 rfl (lv_at hl 1 rfl) ?_
      obtain ⟨v1, h2, hf⟩ := bd_ok hf
      refine q_cSi (va_runV (As := [.int x1]) (rest := []) ⟨hx, hb, hml, hown, hts⟩ (c_X9_hireOf l (D := D) (ad := ad) (cy := cy) (sa := sa) (va := va) (I := I) (J := J) (S := S) h0 x1 h2) (cwV 1 hts gX9_goesDay_X9_hireOf rfl rfl rfl (by decide +kernel) ⟨Nat.le_of_ble_eq_true rfl, Nat.le_of_ble_eq_true rfl⟩) ⟨qPre_blind _, q_recv hK hP (oX9 h0) rfl, fun U hU hW => ⟨rfl, qPre_of hP hK hE hN hS U hU hW⟩⟩ rfl rfl hl.1 rfl (lv_room (Nat.le_of_ble_eq_true rfl)) dX9_goesDay_47 ⟨Nat.le_of_ble_eq_true rfl, Nat.le_of_ble_eq_true rfl⟩) ?_
      refine lv_istore_n (lv' := [(2, .int v1), (0, .ref (ad 0)), (1, .int x1)]) hx hb dX9_goesDay_50 rfl hl (by decide) rfl (fun ls hl => ?_)
      refine lv_iload_n hx hb dX9_goesDay_51 rfl (lv_at hl 0 rfl) ?_
      refine lv_iconst (v := -1) hx hb dX9_goesDay_52 (by decide) ?_
      refine lv_icmp_eq (tgt := 65) hx hb dX9_goesDay_53 (by decide) (fun cc => ?_) (fun cc => ?_)
      · have hf := (if_ok hf).1 cc
        refine lv_aload_n hx hb dX9_goesDay_65 rfl (lv_at hl 1 rfl) ?_
        refine lv_aload_n hx hb dX9_goesDay_66 rfl (lv_at hl 1 rfl) ?_
        refine q_get (C := RX9) (T := TX9) (N := 42) (ci := 9) (v := .int (I 0 17)) hx hb hts in_X9_goesDay_X9 hown hK hP (oX9 h0) rfl 17 (by decide) (hts (.fieldLink RX9 93 "RowsOnlyPrimesModel" "parties" "I") (by decide +kernel)) (fun _ h9 => h9) rfl dX9_goesDay_67 ?_
        obtain ⟨v3, I4, h5, hf⟩ := bd2_ok hf
        refine q_cEi (va_runV (As := [.int (I 0 17)]) (rest := []) ⟨hx, hb, hml, hown, hts⟩ (c_X9_below l (D := D) (ad := ad) (cy := cy) (sa := sa) (va := va) (I := I) (J := J) (S := S) h0 (I 0 17) h5) (cwV 1 hts gX9_goesDay_X9_below rfl rfl rfl (by decide +kernel) ⟨Nat.le_of_ble_eq_true rfl, Nat.le_of_ble_eq_true rfl⟩) ⟨qPre_blind _, q_recv hK hP (oX9 h0) rfl, fun U hU hW => ⟨rfl, qPre_of hP hK hE hN hS U hU hW⟩⟩ rfl rfl hl.1 rfl (lv_room (Nat.le_of_ble_eq_true rfl)) dX9_goesDay_70 ⟨Nat.le_of_ble_eq_true rfl, Nat.le_of_ble_eq_true rfl⟩) hS (fun H locs hP hS => ?_)
        refine lv_istore_n (lv' := [(3, .int v3), (2, .int v1), (0, .ref (ad 0)), (1, .int x1)]) hx hb dX9_goesDay_73 rfl hl (by decide) rfl (fun ls hl => ?_)
        refine lv_aload_n hx hb dX9_goesDay_74 rfl (lv_at hl 2 rfl) ?_
        refine lv_iload_n hx hb dX9_goesDay_75 rfl (lv_at hl 0 rfl) ?_
        obtain ⟨v6, h7, hf⟩ := bd_ok hf
        refine q_cSi (va_runV (As := [.int v3]) (rest := []) ⟨hx, hb, hml, hown, hts⟩ (c_X9_isOver l (D := D) (ad := ad) (cy := cy) (sa := sa) (va := va) (I := I4) (J := J) (S := S) h0 v3 h7) (cwV 1 hts gX9_goesDay_X9_isOver rfl rfl rfl (by decide +kernel) ⟨Nat.le_of_ble_eq_true rfl, Nat.le_of_ble_eq_true rfl⟩) ⟨qPre_blind _, q_recv hK hP (oX9 h0) rfl, fun U hU hW => ⟨rfl, qPre_of hP hK hE hN hS U hU hW⟩⟩ rfl rfl hl.1 rfl (lv_room (Nat.le_of_ble_eq_true rfl)) dX9_goesDay_76 ⟨Nat.le_of_ble_eq_true rfl, Nat.le_of_ble_eq_true rfl⟩) ?_
        refine lv_if_eq (tgt := 87) hx hb dX9_goesDay_79 (by decide) (fun cc => ?_) (fun cc => ?_)
        · have hf := (if_ok hf).1 cc
          exact w_X9_goesDay_87 C hK hE hN h0   v1 I4 _ _ _ hf (lv_sub hl [2, 1] rfl) hP hS
        · have hf := (if_ok hf).2 cc
          refine lv_aload_n hx hb dX9_goesDay_82 rfl (lv_at hl 2 rfl) ?_
          refine lv_iload_n hx hb dX9_goesDay_83 rfl (lv_at hl 0 rfl) ?_
          obtain ⟨I8, h9, hf⟩ := bd_ok hf
          refine q_cEv (va_runV (As := [.int v3]) (rest := []) ⟨hx, hb, hml, hown, hts⟩ (c_X9_goesBack l (D := D) (ad := ad) (cy := cy) (sa := sa) (va := va) (I := I4) (J := J) (S := S) h0 v3 h9) (cwV 1 hts gX9_goesDay_X9_goesBack rfl rfl rfl (by decide +kernel) ⟨Nat.le_of_ble_eq_true rfl, Nat.le_of_ble_eq_true rfl⟩) ⟨qPre_blind _, q_recv hK hP (oX9 h0) rfl, fun U hU hW => ⟨rfl, qPre_of hP hK hE hN hS U hU hW⟩⟩ rfl rfl hl.1 rfl (lv_room (Nat.le_of_ble_eq_true rfl)) dX9_goesDay_84 ⟨Nat.le_of_ble_eq_true rfl, Nat.le_of_ble_eq_true rfl⟩) hS (fun H locs hP hS => ?_)
          exact w_X9_goesDay_87 C hK hE hN h0   v1 I8 _ _ _ hf (lv_sub hl [2, 1] rfl) hP hS
      · have hf := (if_ok hf).2 cc
        refine lv_aload_n hx hb dX9_goesDay_56 rfl (lv_at hl 1 rfl) ?_
        refine lv_iload_n hx hb dX9_goesDay_57 rfl (lv_at hl 2 rfl) ?_
        refine lv_iload_n hx hb dX9_goesDay_58 rfl (lv_at hl 0 rfl) ?_
        obtain ⟨I10, h11, hf⟩ := bd_ok hf
        refine q_cEv (va_runV (As := [.int x1, .int v1]) (rest := []) ⟨hx, hb, hml, hown, hts⟩ (c_X9_crosses l (D := D) (ad := ad) (cy := cy) (sa := sa) (va := va) (I := I) (J := J) (S := S) h0 x1 v1 h11) (cwV 2 hts gX9_goesDay_X9_crosses rfl rfl rfl (by decide +kernel) ⟨Nat.le_of_ble_eq_true rfl, Nat.le_of_ble_eq_true rfl⟩) ⟨qPre_blind _, q_recv hK hP (oX9 h0) rfl, fun U hU hW => ⟨rfl, qPre_of hP hK hE hN hS U hU hW⟩⟩ rfl rfl hl.1 rfl (lv_room (Nat.le_of_ble_eq_true rfl)) dX9_goesDay_59 ⟨Nat.le_of_ble_eq_true rfl, Nat.le_of_ble_eq_true rfl⟩) hS (fun H locs hP hS => ?_)
        refine lv_goto (tgt := 87) hx hb dX9_goesDay_62 (by decide) ?_
        exact w_X9_goesDay_87 C hK hE hN h0   v1 I10 _ _ _ hf (lv_sub hl [1, 0] rfl) hP hS
    · have hf := (if_ok hf).2 cc
      refine lv_aload_n hx hb dX9_goesDay_12 rfl (lv_at hl 0 rfl) ?_
      refine lv_iload_n hx hb dX9_goesDay_13 rfl (lv_at hl 2 rfl) ?_
      obtain ⟨v12, h13, hf⟩ := bd_ok hf
      refine q_cSi (va_runV (As := [.int x2]) (rest := []) ⟨hx, hb, hml, hown, hts⟩ (c_X9_isOver l (D := D) (ad := ad) (cy := cy) (sa := sa) (va := va) (I := I) (J := J) (S := S) h0 x2 h13) (cwV 1 hts gX9_goesDay_X9_isOver rfl rfl rfl (by decide +kernel) ⟨Nat.le_of_ble_eq_true rfl, Nat.le_of_ble_eq_true rfl⟩) ⟨qPre_blind _, q_recv hK hP (oX9 h0) rfl, fun U hU hW => ⟨rfl, qPre_of hP hK hE hN hS U hU hW⟩⟩ rfl rfl hl.1 rfl (lv_room (Nat.le_of_ble_eq_true rfl)) dX9_goesDay_14 ⟨Nat.le_of_ble_eq_true rfl, Nat.le_of_ble_eq_true rfl⟩) ?_
      refine lv_if_ne (tgt := 39) hx hb dX9_goesDay_17 (by decide) (fun cc => ?_) (fun cc => ?_)
      · have hf := (if_ok hf).2 cc
        refine lv_iinc (v := (x2 + (1 : Int32))) (lv' := [(2, .int (x2 + (1 : Int32))), (0, .ref (ad 0)), (1, .int x1)]) hx hb dX9_goesDay_39 hl (k := 2) rfl rfl (by decide) rfl (fun ls hl => ?_)
        refine lv_goto (tgt := 4) hx hb dX9_goesDay_42 (by decide) ?_
        exact ih x1 (x2 + (1 : Int32)) I _ _ _ hf (lv_sub hl [1, 2, 0] rfl) hP hS
      · have hf := (if_ok hf).1 cc
        refine lv_iload_n hx hb dX9_goesDay_20 rfl (lv_at hl 1 rfl) ?_
        refine lv_aload_n hx hb dX9_goesDay_21 rfl (lv_at hl 0 rfl) ?_
        refine lv_iconst (v := 2) hx hb dX9_goesDay_22 (by decide) ?_
        obtain ⟨v14, I15, h16, hf⟩ := bd2_ok hf
        refine q_cEi (va_runV (As := [.int (2 : Int32)]) (rest := [.int x1]) ⟨hx, hb, hml, hown, hts⟩ (c_X9_below l (D := D) (ad := ad) (cy := cy) (sa := sa) (va := va) (I := I) (J := J) (S := S) h0 (2 : Int32) h16) (cwV 1 hts gX9_goesDay_X9_below rfl rfl rfl (by decide +kernel) ⟨Nat.le_of_ble_eq_true rfl, Nat.le_of_ble_eq_true rfl⟩) ⟨qPre_blind _, q_recv hK hP (oX9 h0) rfl, fun U hU hW => ⟨rfl, qPre_of hP hK hE hN hS U hU hW⟩⟩ rfl rfl hl.1 rfl (lv_room (Nat.le_of_ble_eq_true rfl)) dX9_goesDay_23 ⟨Nat.le_of_ble_eq_true rfl, Nat.le_of_ble_eq_true rfl⟩) hS (fun H locs hP hS => ?_)
        refine lv_iconst (v := 1) hx hb dX9_goesDay_26 (by decide) ?_
        refine lv_icmp_ne (tgt := 36) hx hb dX9_goesDay_27 (by decide) (fun cc => ?_) (fun cc => ?_)
        · have hf := (if_ok hf).2 cc
          refine lv_iconst (v := 0) hx hb dX9_goesDay_36 (by decide) ?_
          refine lv_ior hx hb dX9_goesDay_37 ?_
          refine lv_istore_n (lv' := [(1, .int (x1 ||| (0 : Int32))), (0, .ref (ad 0)), (2, .int x2)]) hx hb dX9_goesDay_38 rfl hl (by decide) rfl (fun ls hl => ?_)
          refine lv_iinc (v := (x2 + (1 : Int32))) (lv' := [(2, .int (x2 + (1 : Int32))), (1, .int (x1 ||| (0 : Int32))), (0, .ref (ad 0))]) hx hb dX9_goesDay_39 hl (k := 2) rfl rfl (by decide) rfl (fun ls hl => ?_)
          refine lv_goto (tgt := 4) hx hb dX9_goesDay_42 (by decide) ?_
          exact ih (x1 ||| (0 : Int32)) (x2 + (1 : Int32)) I15 _ _ _ hf (lv_sub hl [2, 1, 0] rfl) hP hS
        · have hf := (if_ok hf).1 cc
          refine lv_iconst (v := 1) hx hb dX9_goesDay_30 (by decide) ?_
          refine lv_iload_n hx hb dX9_goesDay_31 rfl (lv_at hl 2 rfl) ?_
          refine lv_ishl hx hb dX9_goesDay_32 ?_
          refine lv_goto (tgt := 37) hx hb dX9_goesDay_33 (by decide) ?_
          refine lv_ior hx hb dX9_goesDay_37 ?_
          obtain ⟨v17, ev17, hf⟩ := lt_ok hf
          refine q_top ev17 ?_
          refine lv_istore_n (lv' := [(1, .int v17), (0, .ref (ad 0)), (2, .int x2)]) hx hb dX9_goesDay_38 rfl hl (by decide) rfl (fun ls hl => ?_)
          refine lv_iinc (v := (x2 + (1 : Int32))) (lv' := [(2, .int (x2 + (1 : Int32))), (1, .int v17), (0, .ref (ad 0))]) hx hb dX9_goesDay_39 hl (k := 2) rfl rfl (by decide) rfl (fun ls hl => ?_)
          refine lv_goto (tgt := 4) hx hb dX9_goesDay_42 (by decide) ?_
          exact ih v17 (x2 + (1 : Int32)) I15 _ _ _ hf (lv_sub hl [2, 1, 0] rfl) hP hS
set_option maxHeartbeats 4000000 in
set_option maxRecDepth 100000 in
theorem c_X9_goesDay (l : Launch) {D : va_G} {ad : Nat → Nat} {cy : Nat → ClassId} {sa va : Nat → Nat} {I : qI} {J : qJ} {S : Nat → Prop} (h0 : isM0 S)    {r : Int32} {Ie : qI} (hf : f_X9_goesDay I = some (r, Ie)) : Met l yX9_goesDay wsX9_goesDay r_X9_goesDay (va_Pc [.ref (ad 0)] (qPre D S ad cy sa va (eM ad cy) I J)) (va_Qi (S := Unit) (fun x _ => x = r) (fun _ t => qP D S ad (eM ad cy) Ie J t.heap) (qA S ad)) 0 0 (qA S ad) := by
  refine Met.ofW (cc := cX9_goesDay) (maxL := 4) (ret := (some .boolean)) (by decide) rfl ?_
  intro p e s m args below meth c s₁ B hml hv
  obtain ⟨rfl, hP, hK, hE, hN⟩ := hv
  have C : qC p s m _ meth c cX9_goesDay 4 RX9 wsX9_goesDay (some .boolean) := ⟨⟨B.exec, B.bytes, hml, findClass_of_methodNamed B.named, atoms_spec (ws := wsX9_goesDay) B.pre⟩, B.returns, B.notSynchronized⟩
  have C0 := C
  obtain ⟨⟨hx, hb, hml, hown, hts⟩, hr, hlocks⟩ := C0
  have hS : va_S (qA S ad) s.heap s.heap [] := va_S.rf
  have hl := lv_entry ([.ref (ad 0)]) (n := 4) (Nat.le_of_ble_eq_true rfl)
  rw [lg_entry_eq]
  generalize (lg_sl ([.ref (ad 0)]) ++ List.replicate (4 - (lg_sl ([.ref (ad 0)])).length) Slot.unset).toArray = ls at hl ⊢
  have hl : lv_has ls 4 [(0, .ref (ad 0))] := hl
  unfold f_X9_goesDay at hf
  refine lv_iconst (v := 0) hx hb dX9_goesDay_0 (by decide) ?_
  refine lv_istore_n (lv' := [(1, .int (0 : Int32)), (0, .ref (ad 0))]) hx hb dX9_goesDay_1 rfl hl (by decide) rfl (fun ls hl => ?_)
  refine lv_iconst (v := 0) hx hb dX9_goesDay_2 (by decide) ?_
  refine lv_istore_n (lv' := [(2, .int (0 : Int32)), (1, .int (0 : Int32)), (0, .ref (ad 0))]) hx hb dX9_goesDay_3 rfl hl (by decide) rfl (fun ls hl => ?_)
  exact w_X9_goesDay_4 C hK hE hN h0  1000 (0 : Int32) (0 : Int32) I _ _ _ hf (lv_sub hl [2, 1, 0] rfl) hP hS
end
