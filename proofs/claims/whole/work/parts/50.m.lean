/-! machine: X9_tellsOne X9_statement X9_readAll X9_isPrime X9_isSquare X9_goesNow X9_goes X9_next X9_before X9_numbers X9_left X9_ways X9_isGroup X9_headsTogether X9_maySit X9_hireUpTo X9_hireOf X9_partyOf (written by wip/gen/gen.py) -/
section
variable {p : Program} {l : Launch} {e : Env} {s : State} {m : MethodId} {args : Array Value} {below : List Frame} {meth : Method} {c : Code} {D : va_G} {ad : Nat → Nat} {cy : Nat → ClassId} {sa va : Nat → Nat}
abbrev r_X9_tellsOne : Room := { frames := 4, cells := 0, slots := 0, locals := 85 }
theorem in_X9_tellsOne_X9 : ∀ w ∈ u_ws RX9 TX9 42, w ∈ wsX9_tellsOne := by decide +kernel
set_option maxHeartbeats 4000000 in
set_option maxRecDepth 100000 in
theorem c_X9_tellsOne (l : Launch) {D : va_G} {ad : Nat → Nat} {cy : Nat → ClassId} {sa va : Nat → Nat} {I : qI} {J : qJ} {S : Nat → Prop} (h0 : isM0 S)   (p0 : Int32) (p1 : Int32) (p2 : Int32) {r : Int32} {Ie : qI} (hf : f_X9_tellsOne p0 p1 p2 I = some (r, Ie)) : Met l yX9_tellsOne wsX9_tellsOne r_X9_tellsOne (va_Pc [.ref (ad 0), .int p0, .int p1, .int p2] (qPre D S ad cy sa va (eM ad cy) I J)) (va_Qi (S := Unit) (fun x _ => x = r) (fun _ t => qP D S ad (eM ad cy) Ie J t.heap) (qA S ad)) 0 0 (qA S ad) := by
  refine Met.ofW (cc := cX9_tellsOne) (maxL := 5) (ret := (some .boolean)) (by decide) rfl ?_
  intro p e s m args below meth c s₁ B hml hv
  obtain ⟨rfl, hP, hK, hE, hN⟩ := hv
  have C : qC p s m _ meth c cX9_tellsOne 5 RX9 wsX9_tellsOne (some .boolean) := ⟨⟨B.exec, B.bytes, hml, findClass_of_methodNamed B.named, atoms_spec (ws := wsX9_tellsOne) B.pre⟩, B.returns, B.notSynchronized⟩
  have C0 := C
  obtain ⟨⟨hx, hb, hml, hown, hts⟩, hr, hlocks⟩ := C0
  have hS : va_S (qA S ad) s.heap s.heap [] := va_S.rf
  have hl := lv_entry ([.ref (ad 0), .int p0, .int p1, .int p2]) (n := 5) (Nat.le_of_ble_eq_true rfl)
  rw [lg_entry_eq]
  generalize (lg_sl ([.ref (ad 0), .int p0, .int p1, .int p2]) ++ List.replicate (5 - (lg_sl ([.ref (ad 0), .int p0, .int p1, .int p2])).length) Slot.unset).toArray = ls at hl ⊢
  have hl : lv_has ls 5 [(0, .ref (ad 0)), (1, .int p0), (2, .int p1), (3, .int p2)] := hl
  unfold f_X9_tellsOne at hf
  refine lv_aload_n hx hb dX9_tellsOne_0 rfl (lv_at hl 0 rfl) ?_
  refine lv_iload_n hx hb dX9_tellsOne_1 rfl (lv_at hl 2 rfl) ?_
  refine lv_iload_n hx hb dX9_tellsOne_2 rfl (lv_at hl 3 rfl) ?_
  obtain ⟨v1, I2, h3, hf⟩ := bd2_ok hf
  refine q_cEi (va_runV (As := [.int p1, .int p2]) (rest := []) ⟨hx, hb, hml, hown, hts⟩ (c_X9_tells l (D := D) (ad := ad) (cy := cy) (sa := sa) (va := va) (I := I) (J := J) (S := S) h0 p1 p2 h3) (cwV 2 hts gX9_tellsOne_X9_tells rfl rfl rfl (by decide +kernel) ⟨Nat.le_of_ble_eq_true rfl, Nat.le_of_ble_eq_true rfl⟩) ⟨qPre_blind _, q_recv hK hP (oX9 h0) rfl, fun U hU hW => ⟨rfl, qPre_of hP hK hE hN hS U hU hW⟩⟩ rfl rfl hl.1 rfl (lv_room (Nat.le_of_ble_eq_true rfl)) dX9_tellsOne_3 ⟨Nat.le_of_ble_eq_true rfl, Nat.le_of_ble_eq_true rfl⟩) hS (fun H locs hP hS => ?_)
  refine lv_istore (lv' := [(4, .int v1), (0, .ref (ad 0)), (1, .int p0), (2, .int p1), (3, .int p2)]) hx hb dX9_tellsOne_6 hl (by decide) rfl (fun ls hl => ?_)
  refine lv_iload hx hb dX9_tellsOne_8 (lv_at hl 0 rfl) ?_
  refine lv_if_eq (tgt := 25) hx hb dX9_tellsOne_10 (by decide) (fun cc => ?_) (fun cc => ?_)
  · have hf := (if_ok hf).1 cc
    refine lv_iload hx hb dX9_tellsOne_25 (lv_at hl 0 rfl) ?_
    obtain ⟨g4, hf⟩ := gd_ok hf
    have e9 := Option.some.inj hf
    have eI9 : I2 = Ie := (congrArg Prod.snd e9)
    exact W.zret (ty := .boolean) hx hb hr (q_narZ g4) (fun t ht _ => ⟨⟨_, (), rfl, (congrArg Prod.fst e9), by show qP D _ ad _ _ _ t.heap; rw [ht, ← eI9]; exact hP⟩, hS.F ht⟩) hS.2.2 dX9_tellsOne_27
  · have hf := (if_ok hf).2 cc
    refine lv_aload_n hx hb dX9_tellsOne_13 rfl (lv_at hl 1 rfl) ?_
    refine lv_iload_n hx hb dX9_tellsOne_14 rfl (lv_at hl 2 rfl) ?_
    refine lv_aload_n hx hb dX9_tellsOne_15 rfl (lv_at hl 1 rfl) ?_
    refine q_get (C := RX9) (T := TX9) (N := 42) (ci := 9) (v := .ref (ad 23)) hx hb hts in_X9_tellsOne_X9 hown hK hP (oX9 h0) rfl 33 (by decide) (hts (.fieldLink RX9 71 "RowsOnlyPrimesModel" "told" "[I") (by decide +kernel)) (fun _ h9 => h9) rfl dX9_tellsOne_16 ?_
    refine lv_iconst (v := 0) hx hb dX9_tellsOne_19 (by decide) ?_
    refine q_iald hx hb hK hP (a0X9_23 h0) (by decide) dX9_tellsOne_20 ?_
    refine q_top (y := (I2 23 0)) rfl ?_
    obtain ⟨v5, I6, h7, hf⟩ := bd2_ok hf
    refine q_cEi (va_runV (As := [.int p0, .int (I2 23 0)]) (rest := []) ⟨hx, hb, hml, hown, hts⟩ (c_X9_set_ l (D := D) (ad := ad) (cy := cy) (sa := sa) (va := va) (I := I2) (J := J) (S := S) h0 p0 (I2 23 0) h7) (cwV 2 hts gX9_tellsOne_X9_set_ rfl rfl rfl (by decide +kernel) ⟨Nat.le_of_ble_eq_true rfl, Nat.le_of_ble_eq_true rfl⟩) ⟨qPre_blind _, q_recv hK hP (oX9 h0) rfl, fun U hU hW => ⟨rfl, qPre_of hP hK hE hN hS U hU hW⟩⟩ rfl rfl hl.1 rfl (lv_room (Nat.le_of_ble_eq_true rfl)) dX9_tellsOne_21 ⟨Nat.le_of_ble_eq_true rfl, Nat.le_of_ble_eq_true rfl⟩) hS (fun H locs hP hS => ?_)
    refine lv_pop hx hb dX9_tellsOne_24 rfl ?_
    refine lv_iload hx hb dX9_tellsOne_25 (lv_at hl 0 rfl) ?_
    obtain ⟨g8, hf⟩ := gd_ok hf
    have e9 := Option.some.inj hf
    have eI9 : I6 = Ie := (congrArg Prod.snd e9)
    exact W.zret (ty := .boolean) hx hb hr (q_narZ g8) (fun t ht _ => ⟨⟨_, (), rfl, (congrArg Prod.fst e9), by show qP D _ ad _ _ _ t.heap; rw [ht, ← eI9]; exact hP⟩, hS.F ht⟩) hS.2.2 dX9_tellsOne_27
abbrev r_X9_statement : Room := { frames := 7, cells := 0, slots := 0, locals := 148 }
theorem in_X9_statement_X9 : ∀ w ∈ u_ws RX9 TX9 42, w ∈ wsX9_statement := by decide +kernel
set_option maxHeartbeats 4000000 in
set_option maxRecDepth 100000 in
theorem w_X9_statement_23 {S : Nat → Prop} (C : qC p s m args meth c cX9_statement 1 RX9 wsX9_statement (some .boolean)) (hK : qK D cy sa s) (hE : qEnv sa va (qA S ad) s s.heap) (hN : qN S ad) (h0 : isM0 S)   {J : qJ} {r : Int32} {Ie : qI} : ∀   (I : qI) (ls : Array Slot) (H : Heap) (locs : List Loc), f_X9_statement_23 I = some (r, Ie) → lv_has ls 1 [(0, .ref (ad 0))] → qP D S ad (eM ad cy) I J H → va_S (qA S ad) s.heap H locs → W p l e (headSpec wsX9_statement r_X9_statement).room s m args below meth c H locs 0 0 (MQ below (va_Qi (S := Unit) (fun x _ => x = r) (fun _ t => qP D S ad (eM ad cy) Ie J t.heap) (qA S ad)) args s 0 0 (qA S ad)) (F0 m 23 ls []) := by
  have C0 := C
  obtain ⟨⟨hx, hb, hml, hown, hts⟩, hr, hlocks⟩ := C0
  intro I ls H locs hf hl hP hS
  unfold f_X9_statement_23 at hf
  refine lv_aload_n hx hb dX9_statement_23 rfl (lv_at hl 0 rfl) ?_
  refine va_ldcS (own := RX9) (index := 218) (q := sa 1) hx hb hown (hK.2.2.2.2.1) dX9_statement_24 ?_
  obtain ⟨v1, h2, hf⟩ := bd_ok hf
  refine q_cSi (va_runV (As := [.ref (sa 1)]) (rest := []) ⟨hx, hb, hml, hown, hts⟩ (c_X9_isWord l (D := D) (ad := ad) (cy := cy) (sa := sa) (va := va) (I := I) (J := J) (S := S) h0 1 (by decide) h2) (cwV 1 hts gX9_statement_X9_isWord rfl rfl rfl (by decide +kernel) ⟨Nat.le_of_ble_eq_true rfl, Nat.le_of_ble_eq_true rfl⟩) ⟨qPre_blind _, q_recv hK hP (oX9 h0) rfl, fun U hU hW => ⟨rfl, qPre_of hP hK hE hN hS U hU hW⟩⟩ rfl rfl hl.1 rfl (lv_room (Nat.le_of_ble_eq_true rfl)) dX9_statement_26 ⟨Nat.le_of_ble_eq_true rfl, Nat.le_of_ble_eq_true rfl⟩) ?_
  refine lv_if_eq (tgt := 38) hx hb dX9_statement_29 (by decide) (fun cc => ?_) (fun cc => ?_)
  · have hf := (if_ok hf).1 cc
    refine lv_aload_n hx hb dX9_statement_38 rfl (lv_at hl 0 rfl) ?_
    refine va_ldcS (own := RX9) (index := 223) (q := sa 2) hx hb hown (hK.2.2.2.2.2.1) dX9_statement_39 ?_
    obtain ⟨v3, h4, hf⟩ := bd_ok hf
    refine q_cSi (va_runV (As := [.ref (sa 2)]) (rest := []) ⟨hx, hb, hml, hown, hts⟩ (c_X9_isWord l (D := D) (ad := ad) (cy := cy) (sa := sa) (va := va) (I := I) (J := J) (S := S) h0 2 (by decide) h4) (cwV 1 hts gX9_statement_X9_isWord rfl rfl rfl (by decide +kernel) ⟨Nat.le_of_ble_eq_true rfl, Nat.le_of_ble_eq_true rfl⟩) ⟨qPre_blind _, q_recv hK hP (oX9 h0) rfl, fun U hU hW => ⟨rfl, qPre_of hP hK hE hN hS U hU hW⟩⟩ rfl rfl hl.1 rfl (lv_room (Nat.le_of_ble_eq_true rfl)) dX9_statement_41 ⟨Nat.le_of_ble_eq_true rfl, Nat.le_of_ble_eq_true rfl⟩) ?_
    refine lv_if_eq (tgt := 53) hx hb dX9_statement_44 (by decide) (fun cc => ?_) (fun cc => ?_)
    · have hf := (if_ok hf).1 cc
      refine lv_aload_n hx hb dX9_statement_53 rfl (lv_at hl 0 rfl) ?_
      refine va_ldcS (own := RX9) (index := 225) (q := sa 3) hx hb hown (hK.2.2.2.2.2.2.1) dX9_statement_54 ?_
      obtain ⟨v5, h6, hf⟩ := bd_ok hf
      refine q_cSi (va_runV (As := [.ref (sa 3)]) (rest := []) ⟨hx, hb, hml, hown, hts⟩ (c_X9_isWord l (D := D) (ad := ad) (cy := cy) (sa := sa) (va := va) (I := I) (J := J) (S := S) h0 3 (by decide) h6) (cwV 1 hts gX9_statement_X9_isWord rfl rfl rfl (by decide +kernel) ⟨Nat.le_of_ble_eq_true rfl, Nat.le_of_ble_eq_true rfl⟩) ⟨qPre_blind _, q_recv hK hP (oX9 h0) rfl, fun U hU hW => ⟨rfl, qPre_of hP hK hE hN hS U hU hW⟩⟩ rfl rfl hl.1 rfl (lv_room (Nat.le_of_ble_eq_true rfl)) dX9_statement_56 ⟨Nat.le_of_ble_eq_true rfl, Nat.le_of_ble_eq_true rfl⟩) ?_
      refine lv_if_eq (tgt := 68) hx hb dX9_statement_59 (by decide) (fun cc => ?_) (fun cc => ?_)
      · have hf := (if_ok hf).1 cc
        refine lv_aload_n hx hb dX9_statement_68 rfl (lv_at hl 0 rfl) ?_
        refine va_ldcS (own := RX9) (index := 227) (q := sa 4) hx hb hown (hK.2.2.2.2.2.2.2.1) dX9_statement_69 ?_
        obtain ⟨v7, h8, hf⟩ := bd_ok hf
        refine q_cSi (va_runV (As := [.ref (sa 4)]) (rest := []) ⟨hx, hb, hml, hown, hts⟩ (c_X9_isWord l (D := D) (ad := ad) (cy := cy) (sa := sa) (va := va) (I := I) (J := J) (S := S) h0 4 (by decide) h8) (cwV 1 hts gX9_statement_X9_isWord rfl rfl rfl (by decide +kernel) ⟨Nat.le_of_ble_eq_true rfl, Nat.le_of_ble_eq_true rfl⟩) ⟨qPre_blind _, q_recv hK hP (oX9 h0) rfl, fun U hU hW => ⟨rfl, qPre_of hP hK hE hN hS U hU hW⟩⟩ rfl rfl hl.1 rfl (lv_room (Nat.le_of_ble_eq_true rfl)) dX9_statement_71 ⟨Nat.le_of_ble_eq_true rfl, Nat.le_of_ble_eq_true rfl⟩) ?_
        refine lv_if_eq (tgt := 86) hx hb dX9_statement_74 (by decide) (fun cc => ?_) (fun cc => ?_)
        · have hf := (if_ok hf).1 cc
          refine lv_aload_n hx hb dX9_statement_86 rfl (lv_at hl 0 rfl) ?_
          refine va_ldcS (own := RX9) (index := 231) (q := sa 5) hx hb hown (hK.2.2.2.2.2.2.2.2.1) dX9_statement_87 ?_
          obtain ⟨v9, h10, hf⟩ := bd_ok hf
          refine q_cSi (va_runV (As := [.ref (sa 5)]) (rest := []) ⟨hx, hb, hml, hown, hts⟩ (c_X9_isWord l (D := D) (ad := ad) (cy := cy) (sa := sa) (va := va) (I := I) (J := J) (S := S) h0 5 (by decide) h10) (cwV 1 hts gX9_statement_X9_isWord rfl rfl rfl (by decide +kernel) ⟨Nat.le_of_ble_eq_true rfl, Nat.le_of_ble_eq_true rfl⟩) ⟨qPre_blind _, q_recv hK hP (oX9 h0) rfl, fun U hU hW => ⟨rfl, qPre_of hP hK hE hN hS U hU hW⟩⟩ rfl rfl hl.1 rfl (lv_room (Nat.le_of_ble_eq_true rfl)) dX9_statement_89 ⟨Nat.le_of_ble_eq_true rfl, Nat.le_of_ble_eq_true rfl⟩) ?_
          refine lv_if_eq (tgt := 103) hx hb dX9_statement_92 (by decide) (fun cc => ?_) (fun cc => ?_)
          · have hf := (if_ok hf).1 cc
            refine lv_aload_n hx hb dX9_statement_103 rfl (lv_at hl 0 rfl) ?_
            refine va_ldcS (own := RX9) (index := 232) (q := sa 6) hx hb hown (hK.2.2.2.2.2.2.2.2.2.1) dX9_statement_104 ?_
            obtain ⟨v11, h12, hf⟩ := bd_ok hf
            refine q_cSi (va_runV (As := [.ref (sa 6)]) (rest := []) ⟨hx, hb, hml, hown, hts⟩ (c_X9_isWord l (D := D) (ad := ad) (cy := cy) (sa := sa) (va := va) (I := I) (J := J) (S := S) h0 6 (by decide) h12) (cwV 1 hts gX9_statement_X9_isWord rfl rfl rfl (by decide +kernel) ⟨Nat.le_of_ble_eq_true rfl, Nat.le_of_ble_eq_true rfl⟩) ⟨qPre_blind _, q_recv hK hP (oX9 h0) rfl, fun U hU hW => ⟨rfl, qPre_of hP hK hE hN hS U hU hW⟩⟩ rfl rfl hl.1 rfl (lv_room (Nat.le_of_ble_eq_true rfl)) dX9_statement_106 ⟨Nat.le_of_ble_eq_true rfl, Nat.le_of_ble_eq_true rfl⟩) ?_
            refine lv_if_eq (tgt := 120) hx hb dX9_statement_109 (by decide) (fun cc => ?_) (fun cc => ?_)
            · have hf := (if_ok hf).1 cc
              refine lv_aload_n hx hb dX9_statement_120 rfl (lv_at hl 0 rfl) ?_
              refine va_ldcS (own := RX9) (index := 233) (q := sa 7) hx hb hown (hK.2.2.2.2.2.2.2.2.2.2.1) dX9_statement_121 ?_
              obtain ⟨v13, h14, hf⟩ := bd_ok hf
              refine q_cSi (va_runV (As := [.ref (sa 7)]) (rest := []) ⟨hx, hb, hml, hown, hts⟩ (c_X9_isWord l (D := D) (ad := ad) (cy := cy) (sa := sa) (va := va) (I := I) (J := J) (S := S) h0 7 (by decide) h14) (cwV 1 hts gX9_statement_X9_isWord rfl rfl rfl (by decide +kernel) ⟨Nat.le_of_ble_eq_true rfl, Nat.le_of_ble_eq_true rfl⟩) ⟨qPre_blind _, q_recv hK hP (oX9 h0) rfl, fun U hU hW => ⟨rfl, qPre_of hP hK hE hN hS U hU hW⟩⟩ rfl rfl hl.1 rfl (lv_room (Nat.le_of_ble_eq_true rfl)) dX9_statement_123 ⟨Nat.le_of_ble_eq_true rfl, Nat.le_of_ble_eq_true rfl⟩) ?_
              refine lv_if_eq (tgt := 138) hx hb dX9_statement_126 (by decide) (fun cc => ?_) (fun cc => ?_)
              · have hf := (if_ok hf).1 cc
                refine lv_aload_n hx hb dX9_statement_138 rfl (lv_at hl 0 rfl) ?_
                refine va_ldcS (own := RX9) (index := 234) (q := sa 8) hx hb hown (hK.2.2.2.2.2.2.2.2.2.2.2) dX9_statement_139 ?_
                obtain ⟨v15, h16, hf⟩ := bd_ok hf
                refine q_cSi (va_runV (As := [.ref (sa 8)]) (rest := []) ⟨hx, hb, hml, hown, hts⟩ (c_X9_isWord l (D := D) (ad := ad) (cy := cy) (sa := sa) (va := va) (I := I) (J := J) (S := S) h0 8 (by decide) h16) (cwV 1 hts gX9_statement_X9_isWord rfl rfl rfl (by decide +kernel) ⟨Nat.le_of_ble_eq_true rfl, Nat.le_of_ble_eq_true rfl⟩) ⟨qPre_blind _, q_recv hK hP (oX9 h0) rfl, fun U hU hW => ⟨rfl, qPre_of hP hK hE hN hS U hU hW⟩⟩ rfl rfl hl.1 rfl (lv_room (Nat.le_of_ble_eq_true rfl)) dX9_statement_141 ⟨Nat.le_of_ble_eq_true rfl, Nat.le_of_ble_eq_true rfl⟩) ?_
                refine lv_if_eq (tgt := 156) hx hb dX9_statement_144 (by decide) (fun cc => ?_) (fun cc => ?_)
                · have hf := (if_ok hf).1 cc
                  refine lv_aload_n hx hb dX9_statement_156 rfl (lv_at hl 0 rfl) ?_
                  obtain ⟨v17, I18, h19, hf⟩ := bd2_ok hf
                  refine q_cEi (va_runV (As := []) (rest := []) ⟨hx, hb, hml, hown, hts⟩ (c_X9_wrong l (D := D) (ad := ad) (cy := cy) (sa := sa) (va := va) (I := I) (J := J) (S := S) h0  h19) (cwV 0 hts gX9_statement_X9_wrong rfl rfl rfl (by decide +kernel) ⟨Nat.le_of_ble_eq_true rfl, Nat.le_of_ble_eq_true rfl⟩) ⟨qPre_blind _, q_recv hK hP (oX9 h0) rfl, fun U hU hW => ⟨rfl, qPre_of hP hK hE hN hS U hU hW⟩⟩ rfl rfl hl.1 rfl (lv_room (Nat.le_of_ble_eq_true rfl)) dX9_statement_157 ⟨Nat.le_of_ble_eq_true rfl, Nat.le_of_ble_eq_true rfl⟩) hS (fun H locs hP hS => ?_)
                  obtain ⟨g20, hf⟩ := gd_ok hf
                  have e9 := Option.some.inj hf
                  have eI9 : I18 = Ie := (congrArg Prod.snd e9)
                  exact W.zret (ty := .boolean) hx hb hr (q_narZ g20) (fun t ht _ => ⟨⟨_, (), rfl, (congrArg Prod.fst e9), by show qP D _ ad _ _ _ t.heap; rw [ht, ← eI9]; exact hP⟩, hS.F ht⟩) hS.2.2 dX9_statement_160
                · have hf := (if_ok hf).2 cc
                  refine lv_aload_n hx hb dX9_statement_147 rfl (lv_at hl 0 rfl) ?_
                  refine lv_iconst (v := 4) hx hb dX9_statement_148 (by decide) ?_
                  refine lv_iconst (v := 0) hx hb dX9_statement_149 (by decide) ?_
                  refine lv_bipush (v := 9) hx hb dX9_statement_150 (by decide) ?_
                  obtain ⟨v21, I22, h23, hf⟩ := bd2_ok hf
                  refine q_cEi (va_runV (As := [.int (4 : Int32), .int (0 : Int32), .int (9 : Int32)]) (rest := []) ⟨hx, hb, hml, hown, hts⟩ (c_X9_tellsOne l (D := D) (ad := ad) (cy := cy) (sa := sa) (va := va) (I := I) (J := J) (S := S) h0 (4 : Int32) (0 : Int32) (9 : Int32) h23) (cwV 3 hts gX9_statement_X9_tellsOne rfl rfl rfl (by decide +kernel) ⟨Nat.le_of_ble_eq_true rfl, Nat.le_of_ble_eq_true rfl⟩) ⟨qPre_blind _, q_recv hK hP (oX9 h0) rfl, fun U hU hW => ⟨rfl, qPre_of hP hK hE hN hS U hU hW⟩⟩ rfl rfl hl.1 rfl (lv_room (Nat.le_of_ble_eq_true rfl)) dX9_statement_152 ⟨Nat.le_of_ble_eq_true rfl, Nat.le_of_ble_eq_true rfl⟩) hS (fun H locs hP hS => ?_)
                  obtain ⟨g24, hf⟩ := gd_ok hf
                  have e9 := Option.some.inj hf
                  have eI9 : I22 = Ie := (congrArg Prod.snd e9)
                  exact W.zret (ty := .boolean) hx hb hr (q_narZ g24) (fun t ht _ => ⟨⟨_, (), rfl, (congrArg Prod.fst e9), by show qP D _ ad _ _ _ t.heap; rw [ht, ← eI9]; exact hP⟩, hS.F ht⟩) hS.2.2 dX9_statement_155
              · have hf := (if_ok hf).2 cc
                refine lv_aload_n hx hb dX9_statement_129 rfl (lv_at hl 0 rfl) ?_
                refine lv_iconst (v := 3) hx hb dX9_statement_130 (by decide) ?_
                refine lv_iconst (v := 0) hx hb dX9_statement_131 (by decide) ?_
                refine lv_bipush (v := 9) hx hb dX9_statement_132 (by decide) ?_
                obtain ⟨v25, I26, h27, hf⟩ := bd2_ok hf
                refine q_cEi (va_runV (As := [.int (3 : Int32), .int (0 : Int32), .int (9 : Int32)]) (rest := []) ⟨hx, hb, hml, hown, hts⟩ (c_X9_tellsOne l (D := D) (ad := ad) (cy := cy) (sa := sa) (va := va) (I := I) (J := J) (S := S) h0 (3 : Int32) (0 : Int32) (9 : Int32) h27) (cwV 3 hts gX9_statement_X9_tellsOne rfl rfl rfl (by decide +kernel) ⟨Nat.le_of_ble_eq_true rfl, Nat.le_of_ble_eq_true rfl⟩) ⟨qPre_blind _, q_recv hK hP (oX9 h0) rfl, fun U hU hW => ⟨rfl, qPre_of hP hK hE hN hS U hU hW⟩⟩ rfl rfl hl.1 rfl (lv_room (Nat.le_of_ble_eq_true rfl)) dX9_statement_134 ⟨Nat.le_of_ble_eq_true rfl, Nat.le_of_ble_eq_true rfl⟩) hS (fun H locs hP hS => ?_)
                obtain ⟨g28, hf⟩ := gd_ok hf
                have e9 := Option.some.inj hf
                have eI9 : I26 = Ie := (congrArg Prod.snd e9)
                exact W.zret (ty := .boolean) hx hb hr (q_narZ g28) (fun t ht _ => ⟨⟨_, (), rfl, (congrArg Prod.fst e9), by show qP D _ ad _ _ _ t.heap; rw [ht, ← eI9]; exact hP⟩, hS.F ht⟩) hS.2.2 dX9_statement_137
            · have hf := (if_ok hf).2 cc
              refine lv_aload_n hx hb dX9_statement_112 rfl (lv_at hl 0 rfl) ?_
              refine lv_iconst (v := 2) hx hb dX9_statement_113 (by decide) ?_
              refine lv_iconst (v := 0) hx hb dX9_statement_114 (by decide) ?_
              refine lv_iconst (v := 3) hx hb dX9_statement_115 (by decide) ?_
              obtain ⟨v29, I30, h31, hf⟩ := bd2_ok hf
              refine q_cEi (va_runV (As := [.int (2 : Int32), .int (0 : Int32), .int (3 : Int32)]) (rest := []) ⟨hx, hb, hml, hown, hts⟩ (c_X9_tellsOne l (D := D) (ad := ad) (cy := cy) (sa := sa) (va := va) (I := I) (J := J) (S := S) h0 (2 : Int32) (0 : Int32) (3 : Int32) h31) (cwV 3 hts gX9_statement_X9_tellsOne rfl rfl rfl (by decide +kernel) ⟨Nat.le_of_ble_eq_true rfl, Nat.le_of_ble_eq_true rfl⟩) ⟨qPre_blind _, q_recv hK hP (oX9 h0) rfl, fun U hU hW => ⟨rfl, qPre_of hP hK hE hN hS U hU hW⟩⟩ rfl rfl hl.1 rfl (lv_room (Nat.le_of_ble_eq_true rfl)) dX9_statement_116 ⟨Nat.le_of_ble_eq_true rfl, Nat.le_of_ble_eq_true rfl⟩) hS (fun H locs hP hS => ?_)
              obtain ⟨g32, hf⟩ := gd_ok hf
              have e9 := Option.some.inj hf
              have eI9 : I30 = Ie := (congrArg Prod.snd e9)
              exact W.zret (ty := .boolean) hx hb hr (q_narZ g32) (fun t ht _ => ⟨⟨_, (), rfl, (congrArg Prod.fst e9), by show qP D _ ad _ _ _ t.heap; rw [ht, ← eI9]; exact hP⟩, hS.F ht⟩) hS.2.2 dX9_statement_119
          · have hf := (if_ok hf).2 cc
            refine lv_aload_n hx hb dX9_statement_95 rfl (lv_at hl 0 rfl) ?_
            refine lv_iconst (v := 1) hx hb dX9_statement_96 (by decide) ?_
            refine lv_iconst (v := 0) hx hb dX9_statement_97 (by decide) ?_
            refine lv_iconst (v := 3) hx hb dX9_statement_98 (by decide) ?_
            obtain ⟨v33, I34, h35, hf⟩ := bd2_ok hf
            refine q_cEi (va_runV (As := [.int (1 : Int32), .int (0 : Int32), .int (3 : Int32)]) (rest := []) ⟨hx, hb, hml, hown, hts⟩ (c_X9_tellsOne l (D := D) (ad := ad) (cy := cy) (sa := sa) (va := va) (I := I) (J := J) (S := S) h0 (1 : Int32) (0 : Int32) (3 : Int32) h35) (cwV 3 hts gX9_statement_X9_tellsOne rfl rfl rfl (by decide +kernel) ⟨Nat.le_of_ble_eq_true rfl, Nat.le_of_ble_eq_true rfl⟩) ⟨qPre_blind _, q_recv hK hP (oX9 h0) rfl, fun U hU hW => ⟨rfl, qPre_of hP hK hE hN hS U hU hW⟩⟩ rfl rfl hl.1 rfl (lv_room (Nat.le_of_ble_eq_true rfl)) dX9_statement_99 ⟨Nat.le_of_ble_eq_true rfl, Nat.le_of_ble_eq_true rfl⟩) hS (fun H locs hP hS => ?_)
            obtain ⟨g36, hf⟩ := gd_ok hf
            have e9 := Option.some.inj hf
            have eI9 : I34 = Ie := (congrArg Prod.snd e9)
            exact W.zret (ty := .boolean) hx hb hr (q_narZ g36) (fun t ht _ => ⟨⟨_, (), rfl, (congrArg Prod.fst e9), by show qP D _ ad _ _ _ t.heap; rw [ht, ← eI9]; exact hP⟩, hS.F ht⟩) hS.2.2 dX9_statement_102
        · have hf := (if_ok hf).2 cc
          refine lv_aload_n hx hb dX9_statement_77 rfl (lv_at hl 0 rfl) ?_
          refine lv_iconst (v := 0) hx hb dX9_statement_78 (by decide) ?_
          refine lv_iconst (v := 1) hx hb dX9_statement_79 (by decide) ?_
          refine lv_bipush (v := 99) hx hb dX9_statement_80 (by decide) ?_
          obtain ⟨v37, I38, h39, hf⟩ := bd2_ok hf
          refine q_cEi (va_runV (As := [.int (0 : Int32), .int (1 : Int32), .int (99 : Int32)]) (rest := []) ⟨hx, hb, hml, hown, hts⟩ (c_X9_tellsOne l (D := D) (ad := ad) (cy := cy) (sa := sa) (va := va) (I := I) (J := J) (S := S) h0 (0 : Int32) (1 : Int32) (99 : Int32) h39) (cwV 3 hts gX9_statement_X9_tellsOne rfl rfl rfl (by decide +kernel) ⟨Nat.le_of_ble_eq_true rfl, Nat.le_of_ble_eq_true rfl⟩) ⟨qPre_blind _, q_recv hK hP (oX9 h0) rfl, fun U hU hW => ⟨rfl, qPre_of hP hK hE hN hS U hU hW⟩⟩ rfl rfl hl.1 rfl (lv_room (Nat.le_of_ble_eq_true rfl)) dX9_statement_82 ⟨Nat.le_of_ble_eq_true rfl, Nat.le_of_ble_eq_true rfl⟩) hS (fun H locs hP hS => ?_)
          obtain ⟨g40, hf⟩ := gd_ok hf
          have e9 := Option.some.inj hf
          have eI9 : I38 = Ie := (congrArg Prod.snd e9)
          exact W.zret (ty := .boolean) hx hb hr (q_narZ g40) (fun t ht _ => ⟨⟨_, (), rfl, (congrArg Prod.fst e9), by show qP D _ ad _ _ _ t.heap; rw [ht, ← eI9]; exact hP⟩, hS.F ht⟩) hS.2.2 dX9_statement_85
      · have hf := (if_ok hf).2 cc
        refine lv_aload_n hx hb dX9_statement_62 rfl (lv_at hl 0 rfl) ?_
        refine lv_iconst (v := 0) hx hb dX9_statement_63 (by decide) ?_
        obtain ⟨v41, I42, h43, hf⟩ := bd2_ok hf
        refine q_cEi (va_runV (As := [.int (0 : Int32)]) (rest := []) ⟨hx, hb, hml, hown, hts⟩ (c_X9_tellsTwo l (D := D) (ad := ad) (cy := cy) (sa := sa) (va := va) (I := I) (J := J) (S := S) h0 (0 : Int32) h43) (cwV 1 hts gX9_statement_X9_tellsTwo rfl rfl rfl (by decide +kernel) ⟨Nat.le_of_ble_eq_true rfl, Nat.le_of_ble_eq_true rfl⟩) ⟨qPre_blind _, q_recv hK hP (oX9 h0) rfl, fun U hU hW => ⟨rfl, qPre_of hP hK hE hN hS U hU hW⟩⟩ rfl rfl hl.1 rfl (lv_room (Nat.le_of_ble_eq_true rfl)) dX9_statement_64 ⟨Nat.le_of_ble_eq_true rfl, Nat.le_of_ble_eq_true rfl⟩) hS (fun H locs hP hS => ?_)
        obtain ⟨g44, hf⟩ := gd_ok hf
        have e9 := Option.some.inj hf
        have eI9 : I42 = Ie := (congrArg Prod.snd e9)
        exact W.zret (ty := .boolean) hx hb hr (q_narZ g44) (fun t ht _ => ⟨⟨_, (), rfl, (congrArg Prod.fst e9), by show qP D _ ad _ _ _ t.heap; rw [ht, ← eI9]; exact hP⟩, hS.F ht⟩) hS.2.2 dX9_statement_67
    · have hf := (if_ok hf).2 cc
      refine lv_aload_n hx hb dX9_statement_47 rfl (lv_at hl 0 rfl) ?_
      refine lv_iconst (v := 2) hx hb dX9_statement_48 (by decide) ?_
      obtain ⟨v45, I46, h47, hf⟩ := bd2_ok hf
      refine q_cEi (va_runV (As := [.int (2 : Int32)]) (rest := []) ⟨hx, hb, hml, hown, hts⟩ (c_X9_tellsTwo l (D := D) (ad := ad) (cy := cy) (sa := sa) (va := va) (I := I) (J := J) (S := S) h0 (2 : Int32) h47) (cwV 1 hts gX9_statement_X9_tellsTwo rfl rfl rfl (by decide +kernel) ⟨Nat.le_of_ble_eq_true rfl, Nat.le_of_ble_eq_true rfl⟩) ⟨qPre_blind _, q_recv hK hP (oX9 h0) rfl, fun U hU hW => ⟨rfl, qPre_of hP hK hE hN hS U hU hW⟩⟩ rfl rfl hl.1 rfl (lv_room (Nat.le_of_ble_eq_true rfl)) dX9_statement_49 ⟨Nat.le_of_ble_eq_true rfl, Nat.le_of_ble_eq_true rfl⟩) hS (fun H locs hP hS => ?_)
      obtain ⟨g48, hf⟩ := gd_ok hf
      have e9 := Option.some.inj hf
      have eI9 : I46 = Ie := (congrArg Prod.snd e9)
      exact W.zret (ty := .boolean) hx hb hr (q_narZ g48) (fun t ht _ => ⟨⟨_, (), rfl, (congrArg Prod.fst e9), by show qP D _ ad _ _ _ t.heap; rw [ht, ← eI9]; exact hP⟩, hS.F ht⟩) hS.2.2 dX9_statement_52
  · have hf := (if_ok hf).2 cc
    refine lv_aload_n hx hb dX9_statement_32 rfl (lv_at hl 0 rfl) ?_
    refine lv_iconst (v := 1) hx hb dX9_statement_33 (by decide) ?_
    obtain ⟨v49, I50, h51, hf⟩ := bd2_ok hf
    refine q_cEi (va_runV (As := [.int (1 : Int32)]) (rest := []) ⟨hx, hb, hml, hown, hts⟩ (c_X9_tellsTwo l (D := D) (ad := ad) (cy := cy) (sa := sa) (va := va) (I := I) (J := J) (S := S) h0 (1 : Int32) h51) (cwV 1 hts gX9_statement_X9_tellsTwo rfl rfl rfl (by decide +kernel) ⟨Nat.le_of_ble_eq_true rfl, Nat.le_of_ble_eq_true rfl⟩) ⟨qPre_blind _, q_recv hK hP (oX9 h0) rfl, fun U hU hW => ⟨rfl, qPre_of hP hK hE hN hS U hU hW⟩⟩ rfl rfl hl.1 rfl (lv_room (Nat.le_of_ble_eq_true rfl)) dX9_statement_34 ⟨Nat.le_of_ble_eq_true rfl, Nat.le_of_ble_eq_true rfl⟩) hS (fun H locs hP hS => ?_)
    obtain ⟨g52, hf⟩ := gd_ok hf
    have e9 := Option.some.inj hf
    have eI9 : I50 = Ie := (congrArg Prod.snd e9)
    exact W.zret (ty := .boolean) hx hb hr (q_narZ g52) (fun t ht _ => ⟨⟨_, (), rfl, (congrArg Prod.fst e9), by show qP D _ ad _ _ _ t.heap; rw [ht, ← eI9]; exact hP⟩, hS.F ht⟩) hS.2.2 dX9_statement_37
set_option maxHeartbeats 4000000 in
set_option maxRecDepth 100000 in
theorem c_X9_statement (l : Launch) {D : va_G} {ad : Nat → Nat} {cy : Nat → ClassId} {sa va : Nat → Nat} {I : qI} {J : qJ} {S : Nat → Prop} (h0 : isM0 S)    {r : Int32} {Ie : qI} (hf : f_X9_statement I = some (r, Ie)) : Met l yX9_statement wsX9_statement r_X9_statement (va_Pc [.ref (ad 0)] (qPre D S ad cy sa va (eM ad cy) I J)) (va_Qi (S := Unit) (fun x _ => x = r) (fun _ t => qP D S ad (eM ad cy) Ie J t.heap) (qA S ad)) 0 0 (qA S ad) := by
  refine Met.ofW (cc := cX9_statement) (maxL := 1) (ret := (some .boolean)) (by decide) rfl ?_
  intro p e s m args below meth c s₁ B hml hv
  obtain ⟨rfl, hP, hK, hE, hN⟩ := hv
  have C : qC p s m _ meth c cX9_statement 1 RX9 wsX9_statement (some .boolean) := ⟨⟨B.exec, B.bytes, hml, findClass_of_methodNamed B.named, atoms_spec (ws := wsX9_statement) B.pre⟩, B.returns, B.notSynchronized⟩
  have C0 := C
  obtain ⟨⟨hx, hb, hml, hown, hts⟩, hr, hlocks⟩ := C0
  have hS : va_S (qA S ad) s.heap s.heap [] := va_S.rf
  have hl := lv_entry ([.ref (ad 0)]) (n := 1) (Nat.le_of_ble_eq_true rfl)
  rw [lg_entry_eq]
  generalize (lg_sl ([.ref (ad 0)]) ++ List.replicate (1 - (lg_sl ([.ref (ad 0)])).length) Slot.unset).toArray = ls at hl ⊢
  have hl : lv_has ls 1 [(0, .ref (ad 0))] := hl
  unfold f_X9_statement at hf
  refine lv_aload_n hx hb dX9_statement_0 rfl (lv_at hl 0 rfl) ?_
  refine va_ldcS (own := RX9) (index := 209) (q := sa 0) hx hb hown (hK.2.2.2.1) dX9_statement_1 ?_
  obtain ⟨v1, h2, hf⟩ := bd_ok hf
  refine q_cSi (va_runV (As := [.ref (sa 0)]) (rest := []) ⟨hx, hb, hml, hown, hts⟩ (c_X9_isWord l (D := D) (ad := ad) (cy := cy) (sa := sa) (va := va) (I := I) (J := J) (S := S) h0 0 (by decide) h2) (cwV 1 hts gX9_statement_X9_isWord rfl rfl rfl (by decide +kernel) ⟨Nat.le_of_ble_eq_true rfl, Nat.le_of_ble_eq_true rfl⟩) ⟨qPre_blind _, q_recv hK hP (oX9 h0) rfl, fun U hU hW => ⟨rfl, qPre_of hP hK hE hN hS U hU hW⟩⟩ rfl rfl hl.1 rfl (lv_room (Nat.le_of_ble_eq_true rfl)) dX9_statement_3 ⟨Nat.le_of_ble_eq_true rfl, Nat.le_of_ble_eq_true rfl⟩) ?_
  refine lv_if_eq (tgt := 23) hx hb dX9_statement_6 (by decide) (fun cc => ?_) (fun cc => ?_)
  · have hf := (if_ok hf).1 cc
    exact w_X9_statement_23 C hK hE hN h0   I _ _ _ hf (lv_sub hl [0] rfl) hP hS
  · have hf := (if_ok hf).2 cc
    refine lv_aload_n hx hb dX9_statement_9 rfl (lv_at hl 0 rfl) ?_
    refine q_get (C := RX9) (T := TX9) (N := 42) (ci := 9) (v := .int (I 0 17)) hx hb hts in_X9_statement_X9 hown hK hP (oX9 h0) rfl 17 (by decide) (hts (.fieldLink RX9 93 "RowsOnlyPrimesModel" "parties" "I") (by decide +kernel)) (fun _ h9 => h9) rfl dX9_statement_10 ?_
    refine lv_bipush (v := 8) hx hb dX9_statement_13 (by decide) ?_
    refine lv_icmp_ge (tgt := 23) hx hb dX9_statement_15 (by decide) (fun cc => ?_) (fun cc => ?_)
    · have hf := (if_ok hf).1 cc
      exact w_X9_statement_23 C hK hE hN h0   I _ _ _ hf (lv_sub hl [0] rfl) hP hS
    · have hf := (if_ok hf).2 cc
      refine lv_aload_n hx hb dX9_statement_18 rfl (lv_at hl 0 rfl) ?_
      obtain ⟨v3, I4, h5, hf⟩ := bd2_ok hf
      refine q_cEi (va_runV (As := []) (rest := []) ⟨hx, hb, hml, hown, hts⟩ (c_X9_tellsParty l (D := D) (ad := ad) (cy := cy) (sa := sa) (va := va) (I := I) (J := J) (S := S) h0  h5) (cwV 0 hts gX9_statement_X9_tellsParty rfl rfl rfl (by decide +kernel) ⟨Nat.le_of_ble_eq_true rfl, Nat.le_of_ble_eq_true rfl⟩) ⟨qPre_blind _, q_recv hK hP (oX9 h0) rfl, fun U hU hW => ⟨rfl, qPre_of hP hK hE hN hS U hU hW⟩⟩ rfl rfl hl.1 rfl (lv_room (Nat.le_of_ble_eq_true rfl)) dX9_statement_19 ⟨Nat.le_of_ble_eq_true rfl, Nat.le_of_ble_eq_true rfl⟩) hS (fun H locs hP hS => ?_)
      obtain ⟨g6, hf⟩ := gd_ok hf
      have e9 := Option.some.inj hf
      have eI9 : I4 = Ie := (congrArg Prod.snd e9)
      exact W.zret (ty := .boolean) hx hb hr (q_narZ g6) (fun t ht _ => ⟨⟨_, (), rfl, (congrArg Prod.fst e9), by show qP D _ ad _ _ _ t.heap; rw [ht, ← eI9]; exact hP⟩, hS.F ht⟩) hS.2.2 dX9_statement_22
abbrev r_X9_readAll : Room := { frames := 8, cells := 0, slots := 0, locals := 168 }
theorem in_X9_readAll_X9 : ∀ w ∈ u_ws RX9 TX9 42, w ∈ wsX9_readAll := by decide +kernel
set_option maxHeartbeats 4000000 in
set_option maxRecDepth 100000 in
theorem w_X9_readAll_23 {S : Nat → Prop} (C : qC p s m args meth c cX9_readAll 1 RX9 wsX9_readAll (some .boolean)) (hK : qK D cy sa s) (hE : qEnv sa va (qA S ad) s s.heap) (hN : qN S ad) (h0 : isM0 S)   {J : qJ} {r : Int32} {Ie : qI} : ∀ (n : Nat)   (I : qI) (ls : Array Slot) (H : Heap) (locs : List Loc), f_X9_readAll_23 n I = some (r, Ie) → lv_has ls 1 [(0, .ref (ad 0))] → qP D S ad (eM ad cy) I J H → va_S (qA S ad) s.heap H locs → W p l e (headSpec wsX9_readAll r_X9_readAll).room s m args below meth c H locs 0 0 (MQ below (va_Qi (S := Unit) (fun x _ => x = r) (fun _ t => qP D S ad (eM ad cy) Ie J t.heap) (qA S ad)) args s 0 0 (qA S ad)) (F0 m 23 ls []) := by
  have C0 := C
  obtain ⟨⟨hx, hb, hml, hown, hts⟩, hr, hlocks⟩ := C0
  intro n
  induction n with
  | zero =>
    intro I ls H locs hf hl hP hS
    rw [f_X9_readAll_23] at hf
    cases hf
  | succ n ih =>
    intro I ls H locs hf hl hP hS
    rw [f_X9_readAll_23] at hf
    refine lv_aload_n hx hb dX9_readAll_23 rfl (lv_at hl 0 rfl) ?_
    refine q_get (C := RX9) (T := TX9) (N := 42) (ci := 9) (v := .int (I 0 29)) hx hb hts in_X9_readAll_X9 hown hK hP (oX9 h0) rfl 29 (by decide) (hts (.fieldLink RX9 173 "RowsOnlyPrimesModel" "token" "I") (by decide +kernel)) (fun _ h9 => h9) rfl dX9_readAll_24 ?_
    refine lv_if_eq (tgt := 69) hx hb dX9_readAll_27 (by decide) (fun cc => ?_) (fun cc => ?_)
    · have hf := (if_ok hf).1 cc
      refine lv_iconst (v := 1) hx hb dX9_readAll_69 (by decide) ?_
      have e9 := Option.some.inj hf
      have eI9 : I = Ie := (congrArg Prod.snd e9)
      exact W.zret (ty := .boolean) hx hb hr rfl (fun t ht _ => ⟨⟨_, (), rfl, (congrArg Prod.fst e9), by show qP D _ ad _ _ _ t.heap; rw [ht, ← eI9]; exact hP⟩, hS.F ht⟩) hS.2.2 dX9_readAll_70
    · have hf := (if_ok hf).2 cc
      refine lv_aload_n hx hb dX9_readAll_30 rfl (lv_at hl 0 rfl) ?_
      refine q_get (C := RX9) (T := TX9) (N := 42) (ci := 9) (v := .int (I 0 29)) hx hb hts in_X9_readAll_X9 hown hK hP (oX9 h0) rfl 29 (by decide) (hts (.fieldLink RX9 173 "RowsOnlyPrimesModel" "token" "I") (by decide +kernel)) (fun _ h9 => h9) rfl dX9_readAll_31 ?_
      refine lv_iconst (v := 3) hx hb dX9_readAll_34 (by decide) ?_
      refine lv_icmp_eq (tgt := 43) hx hb dX9_readAll_35 (by decide) (fun cc => ?_) (fun cc => ?_)
      · have hf := (if_ok hf).1 cc
        refine lv_aload_n hx hb dX9_readAll_43 rfl (lv_at hl 0 rfl) ?_
        obtain ⟨I1, h2, hf⟩ := bd_ok hf
        refine q_cEv (va_runV (As := []) (rest := []) ⟨hx, hb, hml, hown, hts⟩ (c_X9_look l (D := D) (ad := ad) (cy := cy) (sa := sa) (va := va) (I := I) (J := J) (S := S) h0  h2) (cwV 0 hts gX9_readAll_X9_look rfl rfl rfl (by decide +kernel) ⟨Nat.le_of_ble_eq_true rfl, Nat.le_of_ble_eq_true rfl⟩) ⟨qPre_blind _, q_recv hK hP (oX9 h0) rfl, fun U hU hW => ⟨rfl, qPre_of hP hK hE hN hS U hU hW⟩⟩ rfl rfl hl.1 rfl (lv_room (Nat.le_of_ble_eq_true rfl)) dX9_readAll_44 ⟨Nat.le_of_ble_eq_true rfl, Nat.le_of_ble_eq_true rfl⟩) hS (fun H locs hP hS => ?_)
        refine lv_aload_n hx hb dX9_readAll_47 rfl (lv_at hl 0 rfl) ?_
        obtain ⟨v3, I4, h5, hf⟩ := bd2_ok hf
        refine q_cEi (va_runV (As := []) (rest := []) ⟨hx, hb, hml, hown, hts⟩ (c_X9_statement l (D := D) (ad := ad) (cy := cy) (sa := sa) (va := va) (I := I1) (J := J) (S := S) h0  h5) (cwV 0 hts gX9_readAll_X9_statement rfl rfl rfl (by decide +kernel) ⟨Nat.le_of_ble_eq_true rfl, Nat.le_of_ble_eq_true rfl⟩) ⟨qPre_blind _, q_recv hK hP (oX9 h0) rfl, fun U hU hW => ⟨rfl, qPre_of hP hK hE hN hS U hU hW⟩⟩ rfl rfl hl.1 rfl (lv_room (Nat.le_of_ble_eq_true rfl)) dX9_readAll_48 ⟨Nat.le_of_ble_eq_true rfl, Nat.le_of_ble_eq_true rfl⟩) hS (fun H locs hP hS => ?_)
        refine lv_if_ne (tgt := 56) hx hb dX9_readAll_51 (by decide) (fun cc => ?_) (fun cc => ?_)
        · have hf := (if_ok hf).2 cc
          refine lv_aload_n hx hb dX9_readAll_56 rfl (lv_at hl 0 rfl) ?_
          refine lv_dup hx hb dX9_readAll_57 rfl ?_
          refine q_get (C := RX9) (T := TX9) (N := 42) (ci := 9) (v := .int (I4 0 34)) hx hb hts in_X9_readAll_X9 hown hK hP (oX9 h0) rfl 34 (by decide) (hts (.fieldLink RX9 235 "RowsOnlyPrimesModel" "statements" "I") (by decide +kernel)) (fun _ h9 => h9) rfl dX9_readAll_58 ?_
          refine lv_iconst (v := 1) hx hb dX9_readAll_61 (by decide) ?_
          refine lv_iadd hx hb dX9_readAll_62 ?_
          obtain ⟨I6, eI6, hf⟩ := lt_ok hf
          refine q_put (C := RX9) (T := TX9) (N := 42) (ci := 9) (v := .int ((I4 0 34) + (1 : Int32))) (x := ((I4 0 34) + (1 : Int32))) (ty := .int) hx hb hts in_X9_readAll_X9 tyX9 tyX9_ok nmX9 hown hK hP hN hS (oX9 h0) rfl 34 (by decide) (hts (.fieldLink RX9 235 "RowsOnlyPrimesModel" "statements" "I") (by decide +kernel)) (fun _ h9 => h9) rfl (by decide +kernel) rfl rfl (fun _ _ => rfl) (fun _ _ => Nat.le_of_ble_eq_true rfl) dX9_readAll_63 (fun H locs hP hS => ?_)
          rw [← eI6] at hP
          refine lv_goto (tgt := 23) hx hb dX9_readAll_66 (by decide) ?_
          exact ih I6 _ _ _ hf (lv_sub hl [0] rfl) hP hS
        · have hf := (if_ok hf).1 cc
          refine lv_iconst (v := 0) hx hb dX9_readAll_54 (by decide) ?_
          have e9 := Option.some.inj hf
          have eI9 : I4 = Ie := (congrArg Prod.snd e9)
          exact W.zret (ty := .boolean) hx hb hr rfl (fun t ht _ => ⟨⟨_, (), rfl, (congrArg Prod.fst e9), by show qP D _ ad _ _ _ t.heap; rw [ht, ← eI9]; exact hP⟩, hS.F ht⟩) hS.2.2 dX9_readAll_55
      · have hf := (if_ok hf).2 cc
        refine lv_aload_n hx hb dX9_readAll_38 rfl (lv_at hl 0 rfl) ?_
        obtain ⟨v7, I8, h9, hf⟩ := bd2_ok hf
        refine q_cEi (va_runV (As := []) (rest := []) ⟨hx, hb, hml, hown, hts⟩ (c_X9_wrong l (D := D) (ad := ad) (cy := cy) (sa := sa) (va := va) (I := I) (J := J) (S := S) h0  h9) (cwV 0 hts gX9_readAll_X9_wrong rfl rfl rfl (by decide +kernel) ⟨Nat.le_of_ble_eq_true rfl, Nat.le_of_ble_eq_true rfl⟩) ⟨qPre_blind _, q_recv hK hP (oX9 h0) rfl, fun U hU hW => ⟨rfl, qPre_of hP hK hE hN hS U hU hW⟩⟩ rfl rfl hl.1 rfl (lv_room (Nat.le_of_ble_eq_true rfl)) dX9_readAll_39 ⟨Nat.le_of_ble_eq_true rfl, Nat.le_of_ble_eq_true rfl⟩) hS (fun H locs hP hS => ?_)
        obtain ⟨g10, hf⟩ := gd_ok hf
        have e9 := Option.some.inj hf
        have eI9 : I8 = Ie := (congrArg Prod.snd e9)
        exact W.zret (ty := .boolean) hx hb hr (q_narZ g10) (fun t ht _ => ⟨⟨_, (), rfl, (congrArg Prod.fst e9), by show qP D _ ad _ _ _ t.heap; rw [ht, ← eI9]; exact hP⟩, hS.F ht⟩) hS.2.2 dX9_readAll_42
set_option maxHeartbeats 4000000 in
set_option maxRecDepth 100000 in
theorem c_X9_readAll (l : Launch) {D : va_G} {ad : Nat → Nat} {cy : Nat → ClassId} {sa va : Nat → Nat} {I : qI} {J : qJ} {S : Nat → Prop} (h0 : isM0 S)    {r : Int32} {Ie : qI} (hf : f_X9_readAll I = some (r, Ie)) : Met l yX9_readAll wsX9_readAll r_X9_readAll (va_Pc [.ref (ad 0)] (qPre D S ad cy sa va (eM ad cy) I J)) (va_Qi (S := Unit) (fun x _ => x = r) (fun _ t => qP D S ad (eM ad cy) Ie J t.heap) (qA S ad)) 0 0 (qA S ad) := by
  refine Met.ofW (cc := cX9_readAll) (maxL := 1) (ret := (some .boolean)) (by decide) rfl ?_
  intro p e s m args below meth c s₁ B hml hv
  obtain ⟨rfl, hP, hK, hE, hN⟩ := hv
  have C : qC p s m _ meth c cX9_readAll 1 RX9 wsX9_readAll (some .boolean) := ⟨⟨B.exec, B.bytes, hml, findClass_of_methodNamed B.named, atoms_spec (ws := wsX9_readAll) B.pre⟩, B.returns, B.notSynchronized⟩
  have C0 := C
  obtain ⟨⟨hx, hb, hml, hown, hts⟩, hr, hlocks⟩ := C0
  have hS : va_S (qA S ad) s.heap s.heap [] := va_S.rf
  have hl := lv_entry ([.ref (ad 0)]) (n := 1) (Nat.le_of_ble_eq_true rfl)
  rw [lg_entry_eq]
  generalize (lg_sl ([.ref (ad 0)]) ++ List.replicate (1 - (lg_sl ([.ref (ad 0)])).length) Slot.unset).toArray = ls at hl ⊢
  have hl : lv_has ls 1 [(0, .ref (ad 0))] := hl
  unfold f_X9_readAll at hf
  refine lv_aload_n hx hb dX9_readAll_0 rfl (lv_at hl 0 rfl) ?_
  refine lv_iconst (v := 1) hx hb dX9_readAll_1 (by decide) ?_
  obtain ⟨I1, eI1, hf⟩ := lt_ok hf
  refine q_put (C := RX9) (T := TX9) (N := 42) (ci := 9) (v := .int (1 : Int32)) (x := (1 : Int32)) (ty := .int) hx hb hts in_X9_readAll_X9 tyX9 tyX9_ok nmX9 hown hK hP hN hS (oX9 h0) rfl 34 (by decide) (hts (.fieldLink RX9 235 "RowsOnlyPrimesModel" "statements" "I") (by decide +kernel)) (fun _ h9 => h9) rfl (by decide +kernel) rfl rfl (fun _ _ => rfl) (fun _ _ => Nat.le_of_ble_eq_true rfl) dX9_readAll_2 (fun H locs hP hS => ?_)
  rw [← eI1] at hP
  refine lv_aload_n hx hb dX9_readAll_5 rfl (lv_at hl 0 rfl) ?_
  refine lv_iconst (v := 0) hx hb dX9_readAll_6 (by decide) ?_
  obtain ⟨I2, eI2, hf⟩ := lt_ok hf
  refine q_put (C := RX9) (T := TX9) (N := 42) (ci := 9) (v := .int (0 : Int32)) (x := (0 : Int32)) (ty := .int) hx hb hts in_X9_readAll_X9 tyX9 tyX9_ok nmX9 hown hK hP hN hS (oX9 h0) rfl 28 (by decide) (hts (.fieldLink RX9 164 "RowsOnlyPrimesModel" "at" "I") (by decide +kernel)) (fun _ h9 => h9) rfl (by decide +kernel) rfl rfl (fun _ _ => rfl) (fun _ _ => Nat.le_of_ble_eq_true rfl) dX9_readAll_7 (fun H locs hP hS => ?_)
  rw [← eI2] at hP
  refine lv_aload_n hx hb dX9_readAll_10 rfl (lv_at hl 0 rfl) ?_
  obtain ⟨I3, h4, hf⟩ := bd_ok hf
  refine q_cEv (va_runV (As := []) (rest := []) ⟨hx, hb, hml, hown, hts⟩ (c_X9_look l (D := D) (ad := ad) (cy := cy) (sa := sa) (va := va) (I := I2) (J := J) (S := S) h0  h4) (cwV 0 hts gX9_readAll_X9_look rfl rfl rfl (by decide +kernel) ⟨Nat.le_of_ble_eq_true rfl, Nat.le_of_ble_eq_true rfl⟩) ⟨qPre_blind _, q_recv hK hP (oX9 h0) rfl, fun U hU hW => ⟨rfl, qPre_of hP hK hE hN hS U hU hW⟩⟩ rfl rfl hl.1 rfl (lv_room (Nat.le_of_ble_eq_true rfl)) dX9_readAll_11 ⟨Nat.le_of_ble_eq_true rfl, Nat.le_of_ble_eq_true rfl⟩) hS (fun H locs hP hS => ?_)
  refine lv_aload_n hx hb dX9_readAll_14 rfl (lv_at hl 0 rfl) ?_
  obtain ⟨v5, I6, h7, hf⟩ := bd2_ok hf
  refine q_cEi (va_runV (As := []) (rest := []) ⟨hx, hb, hml, hown, hts⟩ (c_X9_statement l (D := D) (ad := ad) (cy := cy) (sa := sa) (va := va) (I := I3) (J := J) (S := S) h0  h7) (cwV 0 hts gX9_readAll_X9_statement rfl rfl rfl (by decide +kernel) ⟨Nat.le_of_ble_eq_true rfl, Nat.le_of_ble_eq_true rfl⟩) ⟨qPre_blind _, q_recv hK hP (oX9 h0) rfl, fun U hU hW => ⟨rfl, qPre_of hP hK hE hN hS U hU hW⟩⟩ rfl rfl hl.1 rfl (lv_room (Nat.le_of_ble_eq_true rfl)) dX9_readAll_15 ⟨Nat.le_of_ble_eq_true rfl, Nat.le_of_ble_eq_true rfl⟩) hS (fun H locs hP hS => ?_)
  refine lv_if_ne (tgt := 23) hx hb dX9_readAll_18 (by decide) (fun cc => ?_) (fun cc => ?_)
  · have hf := (if_ok hf).2 cc
    exact w_X9_readAll_23 C hK hE hN h0  1000 I6 _ _ _ hf (lv_sub hl [0] rfl) hP hS
  · have hf := (if_ok hf).1 cc
    refine lv_iconst (v := 0) hx hb dX9_readAll_21 (by decide) ?_
    have e9 := Option.some.inj hf
    have eI9 : I6 = Ie := (congrArg Prod.snd e9)
    exact W.zret (ty := .boolean) hx hb hr rfl (fun t ht _ => ⟨⟨_, (), rfl, (congrArg Prod.fst e9), by show qP D _ ad _ _ _ t.heap; rw [ht, ← eI9]; exact hP⟩, hS.F ht⟩) hS.2.2 dX9_readAll_22
abbrev r_X9_isPrime : Room := { frames := 0, cells := 0, slots := 0, locals := 0 }
set_option maxHeartbeats 4000000 in
set_option maxRecDepth 100000 in
theorem w_X9_isPrime_2 {S : Nat → Prop} (C : qC p s m args meth c cX9_isPrime 2 RX9 wsX9_isPrime (some .boolean)) (hK : qK D cy sa s) (hE : qEnv sa va (qA S ad) s s.heap) (hN : qN S ad) (h0 : isM0 S)   {I : qI} {J : qJ} (hP : qP D S ad (eM ad cy) I J s.heap) {r : Int32} : ∀ (n : Nat) (x0 : Int32) (x1 : Int32)  (ls : Array Slot), f_X9_isPrime_2 n x0 x1 = some r → lv_has ls 2 [(0, .int x0), (1, .int x1)] → W p l e (headSpec wsX9_isPrime r_X9_isPrime).room s m args below meth c s.heap [] 0 0 (MQ below (vp_Si (fun x => x = r)) args s 0 0 (fun _ => False)) (F0 m 2 ls []) := by
  have C0 := C
  obtain ⟨⟨hx, hb, hml, hown, hts⟩, hr, hlocks⟩ := C0
  intro n
  induction n with
  | zero =>
    intro x0 x1 ls hf hl
    rw [f_X9_isPrime_2] at hf
    cases hf
  | succ n ih =>
    intro x0 x1 ls hf hl
    rw [f_X9_isPrime_2] at hf
    refine lv_iload_n hx hb dX9_isPrime_2 rfl (lv_at hl 1 rfl) ?_
    refine lv_iload_n hx hb dX9_isPrime_3 rfl (lv_at hl 1 rfl) ?_
    refine lv_imul hx hb dX9_isPrime_4 ?_
    refine lv_iload_n hx hb dX9_isPrime_5 rfl (lv_at hl 0 rfl) ?_
    refine lv_icmp_gt (tgt := 23) hx hb dX9_isPrime_6 (by decide) (fun cc => ?_) (fun cc => ?_)
    · have hf := (if_ok hf).1 cc
      refine lv_iload_n hx hb dX9_isPrime_23 rfl (lv_at hl 0 rfl) ?_
      refine lv_iconst (v := 1) hx hb dX9_isPrime_24 (by decide) ?_
      refine lv_icmp_le (tgt := 32) hx hb dX9_isPrime_25 (by decide) (fun cc => ?_) (fun cc => ?_)
      · have hf := (if_ok hf).1 cc
        refine lv_iconst (v := 0) hx hb dX9_isPrime_32 (by decide) ?_
        exact W.zret (ty := .boolean) hx hb hr rfl (fun t ht _ => ⟨_, rfl, Option.some.inj hf, ht⟩) (fun _ h => by cases h) dX9_isPrime_33
      · have hf := (if_ok hf).2 cc
        refine lv_iconst (v := 1) hx hb dX9_isPrime_28 (by decide) ?_
        refine lv_goto (tgt := 33) hx hb dX9_isPrime_29 (by decide) ?_
        exact W.zret (ty := .boolean) hx hb hr rfl (fun t ht _ => ⟨_, rfl, Option.some.inj hf, ht⟩) (fun _ h => by cases h) dX9_isPrime_33
    · have hf := (if_ok hf).2 cc
      refine lv_iload_n hx hb dX9_isPrime_9 rfl (lv_at hl 0 rfl) ?_
      refine lv_iload_n hx hb dX9_isPrime_10 rfl (lv_at hl 1 rfl) ?_
      obtain ⟨g1, hf⟩ := gd_ok hf
      refine lv_irem hx hb dX9_isPrime_11 g1 ?_
      refine lv_if_ne (tgt := 17) hx hb dX9_isPrime_12 (by decide) (fun cc => ?_) (fun cc => ?_)
      · have hf := (if_ok hf).2 cc
        refine lv_iinc (v := (x1 + (1 : Int32))) (lv' := [(1, .int (x1 + (1 : Int32))), (0, .int x0)]) hx hb dX9_isPrime_17 hl (k := 1) rfl rfl (by decide) rfl (fun ls hl => ?_)
        refine lv_goto (tgt := 2) hx hb dX9_isPrime_20 (by decide) ?_
        exact ih x0 (x1 + (1 : Int32)) _ hf (lv_sub hl [1, 0] rfl)
      · have hf := (if_ok hf).1 cc
        refine lv_iconst (v := 0) hx hb dX9_isPrime_15 (by decide) ?_
        exact W.zret (ty := .boolean) hx hb hr rfl (fun t ht _ => ⟨_, rfl, Option.some.inj hf, ht⟩) (fun _ h => by cases h) dX9_isPrime_16
set_option maxHeartbeats 4000000 in
set_option maxRecDepth 100000 in
theorem c_X9_isPrime (l : Launch) {D : va_G} {ad : Nat → Nat} {cy : Nat → ClassId} {sa va : Nat → Nat} {I : qI} {J : qJ} {S : Nat → Prop} (h0 : isM0 S)   (p0 : Int32) {r : Int32} (hf : f_X9_isPrime p0 = some r) : Met l yX9_isPrime wsX9_isPrime r_X9_isPrime (va_Pc [.int p0] (qPre D S ad cy sa va (eM ad cy) I J)) (vp_Si (fun x => x = r)) 0 0 (fun _ => False) := by
  refine Met.ofW (cc := cX9_isPrime) (maxL := 2) (ret := (some .boolean)) (by decide) rfl ?_
  intro p e s m args below meth c s₁ B hml hv
  obtain ⟨rfl, hP, hK, hE, hN⟩ := hv
  have C : qC p s m _ meth c cX9_isPrime 2 RX9 wsX9_isPrime (some .boolean) := ⟨⟨B.exec, B.bytes, hml, findClass_of_methodNamed B.named, atoms_spec (ws := wsX9_isPrime) B.pre⟩, B.returns, B.notSynchronized⟩
  have C0 := C
  obtain ⟨⟨hx, hb, hml, hown, hts⟩, hr, hlocks⟩ := C0
  have hl := lv_entry ([.int p0]) (n := 2) (Nat.le_of_ble_eq_true rfl)
  rw [lg_entry_eq]
  generalize (lg_sl ([.int p0]) ++ List.replicate (2 - (lg_sl ([.int p0])).length) Slot.unset).toArray = ls at hl ⊢
  have hl : lv_has ls 2 [(0, .int p0)] := hl
  unfold f_X9_isPrime at hf
  refine lv_iconst (v := 2) hx hb dX9_isPrime_0 (by decide) ?_
  refine lv_istore_n (lv' := [(1, .int (2 : Int32)), (0, .int p0)]) hx hb dX9_isPrime_1 rfl hl (by decide) rfl (fun ls hl => ?_)
  exact w_X9_isPrime_2 C hK hE hN h0 hP  1000 p0 (2 : Int32) _ hf (lv_sub hl [1, 0] rfl)
abbrev r_X9_isSquare : Room := { frames := 0, cells := 0, slots := 0, locals := 0 }
set_option maxHeartbeats 4000000 in
set_option maxRecDepth 100000 in
theorem w_X9_isSquare_2 {S : Nat → Prop} (C : qC p s m args meth c cX9_isSquare 2 RX9 wsX9_isSquare (some .boolean)) (hK : qK D cy sa s) (hE : qEnv sa va (qA S ad) s s.heap) (hN : qN S ad) (h0 : isM0 S)   {I : qI} {J : qJ} (hP : qP D S ad (eM ad cy) I J s.heap) {r : Int32} : ∀ (n : Nat) (x0 : Int32) (x1 : Int32)  (ls : Array Slot), f_X9_isSquare_2 n x0 x1 = some r → lv_has ls 2 [(0, .int x0), (1, .int x1)] → W p l e (headSpec wsX9_isSquare r_X9_isSquare).room s m args below meth c s.heap [] 0 0 (MQ below (vp_Si (fun x => x = r)) args s 0 0 (fun _ => False)) (F0 m 2 ls []) := by
  have C0 := C
  obtain ⟨⟨hx, hb, hml, hown, hts⟩, hr, hlocks⟩ := C0
  intro n
  induction n with
  | zero =>
    intro x0 x1 ls hf hl
    rw [f_X9_isSquare_2] at hf
    cases hf
  | succ n ih =>
    intro x0 x1 ls hf hl
    rw [f_X9_isSquare_2] at hf
    refine lv_iload_n hx hb dX9_isSquare_2 rfl (lv_at hl 1 rfl) ?_
    refine lv_iload_n hx hb dX9_isSquare_3 rfl (lv_at hl 1 rfl) ?_
    refine lv_imul hx hb dX9_isSquare_4 ?_
    refine lv_iload_n hx hb dX9_isSquare_5 rfl (lv_at hl 0 rfl) ?_
    refine lv_icmp_ge (tgt := 15) hx hb dX9_isSquare_6 (by decide) (fun cc => ?_) (fun cc => ?_)
    · have hf := (if_ok hf).1 cc
      refine lv_iload_n hx hb dX9_isSquare_15 rfl (lv_at hl 1 rfl) ?_
      refine lv_iload_n hx hb dX9_isSquare_16 rfl (lv_at hl 1 rfl) ?_
      refine lv_imul hx hb dX9_isSquare_17 ?_
      refine lv_iload_n hx hb dX9_isSquare_18 rfl (lv_at hl 0 rfl) ?_
      refine lv_icmp_ne (tgt := 26) hx hb dX9_isSquare_19 (by decide) (fun cc => ?_) (fun cc => ?_)
      · have hf := (if_ok hf).2 cc
        refine lv_iconst (v := 0) hx hb dX9_isSquare_26 (by decide) ?_
        exact W.zret (ty := .boolean) hx hb hr rfl (fun t ht _ => ⟨_, rfl, Option.some.inj hf, ht⟩) (fun _ h => by cases h) dX9_isSquare_27
      · have hf := (if_ok hf).1 cc
        refine lv_iconst (v := 1) hx hb dX9_isSquare_22 (by decide) ?_
        refine lv_goto (tgt := 27) hx hb dX9_isSquare_23 (by decide) ?_
        exact W.zret (ty := .boolean) hx hb hr rfl (fun t ht _ => ⟨_, rfl, Option.some.inj hf, ht⟩) (fun _ h => by cases h) dX9_isSquare_27
    · have hf := (if_ok hf).2 cc
      refine lv_iinc (v := (x1 + (1 : Int32))) (lv' := [(1, .int (x1 + (1 : Int32))), (0, .int x0)]) hx hb dX9_isSquare_9 hl (k := 1) rfl rfl (by decide) rfl (fun ls hl => ?_)
      refine lv_goto (tgt := 2) hx hb dX9_isSquare_12 (by decide) ?_
      exact ih x0 (x1 + (1 : Int32)) _ hf (lv_sub hl [1, 0] rfl)
set_option maxHeartbeats 4000000 in
set_option maxRecDepth 100000 in
theorem c_X9_isSquare (l : Launch) {D : va_G} {ad : Nat → Nat} {cy : Nat → ClassId} {sa va : Nat → Nat} {I : qI} {J : qJ} {S : Nat → Prop} (h0 : isM0 S)   (p0 : Int32) {r : Int32} (hf : f_X9_isSquare p0 = some r) : Met l yX9_isSquare wsX9_isSquare r_X9_isSquare (va_Pc [.int p0] (qPre D S ad cy sa va (eM ad cy) I J)) (vp_Si (fun x => x = r)) 0 0 (fun _ => False) := by
  refine Met.ofW (cc := cX9_isSquare) (maxL := 2) (ret := (some .boolean)) (by decide) rfl ?_
  intro p e s m args below meth c s₁ B hml hv
  obtain ⟨rfl, hP, hK, hE, hN⟩ := hv
  have C : qC p s m _ meth c cX9_isSquare 2 RX9 wsX9_isSquare (some .boolean) := ⟨⟨B.exec, B.bytes, hml, findClass_of_methodNamed B.named, atoms_spec (ws := wsX9_isSquare) B.pre⟩, B.returns, B.notSynchronized⟩
  have C0 := C
  obtain ⟨⟨hx, hb, hml, hown, hts⟩, hr, hlocks⟩ := C0
  have hl := lv_entry ([.int p0]) (n := 2) (Nat.le_of_ble_eq_true rfl)
  rw [lg_entry_eq]
  generalize (lg_sl ([.int p0]) ++ List.replicate (2 - (lg_sl ([.int p0])).length) Slot.unset).toArray = ls at hl ⊢
  have hl : lv_has ls 2 [(0, .int p0)] := hl
  unfold f_X9_isSquare at hf
  refine lv_iconst (v := 1) hx hb dX9_isSquare_0 (by decide) ?_
  refine lv_istore_n (lv' := [(1, .int (1 : Int32)), (0, .int p0)]) hx hb dX9_isSquare_1 rfl hl (by decide) rfl (fun ls hl => ?_)
  exact w_X9_isSquare_2 C hK hE hN h0 hP  1000 p0 (1 : Int32) _ hf (lv_sub hl [1, 0] rfl)
abbrev r_X9_goesNow : Room := { frames := 1, cells := 0, slots := 0, locals := 25 }
theorem in_X9_goesNow_X9 : ∀ w ∈ u_ws RX9 TX9 42, w ∈ wsX9_goesNow := by decide +kernel
set_option maxHeartbeats 4000000 in
set_option maxRecDepth 100000 in
theorem c_X9_goesNow (l : Launch) {D : va_G} {ad : Nat → Nat} {cy : Nat → ClassId} {sa va : Nat → Nat} {I : qI} {J : qJ} {S : Nat → Prop} (h0 : isM0 S)   (p0 : Int64) {r : Int32} (hf : f_X9_goesNow p0 I = some r) : Met l yX9_goesNow wsX9_goesNow r_X9_goesNow (va_Pc [.ref (ad 0), .long p0] (qPre D S ad cy sa va (eM ad cy) I J)) (vp_Si (fun x => x = r)) 0 0 (fun _ => False) := by
  refine Met.ofW (cc := cX9_goesNow) (maxL := 4) (ret := (some .boolean)) (by decide) rfl ?_
  intro p e s m args below meth c s₁ B hml hv
  obtain ⟨rfl, hP, hK, hE, hN⟩ := hv
  have C : qC p s m _ meth c cX9_goesNow 4 RX9 wsX9_goesNow (some .boolean) := ⟨⟨B.exec, B.bytes, hml, findClass_of_methodNamed B.named, atoms_spec (ws := wsX9_goesNow) B.pre⟩, B.returns, B.notSynchronized⟩
  have C0 := C
  obtain ⟨⟨hx, hb, hml, hown, hts⟩, hr, hlocks⟩ := C0
  have hl := lv_entry ([.ref (ad 0), .long p0]) (n := 4) (Nat.le_of_ble_eq_true rfl)
  rw [lg_entry_eq]
  generalize (lg_sl ([.ref (ad 0), .long p0]) ++ List.replicate (4 - (lg_sl ([.ref (ad 0), .long p0])).length) Slot.unset).toArray = ls at hl ⊢
  have hl : lv_has ls 4 [(0, .ref (ad 0)), (1, .long p0)] := hl
  unfold f_X9_goesNow at hf
  refine lv_lload_n hx hb dX9_goesNow_0 rfl (lv_at hl 1 rfl) ?_
  refine lv_lconst (v := 1) hx hb dX9_goesNow_1 (by decide) ?_
  refine lv_aload_n hx hb dX9_goesNow_2 rfl (lv_at hl 0 rfl) ?_
  refine q_get (C := RX9) (T := TX9) (N := 42) (ci := 9) (v := .int (I 0 9)) hx hb hts in_X9_goesNow_X9 hown hK hP (oX9 h0) rfl 9 (by decide) (hts (.fieldLink RX9 37 "RowsOnlyPrimesModel" "seats" "I") (by decide +kernel)) (fun _ h9 => h9) rfl dX9_goesNow_3 ?_
  refine lv_i2l hx hb dX9_goesNow_6 rfl ?_
  obtain ⟨v1, h2, hf⟩ := bd_ok hf
  refine q_cSi (va_runS (As := [.long p0, .long (1 : Int64), .long ((I 0 9).toInt64)]) (rest := []) ⟨hx, hb, hml, hown, hts⟩ (c_X9_in l (D := D) (ad := ad) (cy := cy) (sa := sa) (va := va) (I := I) (J := J) (S := S) h0 p0 (1 : Int64) ((I 0 9).toInt64) h2) (va_cwS 3 hts gX9_goesNow_X9_in rfl rfl rfl (by decide +kernel) ⟨Nat.le_of_ble_eq_true rfl, Nat.le_of_ble_eq_true rfl⟩) ⟨qPre_blind _, fun U hU hW => ⟨rfl, qPre_of hP hK hE hN va_S.rf U hU hW⟩⟩ rfl rfl hl.1 rfl (lv_room (Nat.le_of_ble_eq_true rfl)) dX9_goesNow_7 ⟨Nat.le_of_ble_eq_true rfl, Nat.le_of_ble_eq_true rfl⟩) ?_
  refine lv_if_ne (tgt := 15) hx hb dX9_goesNow_10 (by decide) (fun cc => ?_) (fun cc => ?_)
  · have hf := (if_ok hf).2 cc
    refine lv_lload_n hx hb dX9_goesNow_15 rfl (lv_at hl 1 rfl) ?_
    refine lv_l2i hx hb dX9_goesNow_16 rfl ?_
    refine lv_istore_n (lv' := [(3, .int p0.toInt32), (0, .ref (ad 0)), (1, .long p0)]) hx hb dX9_goesNow_17 rfl hl (by decide) rfl (fun ls hl => ?_)
    refine lv_aload_n hx hb dX9_goesNow_18 rfl (lv_at hl 1 rfl) ?_
    refine q_get (C := RX9) (T := TX9) (N := 42) (ci := 9) (v := .int (I 0 10)) hx hb hts in_X9_goesNow_X9 hown hK hP (oX9 h0) rfl 10 (by decide) (hts (.fieldLink RX9 151 "RowsOnlyPrimesModel" "law" "I") (by decide +kernel)) (fun _ h9 => h9) rfl dX9_goesNow_19 ?_
    refine lv_if_ne (tgt := 32) hx hb dX9_goesNow_22 (by decide) (fun cc => ?_) (fun cc => ?_)
    · have hf := (if_ok hf).2 cc
      refine lv_aload_n hx hb dX9_goesNow_32 rfl (lv_at hl 1 rfl) ?_
      refine q_get (C := RX9) (T := TX9) (N := 42) (ci := 9) (v := .int (I 0 10)) hx hb hts in_X9_goesNow_X9 hown hK hP (oX9 h0) rfl 10 (by decide) (hts (.fieldLink RX9 151 "RowsOnlyPrimesModel" "law" "I") (by decide +kernel)) (fun _ h9 => h9) rfl dX9_goesNow_33 ?_
      refine lv_iconst (v := 1) hx hb dX9_goesNow_36 (by decide) ?_
      refine lv_icmp_ne (tgt := 54) hx hb dX9_goesNow_37 (by decide) (fun cc => ?_) (fun cc => ?_)
      · have hf := (if_ok hf).2 cc
        refine lv_aload_n hx hb dX9_goesNow_54 rfl (lv_at hl 1 rfl) ?_
        refine q_get (C := RX9) (T := TX9) (N := 42) (ci := 9) (v := .int (I 0 10)) hx hb hts in_X9_goesNow_X9 hown hK hP (oX9 h0) rfl 10 (by decide) (hts (.fieldLink RX9 151 "RowsOnlyPrimesModel" "law" "I") (by decide +kernel)) (fun _ h9 => h9) rfl dX9_goesNow_55 ?_
        refine lv_iconst (v := 2) hx hb dX9_goesNow_58 (by decide) ?_
        refine lv_icmp_ne (tgt := 77) hx hb dX9_goesNow_59 (by decide) (fun cc => ?_) (fun cc => ?_)
        · have hf := (if_ok hf).2 cc
          refine lv_iload_n hx hb dX9_goesNow_77 rfl (lv_at hl 0 rfl) ?_
          obtain ⟨v3, h4, hf⟩ := bd_ok hf
          refine q_cSi (va_runS (As := [.int p0.toInt32]) (rest := []) ⟨hx, hb, hml, hown, hts⟩ (c_X9_isSquare l (D := D) (ad := ad) (cy := cy) (sa := sa) (va := va) (I := I) (J := J) (S := S) h0 p0.toInt32 h4) (va_cwS 1 hts gX9_goesNow_X9_isSquare rfl rfl rfl (by decide +kernel) ⟨Nat.le_of_ble_eq_true rfl, Nat.le_of_ble_eq_true rfl⟩) ⟨qPre_blind _, fun U hU hW => ⟨rfl, qPre_of hP hK hE hN va_S.rf U hU hW⟩⟩ rfl rfl hl.1 rfl (lv_room (Nat.le_of_ble_eq_true rfl)) dX9_goesNow_78 ⟨Nat.le_of_ble_eq_true rfl, Nat.le_of_ble_eq_true rfl⟩) ?_
          obtain ⟨g5, hf⟩ := gd_ok hf
          exact W.zret (ty := .boolean) hx hb hr (q_narZ g5) (fun t ht _ => ⟨_, rfl, Option.some.inj hf, ht⟩) (fun _ h => by cases h) dX9_goesNow_81
        · have hf := (if_ok hf).1 cc
          refine lv_iload_n hx hb dX9_goesNow_62 rfl (lv_at hl 0 rfl) ?_
          refine lv_iconst (v := 2) hx hb dX9_goesNow_63 (by decide) ?_
          refine lv_irem hx hb dX9_goesNow_64 (by decide) ?_
          refine lv_iconst (v := 1) hx hb dX9_goesNow_65 (by decide) ?_
          refine lv_icmp_ne (tgt := 73) hx hb dX9_goesNow_66 (by decide) (fun cc => ?_) (fun cc => ?_)
          · have hf := (if_ok hf).2 cc
            refine lv_iconst (v := 0) hx hb dX9_goesNow_73 (by decide) ?_
            refine lv_goto (tgt := 81) hx hb dX9_goesNow_74 (by decide) ?_
            exact W.zret (ty := .boolean) hx hb hr rfl (fun t ht _ => ⟨_, rfl, Option.some.inj hf, ht⟩) (fun _ h => by cases h) dX9_goesNow_81
          · have hf := (if_ok hf).1 cc
            refine lv_iconst (v := 1) hx hb dX9_goesNow_69 (by decide) ?_
            refine lv_goto (tgt := 81) hx hb dX9_goesNow_70 (by decide) ?_
            exact W.zret (ty := .boolean) hx hb hr rfl (fun t ht _ => ⟨_, rfl, Option.some.inj hf, ht⟩) (fun _ h => by cases h) dX9_goesNow_81
      · have hf := (if_ok hf).1 cc
        refine lv_iload_n hx hb dX9_goesNow_40 rfl (lv_at hl 0 rfl) ?_
        refine lv_iconst (v := 2) hx hb dX9_goesNow_41 (by decide) ?_
        refine lv_irem hx hb dX9_goesNow_42 (by decide) ?_
        refine lv_if_ne (tgt := 50) hx hb dX9_goesNow_43 (by decide) (fun cc => ?_) (fun cc => ?_)
        · have hf := (if_ok hf).2 cc
          refine lv_iconst (v := 0) hx hb dX9_goesNow_50 (by decide) ?_
          refine lv_goto (tgt := 81) hx hb dX9_goesNow_51 (by decide) ?_
          exact W.zret (ty := .boolean) hx hb hr rfl (fun t ht _ => ⟨_, rfl, Option.some.inj hf, ht⟩) (fun _ h => by cases h) dX9_goesNow_81
        · have hf := (if_ok hf).1 cc
          refine lv_iconst (v := 1) hx hb dX9_goesNow_46 (by decide) ?_
          refine lv_goto (tgt := 81) hx hb dX9_goesNow_47 (by decide) ?_
          exact W.zret (ty := .boolean) hx hb hr rfl (fun t ht _ => ⟨_, rfl, Option.some.inj hf, ht⟩) (fun _ h => by cases h) dX9_goesNow_81
    · have hf := (if_ok hf).1 cc
      refine lv_iload_n hx hb dX9_goesNow_25 rfl (lv_at hl 0 rfl) ?_
      obtain ⟨v6, h7, hf⟩ := bd_ok hf
      refine q_cSi (va_runS (As := [.int p0.toInt32]) (rest := []) ⟨hx, hb, hml, hown, hts⟩ (c_X9_isPrime l (D := D) (ad := ad) (cy := cy) (sa := sa) (va := va) (I := I) (J := J) (S := S) h0 p0.toInt32 h7) (va_cwS 1 hts gX9_goesNow_X9_isPrime rfl rfl rfl (by decide +kernel) ⟨Nat.le_of_ble_eq_true rfl, Nat.le_of_ble_eq_true rfl⟩) ⟨qPre_blind _, fun U hU hW => ⟨rfl, qPre_of hP hK hE hN va_S.rf U hU hW⟩⟩ rfl rfl hl.1 rfl (lv_room (Nat.le_of_ble_eq_true rfl)) dX9_goesNow_26 ⟨Nat.le_of_ble_eq_true rfl, Nat.le_of_ble_eq_true rfl⟩) ?_
      refine lv_goto (tgt := 81) hx hb dX9_goesNow_29 (by decide) ?_
      obtain ⟨g8, hf⟩ := gd_ok hf
      exact W.zret (ty := .boolean) hx hb hr (q_narZ g8) (fun t ht _ => ⟨_, rfl, Option.some.inj hf, ht⟩) (fun _ h => by cases h) dX9_goesNow_81
  · have hf := (if_ok hf).1 cc
    refine lv_iconst (v := 0) hx hb dX9_goesNow_13 (by decide) ?_
    exact W.zret (ty := .boolean) hx hb hr rfl (fun t ht _ => ⟨_, rfl, Option.some.inj hf, ht⟩) (fun _ h => by cases h) dX9_goesNow_14
abbrev r_X9_goes : Room := { frames := 2, cells := 0, slots := 0, locals := 48 }
set_option maxHeartbeats 4000000 in
set_option maxRecDepth 100000 in
theorem c_X9_goes (l : Launch) {D : va_G} {ad : Nat → Nat} {cy : Nat → ClassId} {sa va : Nat → Nat} {I : qI} {J : qJ} {S : Nat → Prop} (h0 : isM0 S)   (p0 : Int32) {r : Int32} {Ie : qI} (hf : f_X9_goes p0 I = some (r, Ie)) : Met l yX9_goes wsX9_goes r_X9_goes (va_Pc [.ref (ad 0), .int p0] (qPre D S ad cy sa va (eM ad cy) I J)) (va_Qi (S := Unit) (fun x _ => x = r) (fun _ t => qP D S ad (eM ad cy) Ie J t.heap) (qA S ad)) 0 0 (qA S ad) := by
  refine Met.ofW (cc := cX9_goes) (maxL := 2) (ret := (some .int)) (by decide) rfl ?_
  intro p e s m args below meth c s₁ B hml hv
  obtain ⟨rfl, hP, hK, hE, hN⟩ := hv
  have C : qC p s m _ meth c cX9_goes 2 RX9 wsX9_goes (some .int) := ⟨⟨B.exec, B.bytes, hml, findClass_of_methodNamed B.named, atoms_spec (ws := wsX9_goes) B.pre⟩, B.returns, B.notSynchronized⟩
  have C0 := C
  obtain ⟨⟨hx, hb, hml, hown, hts⟩, hr, hlocks⟩ := C0
  have hS : va_S (qA S ad) s.heap s.heap [] := va_S.rf
  have hl := lv_entry ([.ref (ad 0), .int p0]) (n := 2) (Nat.le_of_ble_eq_true rfl)
  rw [lg_entry_eq]
  generalize (lg_sl ([.ref (ad 0), .int p0]) ++ List.replicate (2 - (lg_sl ([.ref (ad 0), .int p0])).length) Slot.unset).toArray = ls at hl ⊢
  have hl : lv_has ls 2 [(0, .ref (ad 0)), (1, .int p0)] := hl
  unfold f_X9_goes at hf
  refine lv_iload_n hx hb dX9_goes_0 rfl (lv_at hl 1 rfl) ?_
  refine lv_i2l hx hb dX9_goes_1 rfl ?_
  refine lv_lconst (v := 0) hx hb dX9_goes_2 (by decide) ?_
  refine lv_ldc2 (own := RX9) (v := 999) hx hb hown (hts (.constantLong RX9 259 (999)) (by decide +kernel)) dX9_goes_3 ?_
  obtain ⟨v1, h2, hf⟩ := bd_ok hf
  refine q_cSi (va_runS (As := [.long p0.toInt64, .long (0 : Int64), .long (999 : Int64)]) (rest := []) ⟨hx, hb, hml, hown, hts⟩ (c_X9_in l (D := D) (ad := ad) (cy := cy) (sa := sa) (va := va) (I := I) (J := J) (S := S) h0 p0.toInt64 (0 : Int64) (999 : Int64) h2) (va_cwS 3 hts gX9_goes_X9_in rfl rfl rfl (by decide +kernel) ⟨Nat.le_of_ble_eq_true rfl, Nat.le_of_ble_eq_true rfl⟩) ⟨qPre_blind _, fun U hU hW => ⟨rfl, qPre_of hP hK hE hN hS U hU hW⟩⟩ rfl rfl hl.1 rfl (lv_room (Nat.le_of_ble_eq_true rfl)) dX9_goes_6 ⟨Nat.le_of_ble_eq_true rfl, Nat.le_of_ble_eq_true rfl⟩) ?_
  refine lv_if_eq (tgt := 29) hx hb dX9_goes_9 (by decide) (fun cc => ?_) (fun cc => ?_)
  · have hf := (if_ok hf).1 cc
    refine lv_aload_n hx hb dX9_goes_29 rfl (lv_at hl 0 rfl) ?_
    refine lv_sipush (v := -1002) hx hb dX9_goes_30 (by decide) ?_
    obtain ⟨v3, I4, h5, hf⟩ := bd2_ok hf
    refine q_cEi (va_runV (As := [.int (-1002 : Int32)]) (rest := []) ⟨hx, hb, hml, hown, hts⟩ (c_X9_refuse l (D := D) (ad := ad) (cy := cy) (sa := sa) (va := va) (I := I) (J := J) (S := S) h0 (-1002 : Int32) h5) (cwV 1 hts gX9_goes_X9_refuse rfl rfl rfl (by decide +kernel) ⟨Nat.le_of_ble_eq_true rfl, Nat.le_of_ble_eq_true rfl⟩) ⟨qPre_blind _, q_recv hK hP (oX9 h0) rfl, fun U hU hW => ⟨rfl, qPre_of hP hK hE hN hS U hU hW⟩⟩ rfl rfl hl.1 rfl (lv_room (Nat.le_of_ble_eq_true rfl)) dX9_goes_33 ⟨Nat.le_of_ble_eq_true rfl, Nat.le_of_ble_eq_true rfl⟩) hS (fun H locs hP hS => ?_)
    have e9 := Option.some.inj hf
    have eI9 : I4 = Ie := (congrArg Prod.snd e9)
    exact W.iret hx hb hr (fun t ht _ => ⟨⟨_, (), rfl, (congrArg Prod.fst e9), by show qP D _ ad _ _ _ t.heap; rw [ht, ← eI9]; exact hP⟩, hS.F ht⟩) hS.2.2 dX9_goes_36
  · have hf := (if_ok hf).2 cc
    refine lv_aload_n hx hb dX9_goes_12 rfl (lv_at hl 0 rfl) ?_
    refine lv_iload_n hx hb dX9_goes_13 rfl (lv_at hl 1 rfl) ?_
    refine lv_i2l hx hb dX9_goes_14 rfl ?_
    obtain ⟨v6, h7, hf⟩ := bd_ok hf
    refine q_cSi (va_runV (As := [.long p0.toInt64]) (rest := []) ⟨hx, hb, hml, hown, hts⟩ (c_X9_goesNow l (D := D) (ad := ad) (cy := cy) (sa := sa) (va := va) (I := I) (J := J) (S := S) h0 p0.toInt64 h7) (cwV 1 hts gX9_goes_X9_goesNow rfl rfl rfl (by decide +kernel) ⟨Nat.le_of_ble_eq_true rfl, Nat.le_of_ble_eq_true rfl⟩) ⟨qPre_blind _, q_recv hK hP (oX9 h0) rfl, fun U hU hW => ⟨rfl, qPre_of hP hK hE hN hS U hU hW⟩⟩ rfl rfl hl.1 rfl (lv_room (Nat.le_of_ble_eq_true rfl)) dX9_goes_15 ⟨Nat.le_of_ble_eq_true rfl, Nat.le_of_ble_eq_true rfl⟩) ?_
    refine lv_if_eq (tgt := 25) hx hb dX9_goes_18 (by decide) (fun cc => ?_) (fun cc => ?_)
    · have hf := (if_ok hf).1 cc
      refine lv_iconst (v := 0) hx hb dX9_goes_25 (by decide) ?_
      refine lv_goto (tgt := 36) hx hb dX9_goes_26 (by decide) ?_
      have e9 := Option.some.inj hf
      have eI9 : I = Ie := (congrArg Prod.snd e9)
      exact W.iret hx hb hr (fun t ht _ => ⟨⟨_, (), rfl, (congrArg Prod.fst e9), by show qP D _ ad _ _ _ t.heap; rw [ht, ← eI9]; exact hP⟩, hS.F ht⟩) hS.2.2 dX9_goes_36
    · have hf := (if_ok hf).2 cc
      refine lv_iconst (v := 1) hx hb dX9_goes_21 (by decide) ?_
      refine lv_goto (tgt := 36) hx hb dX9_goes_22 (by decide) ?_
      have e9 := Option.some.inj hf
      have eI9 : I = Ie := (congrArg Prod.snd e9)
      exact W.iret hx hb hr (fun t ht _ => ⟨⟨_, (), rfl, (congrArg Prod.fst e9), by show qP D _ ad _ _ _ t.heap; rw [ht, ← eI9]; exact hP⟩, hS.F ht⟩) hS.2.2 dX9_goes_36
abbrev r_X9_next : Room := { frames := 2, cells := 0, slots := 0, locals := 48 }
set_option maxHeartbeats 4000000 in
set_option maxRecDepth 100000 in
theorem w_X9_next_43 {S : Nat → Prop} (C : qC p s m args meth c cX9_next 3 RX9 wsX9_next (some .int)) (hK : qK D cy sa s) (hE : qEnv sa va (qA S ad) s s.heap) (hN : qN S ad) (h0 : isM0 S)   {J : qJ} {r : Int32} {Ie : qI} : ∀ (x2 : Int32)  (I : qI) (ls : Array Slot) (H : Heap) (locs : List Loc), f_X9_next_43 x2 I = some (r, Ie) → lv_has ls 3 [(2, .int x2)] → qP D S ad (eM ad cy) I J H → va_S (qA S ad) s.heap H locs → W p l e (headSpec wsX9_next r_X9_next).room s m args below meth c H locs 0 0 (MQ below (va_Qi (S := Unit) (fun x _ => x = r) (fun _ t => qP D S ad (eM ad cy) Ie J t.heap) (qA S ad)) args s 0 0 (qA S ad)) (F0 m 43 ls []) := by
  have C0 := C
  obtain ⟨⟨hx, hb, hml, hown, hts⟩, hr, hlocks⟩ := C0
  intro x2 I ls H locs hf hl hP hS
  unfold f_X9_next_43 at hf
  refine lv_iload_n hx hb dX9_next_43 rfl (lv_at hl 0 rfl) ?_
  refine lv_bipush (v := 99) hx hb dX9_next_44 (by decide) ?_
  refine lv_icmp_gt (tgt := 53) hx hb dX9_next_46 (by decide) (fun cc => ?_) (fun cc => ?_)
  · have hf := (if_ok hf).1 cc
    refine lv_iconst (v := -1) hx hb dX9_next_53 (by decide) ?_
    have e9 := Option.some.inj hf
    have eI9 : I = Ie := (congrArg Prod.snd e9)
    exact W.iret hx hb hr (fun t ht _ => ⟨⟨_, (), rfl, (congrArg Prod.fst e9), by show qP D _ ad _ _ _ t.heap; rw [ht, ← eI9]; exact hP⟩, hS.F ht⟩) hS.2.2 dX9_next_54
  · have hf := (if_ok hf).2 cc
    refine lv_iload_n hx hb dX9_next_49 rfl (lv_at hl 0 rfl) ?_
    refine lv_goto (tgt := 54) hx hb dX9_next_50 (by decide) ?_
    have e9 := Option.some.inj hf
    have eI9 : I = Ie := (congrArg Prod.snd e9)
    exact W.iret hx hb hr (fun t ht _ => ⟨⟨_, (), rfl, (congrArg Prod.fst e9), by show qP D _ ad _ _ _ t.heap; rw [ht, ← eI9]; exact hP⟩, hS.F ht⟩) hS.2.2 dX9_next_54
set_option maxHeartbeats 4000000 in
set_option maxRecDepth 100000 in
theorem w_X9_next_22 {S : Nat → Prop} (C : qC p s m args meth c cX9_next 3 RX9 wsX9_next (some .int)) (hK : qK D cy sa s) (hE : qEnv sa va (qA S ad) s s.heap) (hN : qN S ad) (h0 : isM0 S)   {J : qJ} {r : Int32} {Ie : qI} : ∀ (n : Nat) (x2 : Int32)  (I : qI) (ls : Array Slot) (H : Heap) (locs : List Loc), f_X9_next_22 n x2 I = some (r, Ie) → lv_has ls 3 [(0, .ref (ad 0)), (2, .int x2)] → qP D S ad (eM ad cy) I J H → va_S (qA S ad) s.heap H locs → W p l e (headSpec wsX9_next r_X9_next).room s m args below meth c H locs 0 0 (MQ below (va_Qi (S := Unit) (fun x _ => x = r) (fun _ t => qP D S ad (eM ad cy) Ie J t.heap) (qA S ad)) args s 0 0 (qA S ad)) (F0 m 22 ls []) := by
  have C0 := C
  obtain ⟨⟨hx, hb, hml, hown, hts⟩, hr, hlocks⟩ := C0
  intro n
  induction n with
  | zero =>
    intro x2 I ls H locs hf hl hP hS
    rw [f_X9_next_22] at hf
    cases hf
  | succ n ih =>
    intro x2 I ls H locs hf hl hP hS
    rw [f_X9_next_22] at hf
    refine lv_iload_n hx hb dX9_next_22 rfl (lv_at hl 1 rfl) ?_
    refine lv_bipush (v := 99) hx hb dX9_next_23 (by decide) ?_
    refine lv_icmp_gt (tgt := 43) hx hb dX9_next_25 (by decide) (fun cc => ?_) (fun cc => ?_)
    · have hf := (if_ok hf).1 cc
      exact w_X9_next_43 C hK hE hN h0   x2 I _ _ _ hf (lv_sub hl [1] rfl) hP hS
    · have hf := (if_ok hf).2 cc
      refine lv_aload_n hx hb dX9_next_28 rfl (lv_at hl 0 rfl) ?_
      refine lv_iload_n hx hb dX9_next_29 rfl (lv_at hl 1 rfl) ?_
      refine lv_i2l hx hb dX9_next_30 rfl ?_
      obtain ⟨v1, h2, hf⟩ := bd_ok hf
      refine q_cSi (va_runV (As := [.long x2.toInt64]) (rest := []) ⟨hx, hb, hml, hown, hts⟩ (c_X9_goesNow l (D := D) (ad := ad) (cy := cy) (sa := sa) (va := va) (I := I) (J := J) (S := S) h0 x2.toInt64 h2) (cwV 1 hts gX9_next_X9_goesNow rfl rfl rfl (by decide +kernel) ⟨Nat.le_of_ble_eq_true rfl, Nat.le_of_ble_eq_true rfl⟩) ⟨qPre_blind _, q_recv hK hP (oX9 h0) rfl, fun U hU hW => ⟨rfl, qPre_of hP hK hE hN hS U hU hW⟩⟩ rfl rfl hl.1 rfl (lv_room (Nat.le_of_ble_eq_true rfl)) dX9_next_31 ⟨Nat.le_of_ble_eq_true rfl, Nat.le_of_ble_eq_true rfl⟩) ?_
      refine lv_if_ne (tgt := 43) hx hb dX9_next_34 (by decide) (fun cc => ?_) (fun cc => ?_)
      · have hf := (if_ok hf).2 cc
        exact w_X9_next_43 C hK hE hN h0   x2 I _ _ _ hf (lv_sub hl [1] rfl) hP hS
      · have hf := (if_ok hf).1 cc
        refine lv_iinc (v := (x2 + (1 : Int32))) (lv' := [(2, .int (x2 + (1 : Int32))), (0, .ref (ad 0))]) hx hb dX9_next_37 hl (k := 1) rfl rfl (by decide) rfl (fun ls hl => ?_)
        refine lv_goto (tgt := 22) hx hb dX9_next_40 (by decide) ?_
        exact ih (x2 + (1 : Int32)) I _ _ _ hf (lv_sub hl [1, 0] rfl) hP hS
set_option maxHeartbeats 4000000 in
set_option maxRecDepth 100000 in
theorem c_X9_next (l : Launch) {D : va_G} {ad : Nat → Nat} {cy : Nat → ClassId} {sa va : Nat → Nat} {I : qI} {J : qJ} {S : Nat → Prop} (h0 : isM0 S)   (p0 : Int32) {r : Int32} {Ie : qI} (hf : f_X9_next p0 I = some (r, Ie)) : Met l yX9_next wsX9_next r_X9_next (va_Pc [.ref (ad 0), .int p0] (qPre D S ad cy sa va (eM ad cy) I J)) (va_Qi (S := Unit) (fun x _ => x = r) (fun _ t => qP D S ad (eM ad cy) Ie J t.heap) (qA S ad)) 0 0 (qA S ad) := by
  refine Met.ofW (cc := cX9_next) (maxL := 3) (ret := (some .int)) (by decide) rfl ?_
  intro p e s m args below meth c s₁ B hml hv
  obtain ⟨rfl, hP, hK, hE, hN⟩ := hv
  have C : qC p s m _ meth c cX9_next 3 RX9 wsX9_next (some .int) := ⟨⟨B.exec, B.bytes, hml, findClass_of_methodNamed B.named, atoms_spec (ws := wsX9_next) B.pre⟩, B.returns, B.notSynchronized⟩
  have C0 := C
  obtain ⟨⟨hx, hb, hml, hown, hts⟩, hr, hlocks⟩ := C0
  have hS : va_S (qA S ad) s.heap s.heap [] := va_S.rf
  have hl := lv_entry ([.ref (ad 0), .int p0]) (n := 3) (Nat.le_of_ble_eq_true rfl)
  rw [lg_entry_eq]
  generalize (lg_sl ([.ref (ad 0), .int p0]) ++ List.replicate (3 - (lg_sl ([.ref (ad 0), .int p0])).length) Slot.unset).toArray = ls at hl ⊢
  have hl : lv_has ls 3 [(0, .ref (ad 0)), (1, .int p0)] := hl
  unfold f_X9_next at hf
  refine lv_iload_n hx hb dX9_next_0 rfl (lv_at hl 1 rfl) ?_
  refine lv_i2l hx hb dX9_next_1 rfl ?_
  refine lv_lconst (v := 0) hx hb dX9_next_2 (by decide) ?_
  refine lv_ldc2 (own := RX9) (v := 99) hx hb hown (hts (.constantLong RX9 135 (99)) (by decide +kernel)) dX9_next_3 ?_
  obtain ⟨v1, h2, hf⟩ := bd_ok hf
  refine q_cSi (va_runS (As := [.long p0.toInt64, .long (0 : Int64), .long (99 : Int64)]) (rest := []) ⟨hx, hb, hml, hown, hts⟩ (c_X9_in l (D := D) (ad := ad) (cy := cy) (sa := sa) (va := va) (I := I) (J := J) (S := S) h0 p0.toInt64 (0 : Int64) (99 : Int64) h2) (va_cwS 3 hts gX9_next_X9_in rfl rfl rfl (by decide +kernel) ⟨Nat.le_of_ble_eq_true rfl, Nat.le_of_ble_eq_true rfl⟩) ⟨qPre_blind _, fun U hU hW => ⟨rfl, qPre_of hP hK hE hN hS U hU hW⟩⟩ rfl rfl hl.1 rfl (lv_room (Nat.le_of_ble_eq_true rfl)) dX9_next_6 ⟨Nat.le_of_ble_eq_true rfl, Nat.le_of_ble_eq_true rfl⟩) ?_
  refine lv_if_ne (tgt := 20) hx hb dX9_next_9 (by decide) (fun cc => ?_) (fun cc => ?_)
  · have hf := (if_ok hf).2 cc
    refine lv_iload_n hx hb dX9_next_20 rfl (lv_at hl 1 rfl) ?_
    refine lv_istore_n (lv' := [(2, .int p0), (0, .ref (ad 0)), (1, .int p0)]) hx hb dX9_next_21 rfl hl (by decide) rfl (fun ls hl => ?_)
    exact w_X9_next_22 C hK hE hN h0  1000 p0 I _ _ _ hf (lv_sub hl [1, 0] rfl) hP hS
  · have hf := (if_ok hf).1 cc
    refine lv_aload_n hx hb dX9_next_12 rfl (lv_at hl 0 rfl) ?_
    refine lv_sipush (v := -1002) hx hb dX9_next_13 (by decide) ?_
    obtain ⟨v3, I4, h5, hf⟩ := bd2_ok hf
    refine q_cEi (va_runV (As := [.int (-1002 : Int32)]) (rest := []) ⟨hx, hb, hml, hown, hts⟩ (c_X9_refuse l (D := D) (ad := ad) (cy := cy) (sa := sa) (va := va) (I := I) (J := J) (S := S) h0 (-1002 : Int32) h5) (cwV 1 hts gX9_next_X9_refuse rfl rfl rfl (by decide +kernel) ⟨Nat.le_of_ble_eq_true rfl, Nat.le_of_ble_eq_true rfl⟩) ⟨qPre_blind _, q_recv hK hP (oX9 h0) rfl, fun U hU hW => ⟨rfl, qPre_of hP hK hE hN hS U hU hW⟩⟩ rfl rfl hl.1 rfl (lv_room (Nat.le_of_ble_eq_true rfl)) dX9_next_16 ⟨Nat.le_of_ble_eq_true rfl, Nat.le_of_ble_eq_true rfl⟩) hS (fun H locs hP hS => ?_)
    have e9 := Option.some.inj hf
    have eI9 : I4 = Ie := (congrArg Prod.snd e9)
    exact W.iret hx hb hr (fun t ht _ => ⟨⟨_, (), rfl, (congrArg Prod.fst e9), by show qP D _ ad _ _ _ t.heap; rw [ht, ← eI9]; exact hP⟩, hS.F ht⟩) hS.2.2 dX9_next_19
abbrev r_X9_before : Room := { frames := 2, cells := 0, slots := 0, locals := 48 }
set_option maxHeartbeats 4000000 in
set_option maxRecDepth 100000 in
theorem w_X9_before_22 {S : Nat → Prop} (C : qC p s m args meth c cX9_before 3 RX9 wsX9_before (some .int)) (hK : qK D cy sa s) (hE : qEnv sa va (qA S ad) s s.heap) (hN : qN S ad) (h0 : isM0 S)   {J : qJ} {r : Int32} {Ie : qI} : ∀ (n : Nat) (x2 : Int32)  (I : qI) (ls : Array Slot) (H : Heap) (locs : List Loc), f_X9_before_22 n x2 I = some (r, Ie) → lv_has ls 3 [(0, .ref (ad 0)), (2, .int x2)] → qP D S ad (eM ad cy) I J H → va_S (qA S ad) s.heap H locs → W p l e (headSpec wsX9_before r_X9_before).room s m args below meth c H locs 0 0 (MQ below (va_Qi (S := Unit) (fun x _ => x = r) (fun _ t => qP D S ad (eM ad cy) Ie J t.heap) (qA S ad)) args s 0 0 (qA S ad)) (F0 m 22 ls []) := by
  have C0 := C
  obtain ⟨⟨hx, hb, hml, hown, hts⟩, hr, hlocks⟩ := C0
  intro n
  induction n with
  | zero =>
    intro x2 I ls H locs hf hl hP hS
    rw [f_X9_before_22] at hf
    cases hf
  | succ n ih =>
    intro x2 I ls H locs hf hl hP hS
    rw [f_X9_before_22] at hf
    refine lv_iload_n hx hb dX9_before_22 rfl (lv_at hl 1 rfl) ?_
    refine lv_if_lt (tgt := 41) hx hb dX9_before_23 (by decide) (fun cc => ?_) (fun cc => ?_)
    · have hf := (if_ok hf).1 cc
      refine lv_iload_n hx hb dX9_before_41 rfl (lv_at hl 1 rfl) ?_
      have e9 := Option.some.inj hf
      have eI9 : I = Ie := (congrArg Prod.snd e9)
      exact W.iret hx hb hr (fun t ht _ => ⟨⟨_, (), rfl, (congrArg Prod.fst e9), by show qP D _ ad _ _ _ t.heap; rw [ht, ← eI9]; exact hP⟩, hS.F ht⟩) hS.2.2 dX9_before_42
    · have hf := (if_ok hf).2 cc
      refine lv_aload_n hx hb dX9_before_26 rfl (lv_at hl 0 rfl) ?_
      refine lv_iload_n hx hb dX9_before_27 rfl (lv_at hl 1 rfl) ?_
      refine lv_i2l hx hb dX9_before_28 rfl ?_
      obtain ⟨v1, h2, hf⟩ := bd_ok hf
      refine q_cSi (va_runV (As := [.long x2.toInt64]) (rest := []) ⟨hx, hb, hml, hown, hts⟩ (c_X9_goesNow l (D := D) (ad := ad) (cy := cy) (sa := sa) (va := va) (I := I) (J := J) (S := S) h0 x2.toInt64 h2) (cwV 1 hts gX9_before_X9_goesNow rfl rfl rfl (by decide +kernel) ⟨Nat.le_of_ble_eq_true rfl, Nat.le_of_ble_eq_true rfl⟩) ⟨qPre_blind _, q_recv hK hP (oX9 h0) rfl, fun U hU hW => ⟨rfl, qPre_of hP hK hE hN hS U hU hW⟩⟩ rfl rfl hl.1 rfl (lv_room (Nat.le_of_ble_eq_true rfl)) dX9_before_29 ⟨Nat.le_of_ble_eq_true rfl, Nat.le_of_ble_eq_true rfl⟩) ?_
      refine lv_if_ne (tgt := 41) hx hb dX9_before_32 (by decide) (fun cc => ?_) (fun cc => ?_)
      · have hf := (if_ok hf).2 cc
        refine lv_iload_n hx hb dX9_before_41 rfl (lv_at hl 1 rfl) ?_
        have e9 := Option.some.inj hf
        have eI9 : I = Ie := (congrArg Prod.snd e9)
        exact W.iret hx hb hr (fun t ht _ => ⟨⟨_, (), rfl, (congrArg Prod.fst e9), by show qP D _ ad _ _ _ t.heap; rw [ht, ← eI9]; exact hP⟩, hS.F ht⟩) hS.2.2 dX9_before_42
      · have hf := (if_ok hf).1 cc
        refine lv_iinc (v := (x2 + (-1 : Int32))) (lv' := [(2, .int (x2 + (-1 : Int32))), (0, .ref (ad 0))]) hx hb dX9_before_35 hl (k := 1) rfl rfl (by decide) rfl (fun ls hl => ?_)
        refine lv_goto (tgt := 22) hx hb dX9_before_38 (by decide) ?_
        exact ih (x2 + (-1 : Int32)) I _ _ _ hf (lv_sub hl [1, 0] rfl) hP hS
set_option maxHeartbeats 4000000 in
set_option maxRecDepth 100000 in
theorem c_X9_before (l : Launch) {D : va_G} {ad : Nat → Nat} {cy : Nat → ClassId} {sa va : Nat → Nat} {I : qI} {J : qJ} {S : Nat → Prop} (h0 : isM0 S)   (p0 : Int32) {r : Int32} {Ie : qI} (hf : f_X9_before p0 I = some (r, Ie)) : Met l yX9_before wsX9_before r_X9_before (va_Pc [.ref (ad 0), .int p0] (qPre D S ad cy sa va (eM ad cy) I J)) (va_Qi (S := Unit) (fun x _ => x = r) (fun _ t => qP D S ad (eM ad cy) Ie J t.heap) (qA S ad)) 0 0 (qA S ad) := by
  refine Met.ofW (cc := cX9_before) (maxL := 3) (ret := (some .int)) (by decide) rfl ?_
  intro p e s m args below meth c s₁ B hml hv
  obtain ⟨rfl, hP, hK, hE, hN⟩ := hv
  have C : qC p s m _ meth c cX9_before 3 RX9 wsX9_before (some .int) := ⟨⟨B.exec, B.bytes, hml, findClass_of_methodNamed B.named, atoms_spec (ws := wsX9_before) B.pre⟩, B.returns, B.notSynchronized⟩
  have C0 := C
  obtain ⟨⟨hx, hb, hml, hown, hts⟩, hr, hlocks⟩ := C0
  have hS : va_S (qA S ad) s.heap s.heap [] := va_S.rf
  have hl := lv_entry ([.ref (ad 0), .int p0]) (n := 3) (Nat.le_of_ble_eq_true rfl)
  rw [lg_entry_eq]
  generalize (lg_sl ([.ref (ad 0), .int p0]) ++ List.replicate (3 - (lg_sl ([.ref (ad 0), .int p0])).length) Slot.unset).toArray = ls at hl ⊢
  have hl : lv_has ls 3 [(0, .ref (ad 0)), (1, .int p0)] := hl
  unfold f_X9_before at hf
  refine lv_iload_n hx hb dX9_before_0 rfl (lv_at hl 1 rfl) ?_
  refine lv_i2l hx hb dX9_before_1 rfl ?_
  refine lv_lconst (v := 0) hx hb dX9_before_2 (by decide) ?_
  refine lv_ldc2 (own := RX9) (v := 99) hx hb hown (hts (.constantLong RX9 135 (99)) (by decide +kernel)) dX9_before_3 ?_
  obtain ⟨v1, h2, hf⟩ := bd_ok hf
  refine q_cSi (va_runS (As := [.long p0.toInt64, .long (0 : Int64), .long (99 : Int64)]) (rest := []) ⟨hx, hb, hml, hown, hts⟩ (c_X9_in l (D := D) (ad := ad) (cy := cy) (sa := sa) (va := va) (I := I) (J := J) (S := S) h0 p0.toInt64 (0 : Int64) (99 : Int64) h2) (va_cwS 3 hts gX9_before_X9_in rfl rfl rfl (by decide +kernel) ⟨Nat.le_of_ble_eq_true rfl, Nat.le_of_ble_eq_true rfl⟩) ⟨qPre_blind _, fun U hU hW => ⟨rfl, qPre_of hP hK hE hN hS U hU hW⟩⟩ rfl rfl hl.1 rfl (lv_room (Nat.le_of_ble_eq_true rfl)) dX9_before_6 ⟨Nat.le_of_ble_eq_true rfl, Nat.le_of_ble_eq_true rfl⟩) ?_
  refine lv_if_ne (tgt := 20) hx hb dX9_before_9 (by decide) (fun cc => ?_) (fun cc => ?_)
  · have hf := (if_ok hf).2 cc
    refine lv_iload_n hx hb dX9_before_20 rfl (lv_at hl 1 rfl) ?_
    refine lv_istore_n (lv' := [(2, .int p0), (0, .ref (ad 0)), (1, .int p0)]) hx hb dX9_before_21 rfl hl (by decide) rfl (fun ls hl => ?_)
    exact w_X9_before_22 C hK hE hN h0  1000 p0 I _ _ _ hf (lv_sub hl [1, 0] rfl) hP hS
  · have hf := (if_ok hf).1 cc
    refine lv_aload_n hx hb dX9_before_12 rfl (lv_at hl 0 rfl) ?_
    refine lv_sipush (v := -1002) hx hb dX9_before_13 (by decide) ?_
    obtain ⟨v3, I4, h5, hf⟩ := bd2_ok hf
    refine q_cEi (va_runV (As := [.int (-1002 : Int32)]) (rest := []) ⟨hx, hb, hml, hown, hts⟩ (c_X9_refuse l (D := D) (ad := ad) (cy := cy) (sa := sa) (va := va) (I := I) (J := J) (S := S) h0 (-1002 : Int32) h5) (cwV 1 hts gX9_before_X9_refuse rfl rfl rfl (by decide +kernel) ⟨Nat.le_of_ble_eq_true rfl, Nat.le_of_ble_eq_true rfl⟩) ⟨qPre_blind _, q_recv hK hP (oX9 h0) rfl, fun U hU hW => ⟨rfl, qPre_of hP hK hE hN hS U hU hW⟩⟩ rfl rfl hl.1 rfl (lv_room (Nat.le_of_ble_eq_true rfl)) dX9_before_16 ⟨Nat.le_of_ble_eq_true rfl, Nat.le_of_ble_eq_true rfl⟩) hS (fun H locs hP hS => ?_)
    have e9 := Option.some.inj hf
    have eI9 : I4 = Ie := (congrArg Prod.snd e9)
    exact W.iret hx hb hr (fun t ht _ => ⟨⟨_, (), rfl, (congrArg Prod.fst e9), by show qP D _ ad _ _ _ t.heap; rw [ht, ← eI9]; exact hP⟩, hS.F ht⟩) hS.2.2 dX9_before_19
abbrev r_X9_numbers : Room := { frames := 2, cells := 0, slots := 0, locals := 48 }
set_option maxHeartbeats 4000000 in
set_option maxRecDepth 100000 in
theorem w_X9_numbers_4 {S : Nat → Prop} (C : qC p s m args meth c cX9_numbers 3 RX9 wsX9_numbers (some .int)) (hK : qK D cy sa s) (hE : qEnv sa va (qA S ad) s s.heap) (hN : qN S ad) (h0 : isM0 S)   {I : qI} {J : qJ} (hP : qP D S ad (eM ad cy) I J s.heap) {r : Int32} : ∀ (n : Nat) (x1 : Int32) (x2 : Int32)  (ls : Array Slot), f_X9_numbers_4 I n x1 x2 = some r → lv_has ls 3 [(0, .ref (ad 0)), (1, .int x1), (2, .int x2)] → W p l e (headSpec wsX9_numbers r_X9_numbers).room s m args below meth c s.heap [] 0 0 (MQ below (vp_Si (fun x => x = r)) args s 0 0 (fun _ => False)) (F0 m 4 ls []) := by
  have C0 := C
  obtain ⟨⟨hx, hb, hml, hown, hts⟩, hr, hlocks⟩ := C0
  intro n
  induction n with
  | zero =>
    intro x1 x2 ls hf hl
    rw [f_X9_numbers_4] at hf
    cases hf
  | succ n ih =>
    intro x1 x2 ls hf hl
    rw [f_X9_numbers_4] at hf
    refine lv_iload_n hx hb dX9_numbers_4 rfl (lv_at hl 2 rfl) ?_
    refine lv_bipush (v := 99) hx hb dX9_numbers_5 (by decide) ?_
    refine lv_icmp_gt (tgt := 33) hx hb dX9_numbers_7 (by decide) (fun cc => ?_) (fun cc => ?_)
    · have hf := (if_ok hf).1 cc
      refine lv_iload_n hx hb dX9_numbers_33 rfl (lv_at hl 1 rfl) ?_
      exact W.iret hx hb hr (fun t ht _ => ⟨_, rfl, Option.some.inj hf, ht⟩) (fun _ h => by cases h) dX9_numbers_34
    · have hf := (if_ok hf).2 cc
      refine lv_iload_n hx hb dX9_numbers_10 rfl (lv_at hl 1 rfl) ?_
      refine lv_aload_n hx hb dX9_numbers_11 rfl (lv_at hl 0 rfl) ?_
      refine lv_iload_n hx hb dX9_numbers_12 rfl (lv_at hl 2 rfl) ?_
      refine lv_i2l hx hb dX9_numbers_13 rfl ?_
      obtain ⟨v1, h2, hf⟩ := bd_ok hf
      refine q_cSi (va_runV (As := [.long x2.toInt64]) (rest := [.int x1]) ⟨hx, hb, hml, hown, hts⟩ (c_X9_goesNow l (D := D) (ad := ad) (cy := cy) (sa := sa) (va := va) (I := I) (J := J) (S := S) h0 x2.toInt64 h2) (cwV 1 hts gX9_numbers_X9_goesNow rfl rfl rfl (by decide +kernel) ⟨Nat.le_of_ble_eq_true rfl, Nat.le_of_ble_eq_true rfl⟩) ⟨qPre_blind _, q_recv hK hP (oX9 h0) rfl, fun U hU hW => ⟨rfl, qPre_of hP hK hE hN va_S.rf U hU hW⟩⟩ rfl rfl hl.1 rfl (lv_room (Nat.le_of_ble_eq_true rfl)) dX9_numbers_14 ⟨Nat.le_of_ble_eq_true rfl, Nat.le_of_ble_eq_true rfl⟩) ?_
      refine lv_if_eq (tgt := 24) hx hb dX9_numbers_17 (by decide) (fun cc => ?_) (fun cc => ?_)
      · have hf := (if_ok hf).1 cc
        refine lv_iconst (v := 0) hx hb dX9_numbers_24 (by decide) ?_
        refine lv_iadd hx hb dX9_numbers_25 ?_
        refine lv_istore_n (lv' := [(1, .int (x1 + (0 : Int32))), (0, .ref (ad 0)), (2, .int x2)]) hx hb dX9_numbers_26 rfl hl (by decide) rfl (fun ls hl => ?_)
        refine lv_iinc (v := (x2 + (1 : Int32))) (lv' := [(2, .int (x2 + (1 : Int32))), (1, .int (x1 + (0 : Int32))), (0, .ref (ad 0))]) hx hb dX9_numbers_27 hl (k := 2) rfl rfl (by decide) rfl (fun ls hl => ?_)
        refine lv_goto (tgt := 4) hx hb dX9_numbers_30 (by decide) ?_
        exact ih (x1 + (0 : Int32)) (x2 + (1 : Int32)) _ hf (lv_sub hl [2, 1, 0] rfl)
      · have hf := (if_ok hf).2 cc
        refine lv_iconst (v := 1) hx hb dX9_numbers_20 (by decide) ?_
        refine lv_goto (tgt := 25) hx hb dX9_numbers_21 (by decide) ?_
        refine lv_iadd hx hb dX9_numbers_25 ?_
        refine lv_istore_n (lv' := [(1, .int (x1 + (1 : Int32))), (0, .ref (ad 0)), (2, .int x2)]) hx hb dX9_numbers_26 rfl hl (by decide) rfl (fun ls hl => ?_)
        refine lv_iinc (v := (x2 + (1 : Int32))) (lv' := [(2, .int (x2 + (1 : Int32))), (1, .int (x1 + (1 : Int32))), (0, .ref (ad 0))]) hx hb dX9_numbers_27 hl (k := 2) rfl rfl (by decide) rfl (fun ls hl => ?_)
        refine lv_goto (tgt := 4) hx hb dX9_numbers_30 (by decide) ?_
        exact ih (x1 + (1 : Int32)) (x2 + (1 : Int32)) _ hf (lv_sub hl [2, 1, 0] rfl)
set_option maxHeartbeats 4000000 in
set_option maxRecDepth 100000 in
theorem c_X9_numbers (l : Launch) {D : va_G} {ad : Nat → Nat} {cy : Nat → ClassId} {sa va : Nat → Nat} {I : qI} {J : qJ} {S : Nat → Prop} (h0 : isM0 S)    {r : Int32} (hf : f_X9_numbers I = some r) : Met l yX9_numbers wsX9_numbers r_X9_numbers (va_Pc [.ref (ad 0)] (qPre D S ad cy sa va (eM ad cy) I J)) (vp_Si (fun x => x = r)) 0 0 (fun _ => False) := by
  refine Met.ofW (cc := cX9_numbers) (maxL := 3) (ret := (some .int)) (by decide) rfl ?_
  intro p e s m args below meth c s₁ B hml hv
  obtain ⟨rfl, hP, hK, hE, hN⟩ := hv
  have C : qC p s m _ meth c cX9_numbers 3 RX9 wsX9_numbers (some .int) := ⟨⟨B.exec, B.bytes, hml, findClass_of_methodNamed B.named, atoms_spec (ws := wsX9_numbers) B.pre⟩, B.returns, B.notSynchronized⟩
  have C0 := C
  obtain ⟨⟨hx, hb, hml, hown, hts⟩, hr, hlocks⟩ := C0
  have hl := lv_entry ([.ref (ad 0)]) (n := 3) (Nat.le_of_ble_eq_true rfl)
  rw [lg_entry_eq]
  generalize (lg_sl ([.ref (ad 0)]) ++ List.replicate (3 - (lg_sl ([.ref (ad 0)])).length) Slot.unset).toArray = ls at hl ⊢
  have hl : lv_has ls 3 [(0, .ref (ad 0))] := hl
  unfold f_X9_numbers at hf
  refine lv_iconst (v := 0) hx hb dX9_numbers_0 (by decide) ?_
  refine lv_istore_n (lv' := [(1, .int (0 : Int32)), (0, .ref (ad 0))]) hx hb dX9_numbers_1 rfl hl (by decide) rfl (fun ls hl => ?_)
  refine lv_iconst (v := 1) hx hb dX9_numbers_2 (by decide) ?_
  refine lv_istore_n (lv' := [(2, .int (1 : Int32)), (1, .int (0 : Int32)), (0, .ref (ad 0))]) hx hb dX9_numbers_3 rfl hl (by decide) rfl (fun ls hl => ?_)
  exact w_X9_numbers_4 C hK hE hN h0 hP  1000 (0 : Int32) (1 : Int32) _ hf (lv_sub hl [2, 1, 0] rfl)
abbrev r_X9_left : Room := { frames := 2, cells := 0, slots := 0, locals := 48 }
theorem in_X9_left_X9 : ∀ w ∈ u_ws RX9 TX9 42, w ∈ wsX9_left := by decide +kernel
set_option maxHeartbeats 4000000 in
set_option maxRecDepth 100000 in
theorem w_X9_left_89 {S : Nat → Prop} (C : qC p s m args meth c cX9_left 5 RX9 wsX9_left (some .int)) (hK : qK D cy sa s) (hE : qEnv sa va (qA S ad) s s.heap) (hN : qN S ad) (h0 : isM0 S)   {J : qJ} {r : Int32} {Ie : qI} (k31 : Int32 → Int32 → Int32 → qI → Option (Int32 × qI)) (hk31 : ∀ (x1 : Int32) (x2 : Int32) (x3 : Int32)  (I : qI) (ls : Array Slot) (H : Heap) (locs : List Loc), k31 x1 x2 x3 I = some (r, Ie) → lv_has ls 5 [(0, .ref (ad 0)), (1, .int x1), (2, .int x2), (3, .int x3)] → qP D S ad (eM ad cy) I J H → va_S (qA S ad) s.heap H locs → W p l e (headSpec wsX9_left r_X9_left).room s m args below meth c H locs 0 0 (MQ below (va_Qi (S := Unit) (fun x _ => x = r) (fun _ t => qP D S ad (eM ad cy) Ie J t.heap) (qA S ad)) args s 0 0 (qA S ad)) (F0 m 31 ls [])) (k46 : Int32 → Int32 → Int32 → Int32 → qI → Option (Int32 × qI)) (hk46 : ∀ (x1 : Int32) (x2 : Int32) (x3 : Int32) (x4 : Int32)  (I : qI) (ls : Array Slot) (H : Heap) (locs : List Loc), k46 x1 x2 x3 x4 I = some (r, Ie) → lv_has ls 5 [(0, .ref (ad 0)), (1, .int x1), (2, .int x2), (3, .int x3), (4, .int x4)] → qP D S ad (eM ad cy) I J H → va_S (qA S ad) s.heap H locs → W p l e (headSpec wsX9_left r_X9_left).room s m args below meth c H locs 0 0 (MQ below (va_Qi (S := Unit) (fun x _ => x = r) (fun _ t => qP D S ad (eM ad cy) Ie J t.heap) (qA S ad)) args s 0 0 (qA S ad)) (F0 m 46 ls [])) : ∀ (x1 : Int32) (x2 : Int32) (x3 : Int32) (x4 : Int32) (xs0 : Int32) (xs1 : Int32) (xs2 : Int32)  (I : qI) (ls : Array Slot) (H : Heap) (locs : List Loc), f_X9_left_89 k31 k46 x1 x2 x3 x4 xs0 xs1 xs2 I = some (r, Ie) → lv_has ls 5 [(0, .ref (ad 0)), (1, .int x1), (2, .int x2), (3, .int x3), (4, .int x4)] → qP D S ad (eM ad cy) I J H → va_S (qA S ad) s.heap H locs → W p l e (headSpec wsX9_left r_X9_left).room s m args below meth c H locs 0 0 (MQ below (va_Qi (S := Unit) (fun x _ => x = r) (fun _ t => qP D S ad (eM ad cy) Ie J t.heap) (qA S ad)) args s 0 0 (qA S ad)) (F0 m 89 ls [.int xs0, .int xs1, .int xs2, .ref (ad 24)]) := by
  have C0 := C
  obtain ⟨⟨hx, hb, hml, hown, hts⟩, hr, hlocks⟩ := C0
  intro x1 x2 x3 x4 xs0 xs1 xs2 I ls H locs hf hl hP hS
  unfold f_X9_left_89 at hf
  refine lv_ior hx hb dX9_left_89 ?_
  obtain ⟨g1, hf⟩ := gd_ok hf
  obtain ⟨I2, eI2, hf⟩ := lt_ok hf
  refine q_iast hx hb hK hP hN hS (a0X9_24 h0) g1 dX9_left_90 (fun H locs hP hS => ?_)
  have hP : qP D S ad (eM ad cy) I2 J H := by rw [eI2]; exact hP
  refine lv_iinc (v := (x4 + (1 : Int32))) (lv' := [(4, .int (x4 + (1 : Int32))), (0, .ref (ad 0)), (1, .int x1), (2, .int x2), (3, .int x3)]) hx hb dX9_left_91 hl (k := 4) rfl rfl (by decide) rfl (fun ls hl => ?_)
  refine lv_goto (tgt := 46) hx hb dX9_left_94 (by decide) ?_
  exact hk46 x1 x2 x3 (x4 + (1 : Int32)) I2 _ _ _ hf (lv_sub hl [1, 2, 3, 4, 0] rfl) hP hS
set_option maxHeartbeats 4000000 in
set_option maxRecDepth 100000 in
theorem w_X9_left_97 {S : Nat → Prop} (C : qC p s m args meth c cX9_left 5 RX9 wsX9_left (some .int)) (hK : qK D cy sa s) (hE : qEnv sa va (qA S ad) s s.heap) (hN : qN S ad) (h0 : isM0 S)   {J : qJ} {r : Int32} {Ie : qI} (k31 : Int32 → Int32 → Int32 → qI → Option (Int32 × qI)) (hk31 : ∀ (x1 : Int32) (x2 : Int32) (x3 : Int32)  (I : qI) (ls : Array Slot) (H : Heap) (locs : List Loc), k31 x1 x2 x3 I = some (r, Ie) → lv_has ls 5 [(0, .ref (ad 0)), (1, .int x1), (2, .int x2), (3, .int x3)] → qP D S ad (eM ad cy) I J H → va_S (qA S ad) s.heap H locs → W p l e (headSpec wsX9_left r_X9_left).room s m args below meth c H locs 0 0 (MQ below (va_Qi (S := Unit) (fun x _ => x = r) (fun _ t => qP D S ad (eM ad cy) Ie J t.heap) (qA S ad)) args s 0 0 (qA S ad)) (F0 m 31 ls [])) : ∀ (x1 : Int32) (x2 : Int32) (x3 : Int32)  (I : qI) (ls : Array Slot) (H : Heap) (locs : List Loc), f_X9_left_97 k31 x1 x2 x3 I = some (r, Ie) → lv_has ls 5 [(0, .ref (ad 0)), (1, .int x1), (2, .int x2), (3, .int x3)] → qP D S ad (eM ad cy) I J H → va_S (qA S ad) s.heap H locs → W p l e (headSpec wsX9_left r_X9_left).room s m args below meth c H locs 0 0 (MQ below (va_Qi (S := Unit) (fun x _ => x = r) (fun _ t => qP D S ad (eM ad cy) Ie J t.heap) (qA S ad)) args s 0 0 (qA S ad)) (F0 m 97 ls []) := by
  have C0 := C
  obtain ⟨⟨hx, hb, hml, hown, hts⟩, hr, hlocks⟩ := C0
  intro x1 x2 x3 I ls H locs hf hl hP hS
  unfold f_X9_left_97 at hf
  refine lv_aload_n hx hb dX9_left_97 rfl (lv_at hl 0 rfl) ?_
  refine q_get (C := RX9) (T := TX9) (N := 42) (ci := 9) (v := .ref (ad 24)) hx hb hts in_X9_left_X9 hown hK hP (oX9 h0) rfl 35 (by decide) (hts (.fieldLink RX9 74 "RowsOnlyPrimesModel" "sums" "[I") (by decide +kernel)) (fun _ h9 => h9) rfl dX9_left_98 ?_
  refine lv_iload_n hx hb dX9_left_101 rfl (lv_at hl 3 rfl) ?_
  obtain ⟨g1, hf⟩ := gd_ok hf
  refine q_iald hx hb hK hP (a0X9_24 h0) g1 dX9_left_102 ?_
  refine lv_iconst (v := 1) hx hb dX9_left_103 (by decide) ?_
  refine lv_icmp_ne (tgt := 111) hx hb dX9_left_104 (by decide) (fun cc => ?_) (fun cc => ?_)
  · have hf := (if_ok hf).2 cc
    refine lv_iload_n hx hb dX9_left_111 rfl (lv_at hl 2 rfl) ?_
    refine lv_istore_n (lv' := [(2, .int x2), (0, .ref (ad 0)), (1, .int x1), (3, .int x3)]) hx hb dX9_left_112 rfl hl (by decide) rfl (fun ls hl => ?_)
    refine lv_iinc (v := (x3 + (1 : Int32))) (lv' := [(3, .int (x3 + (1 : Int32))), (2, .int x2), (0, .ref (ad 0)), (1, .int x1)]) hx hb dX9_left_113 hl (k := 3) rfl rfl (by decide) rfl (fun ls hl => ?_)
    refine lv_goto (tgt := 31) hx hb dX9_left_116 (by decide) ?_
    exact hk31 x1 x2 (x3 + (1 : Int32)) I _ _ _ hf (lv_sub hl [2, 3, 1, 0] rfl) hP hS
  · have hf := (if_ok hf).1 cc
    refine lv_iload_n hx hb dX9_left_107 rfl (lv_at hl 3 rfl) ?_
    refine lv_goto (tgt := 112) hx hb dX9_left_108 (by decide) ?_
    refine lv_istore_n (lv' := [(2, .int x3), (0, .ref (ad 0)), (1, .int x1), (3, .int x3)]) hx hb dX9_left_112 rfl hl (by decide) rfl (fun ls hl => ?_)
    refine lv_iinc (v := (x3 + (1 : Int32))) (lv' := [(3, .int (x3 + (1 : Int32))), (2, .int x3), (0, .ref (ad 0)), (1, .int x1)]) hx hb dX9_left_113 hl (k := 3) rfl rfl (by decide) rfl (fun ls hl => ?_)
    refine lv_goto (tgt := 31) hx hb dX9_left_116 (by decide) ?_
    exact hk31 x1 x3 (x3 + (1 : Int32)) I _ _ _ hf (lv_sub hl [2, 3, 1, 0] rfl) hP hS
set_option maxHeartbeats 4000000 in
set_option maxRecDepth 100000 in
theorem w_X9_left_46 {S : Nat → Prop} (C : qC p s m args meth c cX9_left 5 RX9 wsX9_left (some .int)) (hK : qK D cy sa s) (hE : qEnv sa va (qA S ad) s s.heap) (hN : qN S ad) (h0 : isM0 S)   {J : qJ} {r : Int32} {Ie : qI} (k31 : Int32 → Int32 → Int32 → qI → Option (Int32 × qI)) (hk31 : ∀ (x1 : Int32) (x2 : Int32) (x3 : Int32)  (I : qI) (ls : Array Slot) (H : Heap) (locs : List Loc), k31 x1 x2 x3 I = some (r, Ie) → lv_has ls 5 [(0, .ref (ad 0)), (1, .int x1), (2, .int x2), (3, .int x3)] → qP D S ad (eM ad cy) I J H → va_S (qA S ad) s.heap H locs → W p l e (headSpec wsX9_left r_X9_left).room s m args below meth c H locs 0 0 (MQ below (va_Qi (S := Unit) (fun x _ => x = r) (fun _ t => qP D S ad (eM ad cy) Ie J t.heap) (qA S ad)) args s 0 0 (qA S ad)) (F0 m 31 ls [])) : ∀ (n : Nat) (x1 : Int32) (x2 : Int32) (x3 : Int32) (x4 : Int32)  (I : qI) (ls : Array Slot) (H : Heap) (locs : List Loc), f_X9_left_46 k31 n x1 x2 x3 x4 I = some (r, Ie) → lv_has ls 5 [(0, .ref (ad 0)), (1, .int x1), (2, .int x2), (3, .int x3), (4, .int x4)] → qP D S ad (eM ad cy) I J H → va_S (qA S ad) s.heap H locs → W p l e (headSpec wsX9_left r_X9_left).room s m args below meth c H locs 0 0 (MQ below (va_Qi (S := Unit) (fun x _ => x = r) (fun _ t => qP D S ad (eM ad cy) Ie J t.heap) (qA S ad)) args s 0 0 (qA S ad)) (F0 m 46 ls []) := by
  have C0 := C
  obtain ⟨⟨hx, hb, hml, hown, hts⟩, hr, hlocks⟩ := C0
  intro n
  induction n with
  | zero =>
    intro x1 x2 x3 x4 I ls H locs hf hl hP hS
    rw [f_X9_left_46] at hf
    cases hf
  | succ n ih =>
    intro x1 x2 x3 x4 I ls H locs hf hl hP hS
    rw [f_X9_left_46] at hf
    refine lv_iload hx hb dX9_left_46 (lv_at hl 4 rfl) ?_
    refine lv_iload_n hx hb dX9_left_48 rfl (lv_at hl 3 rfl) ?_
    refine lv_icmp_gt (tgt := 97) hx hb dX9_left_49 (by decide) (fun cc => ?_) (fun cc => ?_)
    · have hf := (if_ok hf).1 cc
      exact w_X9_left_97 C hK hE hN h0 k31 hk31  x1 x2 x3 I _ _ _ hf (lv_sub hl [0, 1, 2, 3] rfl) hP hS
    · have hf := (if_ok hf).2 cc
      refine lv_iload hx hb dX9_left_52 (lv_at hl 4 rfl) ?_
      refine lv_bipush (v := 99) hx hb dX9_left_54 (by decide) ?_
      refine lv_icmp_gt (tgt := 97) hx hb dX9_left_56 (by decide) (fun cc => ?_) (fun cc => ?_)
      · have hf := (if_ok hf).1 cc
        exact w_X9_left_97 C hK hE hN h0 k31 hk31  x1 x2 x3 I _ _ _ hf (lv_sub hl [0, 1, 2, 3] rfl) hP hS
      · have hf := (if_ok hf).2 cc
        refine lv_aload_n hx hb dX9_left_59 rfl (lv_at hl 0 rfl) ?_
        refine q_get (C := RX9) (T := TX9) (N := 42) (ci := 9) (v := .ref (ad 24)) hx hb hts in_X9_left_X9 hown hK hP (oX9 h0) rfl 35 (by decide) (hts (.fieldLink RX9 74 "RowsOnlyPrimesModel" "sums" "[I") (by decide +kernel)) (fun _ h9 => h9) rfl dX9_left_60 ?_
        refine lv_iload_n hx hb dX9_left_63 rfl (lv_at hl 3 rfl) ?_
        refine lv_dup2_11 hx hb dX9_left_64 rfl rfl ?_
        obtain ⟨g1, hf⟩ := gd_ok hf
        refine q_iald hx hb hK hP (a0X9_24 h0) g1 dX9_left_65 ?_
        refine lv_aload_n hx hb dX9_left_66 rfl (lv_at hl 0 rfl) ?_
        refine lv_iload hx hb dX9_left_67 (lv_at hl 4 rfl) ?_
        refine lv_i2l hx hb dX9_left_69 rfl ?_
        obtain ⟨v2, h3, hf⟩ := bd_ok hf
        refine q_cSi (va_runV (As := [.long x4.toInt64]) (rest := [.int (I 24 x3.toNatClampNeg), .int x3, .ref (ad 24)]) ⟨hx, hb, hml, hown, hts⟩ (c_X9_goesNow l (D := D) (ad := ad) (cy := cy) (sa := sa) (va := va) (I := I) (J := J) (S := S) h0 x4.toInt64 h3) (cwV 1 hts gX9_left_X9_goesNow rfl rfl rfl (by decide +kernel) ⟨Nat.le_of_ble_eq_true rfl, Nat.le_of_ble_eq_true rfl⟩) ⟨qPre_blind _, q_recv hK hP (oX9 h0) rfl, fun U hU hW => ⟨rfl, qPre_of hP hK hE hN hS U hU hW⟩⟩ rfl rfl hl.1 rfl (lv_room (Nat.le_of_ble_eq_true rfl)) dX9_left_70 ⟨Nat.le_of_ble_eq_true rfl, Nat.le_of_ble_eq_true rfl⟩) ?_
        refine lv_if_eq (tgt := 88) hx hb dX9_left_73 (by decide) (fun cc => ?_) (fun cc => ?_)
        · have hf := (if_ok hf).1 cc
          refine lv_iconst (v := 0) hx hb dX9_left_88 (by decide) ?_
          exact w_X9_left_89 C hK hE hN h0 k31 hk31 (f_X9_left_46 k31 n) ih  x1 x2 x3 x4 (0 : Int32) (I 24 x3.toNatClampNeg) x3 I _ _ _ hf (lv_sub hl [0, 1, 2, 3, 4] rfl) hP hS
        · have hf := (if_ok hf).2 cc
          refine lv_aload_n hx hb dX9_left_76 rfl (lv_at hl 0 rfl) ?_
          refine q_get (C := RX9) (T := TX9) (N := 42) (ci := 9) (v := .ref (ad 24)) hx hb hts in_X9_left_X9 hown hK hP (oX9 h0) rfl 35 (by decide) (hts (.fieldLink RX9 74 "RowsOnlyPrimesModel" "sums" "[I") (by decide +kernel)) (fun _ h9 => h9) rfl dX9_left_77 ?_
          refine lv_iload_n hx hb dX9_left_80 rfl (lv_at hl 3 rfl) ?_
          refine lv_iload hx hb dX9_left_81 (lv_at hl 4 rfl) ?_
          refine lv_isub hx hb dX9_left_83 ?_
          obtain ⟨g4, hf⟩ := gd_ok hf
          refine q_iald hx hb hK hP (a0X9_24 h0) g4 dX9_left_84 ?_
          refine lv_goto (tgt := 89) hx hb dX9_left_85 (by decide) ?_
          exact w_X9_left_89 C hK hE hN h0 k31 hk31 (f_X9_left_46 k31 n) ih  x1 x2 x3 x4 (I 24 (x3 - x4).toNatClampNeg) (I 24 x3.toNatClampNeg) x3 I _ _ _ hf (lv_sub hl [0, 1, 2, 3, 4] rfl) hP hS
set_option maxHeartbeats 4000000 in
set_option maxRecDepth 100000 in
theorem w_X9_left_31 {S : Nat → Prop} (C : qC p s m args meth c cX9_left 5 RX9 wsX9_left (some .int)) (hK : qK D cy sa s) (hE : qEnv sa va (qA S ad) s s.heap) (hN : qN S ad) (h0 : isM0 S)   {J : qJ} {r : Int32} {Ie : qI} : ∀ (n : Nat) (x1 : Int32) (x2 : Int32) (x3 : Int32)  (I : qI) (ls : Array Slot) (H : Heap) (locs : List Loc), f_X9_left_31 n x1 x2 x3 I = some (r, Ie) → lv_has ls 5 [(0, .ref (ad 0)), (1, .int x1), (2, .int x2), (3, .int x3)] → qP D S ad (eM ad cy) I J H → va_S (qA S ad) s.heap H locs → W p l e (headSpec wsX9_left r_X9_left).room s m args below meth c H locs 0 0 (MQ below (va_Qi (S := Unit) (fun x _ => x = r) (fun _ t => qP D S ad (eM ad cy) Ie J t.heap) (qA S ad)) args s 0 0 (qA S ad)) (F0 m 31 ls []) := by
  have C0 := C
  obtain ⟨⟨hx, hb, hml, hown, hts⟩, hr, hlocks⟩ := C0
  intro n
  induction n with
  | zero =>
    intro x1 x2 x3 I ls H locs hf hl hP hS
    rw [f_X9_left_31] at hf
    cases hf
  | succ n ih =>
    intro x1 x2 x3 I ls H locs hf hl hP hS
    rw [f_X9_left_31] at hf
    refine lv_iload_n hx hb dX9_left_31 rfl (lv_at hl 3 rfl) ?_
    refine lv_iload_n hx hb dX9_left_32 rfl (lv_at hl 1 rfl) ?_
    refine lv_icmp_gt (tgt := 119) hx hb dX9_left_33 (by decide) (fun cc => ?_) (fun cc => ?_)
    · have hf := (if_ok hf).1 cc
      refine lv_iload_n hx hb dX9_left_119 rfl (lv_at hl 1 rfl) ?_
      refine lv_iload_n hx hb dX9_left_120 rfl (lv_at hl 2 rfl) ?_
      refine lv_isub hx hb dX9_left_121 ?_
      have e9 := Option.some.inj hf
      have eI9 : I = Ie := (congrArg Prod.snd e9)
      exact W.iret hx hb hr (fun t ht _ => ⟨⟨_, (), rfl, (congrArg Prod.fst e9), by show qP D _ ad _ _ _ t.heap; rw [ht, ← eI9]; exact hP⟩, hS.F ht⟩) hS.2.2 dX9_left_122
    · have hf := (if_ok hf).2 cc
      refine lv_aload_n hx hb dX9_left_36 rfl (lv_at hl 0 rfl) ?_
      refine q_get (C := RX9) (T := TX9) (N := 42) (ci := 9) (v := .ref (ad 24)) hx hb hts in_X9_left_X9 hown hK hP (oX9 h0) rfl 35 (by decide) (hts (.fieldLink RX9 74 "RowsOnlyPrimesModel" "sums" "[I") (by decide +kernel)) (fun _ h9 => h9) rfl dX9_left_37 ?_
      refine lv_iload_n hx hb dX9_left_40 rfl (lv_at hl 3 rfl) ?_
      refine lv_iconst (v := 0) hx hb dX9_left_41 (by decide) ?_
      obtain ⟨g1, hf⟩ := gd_ok hf
      obtain ⟨I2, eI2, hf⟩ := lt_ok hf
      refine q_iast hx hb hK hP hN hS (a0X9_24 h0) g1 dX9_left_42 (fun H locs hP hS => ?_)
      have hP : qP D S ad (eM ad cy) I2 J H := by rw [eI2]; exact hP
      refine lv_iconst (v := 1) hx hb dX9_left_43 (by decide) ?_
      refine lv_istore (lv' := [(4, .int (1 : Int32)), (0, .ref (ad 0)), (1, .int x1), (2, .int x2), (3, .int x3)]) hx hb dX9_left_44 hl (by decide) rfl (fun ls hl => ?_)
      exact w_X9_left_46 C hK hE hN h0 (f_X9_left_31 n) ih 1000 x1 x2 x3 (1 : Int32) I2 _ _ _ hf (lv_sub hl [1, 2, 3, 4, 0] rfl) hP hS
set_option maxHeartbeats 4000000 in
set_option maxRecDepth 100000 in
theorem c_X9_left (l : Launch) {D : va_G} {ad : Nat → Nat} {cy : Nat → ClassId} {sa va : Nat → Nat} {I : qI} {J : qJ} {S : Nat → Prop} (h0 : isM0 S)   (p0 : Int32) {r : Int32} {Ie : qI} (hf : f_X9_left p0 I = some (r, Ie)) : Met l yX9_left wsX9_left r_X9_left (va_Pc [.ref (ad 0), .int p0] (qPre D S ad cy sa va (eM ad cy) I J)) (va_Qi (S := Unit) (fun x _ => x = r) (fun _ t => qP D S ad (eM ad cy) Ie J t.heap) (qA S ad)) 0 0 (qA S ad) := by
  refine Met.ofW (cc := cX9_left) (maxL := 5) (ret := (some .int)) (by decide) rfl ?_
  intro p e s m args below meth c s₁ B hml hv
  obtain ⟨rfl, hP, hK, hE, hN⟩ := hv
  have C : qC p s m _ meth c cX9_left 5 RX9 wsX9_left (some .int) := ⟨⟨B.exec, B.bytes, hml, findClass_of_methodNamed B.named, atoms_spec (ws := wsX9_left) B.pre⟩, B.returns, B.notSynchronized⟩
  have C0 := C
  obtain ⟨⟨hx, hb, hml, hown, hts⟩, hr, hlocks⟩ := C0
  have hS : va_S (qA S ad) s.heap s.heap [] := va_S.rf
  have hl := lv_entry ([.ref (ad 0), .int p0]) (n := 5) (Nat.le_of_ble_eq_true rfl)
  rw [lg_entry_eq]
  generalize (lg_sl ([.ref (ad 0), .int p0]) ++ List.replicate (5 - (lg_sl ([.ref (ad 0), .int p0])).length) Slot.unset).toArray = ls at hl ⊢
  have hl : lv_has ls 5 [(0, .ref (ad 0)), (1, .int p0)] := hl
  unfold f_X9_left at hf
  refine lv_iload_n hx hb dX9_left_0 rfl (lv_at hl 1 rfl) ?_
  refine lv_i2l hx hb dX9_left_1 rfl ?_
  refine lv_lconst (v := 0) hx hb dX9_left_2 (by decide) ?_
  refine lv_ldc2 (own := RX9) (v := 400) hx hb hown (hts (.constantLong RX9 265 (400)) (by decide +kernel)) dX9_left_3 ?_
  obtain ⟨v1, h2, hf⟩ := bd_ok hf
  refine q_cSi (va_runS (As := [.long p0.toInt64, .long (0 : Int64), .long (400 : Int64)]) (rest := []) ⟨hx, hb, hml, hown, hts⟩ (c_X9_in l (D := D) (ad := ad) (cy := cy) (sa := sa) (va := va) (I := I) (J := J) (S := S) h0 p0.toInt64 (0 : Int64) (400 : Int64) h2) (va_cwS 3 hts gX9_left_X9_in rfl rfl rfl (by decide +kernel) ⟨Nat.le_of_ble_eq_true rfl, Nat.le_of_ble_eq_true rfl⟩) ⟨qPre_blind _, fun U hU hW => ⟨rfl, qPre_of hP hK hE hN hS U hU hW⟩⟩ rfl rfl hl.1 rfl (lv_room (Nat.le_of_ble_eq_true rfl)) dX9_left_6 ⟨Nat.le_of_ble_eq_true rfl, Nat.le_of_ble_eq_true rfl⟩) ?_
  refine lv_if_ne (tgt := 20) hx hb dX9_left_9 (by decide) (fun cc => ?_) (fun cc => ?_)
  · have hf := (if_ok hf).2 cc
    refine lv_iconst (v := 0) hx hb dX9_left_20 (by decide) ?_
    refine lv_istore_n (lv' := [(2, .int (0 : Int32)), (0, .ref (ad 0)), (1, .int p0)]) hx hb dX9_left_21 rfl hl (by decide) rfl (fun ls hl => ?_)
    refine lv_aload_n hx hb dX9_left_22 rfl (lv_at hl 1 rfl) ?_
    refine q_get (C := RX9) (T := TX9) (N := 42) (ci := 9) (v := .ref (ad 24)) hx hb hts in_X9_left_X9 hown hK hP (oX9 h0) rfl 35 (by decide) (hts (.fieldLink RX9 74 "RowsOnlyPrimesModel" "sums" "[I") (by decide +kernel)) (fun _ h9 => h9) rfl dX9_left_23 ?_
    refine lv_iconst (v := 0) hx hb dX9_left_26 (by decide) ?_
    refine lv_iconst (v := 1) hx hb dX9_left_27 (by decide) ?_
    obtain ⟨I3, eI3, hf⟩ := lt_ok hf
    refine q_iast hx hb hK hP hN hS (a0X9_24 h0) (by decide) dX9_left_28 (fun H locs hP hS => ?_)
    have eI3 : I3 = _ := eI3
    have hP : qP D S ad (eM ad cy) I3 J H := by rw [eI3]; exact hP
    refine lv_iconst (v := 1) hx hb dX9_left_29 (by decide) ?_
    refine lv_istore_n (lv' := [(3, .int (1 : Int32)), (2, .int (0 : Int32)), (0, .ref (ad 0)), (1, .int p0)]) hx hb dX9_left_30 rfl hl (by decide) rfl (fun ls hl => ?_)
    exact w_X9_left_31 C hK hE hN h0  1000 p0 (0 : Int32) (1 : Int32) I3 _ _ _ hf (lv_sub hl [2, 3, 1, 0] rfl) hP hS
  · have hf := (if_ok hf).1 cc
    refine lv_aload_n hx hb dX9_left_12 rfl (lv_at hl 0 rfl) ?_
    refine lv_sipush (v := -1002) hx hb dX9_left_13 (by decide) ?_
    obtain ⟨v4, I5, h6, hf⟩ := bd2_ok hf
    refine q_cEi (va_runV (As := [.int (-1002 : Int32)]) (rest := []) ⟨hx, hb, hml, hown, hts⟩ (c_X9_refuse l (D := D) (ad := ad) (cy := cy) (sa := sa) (va := va) (I := I) (J := J) (S := S) h0 (-1002 : Int32) h6) (cwV 1 hts gX9_left_X9_refuse rfl rfl rfl (by decide +kernel) ⟨Nat.le_of_ble_eq_true rfl, Nat.le_of_ble_eq_true rfl⟩) ⟨qPre_blind _, q_recv hK hP (oX9 h0) rfl, fun U hU hW => ⟨rfl, qPre_of hP hK hE hN hS U hU hW⟩⟩ rfl rfl hl.1 rfl (lv_room (Nat.le_of_ble_eq_true rfl)) dX9_left_16 ⟨Nat.le_of_ble_eq_true rfl, Nat.le_of_ble_eq_true rfl⟩) hS (fun H locs hP hS => ?_)
    have e9 := Option.some.inj hf
    have eI9 : I5 = Ie := (congrArg Prod.snd e9)
    exact W.iret hx hb hr (fun t ht _ => ⟨⟨_, (), rfl, (congrArg Prod.fst e9), by show qP D _ ad _ _ _ t.heap; rw [ht, ← eI9]; exact hP⟩, hS.F ht⟩) hS.2.2 dX9_left_19
abbrev r_X9_ways : Room := { frames := 2, cells := 0, slots := 0, locals := 48 }
theorem in_X9_ways_X9 : ∀ w ∈ u_ws RX9 TX9 42, w ∈ wsX9_ways := by decide +kernel
set_option maxHeartbeats 4000000 in
set_option maxRecDepth 100000 in
theorem w_X9_ways_41 {S : Nat → Prop} (C : qC p s m args meth c cX9_ways 4 RX9 wsX9_ways (some .int)) (hK : qK D cy sa s) (hE : qEnv sa va (qA S ad) s s.heap) (hN : qN S ad) (h0 : isM0 S)   {J : qJ} {r : Int32} {Ie : qI} (k22 : Int32 → Int32 → qI → Option (Int32 × qI)) (hk22 : ∀ (x1 : Int32) (x2 : Int32)  (I : qI) (ls : Array Slot) (H : Heap) (locs : List Loc), k22 x1 x2 I = some (r, Ie) → lv_has ls 4 [(0, .ref (ad 0)), (1, .int x1), (2, .int x2)] → qP D S ad (eM ad cy) I J H → va_S (qA S ad) s.heap H locs → W p l e (headSpec wsX9_ways r_X9_ways).room s m args below meth c H locs 0 0 (MQ below (va_Qi (S := Unit) (fun x _ => x = r) (fun _ t => qP D S ad (eM ad cy) Ie J t.heap) (qA S ad)) args s 0 0 (qA S ad)) (F0 m 22 ls [])) : ∀ (x1 : Int32) (x2 : Int32) (xs0 : Int32) (xs1 : Int32)  (I : qI) (ls : Array Slot) (H : Heap) (locs : List Loc), f_X9_ways_41 k22 x1 x2 xs0 xs1 I = some (r, Ie) → lv_has ls 4 [(0, .ref (ad 0)), (1, .int x1), (2, .int x2)] → qP D S ad (eM ad cy) I J H → va_S (qA S ad) s.heap H locs → W p l e (headSpec wsX9_ways r_X9_ways).room s m args below meth c H locs 0 0 (MQ below (va_Qi (S := Unit) (fun x _ => x = r) (fun _ t => qP D S ad (eM ad cy) Ie J t.heap) (qA S ad)) args s 0 0 (qA S ad)) (F0 m 41 ls [.int xs0, .int xs1, .ref (ad 24)]) := by
  have C0 := C
  obtain ⟨⟨hx, hb, hml, hown, hts⟩, hr, hlocks⟩ := C0
  intro x1 x2 xs0 xs1 I ls H locs hf hl hP hS
  unfold f_X9_ways_41 at hf
  obtain ⟨g1, hf⟩ := gd_ok hf
  obtain ⟨I2, eI2, hf⟩ := lt_ok hf
  refine q_iast hx hb hK hP hN hS (a0X9_24 h0) g1 dX9_ways_41 (fun H locs hP hS => ?_)
  have hP : qP D S ad (eM ad cy) I2 J H := by rw [eI2]; exact hP
  refine lv_iinc (v := (x2 + (1 : Int32))) (lv' := [(2, .int (x2 + (1 : Int32))), (0, .ref (ad 0)), (1, .int x1)]) hx hb dX9_ways_42 hl (k := 2) rfl rfl (by decide) rfl (fun ls hl => ?_)
  refine lv_goto (tgt := 22) hx hb dX9_ways_45 (by decide) ?_
  exact hk22 x1 (x2 + (1 : Int32)) I2 _ _ _ hf (lv_sub hl [1, 2, 0] rfl) hP hS
set_option maxHeartbeats 4000000 in
set_option maxRecDepth 100000 in
theorem w_X9_ways_57 {S : Nat → Prop} (C : qC p s m args meth c cX9_ways 4 RX9 wsX9_ways (some .int)) (hK : qK D cy sa s) (hE : qEnv sa va (qA S ad) s s.heap) (hN : qN S ad) (h0 : isM0 S)   {J : qJ} {r : Int32} {Ie : qI} (k50 : Int32 → Int32 → qI → Option (Int32 × qI)) (hk50 : ∀ (x1 : Int32) (x2 : Int32)  (I : qI) (ls : Array Slot) (H : Heap) (locs : List Loc), k50 x1 x2 I = some (r, Ie) → lv_has ls 4 [(0, .ref (ad 0)), (1, .int x1), (2, .int x2)] → qP D S ad (eM ad cy) I J H → va_S (qA S ad) s.heap H locs → W p l e (headSpec wsX9_ways r_X9_ways).room s m args below meth c H locs 0 0 (MQ below (va_Qi (S := Unit) (fun x _ => x = r) (fun _ t => qP D S ad (eM ad cy) Ie J t.heap) (qA S ad)) args s 0 0 (qA S ad)) (F0 m 50 ls [])) : ∀ (n : Nat) (x1 : Int32) (x2 : Int32) (x3 : Int32)  (I : qI) (ls : Array Slot) (H : Heap) (locs : List Loc), f_X9_ways_57 k50 n x1 x2 x3 I = some (r, Ie) → lv_has ls 4 [(0, .ref (ad 0)), (1, .int x1), (2, .int x2), (3, .int x3)] → qP D S ad (eM ad cy) I J H → va_S (qA S ad) s.heap H locs → W p l e (headSpec wsX9_ways r_X9_ways).room s m args below meth c H locs 0 0 (MQ below (va_Qi (S := Unit) (fun x _ => x = r) (fun _ t => qP D S ad (eM ad cy) Ie J t.heap) (qA S ad)) args s 0 0 (qA S ad)) (F0 m 57 ls []) := by
  have C0 := C
  obtain ⟨⟨hx, hb, hml, hown, hts⟩, hr, hlocks⟩ := C0
  intro n
  induction n with
  | zero =>
    intro x1 x2 x3 I ls H locs hf hl hP hS
    rw [f_X9_ways_57] at hf
    cases hf
  | succ n ih =>
    intro x1 x2 x3 I ls H locs hf hl hP hS
    rw [f_X9_ways_57] at hf
    refine lv_iload_n hx hb dX9_ways_57 rfl (lv_at hl 3 rfl) ?_
    refine lv_iload_n hx hb dX9_ways_58 rfl (lv_at hl 1 rfl) ?_
    refine lv_icmp_gt (tgt := 94) hx hb dX9_ways_59 (by decide) (fun cc => ?_) (fun cc => ?_)
    · have hf := (if_ok hf).1 cc
      refine lv_iinc (v := (x2 + (1 : Int32))) (lv' := [(2, .int (x2 + (1 : Int32))), (0, .ref (ad 0)), (1, .int x1), (3, .int x3)]) hx hb dX9_ways_94 hl (k := 2) rfl rfl (by decide) rfl (fun ls hl => ?_)
      refine lv_goto (tgt := 50) hx hb dX9_ways_97 (by decide) ?_
      exact hk50 x1 (x2 + (1 : Int32)) I _ _ _ hf (lv_sub hl [1, 2, 0] rfl) hP hS
    · have hf := (if_ok hf).2 cc
      refine lv_aload_n hx hb dX9_ways_62 rfl (lv_at hl 0 rfl) ?_
      refine lv_iload_n hx hb dX9_ways_63 rfl (lv_at hl 2 rfl) ?_
      refine lv_i2l hx hb dX9_ways_64 rfl ?_
      obtain ⟨v1, h2, hf⟩ := bd_ok hf
      refine q_cSi (va_runV (As := [.long x2.toInt64]) (rest := []) ⟨hx, hb, hml, hown, hts⟩ (c_X9_goesNow l (D := D) (ad := ad) (cy := cy) (sa := sa) (va := va) (I := I) (J := J) (S := S) h0 x2.toInt64 h2) (cwV 1 hts gX9_ways_X9_goesNow rfl rfl rfl (by decide +kernel) ⟨Nat.le_of_ble_eq_true rfl, Nat.le_of_ble_eq_true rfl⟩) ⟨qPre_blind _, q_recv hK hP (oX9 h0) rfl, fun U hU hW => ⟨rfl, qPre_of hP hK hE hN hS U hU hW⟩⟩ rfl rfl hl.1 rfl (lv_room (Nat.le_of_ble_eq_true rfl)) dX9_ways_65 ⟨Nat.le_of_ble_eq_true rfl, Nat.le_of_ble_eq_true rfl⟩) ?_
      refine lv_if_eq (tgt := 94) hx hb dX9_ways_68 (by decide) (fun cc => ?_) (fun cc => ?_)
      · have hf := (if_ok hf).1 cc
        refine lv_iinc (v := (x2 + (1 : Int32))) (lv' := [(2, .int (x2 + (1 : Int32))), (0, .ref (ad 0)), (1, .int x1), (3, .int x3)]) hx hb dX9_ways_94 hl (k := 2) rfl rfl (by decide) rfl (fun ls hl => ?_)
        refine lv_goto (tgt := 50) hx hb dX9_ways_97 (by decide) ?_
        exact hk50 x1 (x2 + (1 : Int32)) I _ _ _ hf (lv_sub hl [1, 2, 0] rfl) hP hS
      · have hf := (if_ok hf).2 cc
        refine lv_aload_n hx hb dX9_ways_71 rfl (lv_at hl 0 rfl) ?_
        refine q_get (C := RX9) (T := TX9) (N := 42) (ci := 9) (v := .ref (ad 24)) hx hb hts in_X9_ways_X9 hown hK hP (oX9 h0) rfl 35 (by decide) (hts (.fieldLink RX9 74 "RowsOnlyPrimesModel" "sums" "[I") (by decide +kernel)) (fun _ h9 => h9) rfl dX9_ways_72 ?_
        refine lv_iload_n hx hb dX9_ways_75 rfl (lv_at hl 3 rfl) ?_
        refine lv_dup2_11 hx hb dX9_ways_76 rfl rfl ?_
        obtain ⟨g3, hf⟩ := gd_ok hf
        refine q_iald hx hb hK hP (a0X9_24 h0) g3 dX9_ways_77 ?_
        refine lv_aload_n hx hb dX9_ways_78 rfl (lv_at hl 0 rfl) ?_
        refine q_get (C := RX9) (T := TX9) (N := 42) (ci := 9) (v := .ref (ad 24)) hx hb hts in_X9_ways_X9 hown hK hP (oX9 h0) rfl 35 (by decide) (hts (.fieldLink RX9 74 "RowsOnlyPrimesModel" "sums" "[I") (by decide +kernel)) (fun _ h9 => h9) rfl dX9_ways_79 ?_
        refine lv_iload_n hx hb dX9_ways_82 rfl (lv_at hl 3 rfl) ?_
        refine lv_iload_n hx hb dX9_ways_83 rfl (lv_at hl 2 rfl) ?_
        refine lv_isub hx hb dX9_ways_84 ?_
        obtain ⟨g4, hf⟩ := gd_ok hf
        refine q_iald hx hb hK hP (a0X9_24 h0) g4 dX9_ways_85 ?_
        refine lv_iadd hx hb dX9_ways_86 ?_
        obtain ⟨g5, hf⟩ := gd_ok hf
        obtain ⟨I6, eI6, hf⟩ := lt_ok hf
        refine q_iast hx hb hK hP hN hS (a0X9_24 h0) g5 dX9_ways_87 (fun H locs hP hS => ?_)
        have hP : qP D S ad (eM ad cy) I6 J H := by rw [eI6]; exact hP
        refine lv_iinc (v := (x3 + (1 : Int32))) (lv' := [(3, .int (x3 + (1 : Int32))), (0, .ref (ad 0)), (1, .int x1), (2, .int x2)]) hx hb dX9_ways_88 hl (k := 3) rfl rfl (by decide) rfl (fun ls hl => ?_)
        refine lv_goto (tgt := 57) hx hb dX9_ways_91 (by decide) ?_
        exact ih x1 x2 (x3 + (1 : Int32)) I6 _ _ _ hf (lv_sub hl [1, 2, 3, 0] rfl) hP hS
set_option maxHeartbeats 4000000 in
set_option maxRecDepth 100000 in
theorem w_X9_ways_50 {S : Nat → Prop} (C : qC p s m args meth c cX9_ways 4 RX9 wsX9_ways (some .int)) (hK : qK D cy sa s) (hE : qEnv sa va (qA S ad) s s.heap) (hN : qN S ad) (h0 : isM0 S)   {J : qJ} {r : Int32} {Ie : qI} : ∀ (n : Nat) (x1 : Int32) (x2 : Int32)  (I : qI) (ls : Array Slot) (H : Heap) (locs : List Loc), f_X9_ways_50 n x1 x2 I = some (r, Ie) → lv_has ls 4 [(0, .ref (ad 0)), (1, .int x1), (2, .int x2)] → qP D S ad (eM ad cy) I J H → va_S (qA S ad) s.heap H locs → W p l e (headSpec wsX9_ways r_X9_ways).room s m args below meth c H locs 0 0 (MQ below (va_Qi (S := Unit) (fun x _ => x = r) (fun _ t => qP D S ad (eM ad cy) Ie J t.heap) (qA S ad)) args s 0 0 (qA S ad)) (F0 m 50 ls []) := by
  have C0 := C
  obtain ⟨⟨hx, hb, hml, hown, hts⟩, hr, hlocks⟩ := C0
  intro n
  induction n with
  | zero =>
    intro x1 x2 I ls H locs hf hl hP hS
    rw [f_X9_ways_50] at hf
    cases hf
  | succ n ih =>
    intro x1 x2 I ls H locs hf hl hP hS
    rw [f_X9_ways_50] at hf
    refine lv_iload_n hx hb dX9_ways_50 rfl (lv_at hl 2 rfl) ?_
    refine lv_iload_n hx hb dX9_ways_51 rfl (lv_at hl 1 rfl) ?_
    refine lv_icmp_gt (tgt := 100) hx hb dX9_ways_52 (by decide) (fun cc => ?_) (fun cc => ?_)
    · have hf := (if_ok hf).1 cc
      refine lv_aload_n hx hb dX9_ways_100 rfl (lv_at hl 0 rfl) ?_
      refine q_get (C := RX9) (T := TX9) (N := 42) (ci := 9) (v := .ref (ad 24)) hx hb hts in_X9_ways_X9 hown hK hP (oX9 h0) rfl 35 (by decide) (hts (.fieldLink RX9 74 "RowsOnlyPrimesModel" "sums" "[I") (by decide +kernel)) (fun _ h9 => h9) rfl dX9_ways_101 ?_
      refine lv_iload_n hx hb dX9_ways_104 rfl (lv_at hl 1 rfl) ?_
      obtain ⟨g1, hf⟩ := gd_ok hf
      refine q_iald hx hb hK hP (a0X9_24 h0) g1 dX9_ways_105 ?_
      have e9 := Option.some.inj hf
      have eI9 : I = Ie := (congrArg Prod.snd e9)
      exact W.iret hx hb hr (fun t ht _ => ⟨⟨_, (), rfl, (congrArg Prod.fst e9), by show qP D _ ad _ _ _ t.heap; rw [ht, ← eI9]; exact hP⟩, hS.F ht⟩) hS.2.2 dX9_ways_106
    · have hf := (if_ok hf).2 cc
      refine lv_iload_n hx hb dX9_ways_55 rfl (lv_at hl 2 rfl) ?_
      refine lv_istore_n (lv' := [(3, .int x2), (0, .ref (ad 0)), (1, .int x1), (2, .int x2)]) hx hb dX9_ways_56 rfl hl (by decide) rfl (fun ls hl => ?_)
      exact w_X9_ways_57 C hK hE hN h0 (f_X9_ways_50 n) ih 1000 x1 x2 x2 I _ _ _ hf (lv_sub hl [1, 2, 3, 0] rfl) hP hS
set_option maxHeartbeats 4000000 in
set_option maxRecDepth 100000 in
theorem w_X9_ways_22 {S : Nat → Prop} (C : qC p s m args meth c cX9_ways 4 RX9 wsX9_ways (some .int)) (hK : qK D cy sa s) (hE : qEnv sa va (qA S ad) s s.heap) (hN : qN S ad) (h0 : isM0 S)   {J : qJ} {r : Int32} {Ie : qI} : ∀ (n : Nat) (x1 : Int32) (x2 : Int32)  (I : qI) (ls : Array Slot) (H : Heap) (locs : List Loc), f_X9_ways_22 n x1 x2 I = some (r, Ie) → lv_has ls 4 [(0, .ref (ad 0)), (1, .int x1), (2, .int x2)] → qP D S ad (eM ad cy) I J H → va_S (qA S ad) s.heap H locs → W p l e (headSpec wsX9_ways r_X9_ways).room s m args below meth c H locs 0 0 (MQ below (va_Qi (S := Unit) (fun x _ => x = r) (fun _ t => qP D S ad (eM ad cy) Ie J t.heap) (qA S ad)) args s 0 0 (qA S ad)) (F0 m 22 ls []) := by
  have C0 := C
  obtain ⟨⟨hx, hb, hml, hown, hts⟩, hr, hlocks⟩ := C0
  intro n
  induction n with
  | zero =>
    intro x1 x2 I ls H locs hf hl hP hS
    rw [f_X9_ways_22] at hf
    cases hf
  | succ n ih =>
    intro x1 x2 I ls H locs hf hl hP hS
    rw [f_X9_ways_22] at hf
    refine lv_iload_n hx hb dX9_ways_22 rfl (lv_at hl 2 rfl) ?_
    refine lv_iload_n hx hb dX9_ways_23 rfl (lv_at hl 1 rfl) ?_
    refine lv_icmp_gt (tgt := 48) hx hb dX9_ways_24 (by decide) (fun cc => ?_) (fun cc => ?_)
    · have hf := (if_ok hf).1 cc
      refine lv_iconst (v := 1) hx hb dX9_ways_48 (by decide) ?_
      refine lv_istore_n (lv' := [(2, .int (1 : Int32)), (0, .ref (ad 0)), (1, .int x1)]) hx hb dX9_ways_49 rfl hl (by decide) rfl (fun ls hl => ?_)
      exact w_X9_ways_50 C hK hE hN h0  1000 x1 (1 : Int32) I _ _ _ hf (lv_sub hl [1, 2, 0] rfl) hP hS
    · have hf := (if_ok hf).2 cc
      refine lv_aload_n hx hb dX9_ways_27 rfl (lv_at hl 0 rfl) ?_
      refine q_get (C := RX9) (T := TX9) (N := 42) (ci := 9) (v := .ref (ad 24)) hx hb hts in_X9_ways_X9 hown hK hP (oX9 h0) rfl 35 (by decide) (hts (.fieldLink RX9 74 "RowsOnlyPrimesModel" "sums" "[I") (by decide +kernel)) (fun _ h9 => h9) rfl dX9_ways_28 ?_
      refine lv_iload_n hx hb dX9_ways_31 rfl (lv_at hl 2 rfl) ?_
      refine lv_iload_n hx hb dX9_ways_32 rfl (lv_at hl 2 rfl) ?_
      refine lv_if_ne (tgt := 40) hx hb dX9_ways_33 (by decide) (fun cc => ?_) (fun cc => ?_)
      · have hf := (if_ok hf).2 cc
        refine lv_iconst (v := 0) hx hb dX9_ways_40 (by decide) ?_
        exact w_X9_ways_41 C hK hE hN h0 (f_X9_ways_22 n) ih  x1 x2 (0 : Int32) x2 I _ _ _ hf (lv_sub hl [0, 1, 2] rfl) hP hS
      · have hf := (if_ok hf).1 cc
        refine lv_iconst (v := 1) hx hb dX9_ways_36 (by decide) ?_
        refine lv_goto (tgt := 41) hx hb dX9_ways_37 (by decide) ?_
        exact w_X9_ways_41 C hK hE hN h0 (f_X9_ways_22 n) ih  x1 x2 (1 : Int32) x2 I _ _ _ hf (lv_sub hl [0, 1, 2] rfl) hP hS
set_option maxHeartbeats 4000000 in
set_option maxRecDepth 100000 in
theorem c_X9_ways (l : Launch) {D : va_G} {ad : Nat → Nat} {cy : Nat → ClassId} {sa va : Nat → Nat} {I : qI} {J : qJ} {S : Nat → Prop} (h0 : isM0 S)   (p0 : Int32) {r : Int32} {Ie : qI} (hf : f_X9_ways p0 I = some (r, Ie)) : Met l yX9_ways wsX9_ways r_X9_ways (va_Pc [.ref (ad 0), .int p0] (qPre D S ad cy sa va (eM ad cy) I J)) (va_Qi (S := Unit) (fun x _ => x = r) (fun _ t => qP D S ad (eM ad cy) Ie J t.heap) (qA S ad)) 0 0 (qA S ad) := by
  refine Met.ofW (cc := cX9_ways) (maxL := 4) (ret := (some .int)) (by decide) rfl ?_
  intro p e s m args below meth c s₁ B hml hv
  obtain ⟨rfl, hP, hK, hE, hN⟩ := hv
  have C : qC p s m _ meth c cX9_ways 4 RX9 wsX9_ways (some .int) := ⟨⟨B.exec, B.bytes, hml, findClass_of_methodNamed B.named, atoms_spec (ws := wsX9_ways) B.pre⟩, B.returns, B.notSynchronized⟩
  have C0 := C
  obtain ⟨⟨hx, hb, hml, hown, hts⟩, hr, hlocks⟩ := C0
  have hS : va_S (qA S ad) s.heap s.heap [] := va_S.rf
  have hl := lv_entry ([.ref (ad 0), .int p0]) (n := 4) (Nat.le_of_ble_eq_true rfl)
  rw [lg_entry_eq]
  generalize (lg_sl ([.ref (ad 0), .int p0]) ++ List.replicate (4 - (lg_sl ([.ref (ad 0), .int p0])).length) Slot.unset).toArray = ls at hl ⊢
  have hl : lv_has ls 4 [(0, .ref (ad 0)), (1, .int p0)] := hl
  unfold f_X9_ways at hf
  refine lv_iload_n hx hb dX9_ways_0 rfl (lv_at hl 1 rfl) ?_
  refine lv_i2l hx hb dX9_ways_1 rfl ?_
  refine lv_lconst (v := 0) hx hb dX9_ways_2 (by decide) ?_
  refine lv_ldc2 (own := RX9) (v := 60) hx hb hown (hts (.constantLong RX9 267 (60)) (by decide +kernel)) dX9_ways_3 ?_
  obtain ⟨v1, h2, hf⟩ := bd_ok hf
  refine q_cSi (va_runS (As := [.long p0.toInt64, .long (0 : Int64), .long (60 : Int64)]) (rest := []) ⟨hx, hb, hml, hown, hts⟩ (c_X9_in l (D := D) (ad := ad) (cy := cy) (sa := sa) (va := va) (I := I) (J := J) (S := S) h0 p0.toInt64 (0 : Int64) (60 : Int64) h2) (va_cwS 3 hts gX9_ways_X9_in rfl rfl rfl (by decide +kernel) ⟨Nat.le_of_ble_eq_true rfl, Nat.le_of_ble_eq_true rfl⟩) ⟨qPre_blind _, fun U hU hW => ⟨rfl, qPre_of hP hK hE hN hS U hU hW⟩⟩ rfl rfl hl.1 rfl (lv_room (Nat.le_of_ble_eq_true rfl)) dX9_ways_6 ⟨Nat.le_of_ble_eq_true rfl, Nat.le_of_ble_eq_true rfl⟩) ?_
  refine lv_if_ne (tgt := 20) hx hb dX9_ways_9 (by decide) (fun cc => ?_) (fun cc => ?_)
  · have hf := (if_ok hf).2 cc
    refine lv_iconst (v := 0) hx hb dX9_ways_20 (by decide) ?_
    refine lv_istore_n (lv' := [(2, .int (0 : Int32)), (0, .ref (ad 0)), (1, .int p0)]) hx hb dX9_ways_21 rfl hl (by decide) rfl (fun ls hl => ?_)
    exact w_X9_ways_22 C hK hE hN h0  1000 p0 (0 : Int32) I _ _ _ hf (lv_sub hl [1, 2, 0] rfl) hP hS
  · have hf := (if_ok hf).1 cc
    refine lv_aload_n hx hb dX9_ways_12 rfl (lv_at hl 0 rfl) ?_
    refine lv_sipush (v := -1002) hx hb dX9_ways_13 (by decide) ?_
    obtain ⟨v3, I4, h5, hf⟩ := bd2_ok hf
    refine q_cEi (va_runV (As := [.int (-1002 : Int32)]) (rest := []) ⟨hx, hb, hml, hown, hts⟩ (c_X9_refuse l (D := D) (ad := ad) (cy := cy) (sa := sa) (va := va) (I := I) (J := J) (S := S) h0 (-1002 : Int32) h5) (cwV 1 hts gX9_ways_X9_refuse rfl rfl rfl (by decide +kernel) ⟨Nat.le_of_ble_eq_true rfl, Nat.le_of_ble_eq_true rfl⟩) ⟨qPre_blind _, q_recv hK hP (oX9 h0) rfl, fun U hU hW => ⟨rfl, qPre_of hP hK hE hN hS U hU hW⟩⟩ rfl rfl hl.1 rfl (lv_room (Nat.le_of_ble_eq_true rfl)) dX9_ways_16 ⟨Nat.le_of_ble_eq_true rfl, Nat.le_of_ble_eq_true rfl⟩) hS (fun H locs hP hS => ?_)
    have e9 := Option.some.inj hf
    have eI9 : I4 = Ie := (congrArg Prod.snd e9)
    exact W.iret hx hb hr (fun t ht _ => ⟨⟨_, (), rfl, (congrArg Prod.fst e9), by show qP D _ ad _ _ _ t.heap; rw [ht, ← eI9]; exact hP⟩, hS.F ht⟩) hS.2.2 dX9_ways_19
abbrev r_X9_isGroup : Room := { frames := 1, cells := 0, slots := 0, locals := 25 }
theorem in_X9_isGroup_X9 : ∀ w ∈ u_ws RX9 TX9 42, w ∈ wsX9_isGroup := by decide +kernel
set_option maxHeartbeats 4000000 in
set_option maxRecDepth 100000 in
theorem c_X9_isGroup (l : Launch) {D : va_G} {ad : Nat → Nat} {cy : Nat → ClassId} {sa va : Nat → Nat} {I : qI} {J : qJ} {S : Nat → Prop} (h0 : isM0 S)   (p0 : Int64) {r : Int32} (hf : f_X9_isGroup p0 I = some r) : Met l yX9_isGroup wsX9_isGroup r_X9_isGroup (va_Pc [.ref (ad 0), .long p0] (qPre D S ad cy sa va (eM ad cy) I J)) (vp_Si (fun x => x = r)) 0 0 (fun _ => False) := by
  refine Met.ofW (cc := cX9_isGroup) (maxL := 3) (ret := (some .boolean)) (by decide) rfl ?_
  intro p e s m args below meth c s₁ B hml hv
  obtain ⟨rfl, hP, hK, hE, hN⟩ := hv
  have C : qC p s m _ meth c cX9_isGroup 3 RX9 wsX9_isGroup (some .boolean) := ⟨⟨B.exec, B.bytes, hml, findClass_of_methodNamed B.named, atoms_spec (ws := wsX9_isGroup) B.pre⟩, B.returns, B.notSynchronized⟩
  have C0 := C
  obtain ⟨⟨hx, hb, hml, hown, hts⟩, hr, hlocks⟩ := C0
  have hl := lv_entry ([.ref (ad 0), .long p0]) (n := 3) (Nat.le_of_ble_eq_true rfl)
  rw [lg_entry_eq]
  generalize (lg_sl ([.ref (ad 0), .long p0]) ++ List.replicate (3 - (lg_sl ([.ref (ad 0), .long p0])).length) Slot.unset).toArray = ls at hl ⊢
  have hl : lv_has ls 3 [(0, .ref (ad 0)), (1, .long p0)] := hl
  unfold f_X9_isGroup at hf
  refine lv_lload_n hx hb dX9_isGroup_0 rfl (lv_at hl 1 rfl) ?_
  refine lv_lconst (v := 0) hx hb dX9_isGroup_1 (by decide) ?_
  refine lv_iconst (v := 1) hx hb dX9_isGroup_2 (by decide) ?_
  refine lv_aload_n hx hb dX9_isGroup_3 rfl (lv_at hl 0 rfl) ?_
  refine q_get (C := RX9) (T := TX9) (N := 42) (ci := 9) (v := .int (I 0 17)) hx hb hts in_X9_isGroup_X9 hown hK hP (oX9 h0) rfl 17 (by decide) (hts (.fieldLink RX9 93 "RowsOnlyPrimesModel" "parties" "I") (by decide +kernel)) (fun _ h9 => h9) rfl dX9_isGroup_4 ?_
  refine lv_ishl hx hb dX9_isGroup_7 ?_
  refine lv_iconst (v := 1) hx hb dX9_isGroup_8 (by decide) ?_
  refine lv_isub hx hb dX9_isGroup_9 ?_
  refine lv_i2l hx hb dX9_isGroup_10 rfl ?_
  obtain ⟨v1, h2, hf⟩ := bd_ok hf
  refine q_cSi (va_runS (As := [.long p0, .long (0 : Int64), .long ((((1 : Int32) <<< ((I 0 17) &&& (31 : Int32))) - (1 : Int32)).toInt64)]) (rest := []) ⟨hx, hb, hml, hown, hts⟩ (c_X9_in l (D := D) (ad := ad) (cy := cy) (sa := sa) (va := va) (I := I) (J := J) (S := S) h0 p0 (0 : Int64) ((((1 : Int32) <<< ((I 0 17) &&& (31 : Int32))) - (1 : Int32)).toInt64) h2) (va_cwS 3 hts gX9_isGroup_X9_in rfl rfl rfl (by decide +kernel) ⟨Nat.le_of_ble_eq_true rfl, Nat.le_of_ble_eq_true rfl⟩) ⟨qPre_blind _, fun U hU hW => ⟨rfl, qPre_of hP hK hE hN va_S.rf U hU hW⟩⟩ rfl rfl hl.1 rfl (lv_room (Nat.le_of_ble_eq_true rfl)) dX9_isGroup_11 ⟨Nat.le_of_ble_eq_true rfl, Nat.le_of_ble_eq_true rfl⟩) ?_
  obtain ⟨g3, hf⟩ := gd_ok hf
  exact W.zret (ty := .boolean) hx hb hr (q_narZ g3) (fun t ht _ => ⟨_, rfl, Option.some.inj hf, ht⟩) (fun _ h => by cases h) dX9_isGroup_14
abbrev r_X9_headsTogether : Room := { frames := 1, cells := 0, slots := 0, locals := 23 }
theorem in_X9_headsTogether_X9 : ∀ w ∈ u_ws RX9 TX9 42, w ∈ wsX9_headsTogether := by decide +kernel
set_option maxHeartbeats 4000000 in
set_option maxRecDepth 100000 in
theorem w_X9_headsTogether_4 {S : Nat → Prop} (C : qC p s m args meth c cX9_headsTogether 4 RX9 wsX9_headsTogether (some .int)) (hK : qK D cy sa s) (hE : qEnv sa va (qA S ad) s s.heap) (hN : qN S ad) (h0 : isM0 S)   {I : qI} {J : qJ} (hP : qP D S ad (eM ad cy) I J s.heap) {r : Int32} : ∀ (n : Nat) (x1 : Int32) (x2 : Int32) (x3 : Int32)  (ls : Array Slot), f_X9_headsTogether_4 I n x1 x2 x3 = some r → lv_has ls 4 [(0, .ref (ad 0)), (1, .int x1), (2, .int x2), (3, .int x3)] → W p l e (headSpec wsX9_headsTogether r_X9_headsTogether).room s m args below meth c s.heap [] 0 0 (MQ below (vp_Si (fun x => x = r)) args s 0 0 (fun _ => False)) (F0 m 4 ls []) := by
  have C0 := C
  obtain ⟨⟨hx, hb, hml, hown, hts⟩, hr, hlocks⟩ := C0
  intro n
  induction n with
  | zero =>
    intro x1 x2 x3 ls hf hl
    rw [f_X9_headsTogether_4] at hf
    cases hf
  | succ n ih =>
    intro x1 x2 x3 ls hf hl
    rw [f_X9_headsTogether_4] at hf
    refine lv_iload_n hx hb dX9_headsTogether_4 rfl (lv_at hl 3 rfl) ?_
    refine lv_aload_n hx hb dX9_headsTogether_5 rfl (lv_at hl 0 rfl) ?_
    refine q_get (C := RX9) (T := TX9) (N := 42) (ci := 9) (v := .int (I 0 17)) hx hb hts in_X9_headsTogether_X9 hown hK hP (oX9 h0) rfl 17 (by decide) (hts (.fieldLink RX9 93 "RowsOnlyPrimesModel" "parties" "I") (by decide +kernel)) (fun _ h9 => h9) rfl dX9_headsTogether_6 ?_
    refine lv_icmp_ge (tgt := 39) hx hb dX9_headsTogether_9 (by decide) (fun cc => ?_) (fun cc => ?_)
    · have hf := (if_ok hf).1 cc
      refine lv_iload_n hx hb dX9_headsTogether_39 rfl (lv_at hl 2 rfl) ?_
      exact W.iret hx hb hr (fun t ht _ => ⟨_, rfl, Option.some.inj hf, ht⟩) (fun _ h => by cases h) dX9_headsTogether_40
    · have hf := (if_ok hf).2 cc
      refine lv_iload_n hx hb dX9_headsTogether_12 rfl (lv_at hl 2 rfl) ?_
      refine lv_iload_n hx hb dX9_headsTogether_13 rfl (lv_at hl 1 rfl) ?_
      refine lv_iload_n hx hb dX9_headsTogether_14 rfl (lv_at hl 3 rfl) ?_
      refine lv_ishr hx hb dX9_headsTogether_15 ?_
      refine lv_iconst (v := 1) hx hb dX9_headsTogether_16 (by decide) ?_
      refine lv_iand hx hb dX9_headsTogether_17 ?_
      refine lv_iconst (v := 1) hx hb dX9_headsTogether_18 (by decide) ?_
      refine lv_icmp_ne (tgt := 30) hx hb dX9_headsTogether_19 (by decide) (fun cc => ?_) (fun cc => ?_)
      · have hf := (if_ok hf).2 cc
        refine lv_iconst (v := 0) hx hb dX9_headsTogether_30 (by decide) ?_
        refine lv_iadd hx hb dX9_headsTogether_31 ?_
        refine lv_istore_n (lv' := [(2, .int (x2 + (0 : Int32))), (0, .ref (ad 0)), (1, .int x1), (3, .int x3)]) hx hb dX9_headsTogether_32 rfl hl (by decide) rfl (fun ls hl => ?_)
        refine lv_iinc (v := (x3 + (1 : Int32))) (lv' := [(3, .int (x3 + (1 : Int32))), (2, .int (x2 + (0 : Int32))), (0, .ref (ad 0)), (1, .int x1)]) hx hb dX9_headsTogether_33 hl (k := 3) rfl rfl (by decide) rfl (fun ls hl => ?_)
        refine lv_goto (tgt := 4) hx hb dX9_headsTogether_36 (by decide) ?_
        exact ih x1 (x2 + (0 : Int32)) (x3 + (1 : Int32)) _ hf (lv_sub hl [2, 3, 1, 0] rfl)
      · have hf := (if_ok hf).1 cc
        refine lv_aload_n hx hb dX9_headsTogether_22 rfl (lv_at hl 0 rfl) ?_
        refine lv_iload_n hx hb dX9_headsTogether_23 rfl (lv_at hl 3 rfl) ?_
        obtain ⟨v1, h2, hf⟩ := bd_ok hf
        refine q_cSi (va_runV (As := [.int x3]) (rest := [.int x2]) ⟨hx, hb, hml, hown, hts⟩ (c_X9_headsOf l (D := D) (ad := ad) (cy := cy) (sa := sa) (va := va) (I := I) (J := J) (S := S) h0 x3 h2) (cwV 1 hts gX9_headsTogether_X9_headsOf rfl rfl rfl (by decide +kernel) ⟨Nat.le_of_ble_eq_true rfl, Nat.le_of_ble_eq_true rfl⟩) ⟨qPre_blind _, q_recv hK hP (oX9 h0) rfl, fun U hU hW => ⟨rfl, qPre_of hP hK hE hN va_S.rf U hU hW⟩⟩ rfl rfl hl.1 rfl (lv_room (Nat.le_of_ble_eq_true rfl)) dX9_headsTogether_24 ⟨Nat.le_of_ble_eq_true rfl, Nat.le_of_ble_eq_true rfl⟩) ?_
        refine lv_goto (tgt := 31) hx hb dX9_headsTogether_27 (by decide) ?_
        refine lv_iadd hx hb dX9_headsTogether_31 ?_
        refine lv_istore_n (lv' := [(2, .int (x2 + v1)), (0, .ref (ad 0)), (1, .int x1), (3, .int x3)]) hx hb dX9_headsTogether_32 rfl hl (by decide) rfl (fun ls hl => ?_)
        refine lv_iinc (v := (x3 + (1 : Int32))) (lv' := [(3, .int (x3 + (1 : Int32))), (2, .int (x2 + v1)), (0, .ref (ad 0)), (1, .int x1)]) hx hb dX9_headsTogether_33 hl (k := 3) rfl rfl (by decide) rfl (fun ls hl => ?_)
        refine lv_goto (tgt := 4) hx hb dX9_headsTogether_36 (by decide) ?_
        exact ih x1 (x2 + v1) (x3 + (1 : Int32)) _ hf (lv_sub hl [2, 3, 1, 0] rfl)
set_option maxHeartbeats 4000000 in
set_option maxRecDepth 100000 in
theorem c_X9_headsTogether (l : Launch) {D : va_G} {ad : Nat → Nat} {cy : Nat → ClassId} {sa va : Nat → Nat} {I : qI} {J : qJ} {S : Nat → Prop} (h0 : isM0 S)   (p0 : Int32) {r : Int32} (hf : f_X9_headsTogether p0 I = some r) : Met l yX9_headsTogether wsX9_headsTogether r_X9_headsTogether (va_Pc [.ref (ad 0), .int p0] (qPre D S ad cy sa va (eM ad cy) I J)) (vp_Si (fun x => x = r)) 0 0 (fun _ => False) := by
  refine Met.ofW (cc := cX9_headsTogether) (maxL := 4) (ret := (some .int)) (by decide) rfl ?_
  intro p e s m args below meth c s₁ B hml hv
  obtain ⟨rfl, hP, hK, hE, hN⟩ := hv
  have C : qC p s m _ meth c cX9_headsTogether 4 RX9 wsX9_headsTogether (some .int) := ⟨⟨B.exec, B.bytes, hml, findClass_of_methodNamed B.named, atoms_spec (ws := wsX9_headsTogether) B.pre⟩, B.returns, B.notSynchronized⟩
  have C0 := C
  obtain ⟨⟨hx, hb, hml, hown, hts⟩, hr, hlocks⟩ := C0
  have hl := lv_entry ([.ref (ad 0), .int p0]) (n := 4) (Nat.le_of_ble_eq_true rfl)
  rw [lg_entry_eq]
  generalize (lg_sl ([.ref (ad 0), .int p0]) ++ List.replicate (4 - (lg_sl ([.ref (ad 0), .int p0])).length) Slot.unset).toArray = ls at hl ⊢
  have hl : lv_has ls 4 [(0, .ref (ad 0)), (1, .int p0)] := hl
  unfold f_X9_headsTogether at hf
  refine lv_iconst (v := 0) hx hb dX9_headsTogether_0 (by decide) ?_
  refine lv_istore_n (lv' := [(2, .int (0 : Int32)), (0, .ref (ad 0)), (1, .int p0)]) hx hb dX9_headsTogether_1 rfl hl (by decide) rfl (fun ls hl => ?_)
  refine lv_iconst (v := 0) hx hb dX9_headsTogether_2 (by decide) ?_
  refine lv_istore_n (lv' := [(3, .int (0 : Int32)), (2, .int (0 : Int32)), (0, .ref (ad 0)), (1, .int p0)]) hx hb dX9_headsTogether_3 rfl hl (by decide) rfl (fun ls hl => ?_)
  exact w_X9_headsTogether_4 C hK hE hN h0 hP  1000 p0 (0 : Int32) (0 : Int32) _ hf (lv_sub hl [2, 3, 1, 0] rfl)
abbrev r_X9_maySit : Room := { frames := 0, cells := 0, slots := 0, locals := 0 }
theorem in_X9_maySit_X9 : ∀ w ∈ u_ws RX9 TX9 42, w ∈ wsX9_maySit := by decide +kernel
set_option maxHeartbeats 4000000 in
set_option maxRecDepth 100000 in
theorem w_X9_maySit_39 {S : Nat → Prop} (C : qC p s m args meth c cX9_maySit 4 RX9 wsX9_maySit (some .boolean)) (hK : qK D cy sa s) (hE : qEnv sa va (qA S ad) s s.heap) (hN : qN S ad) (h0 : isM0 S)   {I : qI} {J : qJ} (hP : qP D S ad (eM ad cy) I J s.heap) {r : Int32} (k17 : Int32 → Int32 → Option Int32) (hk17 : ∀ (x1 : Int32) (x2 : Int32)  (ls : Array Slot), k17 x1 x2 = some r → lv_has ls 4 [(0, .ref (ad 0)), (1, .int x1), (2, .int x2)] → W p l e (headSpec wsX9_maySit r_X9_maySit).room s m args below meth c s.heap [] 0 0 (MQ below (vp_Si (fun x => x = r)) args s 0 0 (fun _ => False)) (F0 m 17 ls [])) : ∀ (x1 : Int32) (x2 : Int32) (xs0 : Int32)  (ls : Array Slot), f_X9_maySit_39 I k17 x1 x2 xs0 = some r → lv_has ls 4 [(0, .ref (ad 0)), (1, .int x1), (2, .int x2)] → W p l e (headSpec wsX9_maySit r_X9_maySit).room s m args below meth c s.heap [] 0 0 (MQ below (vp_Si (fun x => x = r)) args s 0 0 (fun _ => False)) (F0 m 39 ls [.int xs0]) := by
  have C0 := C
  obtain ⟨⟨hx, hb, hml, hown, hts⟩, hr, hlocks⟩ := C0
  intro x1 x2 xs0 ls hf hl
  unfold f_X9_maySit_39 at hf
  refine lv_istore_n (lv' := [(3, .int xs0), (0, .ref (ad 0)), (1, .int x1), (2, .int x2)]) hx hb dX9_maySit_39 rfl hl (by decide) rfl (fun ls hl => ?_)
  refine lv_iload_n hx hb dX9_maySit_40 rfl (lv_at hl 0 rfl) ?_
  refine lv_if_eq (tgt := 77) hx hb dX9_maySit_41 (by decide) (fun cc => ?_) (fun cc => ?_)
  · have hf := (if_ok hf).1 cc
    refine lv_iinc (v := (x2 + (1 : Int32))) (lv' := [(2, .int (x2 + (1 : Int32))), (3, .int xs0), (0, .ref (ad 0)), (1, .int x1)]) hx hb dX9_maySit_77 hl (k := 3) rfl rfl (by decide) rfl (fun ls hl => ?_)
    refine lv_goto (tgt := 17) hx hb dX9_maySit_80 (by decide) ?_
    exact hk17 x1 (x2 + (1 : Int32)) _ hf (lv_sub hl [2, 3, 0] rfl)
  · have hf := (if_ok hf).2 cc
    refine lv_aload_n hx hb dX9_maySit_44 rfl (lv_at hl 1 rfl) ?_
    refine q_get (C := RX9) (T := TX9) (N := 42) (ci := 9) (v := .ref (ad 22)) hx hb hts in_X9_maySit_X9 hown hK hP (oX9 h0) rfl 24 (by decide) (hts (.fieldLink RX9 65 "RowsOnlyPrimesModel" "shuns" "[I") (by decide +kernel)) (fun _ h9 => h9) rfl dX9_maySit_45 ?_
    refine lv_iload_n hx hb dX9_maySit_48 rfl (lv_at hl 3 rfl) ?_
    obtain ⟨g1, hf⟩ := gd_ok hf
    refine q_iald hx hb hK hP (a0X9_22 h0) g1 dX9_maySit_49 ?_
    refine lv_iload_n hx hb dX9_maySit_50 rfl (lv_at hl 2 rfl) ?_
    refine lv_iand hx hb dX9_maySit_51 ?_
    refine lv_if_ne (tgt := 75) hx hb dX9_maySit_52 (by decide) (fun cc => ?_) (fun cc => ?_)
    · have hf := (if_ok hf).2 cc
      refine lv_iconst (v := 0) hx hb dX9_maySit_75 (by decide) ?_
      exact W.zret (ty := .boolean) hx hb hr rfl (fun t ht _ => ⟨_, rfl, Option.some.inj hf, ht⟩) (fun _ h => by cases h) dX9_maySit_76
    · have hf := (if_ok hf).1 cc
      refine lv_aload_n hx hb dX9_maySit_55 rfl (lv_at hl 1 rfl) ?_
      refine q_get (C := RX9) (T := TX9) (N := 42) (ci := 9) (v := .ref (ad 21)) hx hb hts in_X9_maySit_X9 hown hK hP (oX9 h0) rfl 23 (by decide) (hts (.fieldLink RX9 62 "RowsOnlyPrimesModel" "tied" "[I") (by decide +kernel)) (fun _ h9 => h9) rfl dX9_maySit_56 ?_
      refine lv_iload_n hx hb dX9_maySit_59 rfl (lv_at hl 3 rfl) ?_
      obtain ⟨g2, hf⟩ := gd_ok hf
      refine q_iald hx hb hK hP (a0X9_21 h0) g2 dX9_maySit_60 ?_
      refine lv_iload_n hx hb dX9_maySit_61 rfl (lv_at hl 2 rfl) ?_
      refine lv_iconst (v := -1) hx hb dX9_maySit_62 (by decide) ?_
      refine lv_ixor hx hb dX9_maySit_63 ?_
      refine lv_iand hx hb dX9_maySit_64 ?_
      refine lv_aload_n hx hb dX9_maySit_65 rfl (lv_at hl 1 rfl) ?_
      refine q_get (C := RX9) (T := TX9) (N := 42) (ci := 9) (v := .int (I 0 18)) hx hb hts in_X9_maySit_X9 hown hK hP (oX9 h0) rfl 18 (by decide) (hts (.fieldLink RX9 100 "RowsOnlyPrimesModel" "over" "I") (by decide +kernel)) (fun _ h9 => h9) rfl dX9_maySit_66 ?_
      refine lv_iconst (v := -1) hx hb dX9_maySit_69 (by decide) ?_
      refine lv_ixor hx hb dX9_maySit_70 ?_
      refine lv_iand hx hb dX9_maySit_71 ?_
      refine lv_if_eq (tgt := 77) hx hb dX9_maySit_72 (by decide) (fun cc => ?_) (fun cc => ?_)
      · have hf := (if_ok hf).1 cc
        refine lv_iinc (v := (x2 + (1 : Int32))) (lv' := [(2, .int (x2 + (1 : Int32))), (3, .int xs0), (0, .ref (ad 0)), (1, .int x1)]) hx hb dX9_maySit_77 hl (k := 3) rfl rfl (by decide) rfl (fun ls hl => ?_)
        refine lv_goto (tgt := 17) hx hb dX9_maySit_80 (by decide) ?_
        exact hk17 x1 (x2 + (1 : Int32)) _ hf (lv_sub hl [2, 3, 0] rfl)
      · have hf := (if_ok hf).2 cc
        refine lv_iconst (v := 0) hx hb dX9_maySit_75 (by decide) ?_
        exact W.zret (ty := .boolean) hx hb hr rfl (fun t ht _ => ⟨_, rfl, Option.some.inj hf, ht⟩) (fun _ h => by cases h) dX9_maySit_76
set_option maxHeartbeats 4000000 in
set_option maxRecDepth 100000 in
theorem w_X9_maySit_17 {S : Nat → Prop} (C : qC p s m args meth c cX9_maySit 4 RX9 wsX9_maySit (some .boolean)) (hK : qK D cy sa s) (hE : qEnv sa va (qA S ad) s s.heap) (hN : qN S ad) (h0 : isM0 S)   {I : qI} {J : qJ} (hP : qP D S ad (eM ad cy) I J s.heap) {r : Int32} : ∀ (n : Nat) (x1 : Int32) (x2 : Int32)  (ls : Array Slot), f_X9_maySit_17 I n x1 x2 = some r → lv_has ls 4 [(0, .ref (ad 0)), (1, .int x1), (2, .int x2)] → W p l e (headSpec wsX9_maySit r_X9_maySit).room s m args below meth c s.heap [] 0 0 (MQ below (vp_Si (fun x => x = r)) args s 0 0 (fun _ => False)) (F0 m 17 ls []) := by
  have C0 := C
  obtain ⟨⟨hx, hb, hml, hown, hts⟩, hr, hlocks⟩ := C0
  intro n
  induction n with
  | zero =>
    intro x1 x2 ls hf hl
    rw [f_X9_maySit_17] at hf
    cases hf
  | succ n ih =>
    intro x1 x2 ls hf hl
    rw [f_X9_maySit_17] at hf
    refine lv_iload_n hx hb dX9_maySit_17 rfl (lv_at hl 2 rfl) ?_
    refine lv_aload_n hx hb dX9_maySit_18 rfl (lv_at hl 0 rfl) ?_
    refine q_get (C := RX9) (T := TX9) (N := 42) (ci := 9) (v := .int (I 0 17)) hx hb hts in_X9_maySit_X9 hown hK hP (oX9 h0) rfl 17 (by decide) (hts (.fieldLink RX9 93 "RowsOnlyPrimesModel" "parties" "I") (by decide +kernel)) (fun _ h9 => h9) rfl dX9_maySit_19 ?_
    refine lv_icmp_ge (tgt := 83) hx hb dX9_maySit_22 (by decide) (fun cc => ?_) (fun cc => ?_)
    · have hf := (if_ok hf).1 cc
      refine lv_iconst (v := 1) hx hb dX9_maySit_83 (by decide) ?_
      exact W.zret (ty := .boolean) hx hb hr rfl (fun t ht _ => ⟨_, rfl, Option.some.inj hf, ht⟩) (fun _ h => by cases h) dX9_maySit_84
    · have hf := (if_ok hf).2 cc
      refine lv_iload_n hx hb dX9_maySit_25 rfl (lv_at hl 1 rfl) ?_
      refine lv_iload_n hx hb dX9_maySit_26 rfl (lv_at hl 2 rfl) ?_
      refine lv_ishr hx hb dX9_maySit_27 ?_
      refine lv_iconst (v := 1) hx hb dX9_maySit_28 (by decide) ?_
      refine lv_iand hx hb dX9_maySit_29 ?_
      refine lv_iconst (v := 1) hx hb dX9_maySit_30 (by decide) ?_
      refine lv_icmp_ne (tgt := 38) hx hb dX9_maySit_31 (by decide) (fun cc => ?_) (fun cc => ?_)
      · have hf := (if_ok hf).2 cc
        refine lv_iconst (v := 0) hx hb dX9_maySit_38 (by decide) ?_
        exact w_X9_maySit_39 C hK hE hN h0 hP (f_X9_maySit_17 I n) ih  x1 x2 (0 : Int32) _ hf (lv_sub hl [0, 1, 2] rfl)
      · have hf := (if_ok hf).1 cc
        refine lv_iconst (v := 1) hx hb dX9_maySit_34 (by decide) ?_
        refine lv_goto (tgt := 39) hx hb dX9_maySit_35 (by decide) ?_
        exact w_X9_maySit_39 C hK hE hN h0 hP (f_X9_maySit_17 I n) ih  x1 x2 (1 : Int32) _ hf (lv_sub hl [0, 1, 2] rfl)
set_option maxHeartbeats 4000000 in
set_option maxRecDepth 100000 in
theorem c_X9_maySit (l : Launch) {D : va_G} {ad : Nat → Nat} {cy : Nat → ClassId} {sa va : Nat → Nat} {I : qI} {J : qJ} {S : Nat → Prop} (h0 : isM0 S)   (p0 : Int32) {r : Int32} (hf : f_X9_maySit p0 I = some r) : Met l yX9_maySit wsX9_maySit r_X9_maySit (va_Pc [.ref (ad 0), .int p0] (qPre D S ad cy sa va (eM ad cy) I J)) (vp_Si (fun x => x = r)) 0 0 (fun _ => False) := by
  refine Met.ofW (cc := cX9_maySit) (maxL := 4) (ret := (some .boolean)) (by decide) rfl ?_
  intro p e s m args below meth c s₁ B hml hv
  obtain ⟨rfl, hP, hK, hE, hN⟩ := hv
  have C : qC p s m _ meth c cX9_maySit 4 RX9 wsX9_maySit (some .boolean) := ⟨⟨B.exec, B.bytes, hml, findClass_of_methodNamed B.named, atoms_spec (ws := wsX9_maySit) B.pre⟩, B.returns, B.notSynchronized⟩
  have C0 := C
  obtain ⟨⟨hx, hb, hml, hown, hts⟩, hr, hlocks⟩ := C0
  have hl := lv_entry ([.ref (ad 0), .int p0]) (n := 4) (Nat.le_of_ble_eq_true rfl)
  rw [lg_entry_eq]
  generalize (lg_sl ([.ref (ad 0), .int p0]) ++ List.replicate (4 - (lg_sl ([.ref (ad 0), .int p0])).length) Slot.unset).toArray = ls at hl ⊢
  have hl : lv_has ls 4 [(0, .ref (ad 0)), (1, .int p0)] := hl
  unfold f_X9_maySit at hf
  refine lv_iload_n hx hb dX9_maySit_0 rfl (lv_at hl 1 rfl) ?_
  refine lv_if_eq (tgt := 13) hx hb dX9_maySit_1 (by decide) (fun cc => ?_) (fun cc => ?_)
  · have hf := (if_ok hf).1 cc
    refine lv_iconst (v := 0) hx hb dX9_maySit_13 (by decide) ?_
    exact W.zret (ty := .boolean) hx hb hr rfl (fun t ht _ => ⟨_, rfl, Option.some.inj hf, ht⟩) (fun _ h => by cases h) dX9_maySit_14
  · have hf := (if_ok hf).2 cc
    refine lv_iload_n hx hb dX9_maySit_4 rfl (lv_at hl 1 rfl) ?_
    refine lv_aload_n hx hb dX9_maySit_5 rfl (lv_at hl 0 rfl) ?_
    refine q_get (C := RX9) (T := TX9) (N := 42) (ci := 9) (v := .int (I 0 18)) hx hb hts in_X9_maySit_X9 hown hK hP (oX9 h0) rfl 18 (by decide) (hts (.fieldLink RX9 100 "RowsOnlyPrimesModel" "over" "I") (by decide +kernel)) (fun _ h9 => h9) rfl dX9_maySit_6 ?_
    refine lv_iand hx hb dX9_maySit_9 ?_
    refine lv_if_eq (tgt := 15) hx hb dX9_maySit_10 (by decide) (fun cc => ?_) (fun cc => ?_)
    · have hf := (if_ok hf).1 cc
      refine lv_iconst (v := 0) hx hb dX9_maySit_15 (by decide) ?_
      refine lv_istore_n (lv' := [(2, .int (0 : Int32)), (0, .ref (ad 0)), (1, .int p0)]) hx hb dX9_maySit_16 rfl hl (by decide) rfl (fun ls hl => ?_)
      exact w_X9_maySit_17 C hK hE hN h0 hP  1000 p0 (0 : Int32) _ hf (lv_sub hl [1, 2, 0] rfl)
    · have hf := (if_ok hf).2 cc
      refine lv_iconst (v := 0) hx hb dX9_maySit_13 (by decide) ?_
      exact W.zret (ty := .boolean) hx hb hr rfl (fun t ht _ => ⟨_, rfl, Option.some.inj hf, ht⟩) (fun _ h => by cases h) dX9_maySit_14
abbrev r_X9_hireUpTo : Room := { frames := 2, cells := 0, slots := 0, locals := 48 }
set_option maxHeartbeats 4000000 in
set_option maxRecDepth 100000 in
theorem w_X9_hireUpTo_19 {S : Nat → Prop} (C : qC p s m args meth c cX9_hireUpTo 5 RX9 wsX9_hireUpTo (some .int)) (hK : qK D cy sa s) (hE : qEnv sa va (qA S ad) s s.heap) (hN : qN S ad) (h0 : isM0 S)   {I : qI} {J : qJ} (hP : qP D S ad (eM ad cy) I J s.heap) {r : Int32} : ∀ (n : Nat) (x2 : Int32) (x3 : Int32) (x4 : Int32)  (ls : Array Slot), f_X9_hireUpTo_19 I n x2 x3 x4 = some r → lv_has ls 5 [(0, .ref (ad 0)), (2, .int x2), (3, .int x3), (4, .int x4)] → W p l e (headSpec wsX9_hireUpTo r_X9_hireUpTo).room s m args below meth c s.heap [] 0 0 (MQ below (vp_Si (fun x => x = r)) args s 0 0 (fun _ => False)) (F0 m 19 ls []) := by
  have C0 := C
  obtain ⟨⟨hx, hb, hml, hown, hts⟩, hr, hlocks⟩ := C0
  intro n
  induction n with
  | zero =>
    intro x2 x3 x4 ls hf hl
    rw [f_X9_hireUpTo_19] at hf
    cases hf
  | succ n ih =>
    intro x2 x3 x4 ls hf hl
    rw [f_X9_hireUpTo_19] at hf
    refine lv_iload hx hb dX9_hireUpTo_19 (lv_at hl 3 rfl) ?_
    refine lv_iload_n hx hb dX9_hireUpTo_21 rfl (lv_at hl 1 rfl) ?_
    refine lv_icmp_gt (tgt := 46) hx hb dX9_hireUpTo_22 (by decide) (fun cc => ?_) (fun cc => ?_)
    · have hf := (if_ok hf).1 cc
      refine lv_iconst (v := -1) hx hb dX9_hireUpTo_46 (by decide) ?_
      exact W.iret hx hb hr (fun t ht _ => ⟨_, rfl, Option.some.inj hf, ht⟩) (fun _ h => by cases h) dX9_hireUpTo_47
    · have hf := (if_ok hf).2 cc
      refine lv_aload_n hx hb dX9_hireUpTo_25 rfl (lv_at hl 0 rfl) ?_
      refine lv_iload_n hx hb dX9_hireUpTo_26 rfl (lv_at hl 2 rfl) ?_
      refine lv_iload hx hb dX9_hireUpTo_27 (lv_at hl 3 rfl) ?_
      refine lv_iadd hx hb dX9_hireUpTo_29 ?_
      refine lv_i2l hx hb dX9_hireUpTo_30 rfl ?_
      obtain ⟨v1, h2, hf⟩ := bd_ok hf
      refine q_cSi (va_runV (As := [.long ((x3 + x4).toInt64)]) (rest := []) ⟨hx, hb, hml, hown, hts⟩ (c_X9_goesNow l (D := D) (ad := ad) (cy := cy) (sa := sa) (va := va) (I := I) (J := J) (S := S) h0 ((x3 + x4).toInt64) h2) (cwV 1 hts gX9_hireUpTo_X9_goesNow rfl rfl rfl (by decide +kernel) ⟨Nat.le_of_ble_eq_true rfl, Nat.le_of_ble_eq_true rfl⟩) ⟨qPre_blind _, q_recv hK hP (oX9 h0) rfl, fun U hU hW => ⟨rfl, qPre_of hP hK hE hN va_S.rf U hU hW⟩⟩ rfl rfl hl.1 rfl (lv_room (Nat.le_of_ble_eq_true rfl)) dX9_hireUpTo_31 ⟨Nat.le_of_ble_eq_true rfl, Nat.le_of_ble_eq_true rfl⟩) ?_
      refine lv_if_eq (tgt := 40) hx hb dX9_hireUpTo_34 (by decide) (fun cc => ?_) (fun cc => ?_)
      · have hf := (if_ok hf).1 cc
        refine lv_iinc (v := (x4 + (1 : Int32))) (lv' := [(4, .int (x4 + (1 : Int32))), (0, .ref (ad 0)), (2, .int x2), (3, .int x3)]) hx hb dX9_hireUpTo_40 hl (k := 3) rfl rfl (by decide) rfl (fun ls hl => ?_)
        refine lv_goto (tgt := 19) hx hb dX9_hireUpTo_43 (by decide) ?_
        exact ih x2 x3 (x4 + (1 : Int32)) _ hf (lv_sub hl [1, 2, 3, 0] rfl)
      · have hf := (if_ok hf).2 cc
        refine lv_iload hx hb dX9_hireUpTo_37 (lv_at hl 3 rfl) ?_
        exact W.iret hx hb hr (fun t ht _ => ⟨_, rfl, Option.some.inj hf, ht⟩) (fun _ h => by cases h) dX9_hireUpTo_39
set_option maxHeartbeats 4000000 in
set_option maxRecDepth 100000 in
theorem c_X9_hireUpTo (l : Launch) {D : va_G} {ad : Nat → Nat} {cy : Nat → ClassId} {sa va : Nat → Nat} {I : qI} {J : qJ} {S : Nat → Prop} (h0 : isM0 S)   (p0 : Int32) (p1 : Int32) {r : Int32} (hf : f_X9_hireUpTo p0 p1 I = some r) : Met l yX9_hireUpTo wsX9_hireUpTo r_X9_hireUpTo (va_Pc [.ref (ad 0), .int p0, .int p1] (qPre D S ad cy sa va (eM ad cy) I J)) (vp_Si (fun x => x = r)) 0 0 (fun _ => False) := by
  refine Met.ofW (cc := cX9_hireUpTo) (maxL := 5) (ret := (some .int)) (by decide) rfl ?_
  intro p e s m args below meth c s₁ B hml hv
  obtain ⟨rfl, hP, hK, hE, hN⟩ := hv
  have C : qC p s m _ meth c cX9_hireUpTo 5 RX9 wsX9_hireUpTo (some .int) := ⟨⟨B.exec, B.bytes, hml, findClass_of_methodNamed B.named, atoms_spec (ws := wsX9_hireUpTo) B.pre⟩, B.returns, B.notSynchronized⟩
  have C0 := C
  obtain ⟨⟨hx, hb, hml, hown, hts⟩, hr, hlocks⟩ := C0
  have hl := lv_entry ([.ref (ad 0), .int p0, .int p1]) (n := 5) (Nat.le_of_ble_eq_true rfl)
  rw [lg_entry_eq]
  generalize (lg_sl ([.ref (ad 0), .int p0, .int p1]) ++ List.replicate (5 - (lg_sl ([.ref (ad 0), .int p0, .int p1])).length) Slot.unset).toArray = ls at hl ⊢
  have hl : lv_has ls 5 [(0, .ref (ad 0)), (1, .int p0), (2, .int p1)] := hl
  unfold f_X9_hireUpTo at hf
  refine lv_aload_n hx hb dX9_hireUpTo_0 rfl (lv_at hl 0 rfl) ?_
  refine lv_iload_n hx hb dX9_hireUpTo_1 rfl (lv_at hl 1 rfl) ?_
  obtain ⟨v1, h2, hf⟩ := bd_ok hf
  refine q_cSi (va_runV (As := [.int p0]) (rest := []) ⟨hx, hb, hml, hown, hts⟩ (c_X9_maySit l (D := D) (ad := ad) (cy := cy) (sa := sa) (va := va) (I := I) (J := J) (S := S) h0 p0 h2) (cwV 1 hts gX9_hireUpTo_X9_maySit rfl rfl rfl (by decide +kernel) ⟨Nat.le_of_ble_eq_true rfl, Nat.le_of_ble_eq_true rfl⟩) ⟨qPre_blind _, q_recv hK hP (oX9 h0) rfl, fun U hU hW => ⟨rfl, qPre_of hP hK hE hN va_S.rf U hU hW⟩⟩ rfl rfl hl.1 rfl (lv_room (Nat.le_of_ble_eq_true rfl)) dX9_hireUpTo_2 ⟨Nat.le_of_ble_eq_true rfl, Nat.le_of_ble_eq_true rfl⟩) ?_
  refine lv_if_ne (tgt := 10) hx hb dX9_hireUpTo_5 (by decide) (fun cc => ?_) (fun cc => ?_)
  · have hf := (if_ok hf).2 cc
    refine lv_aload_n hx hb dX9_hireUpTo_10 rfl (lv_at hl 0 rfl) ?_
    refine lv_iload_n hx hb dX9_hireUpTo_11 rfl (lv_at hl 1 rfl) ?_
    obtain ⟨v3, h4, hf⟩ := bd_ok hf
    refine q_cSi (va_runV (As := [.int p0]) (rest := []) ⟨hx, hb, hml, hown, hts⟩ (c_X9_headsTogether l (D := D) (ad := ad) (cy := cy) (sa := sa) (va := va) (I := I) (J := J) (S := S) h0 p0 h4) (cwV 1 hts gX9_hireUpTo_X9_headsTogether rfl rfl rfl (by decide +kernel) ⟨Nat.le_of_ble_eq_true rfl, Nat.le_of_ble_eq_true rfl⟩) ⟨qPre_blind _, q_recv hK hP (oX9 h0) rfl, fun U hU hW => ⟨rfl, qPre_of hP hK hE hN va_S.rf U hU hW⟩⟩ rfl rfl hl.1 rfl (lv_room (Nat.le_of_ble_eq_true rfl)) dX9_hireUpTo_12 ⟨Nat.le_of_ble_eq_true rfl, Nat.le_of_ble_eq_true rfl⟩) ?_
    refine lv_istore_n (lv' := [(3, .int v3), (0, .ref (ad 0)), (1, .int p0), (2, .int p1)]) hx hb dX9_hireUpTo_15 rfl hl (by decide) rfl (fun ls hl => ?_)
    refine lv_iconst (v := 0) hx hb dX9_hireUpTo_16 (by decide) ?_
    refine lv_istore (lv' := [(4, .int (0 : Int32)), (3, .int v3), (0, .ref (ad 0)), (1, .int p0), (2, .int p1)]) hx hb dX9_hireUpTo_17 hl (by decide) rfl (fun ls hl => ?_)
    exact w_X9_hireUpTo_19 C hK hE hN h0 hP  1000 p1 v3 (0 : Int32) _ hf (lv_sub hl [2, 4, 1, 0] rfl)
  · have hf := (if_ok hf).1 cc
    refine lv_iconst (v := -1) hx hb dX9_hireUpTo_8 (by decide) ?_
    exact W.iret hx hb hr (fun t ht _ => ⟨_, rfl, Option.some.inj hf, ht⟩) (fun _ h => by cases h) dX9_hireUpTo_9
abbrev r_X9_hireOf : Room := { frames := 3, cells := 0, slots := 0, locals := 72 }
theorem in_X9_hireOf_X9 : ∀ w ∈ u_ws RX9 TX9 42, w ∈ wsX9_hireOf := by decide +kernel
set_option maxHeartbeats 4000000 in
set_option maxRecDepth 100000 in
theorem c_X9_hireOf (l : Launch) {D : va_G} {ad : Nat → Nat} {cy : Nat → ClassId} {sa va : Nat → Nat} {I : qI} {J : qJ} {S : Nat → Prop} (h0 : isM0 S)   (p0 : Int32) {r : Int32} (hf : f_X9_hireOf p0 I = some r) : Met l yX9_hireOf wsX9_hireOf r_X9_hireOf (va_Pc [.ref (ad 0), .int p0] (qPre D S ad cy sa va (eM ad cy) I J)) (vp_Si (fun x => x = r)) 0 0 (fun _ => False) := by
  refine Met.ofW (cc := cX9_hireOf) (maxL := 2) (ret := (some .int)) (by decide) rfl ?_
  intro p e s m args below meth c s₁ B hml hv
  obtain ⟨rfl, hP, hK, hE, hN⟩ := hv
  have C : qC p s m _ meth c cX9_hireOf 2 RX9 wsX9_hireOf (some .int) := ⟨⟨B.exec, B.bytes, hml, findClass_of_methodNamed B.named, atoms_spec (ws := wsX9_hireOf) B.pre⟩, B.returns, B.notSynchronized⟩
  have C0 := C
  obtain ⟨⟨hx, hb, hml, hown, hts⟩, hr, hlocks⟩ := C0
  have hl := lv_entry ([.ref (ad 0), .int p0]) (n := 2) (Nat.le_of_ble_eq_true rfl)
  rw [lg_entry_eq]
  generalize (lg_sl ([.ref (ad 0), .int p0]) ++ List.replicate (2 - (lg_sl ([.ref (ad 0), .int p0])).length) Slot.unset).toArray = ls at hl ⊢
  have hl : lv_has ls 2 [(0, .ref (ad 0)), (1, .int p0)] := hl
  unfold f_X9_hireOf at hf
  refine lv_aload_n hx hb dX9_hireOf_0 rfl (lv_at hl 0 rfl) ?_
  refine lv_iload_n hx hb dX9_hireOf_1 rfl (lv_at hl 1 rfl) ?_
  refine lv_aload_n hx hb dX9_hireOf_2 rfl (lv_at hl 0 rfl) ?_
  refine q_get (C := RX9) (T := TX9) (N := 42) (ci := 9) (v := .int (I 0 12)) hx hb hts in_X9_hireOf_X9 hown hK hP (oX9 h0) rfl 12 (by decide) (hts (.fieldLink RX9 44 "RowsOnlyPrimesModel" "hermits" "I") (by decide +kernel)) (fun _ h9 => h9) rfl dX9_hireOf_3 ?_
  obtain ⟨v1, h2, hf⟩ := bd_ok hf
  refine q_cSi (va_runV (As := [.int p0, .int (I 0 12)]) (rest := []) ⟨hx, hb, hml, hown, hts⟩ (c_X9_hireUpTo l (D := D) (ad := ad) (cy := cy) (sa := sa) (va := va) (I := I) (J := J) (S := S) h0 p0 (I 0 12) h2) (cwV 2 hts gX9_hireOf_X9_hireUpTo rfl rfl rfl (by decide +kernel) ⟨Nat.le_of_ble_eq_true rfl, Nat.le_of_ble_eq_true rfl⟩) ⟨qPre_blind _, q_recv hK hP (oX9 h0) rfl, fun U hU hW => ⟨rfl, qPre_of hP hK hE hN va_S.rf U hU hW⟩⟩ rfl rfl hl.1 rfl (lv_room (Nat.le_of_ble_eq_true rfl)) dX9_hireOf_6 ⟨Nat.le_of_ble_eq_true rfl, Nat.le_of_ble_eq_true rfl⟩) ?_
  exact W.iret hx hb hr (fun t ht _ => ⟨_, rfl, Option.some.inj hf, ht⟩) (fun _ h => by cases h) dX9_hireOf_9
abbrev r_X9_partyOf : Room := { frames := 2, cells := 0, slots := 0, locals := 46 }
theorem in_X9_partyOf_X9 : ∀ w ∈ u_ws RX9 TX9 42, w ∈ wsX9_partyOf := by decide +kernel
set_option maxHeartbeats 4000000 in
set_option maxRecDepth 100000 in
theorem w_X9_partyOf_20 {S : Nat → Prop} (C : qC p s m args meth c cX9_partyOf 3 RX9 wsX9_partyOf (some .int)) (hK : qK D cy sa s) (hE : qEnv sa va (qA S ad) s s.heap) (hN : qN S ad) (h0 : isM0 S)   {J : qJ} {r : Int32} {Ie : qI} : ∀   (I : qI) (ls : Array Slot) (H : Heap) (locs : List Loc), f_X9_partyOf_20 I = some (r, Ie) → lv_has ls 3 [(0, .ref (ad 0))] → qP D S ad (eM ad cy) I J H → va_S (qA S ad) s.heap H locs → W p l e (headSpec wsX9_partyOf r_X9_partyOf).room s m args below meth c H locs 0 0 (MQ below (va_Qi (S := Unit) (fun x _ => x = r) (fun _ t => qP D S ad (eM ad cy) Ie J t.heap) (qA S ad)) args s 0 0 (qA S ad)) (F0 m 20 ls []) := by
  have C0 := C
  obtain ⟨⟨hx, hb, hml, hown, hts⟩, hr, hlocks⟩ := C0
  intro I ls H locs hf hl hP hS
  unfold f_X9_partyOf_20 at hf
  refine lv_aload_n hx hb dX9_partyOf_20 rfl (lv_at hl 0 rfl) ?_
  refine lv_sipush (v := -1002) hx hb dX9_partyOf_21 (by decide) ?_
  obtain ⟨v1, I2, h3, hf⟩ := bd2_ok hf
  refine q_cEi (va_runV (As := [.int (-1002 : Int32)]) (rest := []) ⟨hx, hb, hml, hown, hts⟩ (c_X9_refuse l (D := D) (ad := ad) (cy := cy) (sa := sa) (va := va) (I := I) (J := J) (S := S) h0 (-1002 : Int32) h3) (cwV 1 hts gX9_partyOf_X9_refuse rfl rfl rfl (by decide +kernel) ⟨Nat.le_of_ble_eq_true rfl, Nat.le_of_ble_eq_true rfl⟩) ⟨qPre_blind _, q_recv hK hP (oX9 h0) rfl, fun U hU hW => ⟨rfl, qPre_of hP hK hE hN hS U hU hW⟩⟩ rfl rfl hl.1 rfl (lv_room (Nat.le_of_ble_eq_true rfl)) dX9_partyOf_24 ⟨Nat.le_of_ble_eq_true rfl, Nat.le_of_ble_eq_true rfl⟩) hS (fun H locs hP hS => ?_)
  have e9 := Option.some.inj hf
  have eI9 : I2 = Ie := (congrArg Prod.snd e9)
  exact W.iret hx hb hr (fun t ht _ => ⟨⟨_, (), rfl, (congrArg Prod.fst e9), by show qP D _ ad _ _ _ t.heap; rw [ht, ← eI9]; exact hP⟩, hS.F ht⟩) hS.2.2 dX9_partyOf_27
set_option maxHeartbeats 4000000 in
set_option maxRecDepth 100000 in
theorem c_X9_partyOf (l : Launch) {D : va_G} {ad : Nat → Nat} {cy : Nat → ClassId} {sa va : Nat → Nat} {I : qI} {J : qJ} {S : Nat → Prop} (h0 : isM0 S)   (p0 : Int32) (p1 : Int32) {r : Int32} {Ie : qI} (hf : f_X9_partyOf p0 p1 I = some (r, Ie)) : Met l yX9_partyOf wsX9_partyOf r_X9_partyOf (va_Pc [.ref (ad 0), .int p0, .int p1] (qPre D S ad cy sa va (eM ad cy) I J)) (va_Qi (S := Unit) (fun x _ => x = r) (fun _ t => qP D S ad (eM ad cy) Ie J t.heap) (qA S ad)) 0 0 (qA S ad) := by
  refine Met.ofW (cc := cX9_partyOf) (maxL := 3) (ret := (some .int)) (by decide) rfl ?_
  intro p e s m args below meth c s₁ B hml hv
  obtain ⟨rfl, hP, hK, hE, hN⟩ := hv
  have C : qC p s m _ meth c cX9_partyOf 3 RX9 wsX9_partyOf (some .int) := ⟨⟨B.exec, B.bytes, hml, findClass_of_methodNamed B.named, atoms_spec (ws := wsX9_partyOf) B.pre⟩, B.returns, B.notSynchronized⟩
  have C0 := C
  obtain ⟨⟨hx, hb, hml, hown, hts⟩, hr, hlocks⟩ := C0
  have hS : va_S (qA S ad) s.heap s.heap [] := va_S.rf
  have hl := lv_entry ([.ref (ad 0), .int p0, .int p1]) (n := 3) (Nat.le_of_ble_eq_true rfl)
  rw [lg_entry_eq]
  generalize (lg_sl ([.ref (ad 0), .int p0, .int p1]) ++ List.replicate (3 - (lg_sl ([.ref (ad 0), .int p0, .int p1])).length) Slot.unset).toArray = ls at hl ⊢
  have hl : lv_has ls 3 [(0, .ref (ad 0)), (1, .int p0), (2, .int p1)] := hl
  unfold f_X9_partyOf at hf
  refine lv_aload_n hx hb dX9_partyOf_0 rfl (lv_at hl 0 rfl) ?_
  refine lv_iload_n hx hb dX9_partyOf_1 rfl (lv_at hl 1 rfl) ?_
  obtain ⟨v1, h2, hf⟩ := bd_ok hf
  refine q_cSi (va_runV (As := [.int p0]) (rest := []) ⟨hx, hb, hml, hown, hts⟩ (c_X9_isParty l (D := D) (ad := ad) (cy := cy) (sa := sa) (va := va) (I := I) (J := J) (S := S) h0 p0 h2) (cwV 1 hts gX9_partyOf_X9_isParty rfl rfl rfl (by decide +kernel) ⟨Nat.le_of_ble_eq_true rfl, Nat.le_of_ble_eq_true rfl⟩) ⟨qPre_blind _, q_recv hK hP (oX9 h0) rfl, fun U hU hW => ⟨rfl, qPre_of hP hK hE hN hS U hU hW⟩⟩ rfl rfl hl.1 rfl (lv_room (Nat.le_of_ble_eq_true rfl)) dX9_partyOf_2 ⟨Nat.le_of_ble_eq_true rfl, Nat.le_of_ble_eq_true rfl⟩) ?_
  refine lv_if_eq (tgt := 20) hx hb dX9_partyOf_5 (by decide) (fun cc => ?_) (fun cc => ?_)
  · have hf := (if_ok hf).1 cc
    exact w_X9_partyOf_20 C hK hE hN h0   I _ _ _ hf (lv_sub hl [0] rfl) hP hS
  · have hf := (if_ok hf).2 cc
    refine lv_iload_n hx hb dX9_partyOf_8 rfl (lv_at hl 2 rfl) ?_
    refine lv_i2l hx hb dX9_partyOf_9 rfl ?_
    refine lv_lconst (v := 0) hx hb dX9_partyOf_10 (by decide) ?_
    refine lv_ldc2 (own := RX9) (v := 7) hx hb hown (hts (.constantLong RX9 103 (7)) (by decide +kernel)) dX9_partyOf_11 ?_
    obtain ⟨v3, h4, hf⟩ := bd_ok hf
    refine q_cSi (va_runS (As := [.long p1.toInt64, .long (0 : Int64), .long (7 : Int64)]) (rest := []) ⟨hx, hb, hml, hown, hts⟩ (c_X9_in l (D := D) (ad := ad) (cy := cy) (sa := sa) (va := va) (I := I) (J := J) (S := S) h0 p1.toInt64 (0 : Int64) (7 : Int64) h4) (va_cwS 3 hts gX9_partyOf_X9_in rfl rfl rfl (by decide +kernel) ⟨Nat.le_of_ble_eq_true rfl, Nat.le_of_ble_eq_true rfl⟩) ⟨qPre_blind _, fun U hU hW => ⟨rfl, qPre_of hP hK hE hN hS U hU hW⟩⟩ rfl rfl hl.1 rfl (lv_room (Nat.le_of_ble_eq_true rfl)) dX9_partyOf_14 ⟨Nat.le_of_ble_eq_true rfl, Nat.le_of_ble_eq_true rfl⟩) ?_
    refine lv_if_ne (tgt := 28) hx hb dX9_partyOf_17 (by decide) (fun cc => ?_) (fun cc => ?_)
    · have hf := (if_ok hf).2 cc
      refine lv_iload_n hx hb dX9_partyOf_28 rfl (lv_at hl 2 rfl) ?_
      by_cases c5 : p1 = (0 : Int32)
      · have hf := (if_ok hf).1 c5
        refine lv_tableIn (off := 43) (tgt := 72) hx hb dX9_partyOf_29 (by rw [c5]; decide) (by rw [c5]; decide) (by rw [c5]; rfl) (by decide) ?_
        refine lv_aload_n hx hb dX9_partyOf_72 rfl (lv_at hl 0 rfl) ?_
        refine q_get (C := RX9) (T := TX9) (N := 42) (ci := 9) (v := .ref (ad 17)) hx hb hts in_X9_partyOf_X9 hown hK hP (oX9 h0) rfl 19 (by decide) (hts (.fieldLink RX9 50 "RowsOnlyPrimesModel" "kind" "[I") (by decide +kernel)) (fun _ h9 => h9) rfl dX9_partyOf_73 ?_
        refine lv_iload_n hx hb dX9_partyOf_76 rfl (lv_at hl 1 rfl) ?_
        obtain ⟨g6, hf⟩ := gd_ok hf
        refine q_iald hx hb hK hP (a0X9_17 h0) g6 dX9_partyOf_77 ?_
        have e9 := Option.some.inj hf
        have eI9 : I = Ie := (congrArg Prod.snd e9)
        exact W.iret hx hb hr (fun t ht _ => ⟨⟨_, (), rfl, (congrArg Prod.fst e9), by show qP D _ ad _ _ _ t.heap; rw [ht, ← eI9]; exact hP⟩, hS.F ht⟩) hS.2.2 dX9_partyOf_78
      have hf := (if_ok hf).2 c5
      by_cases c7 : p1 = (1 : Int32)
      · have hf := (if_ok hf).1 c7
        refine lv_tableIn (off := 50) (tgt := 79) hx hb dX9_partyOf_29 (by rw [c7]; decide) (by rw [c7]; decide) (by rw [c7]; rfl) (by decide) ?_
        refine lv_aload_n hx hb dX9_partyOf_79 rfl (lv_at hl 0 rfl) ?_
        refine q_get (C := RX9) (T := TX9) (N := 42) (ci := 9) (v := .ref (ad 18)) hx hb hts in_X9_partyOf_X9 hown hK hP (oX9 h0) rfl 20 (by decide) (hts (.fieldLink RX9 53 "RowsOnlyPrimesModel" "by" "[I") (by decide +kernel)) (fun _ h9 => h9) rfl dX9_partyOf_80 ?_
        refine lv_iload_n hx hb dX9_partyOf_83 rfl (lv_at hl 1 rfl) ?_
        obtain ⟨g8, hf⟩ := gd_ok hf
        refine q_iald hx hb hK hP (a0X9_18 h0) g8 dX9_partyOf_84 ?_
        have e9 := Option.some.inj hf
        have eI9 : I = Ie := (congrArg Prod.snd e9)
        exact W.iret hx hb hr (fun t ht _ => ⟨⟨_, (), rfl, (congrArg Prod.fst e9), by show qP D _ ad _ _ _ t.heap; rw [ht, ← eI9]; exact hP⟩, hS.F ht⟩) hS.2.2 dX9_partyOf_85
      have hf := (if_ok hf).2 c7
      by_cases c9 : p1 = (2 : Int32)
      · have hf := (if_ok hf).1 c9
        refine lv_tableIn (off := 57) (tgt := 86) hx hb dX9_partyOf_29 (by rw [c9]; decide) (by rw [c9]; decide) (by rw [c9]; rfl) (by decide) ?_
        refine lv_aload_n hx hb dX9_partyOf_86 rfl (lv_at hl 0 rfl) ?_
        refine q_get (C := RX9) (T := TX9) (N := 42) (ci := 9) (v := .ref (ad 19)) hx hb hts in_X9_partyOf_X9 hown hK hP (oX9 h0) rfl 21 (by decide) (hts (.fieldLink RX9 56 "RowsOnlyPrimesModel" "size" "[I") (by decide +kernel)) (fun _ h9 => h9) rfl dX9_partyOf_87 ?_
        refine lv_iload_n hx hb dX9_partyOf_90 rfl (lv_at hl 1 rfl) ?_
        obtain ⟨g10, hf⟩ := gd_ok hf
        refine q_iald hx hb hK hP (a0X9_19 h0) g10 dX9_partyOf_91 ?_
        have e9 := Option.some.inj hf
        have eI9 : I = Ie := (congrArg Prod.snd e9)
        exact W.iret hx hb hr (fun t ht _ => ⟨⟨_, (), rfl, (congrArg Prod.fst e9), by show qP D _ ad _ _ _ t.heap; rw [ht, ← eI9]; exact hP⟩, hS.F ht⟩) hS.2.2 dX9_partyOf_92
      have hf := (if_ok hf).2 c9
      by_cases c11 : p1 = (3 : Int32)
      · have hf := (if_ok hf).1 c11
        refine lv_tableIn (off := 64) (tgt := 93) hx hb dX9_partyOf_29 (by rw [c11]; decide) (by rw [c11]; decide) (by rw [c11]; rfl) (by decide) ?_
        refine lv_aload_n hx hb dX9_partyOf_93 rfl (lv_at hl 0 rfl) ?_
        refine q_get (C := RX9) (T := TX9) (N := 42) (ci := 9) (v := .ref (ad 20)) hx hb hts in_X9_partyOf_X9 hown hK hP (oX9 h0) rfl 22 (by decide) (hts (.fieldLink RX9 59 "RowsOnlyPrimesModel" "purse" "[I") (by decide +kernel)) (fun _ h9 => h9) rfl dX9_partyOf_94 ?_
        refine lv_iload_n hx hb dX9_partyOf_97 rfl (lv_at hl 1 rfl) ?_
        obtain ⟨g12, hf⟩ := gd_ok hf
        refine q_iald hx hb hK hP (a0X9_20 h0) g12 dX9_partyOf_98 ?_
        have e9 := Option.some.inj hf
        have eI9 : I = Ie := (congrArg Prod.snd e9)
        exact W.iret hx hb hr (fun t ht _ => ⟨⟨_, (), rfl, (congrArg Prod.fst e9), by show qP D _ ad _ _ _ t.heap; rw [ht, ← eI9]; exact hP⟩, hS.F ht⟩) hS.2.2 dX9_partyOf_99
      have hf := (if_ok hf).2 c11
      by_cases c13 : p1 = (4 : Int32)
      · have hf := (if_ok hf).1 c13
        refine lv_tableIn (off := 71) (tgt := 100) hx hb dX9_partyOf_29 (by rw [c13]; decide) (by rw [c13]; decide) (by rw [c13]; rfl) (by decide) ?_
        refine lv_aload_n hx hb dX9_partyOf_100 rfl (lv_at hl 0 rfl) ?_
        refine lv_iload_n hx hb dX9_partyOf_101 rfl (lv_at hl 1 rfl) ?_
        obtain ⟨v14, h15, hf⟩ := bd_ok hf
        refine q_cSi (va_runV (As := [.int p0]) (rest := []) ⟨hx, hb, hml, hown, hts⟩ (c_X9_headsOf l (D := D) (ad := ad) (cy := cy) (sa := sa) (va := va) (I := I) (J := J) (S := S) h0 p0 h15) (cwV 1 hts gX9_partyOf_X9_headsOf rfl rfl rfl (by decide +kernel) ⟨Nat.le_of_ble_eq_true rfl, Nat.le_of_ble_eq_true rfl⟩) ⟨qPre_blind _, q_recv hK hP (oX9 h0) rfl, fun U hU hW => ⟨rfl, qPre_of hP hK hE hN hS U hU hW⟩⟩ rfl rfl hl.1 rfl (lv_room (Nat.le_of_ble_eq_true rfl)) dX9_partyOf_102 ⟨Nat.le_of_ble_eq_true rfl, Nat.le_of_ble_eq_true rfl⟩) ?_
        have e9 := Option.some.inj hf
        have eI9 : I = Ie := (congrArg Prod.snd e9)
        exact W.iret hx hb hr (fun t ht _ => ⟨⟨_, (), rfl, (congrArg Prod.fst e9), by show qP D _ ad _ _ _ t.heap; rw [ht, ← eI9]; exact hP⟩, hS.F ht⟩) hS.2.2 dX9_partyOf_105
      have hf := (if_ok hf).2 c13
      by_cases c16 : p1 = (5 : Int32)
      · have hf := (if_ok hf).1 c16
        refine lv_tableIn (off := 77) (tgt := 106) hx hb dX9_partyOf_29 (by rw [c16]; decide) (by rw [c16]; decide) (by rw [c16]; rfl) (by decide) ?_
        refine lv_aload_n hx hb dX9_partyOf_106 rfl (lv_at hl 0 rfl) ?_
        refine lv_iload_n hx hb dX9_partyOf_107 rfl (lv_at hl 1 rfl) ?_
        obtain ⟨v17, h18, hf⟩ := bd_ok hf
        refine q_cSi (va_runV (As := [.int p0]) (rest := []) ⟨hx, hb, hml, hown, hts⟩ (c_X9_isOver l (D := D) (ad := ad) (cy := cy) (sa := sa) (va := va) (I := I) (J := J) (S := S) h0 p0 h18) (cwV 1 hts gX9_partyOf_X9_isOver rfl rfl rfl (by decide +kernel) ⟨Nat.le_of_ble_eq_true rfl, Nat.le_of_ble_eq_true rfl⟩) ⟨qPre_blind _, q_recv hK hP (oX9 h0) rfl, fun U hU hW => ⟨rfl, qPre_of hP hK hE hN hS U hU hW⟩⟩ rfl rfl hl.1 rfl (lv_room (Nat.le_of_ble_eq_true rfl)) dX9_partyOf_108 ⟨Nat.le_of_ble_eq_true rfl, Nat.le_of_ble_eq_true rfl⟩) ?_
        refine lv_if_eq (tgt := 118) hx hb dX9_partyOf_111 (by decide) (fun cc => ?_) (fun cc => ?_)
        · have hf := (if_ok hf).1 cc
          refine lv_iconst (v := 0) hx hb dX9_partyOf_118 (by decide) ?_
          have e9 := Option.some.inj hf
          have eI9 : I = Ie := (congrArg Prod.snd e9)
          exact W.iret hx hb hr (fun t ht _ => ⟨⟨_, (), rfl, (congrArg Prod.fst e9), by show qP D _ ad _ _ _ t.heap; rw [ht, ← eI9]; exact hP⟩, hS.F ht⟩) hS.2.2 dX9_partyOf_119
        · have hf := (if_ok hf).2 cc
          refine lv_iconst (v := 1) hx hb dX9_partyOf_114 (by decide) ?_
          refine lv_goto (tgt := 119) hx hb dX9_partyOf_115 (by decide) ?_
          have e9 := Option.some.inj hf
          have eI9 : I = Ie := (congrArg Prod.snd e9)
          exact W.iret hx hb hr (fun t ht _ => ⟨⟨_, (), rfl, (congrArg Prod.fst e9), by show qP D _ ad _ _ _ t.heap; rw [ht, ← eI9]; exact hP⟩, hS.F ht⟩) hS.2.2 dX9_partyOf_119
      have hf := (if_ok hf).2 c16
      by_cases c19 : p1 = (6 : Int32)
      · have hf := (if_ok hf).1 c19
        refine lv_tableIn (off := 91) (tgt := 120) hx hb dX9_partyOf_29 (by rw [c19]; decide) (by rw [c19]; decide) (by rw [c19]; rfl) (by decide) ?_
        refine lv_aload_n hx hb dX9_partyOf_120 rfl (lv_at hl 0 rfl) ?_
        refine q_get (C := RX9) (T := TX9) (N := 42) (ci := 9) (v := .ref (ad 21)) hx hb hts in_X9_partyOf_X9 hown hK hP (oX9 h0) rfl 23 (by decide) (hts (.fieldLink RX9 62 "RowsOnlyPrimesModel" "tied" "[I") (by decide +kernel)) (fun _ h9 => h9) rfl dX9_partyOf_121 ?_
        refine lv_iload_n hx hb dX9_partyOf_124 rfl (lv_at hl 1 rfl) ?_
        obtain ⟨g20, hf⟩ := gd_ok hf
        refine q_iald hx hb hK hP (a0X9_21 h0) g20 dX9_partyOf_125 ?_
        have e9 := Option.some.inj hf
        have eI9 : I = Ie := (congrArg Prod.snd e9)
        exact W.iret hx hb hr (fun t ht _ => ⟨⟨_, (), rfl, (congrArg Prod.fst e9), by show qP D _ ad _ _ _ t.heap; rw [ht, ← eI9]; exact hP⟩, hS.F ht⟩) hS.2.2 dX9_partyOf_126
      have hf := (if_ok hf).2 c19
      refine lv_tableOut (tgt := 127) hx hb dX9_partyOf_29 (by have c5 := q_nt c5 (show ((0 : Int32)).toInt = 0 by decide); have c7 := q_nt c7 (show ((1 : Int32)).toInt = 1 by decide); have c9 := q_nt c9 (show ((2 : Int32)).toInt = 2 by decide); have c11 := q_nt c11 (show ((3 : Int32)).toInt = 3 by decide); have c13 := q_nt c13 (show ((4 : Int32)).toInt = 4 by decide); have c16 := q_nt c16 (show ((5 : Int32)).toInt = 5 by decide); have c19 := q_nt c19 (show ((6 : Int32)).toInt = 6 by decide); omega) (by decide) ?_
      refine lv_aload_n hx hb dX9_partyOf_127 rfl (lv_at hl 0 rfl) ?_
      refine q_get (C := RX9) (T := TX9) (N := 42) (ci := 9) (v := .ref (ad 22)) hx hb hts in_X9_partyOf_X9 hown hK hP (oX9 h0) rfl 24 (by decide) (hts (.fieldLink RX9 65 "RowsOnlyPrimesModel" "shuns" "[I") (by decide +kernel)) (fun _ h9 => h9) rfl dX9_partyOf_128 ?_
      refine lv_iload_n hx hb dX9_partyOf_131 rfl (lv_at hl 1 rfl) ?_
      obtain ⟨g21, hf⟩ := gd_ok hf
      refine q_iald hx hb hK hP (a0X9_22 h0) g21 dX9_partyOf_132 ?_
      have e9 := Option.some.inj hf
      have eI9 : I = Ie := (congrArg Prod.snd e9)
      exact W.iret hx hb hr (fun t ht _ => ⟨⟨_, (), rfl, (congrArg Prod.fst e9), by show qP D _ ad _ _ _ t.heap; rw [ht, ← eI9]; exact hP⟩, hS.F ht⟩) hS.2.2 dX9_partyOf_133
    · have hf := (if_ok hf).1 cc
      exact w_X9_partyOf_20 C hK hE hN h0   I _ _ _ hf (lv_sub hl [0] rfl) hP hS
end
