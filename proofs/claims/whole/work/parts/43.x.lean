/-! machine: X7_readStatement X7_readInto X8_isShelf X8_isKind (written by wip/gen/gen.py) -/
section
variable {p : Program} {l : Launch} {e : Env} {s : State} {m : MethodId} {args : Array Value} {below : List Frame} {meth : Method} {c : Code} {D : va_G} {ad : Nat → Nat} {cy : Nat → ClassId} {sa va : Nat → Nat}
abbrev r_X7_readStatement : Room := { frames := 7, cells := 0, slots := 0, locals := 148 }
theorem in_X7_readStatement_X7 : ∀ w ∈ u_ws RX7 TX7 6, w ∈ wsX7_readStatement := by decide +kernel
set_option maxHeartbeats 4000000 in
set_option maxRecDepth 100000 in
theorem c_X7_readStatement (l : Launch) {D : va_G} {ad : Nat → Nat} {cy : Nat → ClassId} {sa va : Nat → Nat} {I : qI} {J : qJ} (c0 : Nat) (zc0 : isB c0)  {Ie : qI} (hf : f_X7_readStatement c0 I = some Ie) : Met l yX7_readStatement wsX7_readStatement r_X7_readStatement (va_Pc [.ref (ad 25), .ref (ad c0)] (qPre D xS ad cy sa va (eX ad cy) I J)) (va_Qv (S := Unit) (fun _ => True) (fun _ t => qP D xS ad (eX ad cy) Ie J t.heap) (qA xS ad)) 0 0 (qA xS ad) := by
  refine Met.ofW (cc := cX7_readStatement) (maxL := 2) (ret := none) (by decide) rfl ?_
  intro p e s m args below meth c s₁ B hml hv
  obtain ⟨rfl, hP, hK, hE, hN⟩ := hv
  have C : qC p s m _ meth c cX7_readStatement 2 RX7 wsX7_readStatement none := ⟨⟨B.exec, B.bytes, hml, findClass_of_methodNamed B.named, atoms_spec (ws := wsX7_readStatement) B.pre⟩, B.returns, B.notSynchronized⟩
  have C0 := C
  obtain ⟨⟨hx, hb, hml, hown, hts⟩, hr, hlocks⟩ := C0
  have hS : va_S (qA xS ad) s.heap s.heap [] := va_S.rf
  have hl := lv_entry ([.ref (ad 25), .ref (ad c0)]) (n := 2) (Nat.le_of_ble_eq_true rfl)
  rw [lg_entry_eq]
  generalize (lg_sl ([.ref (ad 25), .ref (ad c0)]) ++ List.replicate (2 - (lg_sl ([.ref (ad 25), .ref (ad c0)])).length) Slot.unset).toArray = ls at hl ⊢
  have hl : lv_has ls 2 [(0, .ref (ad 25)), (1, .ref (ad c0))] := hl
  unfold f_X7_readStatement at hf
  refine lv_aload_n hx hb dX7_readStatement_0 rfl (lv_at hl 0 rfl) ?_
  obtain ⟨I1, h2, hf⟩ := bd_ok hf
  refine q_cEv (va_runV (As := []) (rest := []) ⟨hx, hb, hml, hown, hts⟩ (c_X7_step l (D := D) (ad := ad) (cy := cy) (sa := sa) (va := va) (I := I) (J := J)  h2) (cwV 0 hts gX7_readStatement_X7_step rfl rfl rfl (by decide +kernel) ⟨Nat.le_of_ble_eq_true rfl, Nat.le_of_ble_eq_true rfl⟩) ⟨qPre_blind _, q_recv hK hP oX7 rfl, fun U hU hW => ⟨rfl, qPre_of hP hK hE hN hS U hU hW⟩⟩ rfl rfl hl.1 rfl (lv_room (Nat.le_of_ble_eq_true rfl)) dX7_readStatement_1 ⟨Nat.le_of_ble_eq_true rfl, Nat.le_of_ble_eq_true rfl⟩) hS (fun H locs hP hS => ?_)
  refine lv_aload_n hx hb dX7_readStatement_4 rfl (lv_at hl 0 rfl) ?_
  refine q_get (C := RX7) (T := TX7) (N := 6) (ci := 7) (v := .int (I1 25 4)) hx hb hts in_X7_readStatement_X7 hown hK hP oX7 rfl 4 (by decide) (hts (.fieldLink RX7 37 "RowsOnlyPrimes$Tape" "token" "I") (by decide +kernel)) (fun _ h9 => h9) rfl dX7_readStatement_5 ?_
  refine lv_iconst (v := 1) hx hb dX7_readStatement_8 (by decide) ?_
  refine lv_icmp_eq (tgt := 20) hx hb dX7_readStatement_9 (by decide) (fun cc => ?_) (fun cc => ?_)
  · have hf := (if_ok hf).1 cc
    refine lv_aload_n hx hb dX7_readStatement_20 rfl (lv_at hl 0 rfl) ?_
    refine va_ldcS (own := RX7) (index := 40) (q := sa 0) hx hb hown (hK.2.2.1.1) dX7_readStatement_21 ?_
    obtain ⟨v3, h4, hf⟩ := bd_ok hf
    refine q_cSi (va_runV (As := [.ref (sa 0)]) (rest := []) ⟨hx, hb, hml, hown, hts⟩ (c_X7_isWord l (D := D) (ad := ad) (cy := cy) (sa := sa) (va := va) (I := I1) (J := J) 0 (by decide) h4) (cwV 1 hts gX7_readStatement_X7_isWord rfl rfl rfl (by decide +kernel) ⟨Nat.le_of_ble_eq_true rfl, Nat.le_of_ble_eq_true rfl⟩) ⟨qPre_blind _, q_recv hK hP oX7 rfl, fun U hU hW => ⟨rfl, qPre_of hP hK hE hN hS U hU hW⟩⟩ rfl rfl hl.1 rfl (lv_room (Nat.le_of_ble_eq_true rfl)) dX7_readStatement_23 ⟨Nat.le_of_ble_eq_true rfl, Nat.le_of_ble_eq_true rfl⟩) ?_
    refine lv_if_eq (tgt := 37) hx hb dX7_readStatement_26 (by decide) (fun cc => ?_) (fun cc => ?_)
    · have hf := (if_ok hf).1 cc
      refine lv_aload_n hx hb dX7_readStatement_37 rfl (lv_at hl 0 rfl) ?_
      refine va_ldcS (own := RX7) (index := 49) (q := sa 1) hx hb hown (hK.2.2.1.2.1) dX7_readStatement_38 ?_
      obtain ⟨v5, h6, hf⟩ := bd_ok hf
      refine q_cSi (va_runV (As := [.ref (sa 1)]) (rest := []) ⟨hx, hb, hml, hown, hts⟩ (c_X7_isWord l (D := D) (ad := ad) (cy := cy) (sa := sa) (va := va) (I := I1) (J := J) 1 (by decide) h6) (cwV 1 hts gX7_readStatement_X7_isWord rfl rfl rfl (by decide +kernel) ⟨Nat.le_of_ble_eq_true rfl, Nat.le_of_ble_eq_true rfl⟩) ⟨qPre_blind _, q_recv hK hP oX7 rfl, fun U hU hW => ⟨rfl, qPre_of hP hK hE hN hS U hU hW⟩⟩ rfl rfl hl.1 rfl (lv_room (Nat.le_of_ble_eq_true rfl)) dX7_readStatement_40 ⟨Nat.le_of_ble_eq_true rfl, Nat.le_of_ble_eq_true rfl⟩) ?_
      refine lv_if_eq (tgt := 55) hx hb dX7_readStatement_43 (by decide) (fun cc => ?_) (fun cc => ?_)
      · have hf := (if_ok hf).1 cc
        refine lv_aload_n hx hb dX7_readStatement_55 rfl (lv_at hl 0 rfl) ?_
        refine va_ldcS (own := RX7) (index := 55) (q := sa 2) hx hb hown (hK.2.2.1.2.2.1) dX7_readStatement_56 ?_
        obtain ⟨v7, h8, hf⟩ := bd_ok hf
        refine q_cSi (va_runV (As := [.ref (sa 2)]) (rest := []) ⟨hx, hb, hml, hown, hts⟩ (c_X7_isWord l (D := D) (ad := ad) (cy := cy) (sa := sa) (va := va) (I := I1) (J := J) 2 (by decide) h8) (cwV 1 hts gX7_readStatement_X7_isWord rfl rfl rfl (by decide +kernel) ⟨Nat.le_of_ble_eq_true rfl, Nat.le_of_ble_eq_true rfl⟩) ⟨qPre_blind _, q_recv hK hP oX7 rfl, fun U hU hW => ⟨rfl, qPre_of hP hK hE hN hS U hU hW⟩⟩ rfl rfl hl.1 rfl (lv_room (Nat.le_of_ble_eq_true rfl)) dX7_readStatement_58 ⟨Nat.le_of_ble_eq_true rfl, Nat.le_of_ble_eq_true rfl⟩) ?_
        refine lv_if_eq (tgt := 73) hx hb dX7_readStatement_61 (by decide) (fun cc => ?_) (fun cc => ?_)
        · have hf := (if_ok hf).1 cc
          refine lv_aload_n hx hb dX7_readStatement_73 rfl (lv_at hl 0 rfl) ?_
          refine va_ldcS (own := RX7) (index := 57) (q := sa 3) hx hb hown (hK.2.2.1.2.2.2.1) dX7_readStatement_74 ?_
          obtain ⟨v9, h10, hf⟩ := bd_ok hf
          refine q_cSi (va_runV (As := [.ref (sa 3)]) (rest := []) ⟨hx, hb, hml, hown, hts⟩ (c_X7_isWord l (D := D) (ad := ad) (cy := cy) (sa := sa) (va := va) (I := I1) (J := J) 3 (by decide) h10) (cwV 1 hts gX7_readStatement_X7_isWord rfl rfl rfl (by decide +kernel) ⟨Nat.le_of_ble_eq_true rfl, Nat.le_of_ble_eq_true rfl⟩) ⟨qPre_blind _, q_recv hK hP oX7 rfl, fun U hU hW => ⟨rfl, qPre_of hP hK hE hN hS U hU hW⟩⟩ rfl rfl hl.1 rfl (lv_room (Nat.le_of_ble_eq_true rfl)) dX7_readStatement_76 ⟨Nat.le_of_ble_eq_true rfl, Nat.le_of_ble_eq_true rfl⟩) ?_
          refine lv_if_eq (tgt := 91) hx hb dX7_readStatement_79 (by decide) (fun cc => ?_) (fun cc => ?_)
          · have hf := (if_ok hf).1 cc
            refine lv_aload_n hx hb dX7_readStatement_91 rfl (lv_at hl 0 rfl) ?_
            refine va_ldcS (own := RX7) (index := 59) (q := sa 4) hx hb hown (hK.2.2.1.2.2.2.2.1) dX7_readStatement_92 ?_
            obtain ⟨v11, h12, hf⟩ := bd_ok hf
            refine q_cSi (va_runV (As := [.ref (sa 4)]) (rest := []) ⟨hx, hb, hml, hown, hts⟩ (c_X7_isWord l (D := D) (ad := ad) (cy := cy) (sa := sa) (va := va) (I := I1) (J := J) 4 (by decide) h12) (cwV 1 hts gX7_readStatement_X7_isWord rfl rfl rfl (by decide +kernel) ⟨Nat.le_of_ble_eq_true rfl, Nat.le_of_ble_eq_true rfl⟩) ⟨qPre_blind _, q_recv hK hP oX7 rfl, fun U hU hW => ⟨rfl, qPre_of hP hK hE hN hS U hU hW⟩⟩ rfl rfl hl.1 rfl (lv_room (Nat.le_of_ble_eq_true rfl)) dX7_readStatement_94 ⟨Nat.le_of_ble_eq_true rfl, Nat.le_of_ble_eq_true rfl⟩) ?_
            refine lv_if_eq (tgt := 109) hx hb dX7_readStatement_97 (by decide) (fun cc => ?_) (fun cc => ?_)
            · have hf := (if_ok hf).1 cc
              refine lv_aload_n hx hb dX7_readStatement_109 rfl (lv_at hl 0 rfl) ?_
              refine va_ldcS (own := RX7) (index := 64) (q := sa 5) hx hb hown (hK.2.2.1.2.2.2.2.2.1) dX7_readStatement_110 ?_
              obtain ⟨v13, h14, hf⟩ := bd_ok hf
              refine q_cSi (va_runV (As := [.ref (sa 5)]) (rest := []) ⟨hx, hb, hml, hown, hts⟩ (c_X7_isWord l (D := D) (ad := ad) (cy := cy) (sa := sa) (va := va) (I := I1) (J := J) 5 (by decide) h14) (cwV 1 hts gX7_readStatement_X7_isWord rfl rfl rfl (by decide +kernel) ⟨Nat.le_of_ble_eq_true rfl, Nat.le_of_ble_eq_true rfl⟩) ⟨qPre_blind _, q_recv hK hP oX7 rfl, fun U hU hW => ⟨rfl, qPre_of hP hK hE hN hS U hU hW⟩⟩ rfl rfl hl.1 rfl (lv_room (Nat.le_of_ble_eq_true rfl)) dX7_readStatement_112 ⟨Nat.le_of_ble_eq_true rfl, Nat.le_of_ble_eq_true rfl⟩) ?_
              refine lv_if_eq (tgt := 127) hx hb dX7_readStatement_115 (by decide) (fun cc => ?_) (fun cc => ?_)
              · have hf := (if_ok hf).1 cc
                refine lv_aload_n hx hb dX7_readStatement_127 rfl (lv_at hl 0 rfl) ?_
                refine va_ldcS (own := RX7) (index := 66) (q := sa 6) hx hb hown (hK.2.2.1.2.2.2.2.2.2.1) dX7_readStatement_128 ?_
                obtain ⟨v15, h16, hf⟩ := bd_ok hf
                refine q_cSi (va_runV (As := [.ref (sa 6)]) (rest := []) ⟨hx, hb, hml, hown, hts⟩ (c_X7_isWord l (D := D) (ad := ad) (cy := cy) (sa := sa) (va := va) (I := I1) (J := J) 6 (by decide) h16) (cwV 1 hts gX7_readStatement_X7_isWord rfl rfl rfl (by decide +kernel) ⟨Nat.le_of_ble_eq_true rfl, Nat.le_of_ble_eq_true rfl⟩) ⟨qPre_blind _, q_recv hK hP oX7 rfl, fun U hU hW => ⟨rfl, qPre_of hP hK hE hN hS U hU hW⟩⟩ rfl rfl hl.1 rfl (lv_room (Nat.le_of_ble_eq_true rfl)) dX7_readStatement_130 ⟨Nat.le_of_ble_eq_true rfl, Nat.le_of_ble_eq_true rfl⟩) ?_
                refine lv_if_eq (tgt := 145) hx hb dX7_readStatement_133 (by decide) (fun cc => ?_) (fun cc => ?_)
                · have hf := (if_ok hf).1 cc
                  refine lv_aload_n hx hb dX7_readStatement_145 rfl (lv_at hl 0 rfl) ?_
                  refine va_ldcS (own := RX7) (index := 68) (q := sa 7) hx hb hown (hK.2.2.1.2.2.2.2.2.2.2.1) dX7_readStatement_146 ?_
                  obtain ⟨v17, h18, hf⟩ := bd_ok hf
                  refine q_cSi (va_runV (As := [.ref (sa 7)]) (rest := []) ⟨hx, hb, hml, hown, hts⟩ (c_X7_isWord l (D := D) (ad := ad) (cy := cy) (sa := sa) (va := va) (I := I1) (J := J) 7 (by decide) h18) (cwV 1 hts gX7_readStatement_X7_isWord rfl rfl rfl (by decide +kernel) ⟨Nat.le_of_ble_eq_true rfl, Nat.le_of_ble_eq_true rfl⟩) ⟨qPre_blind _, q_recv hK hP oX7 rfl, fun U hU hW => ⟨rfl, qPre_of hP hK hE hN hS U hU hW⟩⟩ rfl rfl hl.1 rfl (lv_room (Nat.le_of_ble_eq_true rfl)) dX7_readStatement_148 ⟨Nat.le_of_ble_eq_true rfl, Nat.le_of_ble_eq_true rfl⟩) ?_
                  refine lv_if_eq (tgt := 163) hx hb dX7_readStatement_151 (by decide) (fun cc => ?_) (fun cc => ?_)
                  · have hf := (if_ok hf).1 cc
                    refine lv_aload_n hx hb dX7_readStatement_163 rfl (lv_at hl 0 rfl) ?_
                    refine va_ldcS (own := RX7) (index := 70) (q := sa 8) hx hb hown (hK.2.2.1.2.2.2.2.2.2.2.2) dX7_readStatement_164 ?_
                    obtain ⟨v19, h20, hf⟩ := bd_ok hf
                    refine q_cSi (va_runV (As := [.ref (sa 8)]) (rest := []) ⟨hx, hb, hml, hown, hts⟩ (c_X7_isWord l (D := D) (ad := ad) (cy := cy) (sa := sa) (va := va) (I := I1) (J := J) 8 (by decide) h20) (cwV 1 hts gX7_readStatement_X7_isWord rfl rfl rfl (by decide +kernel) ⟨Nat.le_of_ble_eq_true rfl, Nat.le_of_ble_eq_true rfl⟩) ⟨qPre_blind _, q_recv hK hP oX7 rfl, fun U hU hW => ⟨rfl, qPre_of hP hK hE hN hS U hU hW⟩⟩ rfl rfl hl.1 rfl (lv_room (Nat.le_of_ble_eq_true rfl)) dX7_readStatement_166 ⟨Nat.le_of_ble_eq_true rfl, Nat.le_of_ble_eq_true rfl⟩) ?_
                    refine lv_if_eq (tgt := 181) hx hb dX7_readStatement_169 (by decide) (fun cc => ?_) (fun cc => ?_)
                    · have hf := (if_ok hf).1 cc
                      refine lv_aload_n hx hb dX7_readStatement_181 rfl (lv_at hl 0 rfl) ?_
                      refine lv_iconst (v := 1) hx hb dX7_readStatement_182 (by decide) ?_
                      obtain ⟨I21, eI21, hf⟩ := lt_ok hf
                      refine q_put (C := RX7) (T := TX7) (N := 6) (ci := 7) (v := .int (1 : Int32)) (x := (1 : Int32)) (ty := .boolean) hx hb hts in_X7_readStatement_X7 tyX7 tyX7_ok nmX7 hown hK hP hN hS oX7 rfl 5 (by decide) (hts (.fieldLink RX7 26 "RowsOnlyPrimes$Tape" "failed" "Z") (by decide +kernel)) (fun _ h9 => h9) rfl (by decide +kernel) rfl rfl (fun _ _ => rfl) (fun _ _ => Nat.le_of_ble_eq_true rfl) dX7_readStatement_183 (fun H locs hP hS => ?_)
                      rw [← eI21] at hP
                      have e9 := Option.some.inj hf
                      have eI9 : I21 = Ie := e9
                      exact W.vret hx hb hr (fun t ht _ => ⟨⟨(), rfl, trivial, by show qP D _ ad _ _ _ t.heap; rw [ht, ← eI9]; exact hP⟩, hS.F ht⟩) hS.2.2 dX7_readStatement_186
                    · have hf := (if_ok hf).2 cc
                      refine lv_aload_n hx hb dX7_readStatement_172 rfl (lv_at hl 0 rfl) ?_
                      refine lv_aload_n hx hb dX7_readStatement_173 rfl (lv_at hl 1 rfl) ?_
                      refine lv_iconst (v := 4) hx hb dX7_readStatement_174 (by decide) ?_
                      obtain ⟨I22, h23, hf⟩ := bd_ok hf
                      refine q_cEv (va_runV (As := [.ref (ad c0), .int (4 : Int32)]) (rest := []) ⟨hx, hb, hml, hown, hts⟩ (c_X7_readTold l (D := D) (ad := ad) (cy := cy) (sa := sa) (va := va) (I := I1) (J := J) c0 zc0 (4 : Int32) h23) (cwV 2 hts gX7_readStatement_X7_readTold rfl rfl rfl (by decide +kernel) ⟨Nat.le_of_ble_eq_true rfl, Nat.le_of_ble_eq_true rfl⟩) ⟨qPre_blind _, q_recv hK hP oX7 rfl, fun U hU hW => ⟨rfl, qPre_of hP hK hE hN hS U hU hW⟩⟩ rfl rfl hl.1 rfl (lv_room (Nat.le_of_ble_eq_true rfl)) dX7_readStatement_175 ⟨Nat.le_of_ble_eq_true rfl, Nat.le_of_ble_eq_true rfl⟩) hS (fun H locs hP hS => ?_)
                      refine lv_goto (tgt := 186) hx hb dX7_readStatement_178 (by decide) ?_
                      have e9 := Option.some.inj hf
                      have eI9 : I22 = Ie := e9
                      exact W.vret hx hb hr (fun t ht _ => ⟨⟨(), rfl, trivial, by show qP D _ ad _ _ _ t.heap; rw [ht, ← eI9]; exact hP⟩, hS.F ht⟩) hS.2.2 dX7_readStatement_186
                  · have hf := (if_ok hf).2 cc
                    refine lv_aload_n hx hb dX7_readStatement_154 rfl (lv_at hl 0 rfl) ?_
                    refine lv_aload_n hx hb dX7_readStatement_155 rfl (lv_at hl 1 rfl) ?_
                    refine lv_iconst (v := 3) hx hb dX7_readStatement_156 (by decide) ?_
                    obtain ⟨I24, h25, hf⟩ := bd_ok hf
                    refine q_cEv (va_runV (As := [.ref (ad c0), .int (3 : Int32)]) (rest := []) ⟨hx, hb, hml, hown, hts⟩ (c_X7_readTold l (D := D) (ad := ad) (cy := cy) (sa := sa) (va := va) (I := I1) (J := J) c0 zc0 (3 : Int32) h25) (cwV 2 hts gX7_readStatement_X7_readTold rfl rfl rfl (by decide +kernel) ⟨Nat.le_of_ble_eq_true rfl, Nat.le_of_ble_eq_true rfl⟩) ⟨qPre_blind _, q_recv hK hP oX7 rfl, fun U hU hW => ⟨rfl, qPre_of hP hK hE hN hS U hU hW⟩⟩ rfl rfl hl.1 rfl (lv_room (Nat.le_of_ble_eq_true rfl)) dX7_readStatement_157 ⟨Nat.le_of_ble_eq_true rfl, Nat.le_of_ble_eq_true rfl⟩) hS (fun H locs hP hS => ?_)
                    refine lv_goto (tgt := 186) hx hb dX7_readStatement_160 (by decide) ?_
                    have e9 := Option.some.inj hf
                    have eI9 : I24 = Ie := e9
                    exact W.vret hx hb hr (fun t ht _ => ⟨⟨(), rfl, trivial, by show qP D _ ad _ _ _ t.heap; rw [ht, ← eI9]; exact hP⟩, hS.F ht⟩) hS.2.2 dX7_readStatement_186
                · have hf := (if_ok hf).2 cc
                  refine lv_aload_n hx hb dX7_readStatement_136 rfl (lv_at hl 0 rfl) ?_
                  refine lv_aload_n hx hb dX7_readStatement_137 rfl (lv_at hl 1 rfl) ?_
                  refine lv_iconst (v := 2) hx hb dX7_readStatement_138 (by decide) ?_
                  obtain ⟨I26, h27, hf⟩ := bd_ok hf
                  refine q_cEv (va_runV (As := [.ref (ad c0), .int (2 : Int32)]) (rest := []) ⟨hx, hb, hml, hown, hts⟩ (c_X7_readTold l (D := D) (ad := ad) (cy := cy) (sa := sa) (va := va) (I := I1) (J := J) c0 zc0 (2 : Int32) h27) (cwV 2 hts gX7_readStatement_X7_readTold rfl rfl rfl (by decide +kernel) ⟨Nat.le_of_ble_eq_true rfl, Nat.le_of_ble_eq_true rfl⟩) ⟨qPre_blind _, q_recv hK hP oX7 rfl, fun U hU hW => ⟨rfl, qPre_of hP hK hE hN hS U hU hW⟩⟩ rfl rfl hl.1 rfl (lv_room (Nat.le_of_ble_eq_true rfl)) dX7_readStatement_139 ⟨Nat.le_of_ble_eq_true rfl, Nat.le_of_ble_eq_true rfl⟩) hS (fun H locs hP hS => ?_)
                  refine lv_goto (tgt := 186) hx hb dX7_readStatement_142 (by decide) ?_
                  have e9 := Option.some.inj hf
                  have eI9 : I26 = Ie := e9
                  exact W.vret hx hb hr (fun t ht _ => ⟨⟨(), rfl, trivial, by show qP D _ ad _ _ _ t.heap; rw [ht, ← eI9]; exact hP⟩, hS.F ht⟩) hS.2.2 dX7_readStatement_186
              · have hf := (if_ok hf).2 cc
                refine lv_aload_n hx hb dX7_readStatement_118 rfl (lv_at hl 0 rfl) ?_
                refine lv_aload_n hx hb dX7_readStatement_119 rfl (lv_at hl 1 rfl) ?_
                refine lv_iconst (v := 1) hx hb dX7_readStatement_120 (by decide) ?_
                obtain ⟨I28, h29, hf⟩ := bd_ok hf
                refine q_cEv (va_runV (As := [.ref (ad c0), .int (1 : Int32)]) (rest := []) ⟨hx, hb, hml, hown, hts⟩ (c_X7_readTold l (D := D) (ad := ad) (cy := cy) (sa := sa) (va := va) (I := I1) (J := J) c0 zc0 (1 : Int32) h29) (cwV 2 hts gX7_readStatement_X7_readTold rfl rfl rfl (by decide +kernel) ⟨Nat.le_of_ble_eq_true rfl, Nat.le_of_ble_eq_true rfl⟩) ⟨qPre_blind _, q_recv hK hP oX7 rfl, fun U hU hW => ⟨rfl, qPre_of hP hK hE hN hS U hU hW⟩⟩ rfl rfl hl.1 rfl (lv_room (Nat.le_of_ble_eq_true rfl)) dX7_readStatement_121 ⟨Nat.le_of_ble_eq_true rfl, Nat.le_of_ble_eq_true rfl⟩) hS (fun H locs hP hS => ?_)
                refine lv_goto (tgt := 186) hx hb dX7_readStatement_124 (by decide) ?_
                have e9 := Option.some.inj hf
                have eI9 : I28 = Ie := e9
                exact W.vret hx hb hr (fun t ht _ => ⟨⟨(), rfl, trivial, by show qP D _ ad _ _ _ t.heap; rw [ht, ← eI9]; exact hP⟩, hS.F ht⟩) hS.2.2 dX7_readStatement_186
            · have hf := (if_ok hf).2 cc
              refine lv_aload_n hx hb dX7_readStatement_100 rfl (lv_at hl 0 rfl) ?_
              refine lv_aload_n hx hb dX7_readStatement_101 rfl (lv_at hl 1 rfl) ?_
              refine lv_iconst (v := 0) hx hb dX7_readStatement_102 (by decide) ?_
              obtain ⟨I30, h31, hf⟩ := bd_ok hf
              refine q_cEv (va_runV (As := [.ref (ad c0), .int (0 : Int32)]) (rest := []) ⟨hx, hb, hml, hown, hts⟩ (c_X7_readTold l (D := D) (ad := ad) (cy := cy) (sa := sa) (va := va) (I := I1) (J := J) c0 zc0 (0 : Int32) h31) (cwV 2 hts gX7_readStatement_X7_readTold rfl rfl rfl (by decide +kernel) ⟨Nat.le_of_ble_eq_true rfl, Nat.le_of_ble_eq_true rfl⟩) ⟨qPre_blind _, q_recv hK hP oX7 rfl, fun U hU hW => ⟨rfl, qPre_of hP hK hE hN hS U hU hW⟩⟩ rfl rfl hl.1 rfl (lv_room (Nat.le_of_ble_eq_true rfl)) dX7_readStatement_103 ⟨Nat.le_of_ble_eq_true rfl, Nat.le_of_ble_eq_true rfl⟩) hS (fun H locs hP hS => ?_)
              refine lv_goto (tgt := 186) hx hb dX7_readStatement_106 (by decide) ?_
              have e9 := Option.some.inj hf
              have eI9 : I30 = Ie := e9
              exact W.vret hx hb hr (fun t ht _ => ⟨⟨(), rfl, trivial, by show qP D _ ad _ _ _ t.heap; rw [ht, ← eI9]; exact hP⟩, hS.F ht⟩) hS.2.2 dX7_readStatement_186
          · have hf := (if_ok hf).2 cc
            refine lv_aload_n hx hb dX7_readStatement_82 rfl (lv_at hl 0 rfl) ?_
            refine lv_aload_n hx hb dX7_readStatement_83 rfl (lv_at hl 1 rfl) ?_
            refine lv_iconst (v := 0) hx hb dX7_readStatement_84 (by decide) ?_
            obtain ⟨I32, h33, hf⟩ := bd_ok hf
            refine q_cEv (va_runV (As := [.ref (ad c0), .int (0 : Int32)]) (rest := []) ⟨hx, hb, hml, hown, hts⟩ (c_X7_readTwo l (D := D) (ad := ad) (cy := cy) (sa := sa) (va := va) (I := I1) (J := J) c0 zc0 (0 : Int32) h33) (cwV 2 hts gX7_readStatement_X7_readTwo rfl rfl rfl (by decide +kernel) ⟨Nat.le_of_ble_eq_true rfl, Nat.le_of_ble_eq_true rfl⟩) ⟨qPre_blind _, q_recv hK hP oX7 rfl, fun U hU hW => ⟨rfl, qPre_of hP hK hE hN hS U hU hW⟩⟩ rfl rfl hl.1 rfl (lv_room (Nat.le_of_ble_eq_true rfl)) dX7_readStatement_85 ⟨Nat.le_of_ble_eq_true rfl, Nat.le_of_ble_eq_true rfl⟩) hS (fun H locs hP hS => ?_)
            refine lv_goto (tgt := 186) hx hb dX7_readStatement_88 (by decide) ?_
            have e9 := Option.some.inj hf
            have eI9 : I32 = Ie := e9
            exact W.vret hx hb hr (fun t ht _ => ⟨⟨(), rfl, trivial, by show qP D _ ad _ _ _ t.heap; rw [ht, ← eI9]; exact hP⟩, hS.F ht⟩) hS.2.2 dX7_readStatement_186
        · have hf := (if_ok hf).2 cc
          refine lv_aload_n hx hb dX7_readStatement_64 rfl (lv_at hl 0 rfl) ?_
          refine lv_aload_n hx hb dX7_readStatement_65 rfl (lv_at hl 1 rfl) ?_
          refine lv_iconst (v := 2) hx hb dX7_readStatement_66 (by decide) ?_
          obtain ⟨I34, h35, hf⟩ := bd_ok hf
          refine q_cEv (va_runV (As := [.ref (ad c0), .int (2 : Int32)]) (rest := []) ⟨hx, hb, hml, hown, hts⟩ (c_X7_readTwo l (D := D) (ad := ad) (cy := cy) (sa := sa) (va := va) (I := I1) (J := J) c0 zc0 (2 : Int32) h35) (cwV 2 hts gX7_readStatement_X7_readTwo rfl rfl rfl (by decide +kernel) ⟨Nat.le_of_ble_eq_true rfl, Nat.le_of_ble_eq_true rfl⟩) ⟨qPre_blind _, q_recv hK hP oX7 rfl, fun U hU hW => ⟨rfl, qPre_of hP hK hE hN hS U hU hW⟩⟩ rfl rfl hl.1 rfl (lv_room (Nat.le_of_ble_eq_true rfl)) dX7_readStatement_67 ⟨Nat.le_of_ble_eq_true rfl, Nat.le_of_ble_eq_true rfl⟩) hS (fun H locs hP hS => ?_)
          refine lv_goto (tgt := 186) hx hb dX7_readStatement_70 (by decide) ?_
          have e9 := Option.some.inj hf
          have eI9 : I34 = Ie := e9
          exact W.vret hx hb hr (fun t ht _ => ⟨⟨(), rfl, trivial, by show qP D _ ad _ _ _ t.heap; rw [ht, ← eI9]; exact hP⟩, hS.F ht⟩) hS.2.2 dX7_readStatement_186
      · have hf := (if_ok hf).2 cc
        refine lv_aload_n hx hb dX7_readStatement_46 rfl (lv_at hl 0 rfl) ?_
        refine lv_aload_n hx hb dX7_readStatement_47 rfl (lv_at hl 1 rfl) ?_
        refine lv_iconst (v := 1) hx hb dX7_readStatement_48 (by decide) ?_
        obtain ⟨I36, h37, hf⟩ := bd_ok hf
        refine q_cEv (va_runV (As := [.ref (ad c0), .int (1 : Int32)]) (rest := []) ⟨hx, hb, hml, hown, hts⟩ (c_X7_readTwo l (D := D) (ad := ad) (cy := cy) (sa := sa) (va := va) (I := I1) (J := J) c0 zc0 (1 : Int32) h37) (cwV 2 hts gX7_readStatement_X7_readTwo rfl rfl rfl (by decide +kernel) ⟨Nat.le_of_ble_eq_true rfl, Nat.le_of_ble_eq_true rfl⟩) ⟨qPre_blind _, q_recv hK hP oX7 rfl, fun U hU hW => ⟨rfl, qPre_of hP hK hE hN hS U hU hW⟩⟩ rfl rfl hl.1 rfl (lv_room (Nat.le_of_ble_eq_true rfl)) dX7_readStatement_49 ⟨Nat.le_of_ble_eq_true rfl, Nat.le_of_ble_eq_true rfl⟩) hS (fun H locs hP hS => ?_)
        refine lv_goto (tgt := 186) hx hb dX7_readStatement_52 (by decide) ?_
        have e9 := Option.some.inj hf
        have eI9 : I36 = Ie := e9
        exact W.vret hx hb hr (fun t ht _ => ⟨⟨(), rfl, trivial, by show qP D _ ad _ _ _ t.heap; rw [ht, ← eI9]; exact hP⟩, hS.F ht⟩) hS.2.2 dX7_readStatement_186
    · have hf := (if_ok hf).2 cc
      refine lv_aload_n hx hb dX7_readStatement_29 rfl (lv_at hl 0 rfl) ?_
      refine lv_aload_n hx hb dX7_readStatement_30 rfl (lv_at hl 1 rfl) ?_
      obtain ⟨I38, h39, hf⟩ := bd_ok hf
      refine q_cEv (va_runV (As := [.ref (ad c0)]) (rest := []) ⟨hx, hb, hml, hown, hts⟩ (c_X7_readParty l (D := D) (ad := ad) (cy := cy) (sa := sa) (va := va) (I := I1) (J := J) c0 zc0 h39) (cwV 1 hts gX7_readStatement_X7_readParty rfl rfl rfl (by decide +kernel) ⟨Nat.le_of_ble_eq_true rfl, Nat.le_of_ble_eq_true rfl⟩) ⟨qPre_blind _, q_recv hK hP oX7 rfl, fun U hU hW => ⟨rfl, qPre_of hP hK hE hN hS U hU hW⟩⟩ rfl rfl hl.1 rfl (lv_room (Nat.le_of_ble_eq_true rfl)) dX7_readStatement_31 ⟨Nat.le_of_ble_eq_true rfl, Nat.le_of_ble_eq_true rfl⟩) hS (fun H locs hP hS => ?_)
      refine lv_goto (tgt := 186) hx hb dX7_readStatement_34 (by decide) ?_
      have e9 := Option.some.inj hf
      have eI9 : I38 = Ie := e9
      exact W.vret hx hb hr (fun t ht _ => ⟨⟨(), rfl, trivial, by show qP D _ ad _ _ _ t.heap; rw [ht, ← eI9]; exact hP⟩, hS.F ht⟩) hS.2.2 dX7_readStatement_186
  · have hf := (if_ok hf).2 cc
    refine lv_aload_n hx hb dX7_readStatement_12 rfl (lv_at hl 0 rfl) ?_
    refine lv_iconst (v := 1) hx hb dX7_readStatement_13 (by decide) ?_
    obtain ⟨I40, eI40, hf⟩ := lt_ok hf
    refine q_put (C := RX7) (T := TX7) (N := 6) (ci := 7) (v := .int (1 : Int32)) (x := (1 : Int32)) (ty := .boolean) hx hb hts in_X7_readStatement_X7 tyX7 tyX7_ok nmX7 hown hK hP hN hS oX7 rfl 5 (by decide) (hts (.fieldLink RX7 26 "RowsOnlyPrimes$Tape" "failed" "Z") (by decide +kernel)) (fun _ h9 => h9) rfl (by decide +kernel) rfl rfl (fun _ _ => rfl) (fun _ _ => Nat.le_of_ble_eq_true rfl) dX7_readStatement_14 (fun H locs hP hS => ?_)
    rw [← eI40] at hP
    refine lv_goto (tgt := 186) hx hb dX7_readStatement_17 (by decide) ?_
    have e9 := Option.some.inj hf
    have eI9 : I40 = Ie := e9
    exact W.vret hx hb hr (fun t ht _ => ⟨⟨(), rfl, trivial, by show qP D _ ad _ _ _ t.heap; rw [ht, ← eI9]; exact hP⟩, hS.F ht⟩) hS.2.2 dX7_readStatement_186
abbrev r_X7_readInto : Room := { frames := 8, cells := 0, slots := 0, locals := 169 }
theorem in_X7_readInto_X7 : ∀ w ∈ u_ws RX7 TX7 6, w ∈ wsX7_readInto := by decide +kernel
set_option maxHeartbeats 4000000 in
set_option maxRecDepth 100000 in
theorem w_X7_readInto_12 (C : qC p s m args meth c cX7_readInto 3 RX7 wsX7_readInto (some .int)) (hK : qK D cy sa s) (hE : qEnv sa va (qA xS ad) s s.heap) (hN : qN xS ad) (c0 : Nat) (zc0 : isB c0) {J : qJ} {r : Int32} {Ie : qI} : ∀ (n : Nat) (x2 : Int32)  (I : qI) (ls : Array Slot) (H : Heap) (locs : List Loc), f_X7_readInto_12 c0 n x2 I = some (r, Ie) → lv_has ls 3 [(0, .ref (ad 25)), (1, .ref (ad c0)), (2, .int x2)] → qP D xS ad (eX ad cy) I J H → va_S (qA xS ad) s.heap H locs → W p l e (headSpec wsX7_readInto r_X7_readInto).room s m args below meth c H locs 0 0 (MQ below (va_Qi (S := Unit) (fun x _ => x = r) (fun _ t => qP D xS ad (eX ad cy) Ie J t.heap) (qA xS ad)) args s 0 0 (qA xS ad)) (F0 m 12 ls []) := by
  have C0 := C
  obtain ⟨⟨hx, hb, hml, hown, hts⟩, hr, hlocks⟩ := C0
  intro n
  induction n with
  | zero =>
    intro x2 I ls H locs hf hl hP hS
    rw [f_X7_readInto_12] at hf
    cases hf
  | succ n ih =>
    intro x2 I ls H locs hf hl hP hS
    rw [f_X7_readInto_12] at hf
    refine lv_iload_n hx hb dX7_readInto_12 rfl (lv_at hl 2 rfl) ?_
    refine lv_sipush (v := 250) hx hb dX7_readInto_13 (by decide) ?_
    refine lv_icmp_gt (tgt := 62) hx hb dX7_readInto_16 (by decide) (fun cc => ?_) (fun cc => ?_)
    · have hf := (if_ok hf).1 cc
      refine lv_iconst (v := -1) hx hb dX7_readInto_62 (by decide) ?_
      have e9 := Option.some.inj hf
      have eI9 : I = Ie := (congrArg Prod.snd e9)
      exact W.iret hx hb hr (fun t ht _ => ⟨⟨_, (), rfl, (congrArg Prod.fst e9), by show qP D _ ad _ _ _ t.heap; rw [ht, ← eI9]; exact hP⟩, hS.F ht⟩) hS.2.2 dX7_readInto_63
    · have hf := (if_ok hf).2 cc
      refine lv_aload_n hx hb dX7_readInto_19 rfl (lv_at hl 0 rfl) ?_
      refine lv_aload_n hx hb dX7_readInto_20 rfl (lv_at hl 1 rfl) ?_
      obtain ⟨I1, h2, hf⟩ := bd_ok hf
      refine q_cEv (va_runV (As := [.ref (ad c0)]) (rest := []) ⟨hx, hb, hml, hown, hts⟩ (c_X7_readStatement l (D := D) (ad := ad) (cy := cy) (sa := sa) (va := va) (I := I) (J := J) c0 zc0 h2) (cwV 1 hts gX7_readInto_X7_readStatement rfl rfl rfl (by decide +kernel) ⟨Nat.le_of_ble_eq_true rfl, Nat.le_of_ble_eq_true rfl⟩) ⟨qPre_blind _, q_recv hK hP oX7 rfl, fun U hU hW => ⟨rfl, qPre_of hP hK hE hN hS U hU hW⟩⟩ rfl rfl hl.1 rfl (lv_room (Nat.le_of_ble_eq_true rfl)) dX7_readInto_21 ⟨Nat.le_of_ble_eq_true rfl, Nat.le_of_ble_eq_true rfl⟩) hS (fun H locs hP hS => ?_)
      refine lv_aload_n hx hb dX7_readInto_24 rfl (lv_at hl 0 rfl) ?_
      refine q_get (C := RX7) (T := TX7) (N := 6) (ci := 7) (v := .int (I1 25 5)) hx hb hts in_X7_readInto_X7 hown hK hP oX7 rfl 5 (by decide) (hts (.fieldLink RX7 26 "RowsOnlyPrimes$Tape" "failed" "Z") (by decide +kernel)) (fun _ h9 => h9) rfl dX7_readInto_25 ?_
      refine lv_if_eq (tgt := 33) hx hb dX7_readInto_28 (by decide) (fun cc => ?_) (fun cc => ?_)
      · have hf := (if_ok hf).1 cc
        refine lv_aload_n hx hb dX7_readInto_33 rfl (lv_at hl 0 rfl) ?_
        obtain ⟨I3, h4, hf⟩ := bd_ok hf
        refine q_cEv (va_runV (As := []) (rest := []) ⟨hx, hb, hml, hown, hts⟩ (c_X7_step l (D := D) (ad := ad) (cy := cy) (sa := sa) (va := va) (I := I1) (J := J)  h4) (cwV 0 hts gX7_readInto_X7_step rfl rfl rfl (by decide +kernel) ⟨Nat.le_of_ble_eq_true rfl, Nat.le_of_ble_eq_true rfl⟩) ⟨qPre_blind _, q_recv hK hP oX7 rfl, fun U hU hW => ⟨rfl, qPre_of hP hK hE hN hS U hU hW⟩⟩ rfl rfl hl.1 rfl (lv_room (Nat.le_of_ble_eq_true rfl)) dX7_readInto_34 ⟨Nat.le_of_ble_eq_true rfl, Nat.le_of_ble_eq_true rfl⟩) hS (fun H locs hP hS => ?_)
        refine lv_aload_n hx hb dX7_readInto_37 rfl (lv_at hl 0 rfl) ?_
        refine q_get (C := RX7) (T := TX7) (N := 6) (ci := 7) (v := .int (I3 25 4)) hx hb hts in_X7_readInto_X7 hown hK hP oX7 rfl 4 (by decide) (hts (.fieldLink RX7 37 "RowsOnlyPrimes$Tape" "token" "I") (by decide +kernel)) (fun _ h9 => h9) rfl dX7_readInto_38 ?_
        refine lv_if_ne (tgt := 46) hx hb dX7_readInto_41 (by decide) (fun cc => ?_) (fun cc => ?_)
        · have hf := (if_ok hf).2 cc
          refine lv_aload_n hx hb dX7_readInto_46 rfl (lv_at hl 0 rfl) ?_
          refine q_get (C := RX7) (T := TX7) (N := 6) (ci := 7) (v := .int (I3 25 4)) hx hb hts in_X7_readInto_X7 hown hK hP oX7 rfl 4 (by decide) (hts (.fieldLink RX7 37 "RowsOnlyPrimes$Tape" "token" "I") (by decide +kernel)) (fun _ h9 => h9) rfl dX7_readInto_47 ?_
          refine lv_iconst (v := 3) hx hb dX7_readInto_50 (by decide) ?_
          refine lv_icmp_eq (tgt := 56) hx hb dX7_readInto_51 (by decide) (fun cc => ?_) (fun cc => ?_)
          · have hf := (if_ok hf).1 cc
            refine lv_iinc (v := (x2 + (1 : Int32))) (lv' := [(2, .int (x2 + (1 : Int32))), (0, .ref (ad 25)), (1, .ref (ad c0))]) hx hb dX7_readInto_56 hl (k := 2) rfl rfl (by decide) rfl (fun ls hl => ?_)
            refine lv_goto (tgt := 12) hx hb dX7_readInto_59 (by decide) ?_
            exact ih (x2 + (1 : Int32)) I3 _ _ _ hf (lv_sub hl [1, 2, 0] rfl) hP hS
          · have hf := (if_ok hf).2 cc
            refine lv_iconst (v := -1) hx hb dX7_readInto_54 (by decide) ?_
            have e9 := Option.some.inj hf
            have eI9 : I3 = Ie := (congrArg Prod.snd e9)
            exact W.iret hx hb hr (fun t ht _ => ⟨⟨_, (), rfl, (congrArg Prod.fst e9), by show qP D _ ad _ _ _ t.heap; rw [ht, ← eI9]; exact hP⟩, hS.F ht⟩) hS.2.2 dX7_readInto_55
        · have hf := (if_ok hf).1 cc
          refine lv_iload_n hx hb dX7_readInto_44 rfl (lv_at hl 2 rfl) ?_
          have e9 := Option.some.inj hf
          have eI9 : I3 = Ie := (congrArg Prod.snd e9)
          exact W.iret hx hb hr (fun t ht _ => ⟨⟨_, (), rfl, (congrArg Prod.fst e9), by show qP D _ ad _ _ _ t.heap; rw [ht, ← eI9]; exact hP⟩, hS.F ht⟩) hS.2.2 dX7_readInto_45
      · have hf := (if_ok hf).2 cc
        refine lv_iconst (v := -1) hx hb dX7_readInto_31 (by decide) ?_
        have e9 := Option.some.inj hf
        have eI9 : I1 = Ie := (congrArg Prod.snd e9)
        exact W.iret hx hb hr (fun t ht _ => ⟨⟨_, (), rfl, (congrArg Prod.fst e9), by show qP D _ ad _ _ _ t.heap; rw [ht, ← eI9]; exact hP⟩, hS.F ht⟩) hS.2.2 dX7_readInto_32
set_option maxHeartbeats 4000000 in
set_option maxRecDepth 100000 in
theorem c_X7_readInto (l : Launch) {D : va_G} {ad : Nat → Nat} {cy : Nat → ClassId} {sa va : Nat → Nat} {I : qI} {J : qJ} (c0 : Nat) (zc0 : isB c0)  {r : Int32} {Ie : qI} (hf : f_X7_readInto c0 I = some (r, Ie)) : Met l yX7_readInto wsX7_readInto r_X7_readInto (va_Pc [.ref (ad 25), .ref (ad c0)] (qPre D xS ad cy sa va (eX ad cy) I J)) (va_Qi (S := Unit) (fun x _ => x = r) (fun _ t => qP D xS ad (eX ad cy) Ie J t.heap) (qA xS ad)) 0 0 (qA xS ad) := by
  refine Met.ofW (cc := cX7_readInto) (maxL := 3) (ret := (some .int)) (by decide) rfl ?_
  intro p e s m args below meth c s₁ B hml hv
  obtain ⟨rfl, hP, hK, hE, hN⟩ := hv
  have C : qC p s m _ meth c cX7_readInto 3 RX7 wsX7_readInto (some .int) := ⟨⟨B.exec, B.bytes, hml, findClass_of_methodNamed B.named, atoms_spec (ws := wsX7_readInto) B.pre⟩, B.returns, B.notSynchronized⟩
  have C0 := C
  obtain ⟨⟨hx, hb, hml, hown, hts⟩, hr, hlocks⟩ := C0
  have hS : va_S (qA xS ad) s.heap s.heap [] := va_S.rf
  have hl := lv_entry ([.ref (ad 25), .ref (ad c0)]) (n := 3) (Nat.le_of_ble_eq_true rfl)
  rw [lg_entry_eq]
  generalize (lg_sl ([.ref (ad 25), .ref (ad c0)]) ++ List.replicate (3 - (lg_sl ([.ref (ad 25), .ref (ad c0)])).length) Slot.unset).toArray = ls at hl ⊢
  have hl : lv_has ls 3 [(0, .ref (ad 25)), (1, .ref (ad c0))] := hl
  unfold f_X7_readInto at hf
  refine lv_aload_n hx hb dX7_readInto_0 rfl (lv_at hl 0 rfl) ?_
  refine lv_iconst (v := 0) hx hb dX7_readInto_1 (by decide) ?_
  obtain ⟨I1, eI1, hf⟩ := lt_ok hf
  refine q_put (C := RX7) (T := TX7) (N := 6) (ci := 7) (v := .int (0 : Int32)) (x := (0 : Int32)) (ty := .int) hx hb hts in_X7_readInto_X7 tyX7 tyX7_ok nmX7 hown hK hP hN hS oX7 rfl 3 (by decide) (hts (.fieldLink RX7 23 "RowsOnlyPrimes$Tape" "end" "I") (by decide +kernel)) (fun _ h9 => h9) rfl (by decide +kernel) rfl rfl (fun _ _ => rfl) (fun _ _ => Nat.le_of_ble_eq_true rfl) dX7_readInto_2 (fun H locs hP hS => ?_)
  rw [← eI1] at hP
  refine lv_aload_n hx hb dX7_readInto_5 rfl (lv_at hl 0 rfl) ?_
  refine lv_iconst (v := 0) hx hb dX7_readInto_6 (by decide) ?_
  obtain ⟨I2, eI2, hf⟩ := lt_ok hf
  refine q_put (C := RX7) (T := TX7) (N := 6) (ci := 7) (v := .int (0 : Int32)) (x := (0 : Int32)) (ty := .boolean) hx hb hts in_X7_readInto_X7 tyX7 tyX7_ok nmX7 hown hK hP hN hS oX7 rfl 5 (by decide) (hts (.fieldLink RX7 26 "RowsOnlyPrimes$Tape" "failed" "Z") (by decide +kernel)) (fun _ h9 => h9) rfl (by decide +kernel) rfl rfl (fun _ _ => rfl) (fun _ _ => Nat.le_of_ble_eq_true rfl) dX7_readInto_7 (fun H locs hP hS => ?_)
  rw [← eI2] at hP
  refine lv_iconst (v := 1) hx hb dX7_readInto_10 (by decide) ?_
  refine lv_istore_n (lv' := [(2, .int (1 : Int32)), (0, .ref (ad 25)), (1, .ref (ad c0))]) hx hb dX7_readInto_11 rfl hl (by decide) rfl (fun ls hl => ?_)
  exact w_X7_readInto_12 C hK hE hN c0 zc0  1000 (1 : Int32) I2 _ _ _ hf (lv_sub hl [1, 2, 0] rfl) hP hS
abbrev r_X8_isShelf : Room := { frames := 1, cells := 0, slots := 0, locals := 22 }
set_option maxHeartbeats 4000000 in
set_option maxRecDepth 100000 in
theorem c_X8_isShelf (l : Launch) {D : va_G} {ad : Nat → Nat} {cy : Nat → ClassId} {sa va : Nat → Nat} {I : qI} {J : qJ}   (p0 : Int32) {r : Int32} (hf : f_X8_isShelf p0 = some r) : Met l yX8_isShelf wsX8_isShelf r_X8_isShelf (va_Pc [.int p0] (qPre D xS ad cy sa va (eX ad cy) I J)) (vp_Si (fun x => x = r)) 0 0 (fun _ => False) := by
  refine Met.ofW (cc := cX8_isShelf) (maxL := 1) (ret := (some .boolean)) (by decide) rfl ?_
  intro p e s m args below meth c s₁ B hml hv
  obtain ⟨rfl, hP, hK, hE, hN⟩ := hv
  have C : qC p s m _ meth c cX8_isShelf 1 RX8 wsX8_isShelf (some .boolean) := ⟨⟨B.exec, B.bytes, hml, findClass_of_methodNamed B.named, atoms_spec (ws := wsX8_isShelf) B.pre⟩, B.returns, B.notSynchronized⟩
  have C0 := C
  obtain ⟨⟨hx, hb, hml, hown, hts⟩, hr, hlocks⟩ := C0
  have hl := lv_entry ([.int p0]) (n := 1) (Nat.le_of_ble_eq_true rfl)
  rw [lg_entry_eq]
  generalize (lg_sl ([.int p0]) ++ List.replicate (1 - (lg_sl ([.int p0])).length) Slot.unset).toArray = ls at hl ⊢
  have hl : lv_has ls 1 [(0, .int p0)] := hl
  unfold f_X8_isShelf at hf
  refine lv_iload_n hx hb dX8_isShelf_0 rfl (lv_at hl 0 rfl) ?_
  refine lv_iconst (v := 0) hx hb dX8_isShelf_1 (by decide) ?_
  refine lv_bipush (v := 7) hx hb dX8_isShelf_2 (by decide) ?_
  obtain ⟨v1, h2, hf⟩ := bd_ok hf
  refine q_cSi (va_runS (As := [.int p0, .int (0 : Int32), .int (7 : Int32)]) (rest := []) ⟨hx, hb, hml, hown, hts⟩ (c_X8_within l (D := D) (ad := ad) (cy := cy) (sa := sa) (va := va) (I := I) (J := J) p0 (0 : Int32) (7 : Int32) h2) (va_cwS 3 hts gX8_isShelf_X8_within rfl rfl rfl (by decide +kernel) ⟨Nat.le_of_ble_eq_true rfl, Nat.le_of_ble_eq_true rfl⟩) ⟨qPre_blind _, fun U hU hW => ⟨rfl, qPre_of hP hK hE hN va_S.rf U hU hW⟩⟩ rfl rfl hl.1 rfl (lv_room (Nat.le_of_ble_eq_true rfl)) dX8_isShelf_4 ⟨Nat.le_of_ble_eq_true rfl, Nat.le_of_ble_eq_true rfl⟩) ?_
  obtain ⟨g3, hf⟩ := gd_ok hf
  exact W.zret (ty := .boolean) hx hb hr (q_narZ g3) (fun t ht _ => ⟨_, rfl, Option.some.inj hf, ht⟩) (fun _ h => by cases h) dX8_isShelf_7
abbrev r_X8_isKind : Room := { frames := 1, cells := 0, slots := 0, locals := 22 }
set_option maxHeartbeats 4000000 in
set_option maxRecDepth 100000 in
theorem c_X8_isKind (l : Launch) {D : va_G} {ad : Nat → Nat} {cy : Nat → ClassId} {sa va : Nat → Nat} {I : qI} {J : qJ}   (p0 : Int32) {r : Int32} (hf : f_X8_isKind p0 = some r) : Met l yX8_isKind wsX8_isKind r_X8_isKind (va_Pc [.int p0] (qPre D xS ad cy sa va (eX ad cy) I J)) (vp_Si (fun x => x = r)) 0 0 (fun _ => False) := by
  refine Met.ofW (cc := cX8_isKind) (maxL := 1) (ret := (some .boolean)) (by decide) rfl ?_
  intro p e s m args below meth c s₁ B hml hv
  obtain ⟨rfl, hP, hK, hE, hN⟩ := hv
  have C : qC p s m _ meth c cX8_isKind 1 RX8 wsX8_isKind (some .boolean) := ⟨⟨B.exec, B.bytes, hml, findClass_of_methodNamed B.named, atoms_spec (ws := wsX8_isKind) B.pre⟩, B.returns, B.notSynchronized⟩
  have C0 := C
  obtain ⟨⟨hx, hb, hml, hown, hts⟩, hr, hlocks⟩ := C0
  have hl := lv_entry ([.int p0]) (n := 1) (Nat.le_of_ble_eq_true rfl)
  rw [lg_entry_eq]
  generalize (lg_sl ([.int p0]) ++ List.replicate (1 - (lg_sl ([.int p0])).length) Slot.unset).toArray = ls at hl ⊢
  have hl : lv_has ls 1 [(0, .int p0)] := hl
  unfold f_X8_isKind at hf
  refine lv_iload_n hx hb dX8_isKind_0 rfl (lv_at hl 0 rfl) ?_
  refine lv_iconst (v := 0) hx hb dX8_isKind_1 (by decide) ?_
  refine lv_iconst (v := 5) hx hb dX8_isKind_2 (by decide) ?_
  obtain ⟨v1, h2, hf⟩ := bd_ok hf
  refine q_cSi (va_runS (As := [.int p0, .int (0 : Int32), .int (5 : Int32)]) (rest := []) ⟨hx, hb, hml, hown, hts⟩ (c_X8_within l (D := D) (ad := ad) (cy := cy) (sa := sa) (va := va) (I := I) (J := J) p0 (0 : Int32) (5 : Int32) h2) (va_cwS 3 hts gX8_isKind_X8_within rfl rfl rfl (by decide +kernel) ⟨Nat.le_of_ble_eq_true rfl, Nat.le_of_ble_eq_true rfl⟩) ⟨qPre_blind _, fun U hU hW => ⟨rfl, qPre_of hP hK hE hN va_S.rf U hU hW⟩⟩ rfl rfl hl.1 rfl (lv_room (Nat.le_of_ble_eq_true rfl)) dX8_isKind_3 ⟨Nat.le_of_ble_eq_true rfl, Nat.le_of_ble_eq_true rfl⟩) ?_
  obtain ⟨g3, hf⟩ := gd_ok hf
  exact W.zret (ty := .boolean) hx hb hr (q_narZ g3) (fun t ht _ => ⟨_, rfl, Option.some.inj hf, ht⟩) (fun _ h => by cases h) dX8_isKind_6
end
