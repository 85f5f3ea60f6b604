/-! machine: X8_partyOf X8_heads X8_goes X8_next X8_hire X8_many X8_stranded X8_waiterTrouble X8_along X8_plan X8_worth X8_planIf X8_laws X8_sizes X8_rules X8_time X8_priceUntied X8_loosen (written by wip/gen/gen.py) -/
section
variable {p : Program} {l : Launch} {e : Env} {s : State} {m : MethodId} {args : Array Value} {below : List Frame} {meth : Method} {c : Code} {D : va_G} {ad : Nat → Nat} {cy : Nat → ClassId} {sa va : Nat → Nat}
abbrev r_X8_partyOf : Room := { frames := 2, cells := 0, slots := 0, locals := 46 }
theorem in_X8_partyOf_X2 : ∀ w ∈ u_ws RX2 TX2 13, w ∈ wsX8_partyOf := by decide +kernel
theorem in_X8_partyOf_X8 : ∀ w ∈ u_ws RX8 TX8 12, w ∈ wsX8_partyOf := by decide +kernel
set_option maxHeartbeats 4000000 in
set_option maxRecDepth 100000 in
theorem c_X8_partyOf (l : Launch) {D : va_G} {ad : Nat → Nat} {cy : Nat → ClassId} {sa va : Nat → Nat} {I : qI} {J : qJ}   (p0 : Int32) (p1 : Int32) {r : Int32} {Ie : qI} (hf : f_X8_partyOf p0 p1 I = some (r, Ie)) : Met l yX8_partyOf wsX8_partyOf r_X8_partyOf (va_Pc [.ref (ad 0), .int p0, .int p1] (qPre D xS ad cy sa va (eX ad cy) I J)) (va_Qi (S := Unit) (fun x _ => x = r) (fun _ t => qP D xS ad (eX ad cy) Ie J t.heap) (qA xS ad)) 0 0 (qA xS ad) := by
  refine Met.ofW (cc := cX8_partyOf) (maxL := 3) (ret := (some .int)) (by decide) rfl ?_
  intro p e s m args below meth c s₁ B hml hv
  obtain ⟨rfl, hP, hK, hE, hN⟩ := hv
  have C : qC p s m _ meth c cX8_partyOf 3 RX8 wsX8_partyOf (some .int) := ⟨⟨B.exec, B.bytes, hml, findClass_of_methodNamed B.named, atoms_spec (ws := wsX8_partyOf) B.pre⟩, B.returns, B.notSynchronized⟩
  have C0 := C
  obtain ⟨⟨hx, hb, hml, hown, hts⟩, hr, hlocks⟩ := C0
  have hS : va_S (qA xS ad) s.heap s.heap [] := va_S.rf
  have hl := lv_entry ([.ref (ad 0), .int p0, .int p1]) (n := 3) (Nat.le_of_ble_eq_true rfl)
  rw [lg_entry_eq]
  generalize (lg_sl ([.ref (ad 0), .int p0, .int p1]) ++ List.replicate (3 - (lg_sl ([.ref (ad 0), .int p0, .int p1])).length) Slot.unset).toArray = ls at hl ⊢
  have hl : lv_has ls 3 [(0, .ref (ad 0)), (1, .int p0), (2, .int p1)] := hl
  unfold f_X8_partyOf at hf
  refine lv_aload_n hx hb dX8_partyOf_0 rfl (lv_at hl 0 rfl) ?_
  refine q_get (C := RX8) (T := TX8) (N := 12) (ci := 8) (v := .ref (ad 1)) hx hb hts in_X8_partyOf_X8 hown hK hP oX8 rfl 0 (by decide) (hts (.fieldLink RX8 12 "RowsOnlyPrimes" "now" "LRowsOnlyPrimes$Bank;") (by decide +kernel)) (fun _ h9 => h9) rfl dX8_partyOf_1 ?_
  refine lv_iload_n hx hb dX8_partyOf_4 rfl (lv_at hl 1 rfl) ?_
  obtain ⟨v1, h2, hf⟩ := bd_ok hf
  refine q_cSi (va_runV (As := [.int p0]) (rest := []) ⟨hx, hb, hml, hown, hts⟩ (c_X2_hasParty l (D := D) (ad := ad) (cy := cy) (sa := sa) (va := va) (I := I) (J := J) 1 isB_1 p0 h2) (cwV 1 hts gX8_partyOf_X2_hasParty rfl rfl rfl (by decide +kernel) ⟨Nat.le_of_ble_eq_true rfl, Nat.le_of_ble_eq_true rfl⟩) ⟨qPre_blind _, q_recv hK hP (oX2 isB_1) rfl, fun U hU hW => ⟨rfl, qPre_of hP hK hE hN hS U hU hW⟩⟩ rfl rfl hl.1 rfl (lv_room (Nat.le_of_ble_eq_true rfl)) dX8_partyOf_5 ⟨Nat.le_of_ble_eq_true rfl, Nat.le_of_ble_eq_true rfl⟩) ?_
  refine lv_if_ne (tgt := 19) hx hb dX8_partyOf_8 (by decide) (fun cc => ?_) (fun cc => ?_)
  · have hf := (if_ok hf).2 cc
    refine lv_iload_n hx hb dX8_partyOf_19 rfl (lv_at hl 2 rfl) ?_
    by_cases c3 : p1 = (0 : Int32)
    · have hf := (if_ok hf).1 c3
      refine lv_tableIn (off := 48) (tgt := 68) hx hb dX8_partyOf_20 (by rw [c3]; decide) (by rw [c3]; decide) (by rw [c3]; rfl) (by decide) ?_
      refine lv_aload_n hx hb dX8_partyOf_68 rfl (lv_at hl 0 rfl) ?_
      refine q_get (C := RX8) (T := TX8) (N := 12) (ci := 8) (v := .ref (ad 1)) hx hb hts in_X8_partyOf_X8 hown hK hP oX8 rfl 0 (by decide) (hts (.fieldLink RX8 12 "RowsOnlyPrimes" "now" "LRowsOnlyPrimes$Bank;") (by decide +kernel)) (fun _ h9 => h9) rfl dX8_partyOf_69 ?_
      refine q_get (C := RX2) (T := TX2) (N := 13) (ci := 2) (v := .ref (ad (1 + 1))) hx hb hts in_X8_partyOf_X2 hown hK hP (oX2 isB_1) rfl 0 (by decide) (hts (.fieldLink RX8 140 "RowsOnlyPrimes$Bank" "kinds" "[I") (by decide +kernel)) (fun _ h9 => h9) rfl dX8_partyOf_72 ?_
      refine lv_iload_n hx hb dX8_partyOf_75 rfl (lv_at hl 1 rfl) ?_
      obtain ⟨g4, hf⟩ := gd_ok hf
      refine q_iald hx hb hK hP (aX2_1 isB_1) g4 dX8_partyOf_76 ?_
      have e9 := Option.some.inj hf
      have eI9 : I = Ie := (congrArg Prod.snd e9)
      exact W.iret hx hb hr (fun t ht _ => ⟨⟨_, (), rfl, (congrArg Prod.fst e9), by show qP D _ ad _ _ _ t.heap; rw [ht, ← eI9]; exact hP⟩, hS.F ht⟩) hS.2.2 dX8_partyOf_77
    have hf := (if_ok hf).2 c3
    by_cases c5 : p1 = (1 : Int32)
    · have hf := (if_ok hf).1 c5
      refine lv_tableIn (off := 58) (tgt := 78) hx hb dX8_partyOf_20 (by rw [c5]; decide) (by rw [c5]; decide) (by rw [c5]; rfl) (by decide) ?_
      refine lv_aload_n hx hb dX8_partyOf_78 rfl (lv_at hl 0 rfl) ?_
      refine q_get (C := RX8) (T := TX8) (N := 12) (ci := 8) (v := .ref (ad 1)) hx hb hts in_X8_partyOf_X8 hown hK hP oX8 rfl 0 (by decide) (hts (.fieldLink RX8 12 "RowsOnlyPrimes" "now" "LRowsOnlyPrimes$Bank;") (by decide +kernel)) (fun _ h9 => h9) rfl dX8_partyOf_79 ?_
      refine q_get (C := RX2) (T := TX2) (N := 13) (ci := 2) (v := .ref (ad (1 + 2))) hx hb hts in_X8_partyOf_X2 hown hK hP (oX2 isB_1) rfl 1 (by decide) (hts (.fieldLink RX8 199 "RowsOnlyPrimes$Bank" "extras" "[I") (by decide +kernel)) (fun _ h9 => h9) rfl dX8_partyOf_82 ?_
      refine lv_iload_n hx hb dX8_partyOf_85 rfl (lv_at hl 1 rfl) ?_
      obtain ⟨g6, hf⟩ := gd_ok hf
      refine q_iald hx hb hK hP (aX2_2 isB_1) g6 dX8_partyOf_86 ?_
      have e9 := Option.some.inj hf
      have eI9 : I = Ie := (congrArg Prod.snd e9)
      exact W.iret hx hb hr (fun t ht _ => ⟨⟨_, (), rfl, (congrArg Prod.fst e9), by show qP D _ ad _ _ _ t.heap; rw [ht, ← eI9]; exact hP⟩, hS.F ht⟩) hS.2.2 dX8_partyOf_87
    have hf := (if_ok hf).2 c5
    by_cases c7 : p1 = (2 : Int32)
    · have hf := (if_ok hf).1 c7
      refine lv_tableIn (off := 68) (tgt := 88) hx hb dX8_partyOf_20 (by rw [c7]; decide) (by rw [c7]; decide) (by rw [c7]; rfl) (by decide) ?_
      refine lv_aload_n hx hb dX8_partyOf_88 rfl (lv_at hl 0 rfl) ?_
      refine q_get (C := RX8) (T := TX8) (N := 12) (ci := 8) (v := .ref (ad 1)) hx hb hts in_X8_partyOf_X8 hown hK hP oX8 rfl 0 (by decide) (hts (.fieldLink RX8 12 "RowsOnlyPrimes" "now" "LRowsOnlyPrimes$Bank;") (by decide +kernel)) (fun _ h9 => h9) rfl dX8_partyOf_89 ?_
      refine q_get (C := RX2) (T := TX2) (N := 13) (ci := 2) (v := .ref (ad (1 + 3))) hx hb hts in_X8_partyOf_X2 hown hK hP (oX2 isB_1) rfl 2 (by decide) (hts (.fieldLink RX8 159 "RowsOnlyPrimes$Bank" "counts" "[I") (by decide +kernel)) (fun _ h9 => h9) rfl dX8_partyOf_92 ?_
      refine lv_iload_n hx hb dX8_partyOf_95 rfl (lv_at hl 1 rfl) ?_
      obtain ⟨g8, hf⟩ := gd_ok hf
      refine q_iald hx hb hK hP (aX2_3 isB_1) g8 dX8_partyOf_96 ?_
      have e9 := Option.some.inj hf
      have eI9 : I = Ie := (congrArg Prod.snd e9)
      exact W.iret hx hb hr (fun t ht _ => ⟨⟨_, (), rfl, (congrArg Prod.fst e9), by show qP D _ ad _ _ _ t.heap; rw [ht, ← eI9]; exact hP⟩, hS.F ht⟩) hS.2.2 dX8_partyOf_97
    have hf := (if_ok hf).2 c7
    by_cases c9 : p1 = (3 : Int32)
    · have hf := (if_ok hf).1 c9
      refine lv_tableIn (off := 78) (tgt := 98) hx hb dX8_partyOf_20 (by rw [c9]; decide) (by rw [c9]; decide) (by rw [c9]; rfl) (by decide) ?_
      refine lv_aload_n hx hb dX8_partyOf_98 rfl (lv_at hl 0 rfl) ?_
      refine q_get (C := RX8) (T := TX8) (N := 12) (ci := 8) (v := .ref (ad 1)) hx hb hts in_X8_partyOf_X8 hown hK hP oX8 rfl 0 (by decide) (hts (.fieldLink RX8 12 "RowsOnlyPrimes" "now" "LRowsOnlyPrimes$Bank;") (by decide +kernel)) (fun _ h9 => h9) rfl dX8_partyOf_99 ?_
      refine q_get (C := RX2) (T := TX2) (N := 13) (ci := 2) (v := .ref (ad (1 + 4))) hx hb hts in_X8_partyOf_X2 hown hK hP (oX2 isB_1) rfl 3 (by decide) (hts (.fieldLink RX8 146 "RowsOnlyPrimes$Bank" "wallets" "[I") (by decide +kernel)) (fun _ h9 => h9) rfl dX8_partyOf_102 ?_
      refine lv_iload_n hx hb dX8_partyOf_105 rfl (lv_at hl 1 rfl) ?_
      obtain ⟨g10, hf⟩ := gd_ok hf
      refine q_iald hx hb hK hP (aX2_4 isB_1) g10 dX8_partyOf_106 ?_
      have e9 := Option.some.inj hf
      have eI9 : I = Ie := (congrArg Prod.snd e9)
      exact W.iret hx hb hr (fun t ht _ => ⟨⟨_, (), rfl, (congrArg Prod.fst e9), by show qP D _ ad _ _ _ t.heap; rw [ht, ← eI9]; exact hP⟩, hS.F ht⟩) hS.2.2 dX8_partyOf_107
    have hf := (if_ok hf).2 c9
    by_cases c11 : p1 = (4 : Int32)
    · have hf := (if_ok hf).1 c11
      refine lv_tableIn (off := 88) (tgt := 108) hx hb dX8_partyOf_20 (by rw [c11]; decide) (by rw [c11]; decide) (by rw [c11]; rfl) (by decide) ?_
      refine lv_aload_n hx hb dX8_partyOf_108 rfl (lv_at hl 0 rfl) ?_
      refine q_get (C := RX8) (T := TX8) (N := 12) (ci := 8) (v := .ref (ad 1)) hx hb hts in_X8_partyOf_X8 hown hK hP oX8 rfl 0 (by decide) (hts (.fieldLink RX8 12 "RowsOnlyPrimes" "now" "LRowsOnlyPrimes$Bank;") (by decide +kernel)) (fun _ h9 => h9) rfl dX8_partyOf_109 ?_
      refine lv_iload_n hx hb dX8_partyOf_112 rfl (lv_at hl 1 rfl) ?_
      obtain ⟨v12, h13, hf⟩ := bd_ok hf
      refine q_cSi (va_runV (As := [.int p0]) (rest := []) ⟨hx, hb, hml, hown, hts⟩ (c_X2_headsOf l (D := D) (ad := ad) (cy := cy) (sa := sa) (va := va) (I := I) (J := J) 1 isB_1 p0 h13) (cwV 1 hts gX8_partyOf_X2_headsOf rfl rfl rfl (by decide +kernel) ⟨Nat.le_of_ble_eq_true rfl, Nat.le_of_ble_eq_true rfl⟩) ⟨qPre_blind _, q_recv hK hP (oX2 isB_1) rfl, fun U hU hW => ⟨rfl, qPre_of hP hK hE hN hS U hU hW⟩⟩ rfl rfl hl.1 rfl (lv_room (Nat.le_of_ble_eq_true rfl)) dX8_partyOf_113 ⟨Nat.le_of_ble_eq_true rfl, Nat.le_of_ble_eq_true rfl⟩) ?_
      have e9 := Option.some.inj hf
      have eI9 : I = Ie := (congrArg Prod.snd e9)
      exact W.iret hx hb hr (fun t ht _ => ⟨⟨_, (), rfl, (congrArg Prod.fst e9), by show qP D _ ad _ _ _ t.heap; rw [ht, ← eI9]; exact hP⟩, hS.F ht⟩) hS.2.2 dX8_partyOf_116
    have hf := (if_ok hf).2 c11
    by_cases c14 : p1 = (5 : Int32)
    · have hf := (if_ok hf).1 c14
      refine lv_tableIn (off := 97) (tgt := 117) hx hb dX8_partyOf_20 (by rw [c14]; decide) (by rw [c14]; decide) (by rw [c14]; rfl) (by decide) ?_
      refine lv_aload_n hx hb dX8_partyOf_117 rfl (lv_at hl 0 rfl) ?_
      refine q_get (C := RX8) (T := TX8) (N := 12) (ci := 8) (v := .ref (ad 1)) hx hb hts in_X8_partyOf_X8 hown hK hP oX8 rfl 0 (by decide) (hts (.fieldLink RX8 12 "RowsOnlyPrimes" "now" "LRowsOnlyPrimes$Bank;") (by decide +kernel)) (fun _ h9 => h9) rfl dX8_partyOf_118 ?_
      refine lv_iload_n hx hb dX8_partyOf_121 rfl (lv_at hl 1 rfl) ?_
      obtain ⟨v15, h16, hf⟩ := bd_ok hf
      refine q_cSi (va_runV (As := [.int p0]) (rest := []) ⟨hx, hb, hml, hown, hts⟩ (c_X2_isOver l (D := D) (ad := ad) (cy := cy) (sa := sa) (va := va) (I := I) (J := J) 1 isB_1 p0 h16) (cwV 1 hts gX8_partyOf_X2_isOver rfl rfl rfl (by decide +kernel) ⟨Nat.le_of_ble_eq_true rfl, Nat.le_of_ble_eq_true rfl⟩) ⟨qPre_blind _, q_recv hK hP (oX2 isB_1) rfl, fun U hU hW => ⟨rfl, qPre_of hP hK hE hN hS U hU hW⟩⟩ rfl rfl hl.1 rfl (lv_room (Nat.le_of_ble_eq_true rfl)) dX8_partyOf_122 ⟨Nat.le_of_ble_eq_true rfl, Nat.le_of_ble_eq_true rfl⟩) ?_
      refine lv_if_eq (tgt := 132) hx hb dX8_partyOf_125 (by decide) (fun cc => ?_) (fun cc => ?_)
      · have hf := (if_ok hf).1 cc
        refine lv_iconst (v := 0) hx hb dX8_partyOf_132 (by decide) ?_
        have e9 := Option.some.inj hf
        have eI9 : I = Ie := (congrArg Prod.snd e9)
        exact W.iret hx hb hr (fun t ht _ => ⟨⟨_, (), rfl, (congrArg Prod.fst e9), by show qP D _ ad _ _ _ t.heap; rw [ht, ← eI9]; exact hP⟩, hS.F ht⟩) hS.2.2 dX8_partyOf_133
      · have hf := (if_ok hf).2 cc
        refine lv_iconst (v := 1) hx hb dX8_partyOf_128 (by decide) ?_
        refine lv_goto (tgt := 133) hx hb dX8_partyOf_129 (by decide) ?_
        have e9 := Option.some.inj hf
        have eI9 : I = Ie := (congrArg Prod.snd e9)
        exact W.iret hx hb hr (fun t ht _ => ⟨⟨_, (), rfl, (congrArg Prod.fst e9), by show qP D _ ad _ _ _ t.heap; rw [ht, ← eI9]; exact hP⟩, hS.F ht⟩) hS.2.2 dX8_partyOf_133
    have hf := (if_ok hf).2 c14
    by_cases c17 : p1 = (6 : Int32)
    · have hf := (if_ok hf).1 c17
      refine lv_tableIn (off := 114) (tgt := 134) hx hb dX8_partyOf_20 (by rw [c17]; decide) (by rw [c17]; decide) (by rw [c17]; rfl) (by decide) ?_
      refine lv_aload_n hx hb dX8_partyOf_134 rfl (lv_at hl 0 rfl) ?_
      refine q_get (C := RX8) (T := TX8) (N := 12) (ci := 8) (v := .ref (ad 1)) hx hb hts in_X8_partyOf_X8 hown hK hP oX8 rfl 0 (by decide) (hts (.fieldLink RX8 12 "RowsOnlyPrimes" "now" "LRowsOnlyPrimes$Bank;") (by decide +kernel)) (fun _ h9 => h9) rfl dX8_partyOf_135 ?_
      refine q_get (C := RX2) (T := TX2) (N := 13) (ci := 2) (v := .ref (ad (1 + 5))) hx hb hts in_X8_partyOf_X2 hown hK hP (oX2 isB_1) rfl 4 (by decide) (hts (.fieldLink RX8 205 "RowsOnlyPrimes$Bank" "ties" "[I") (by decide +kernel)) (fun _ h9 => h9) rfl dX8_partyOf_138 ?_
      refine lv_iload_n hx hb dX8_partyOf_141 rfl (lv_at hl 1 rfl) ?_
      obtain ⟨g18, hf⟩ := gd_ok hf
      refine q_iald hx hb hK hP (aX2_5 isB_1) g18 dX8_partyOf_142 ?_
      have e9 := Option.some.inj hf
      have eI9 : I = Ie := (congrArg Prod.snd e9)
      exact W.iret hx hb hr (fun t ht _ => ⟨⟨_, (), rfl, (congrArg Prod.fst e9), by show qP D _ ad _ _ _ t.heap; rw [ht, ← eI9]; exact hP⟩, hS.F ht⟩) hS.2.2 dX8_partyOf_143
    have hf := (if_ok hf).2 c17
    by_cases c19 : p1 = (7 : Int32)
    · have hf := (if_ok hf).1 c19
      refine lv_tableIn (off := 124) (tgt := 144) hx hb dX8_partyOf_20 (by rw [c19]; decide) (by rw [c19]; decide) (by rw [c19]; rfl) (by decide) ?_
      refine lv_aload_n hx hb dX8_partyOf_144 rfl (lv_at hl 0 rfl) ?_
      refine q_get (C := RX8) (T := TX8) (N := 12) (ci := 8) (v := .ref (ad 1)) hx hb hts in_X8_partyOf_X8 hown hK hP oX8 rfl 0 (by decide) (hts (.fieldLink RX8 12 "RowsOnlyPrimes" "now" "LRowsOnlyPrimes$Bank;") (by decide +kernel)) (fun _ h9 => h9) rfl dX8_partyOf_145 ?_
      refine q_get (C := RX2) (T := TX2) (N := 13) (ci := 2) (v := .ref (ad (1 + 6))) hx hb hts in_X8_partyOf_X2 hown hK hP (oX2 isB_1) rfl 5 (by decide) (hts (.fieldLink RX8 208 "RowsOnlyPrimes$Bank" "shuns" "[I") (by decide +kernel)) (fun _ h9 => h9) rfl dX8_partyOf_148 ?_
      refine lv_iload_n hx hb dX8_partyOf_151 rfl (lv_at hl 1 rfl) ?_
      obtain ⟨g20, hf⟩ := gd_ok hf
      refine q_iald hx hb hK hP (aX2_6 isB_1) g20 dX8_partyOf_152 ?_
      have e9 := Option.some.inj hf
      have eI9 : I = Ie := (congrArg Prod.snd e9)
      exact W.iret hx hb hr (fun t ht _ => ⟨⟨_, (), rfl, (congrArg Prod.fst e9), by show qP D _ ad _ _ _ t.heap; rw [ht, ← eI9]; exact hP⟩, hS.F ht⟩) hS.2.2 dX8_partyOf_153
    have hf := (if_ok hf).2 c19
    refine lv_tableOut (tgt := 154) hx hb dX8_partyOf_20 (by have c3 := q_nt c3 (show ((0 : Int32)).toInt = 0 by decide); have c5 := q_nt c5 (show ((1 : Int32)).toInt = 1 by decide); have c7 := q_nt c7 (show ((2 : Int32)).toInt = 2 by decide); have c9 := q_nt c9 (show ((3 : Int32)).toInt = 3 by decide); have c11 := q_nt c11 (show ((4 : Int32)).toInt = 4 by decide); have c14 := q_nt c14 (show ((5 : Int32)).toInt = 5 by decide); have c17 := q_nt c17 (show ((6 : Int32)).toInt = 6 by decide); have c19 := q_nt c19 (show ((7 : Int32)).toInt = 7 by decide); omega) (by decide) ?_
    refine lv_aload_n hx hb dX8_partyOf_154 rfl (lv_at hl 0 rfl) ?_
    refine lv_sipush (v := -1002) hx hb dX8_partyOf_155 (by decide) ?_
    obtain ⟨v21, I22, h23, hf⟩ := bd2_ok hf
    refine q_cEi (va_runV (As := [.int (-1002 : Int32)]) (rest := []) ⟨hx, hb, hml, hown, hts⟩ (c_X8_refuse l (D := D) (ad := ad) (cy := cy) (sa := sa) (va := va) (I := I) (J := J) (-1002 : Int32) h23) (cwV 1 hts gX8_partyOf_X8_refuse rfl rfl rfl (by decide +kernel) ⟨Nat.le_of_ble_eq_true rfl, Nat.le_of_ble_eq_true rfl⟩) ⟨qPre_blind _, q_recv hK hP oX8 rfl, fun U hU hW => ⟨rfl, qPre_of hP hK hE hN hS U hU hW⟩⟩ rfl rfl hl.1 rfl (lv_room (Nat.le_of_ble_eq_true rfl)) dX8_partyOf_158 ⟨Nat.le_of_ble_eq_true rfl, Nat.le_of_ble_eq_true rfl⟩) hS (fun H locs hP hS => ?_)
    have e9 := Option.some.inj hf
    have eI9 : I22 = Ie := (congrArg Prod.snd e9)
    exact W.iret hx hb hr (fun t ht _ => ⟨⟨_, (), rfl, (congrArg Prod.fst e9), by show qP D _ ad _ _ _ t.heap; rw [ht, ← eI9]; exact hP⟩, hS.F ht⟩) hS.2.2 dX8_partyOf_161
  · have hf := (if_ok hf).1 cc
    refine lv_aload_n hx hb dX8_partyOf_11 rfl (lv_at hl 0 rfl) ?_
    refine lv_sipush (v := -1002) hx hb dX8_partyOf_12 (by decide) ?_
    obtain ⟨v24, I25, h26, hf⟩ := bd2_ok hf
    refine q_cEi (va_runV (As := [.int (-1002 : Int32)]) (rest := []) ⟨hx, hb, hml, hown, hts⟩ (c_X8_refuse l (D := D) (ad := ad) (cy := cy) (sa := sa) (va := va) (I := I) (J := J) (-1002 : Int32) h26) (cwV 1 hts gX8_partyOf_X8_refuse rfl rfl rfl (by decide +kernel) ⟨Nat.le_of_ble_eq_true rfl, Nat.le_of_ble_eq_true rfl⟩) ⟨qPre_blind _, q_recv hK hP oX8 rfl, fun U hU hW => ⟨rfl, qPre_of hP hK hE hN hS U hU hW⟩⟩ rfl rfl hl.1 rfl (lv_room (Nat.le_of_ble_eq_true rfl)) dX8_partyOf_15 ⟨Nat.le_of_ble_eq_true rfl, Nat.le_of_ble_eq_true rfl⟩) hS (fun H locs hP hS => ?_)
    have e9 := Option.some.inj hf
    have eI9 : I25 = Ie := (congrArg Prod.snd e9)
    exact W.iret hx hb hr (fun t ht _ => ⟨⟨_, (), rfl, (congrArg Prod.fst e9), by show qP D _ ad _ _ _ t.heap; rw [ht, ← eI9]; exact hP⟩, hS.F ht⟩) hS.2.2 dX8_partyOf_18
abbrev r_X8_heads : Room := { frames := 3, cells := 0, slots := 0, locals := 69 }
theorem in_X8_heads_X8 : ∀ w ∈ u_ws RX8 TX8 12, w ∈ wsX8_heads := by decide +kernel
set_option maxHeartbeats 4000000 in
set_option maxRecDepth 100000 in
theorem c_X8_heads (l : Launch) {D : va_G} {ad : Nat → Nat} {cy : Nat → ClassId} {sa va : Nat → Nat} {I : qI} {J : qJ}   (p0 : Int32) {r : Int32} {Ie : qI} (hf : f_X8_heads p0 I = some (r, Ie)) : Met l yX8_heads wsX8_heads r_X8_heads (va_Pc [.ref (ad 0), .int p0] (qPre D xS ad cy sa va (eX ad cy) I J)) (va_Qi (S := Unit) (fun x _ => x = r) (fun _ t => qP D xS ad (eX ad cy) Ie J t.heap) (qA xS ad)) 0 0 (qA xS ad) := by
  refine Met.ofW (cc := cX8_heads) (maxL := 2) (ret := (some .int)) (by decide) rfl ?_
  intro p e s m args below meth c s₁ B hml hv
  obtain ⟨rfl, hP, hK, hE, hN⟩ := hv
  have C : qC p s m _ meth c cX8_heads 2 RX8 wsX8_heads (some .int) := ⟨⟨B.exec, B.bytes, hml, findClass_of_methodNamed B.named, atoms_spec (ws := wsX8_heads) B.pre⟩, B.returns, B.notSynchronized⟩
  have C0 := C
  obtain ⟨⟨hx, hb, hml, hown, hts⟩, hr, hlocks⟩ := C0
  have hS : va_S (qA xS ad) s.heap s.heap [] := va_S.rf
  have hl := lv_entry ([.ref (ad 0), .int p0]) (n := 2) (Nat.le_of_ble_eq_true rfl)
  rw [lg_entry_eq]
  generalize (lg_sl ([.ref (ad 0), .int p0]) ++ List.replicate (2 - (lg_sl ([.ref (ad 0), .int p0])).length) Slot.unset).toArray = ls at hl ⊢
  have hl : lv_has ls 2 [(0, .ref (ad 0)), (1, .int p0)] := hl
  unfold f_X8_heads at hf
  refine lv_aload_n hx hb dX8_heads_0 rfl (lv_at hl 0 rfl) ?_
  refine q_get (C := RX8) (T := TX8) (N := 12) (ci := 8) (v := .ref (ad 1)) hx hb hts in_X8_heads_X8 hown hK hP oX8 rfl 0 (by decide) (hts (.fieldLink RX8 12 "RowsOnlyPrimes" "now" "LRowsOnlyPrimes$Bank;") (by decide +kernel)) (fun _ h9 => h9) rfl dX8_heads_1 ?_
  refine lv_iload_n hx hb dX8_heads_4 rfl (lv_at hl 1 rfl) ?_
  obtain ⟨v1, h2, hf⟩ := bd_ok hf
  refine q_cSi (va_runV (As := [.int p0]) (rest := []) ⟨hx, hb, hml, hown, hts⟩ (c_X2_hasGroup l (D := D) (ad := ad) (cy := cy) (sa := sa) (va := va) (I := I) (J := J) 1 isB_1 p0 h2) (cwV 1 hts gX8_heads_X2_hasGroup rfl rfl rfl (by decide +kernel) ⟨Nat.le_of_ble_eq_true rfl, Nat.le_of_ble_eq_true rfl⟩) ⟨qPre_blind _, q_recv hK hP (oX2 isB_1) rfl, fun U hU hW => ⟨rfl, qPre_of hP hK hE hN hS U hU hW⟩⟩ rfl rfl hl.1 rfl (lv_room (Nat.le_of_ble_eq_true rfl)) dX8_heads_5 ⟨Nat.le_of_ble_eq_true rfl, Nat.le_of_ble_eq_true rfl⟩) ?_
  refine lv_if_eq (tgt := 22) hx hb dX8_heads_8 (by decide) (fun cc => ?_) (fun cc => ?_)
  · have hf := (if_ok hf).1 cc
    refine lv_aload_n hx hb dX8_heads_22 rfl (lv_at hl 0 rfl) ?_
    refine lv_sipush (v := -1002) hx hb dX8_heads_23 (by decide) ?_
    obtain ⟨v3, I4, h5, hf⟩ := bd2_ok hf
    refine q_cEi (va_runV (As := [.int (-1002 : Int32)]) (rest := []) ⟨hx, hb, hml, hown, hts⟩ (c_X8_refuse l (D := D) (ad := ad) (cy := cy) (sa := sa) (va := va) (I := I) (J := J) (-1002 : Int32) h5) (cwV 1 hts gX8_heads_X8_refuse rfl rfl rfl (by decide +kernel) ⟨Nat.le_of_ble_eq_true rfl, Nat.le_of_ble_eq_true rfl⟩) ⟨qPre_blind _, q_recv hK hP oX8 rfl, fun U hU hW => ⟨rfl, qPre_of hP hK hE hN hS U hU hW⟩⟩ rfl rfl hl.1 rfl (lv_room (Nat.le_of_ble_eq_true rfl)) dX8_heads_26 ⟨Nat.le_of_ble_eq_true rfl, Nat.le_of_ble_eq_true rfl⟩) hS (fun H locs hP hS => ?_)
    have e9 := Option.some.inj hf
    have eI9 : I4 = Ie := (congrArg Prod.snd e9)
    exact W.iret hx hb hr (fun t ht _ => ⟨⟨_, (), rfl, (congrArg Prod.fst e9), by show qP D _ ad _ _ _ t.heap; rw [ht, ← eI9]; exact hP⟩, hS.F ht⟩) hS.2.2 dX8_heads_29
  · have hf := (if_ok hf).2 cc
    refine lv_aload_n hx hb dX8_heads_11 rfl (lv_at hl 0 rfl) ?_
    refine q_get (C := RX8) (T := TX8) (N := 12) (ci := 8) (v := .ref (ad 1)) hx hb hts in_X8_heads_X8 hown hK hP oX8 rfl 0 (by decide) (hts (.fieldLink RX8 12 "RowsOnlyPrimes" "now" "LRowsOnlyPrimes$Bank;") (by decide +kernel)) (fun _ h9 => h9) rfl dX8_heads_12 ?_
    refine lv_iload_n hx hb dX8_heads_15 rfl (lv_at hl 1 rfl) ?_
    obtain ⟨v6, h7, hf⟩ := bd_ok hf
    refine q_cSi (va_runV (As := [.int p0]) (rest := []) ⟨hx, hb, hml, hown, hts⟩ (c_X2_headsTogether l (D := D) (ad := ad) (cy := cy) (sa := sa) (va := va) (I := I) (J := J) 1 isB_1 p0 h7) (cwV 1 hts gX8_heads_X2_headsTogether rfl rfl rfl (by decide +kernel) ⟨Nat.le_of_ble_eq_true rfl, Nat.le_of_ble_eq_true rfl⟩) ⟨qPre_blind _, q_recv hK hP (oX2 isB_1) rfl, fun U hU hW => ⟨rfl, qPre_of hP hK hE hN hS U hU hW⟩⟩ rfl rfl hl.1 rfl (lv_room (Nat.le_of_ble_eq_true rfl)) dX8_heads_16 ⟨Nat.le_of_ble_eq_true rfl, Nat.le_of_ble_eq_true rfl⟩) ?_
    refine lv_goto (tgt := 29) hx hb dX8_heads_19 (by decide) ?_
    have e9 := Option.some.inj hf
    have eI9 : I = Ie := (congrArg Prod.snd e9)
    exact W.iret hx hb hr (fun t ht _ => ⟨⟨_, (), rfl, (congrArg Prod.fst e9), by show qP D _ ad _ _ _ t.heap; rw [ht, ← eI9]; exact hP⟩, hS.F ht⟩) hS.2.2 dX8_heads_29
abbrev r_X8_goes : Room := { frames := 2, cells := 0, slots := 0, locals := 44 }
theorem in_X8_goes_X8 : ∀ w ∈ u_ws RX8 TX8 12, w ∈ wsX8_goes := by decide +kernel
set_option maxHeartbeats 4000000 in
set_option maxRecDepth 100000 in
theorem c_X8_goes (l : Launch) {D : va_G} {ad : Nat → Nat} {cy : Nat → ClassId} {sa va : Nat → Nat} {I : qI} {J : qJ}   (p0 : Int32) {r : Int32} {Ie : qI} (hf : f_X8_goes p0 I = some (r, Ie)) : Met l yX8_goes wsX8_goes r_X8_goes (va_Pc [.ref (ad 0), .int p0] (qPre D xS ad cy sa va (eX ad cy) I J)) (va_Qi (S := Unit) (fun x _ => x = r) (fun _ t => qP D xS ad (eX ad cy) Ie J t.heap) (qA xS ad)) 0 0 (qA xS ad) := by
  refine Met.ofW (cc := cX8_goes) (maxL := 2) (ret := (some .int)) (by decide) rfl ?_
  intro p e s m args below meth c s₁ B hml hv
  obtain ⟨rfl, hP, hK, hE, hN⟩ := hv
  have C : qC p s m _ meth c cX8_goes 2 RX8 wsX8_goes (some .int) := ⟨⟨B.exec, B.bytes, hml, findClass_of_methodNamed B.named, atoms_spec (ws := wsX8_goes) B.pre⟩, B.returns, B.notSynchronized⟩
  have C0 := C
  obtain ⟨⟨hx, hb, hml, hown, hts⟩, hr, hlocks⟩ := C0
  have hS : va_S (qA xS ad) s.heap s.heap [] := va_S.rf
  have hl := lv_entry ([.ref (ad 0), .int p0]) (n := 2) (Nat.le_of_ble_eq_true rfl)
  rw [lg_entry_eq]
  generalize (lg_sl ([.ref (ad 0), .int p0]) ++ List.replicate (2 - (lg_sl ([.ref (ad 0), .int p0])).length) Slot.unset).toArray = ls at hl ⊢
  have hl : lv_has ls 2 [(0, .ref (ad 0)), (1, .int p0)] := hl
  unfold f_X8_goes at hf
  refine lv_iload_n hx hb dX8_goes_0 rfl (lv_at hl 1 rfl) ?_
  refine lv_iconst (v := 0) hx hb dX8_goes_1 (by decide) ?_
  refine lv_sipush (v := 999) hx hb dX8_goes_2 (by decide) ?_
  obtain ⟨v1, h2, hf⟩ := bd_ok hf
  refine q_cSi (va_runS (As := [.int p0, .int (0 : Int32), .int (999 : Int32)]) (rest := []) ⟨hx, hb, hml, hown, hts⟩ (c_X8_within l (D := D) (ad := ad) (cy := cy) (sa := sa) (va := va) (I := I) (J := J) p0 (0 : Int32) (999 : Int32) h2) (va_cwS 3 hts gX8_goes_X8_within rfl rfl rfl (by decide +kernel) ⟨Nat.le_of_ble_eq_true rfl, Nat.le_of_ble_eq_true rfl⟩) ⟨qPre_blind _, fun U hU hW => ⟨rfl, qPre_of hP hK hE hN hS U hU hW⟩⟩ rfl rfl hl.1 rfl (lv_room (Nat.le_of_ble_eq_true rfl)) dX8_goes_5 ⟨Nat.le_of_ble_eq_true rfl, Nat.le_of_ble_eq_true rfl⟩) ?_
  refine lv_if_ne (tgt := 19) hx hb dX8_goes_8 (by decide) (fun cc => ?_) (fun cc => ?_)
  · have hf := (if_ok hf).2 cc
    refine lv_aload_n hx hb dX8_goes_19 rfl (lv_at hl 0 rfl) ?_
    refine q_get (C := RX8) (T := TX8) (N := 12) (ci := 8) (v := .ref (ad 1)) hx hb hts in_X8_goes_X8 hown hK hP oX8 rfl 0 (by decide) (hts (.fieldLink RX8 12 "RowsOnlyPrimes" "now" "LRowsOnlyPrimes$Bank;") (by decide +kernel)) (fun _ h9 => h9) rfl dX8_goes_20 ?_
    refine lv_iload_n hx hb dX8_goes_23 rfl (lv_at hl 1 rfl) ?_
    obtain ⟨v3, h4, hf⟩ := bd_ok hf
    refine q_cSi (va_runV (As := [.int p0]) (rest := []) ⟨hx, hb, hml, hown, hts⟩ (c_X2_lets l (D := D) (ad := ad) (cy := cy) (sa := sa) (va := va) (I := I) (J := J) 1 isB_1 p0 h4) (cwV 1 hts gX8_goes_X2_lets rfl rfl rfl (by decide +kernel) ⟨Nat.le_of_ble_eq_true rfl, Nat.le_of_ble_eq_true rfl⟩) ⟨qPre_blind _, q_recv hK hP (oX2 isB_1) rfl, fun U hU hW => ⟨rfl, qPre_of hP hK hE hN hS U hU hW⟩⟩ rfl rfl hl.1 rfl (lv_room (Nat.le_of_ble_eq_true rfl)) dX8_goes_24 ⟨Nat.le_of_ble_eq_true rfl, Nat.le_of_ble_eq_true rfl⟩) ?_
    refine lv_if_eq (tgt := 34) hx hb dX8_goes_27 (by decide) (fun cc => ?_) (fun cc => ?_)
    · have hf := (if_ok hf).1 cc
      refine lv_iconst (v := 0) hx hb dX8_goes_34 (by decide) ?_
      have e9 := Option.some.inj hf
      have eI9 : I = Ie := (congrArg Prod.snd e9)
      exact W.iret hx hb hr (fun t ht _ => ⟨⟨_, (), rfl, (congrArg Prod.fst e9), by show qP D _ ad _ _ _ t.heap; rw [ht, ← eI9]; exact hP⟩, hS.F ht⟩) hS.2.2 dX8_goes_35
    · have hf := (if_ok hf).2 cc
      refine lv_iconst (v := 1) hx hb dX8_goes_30 (by decide) ?_
      refine lv_goto (tgt := 35) hx hb dX8_goes_31 (by decide) ?_
      have e9 := Option.some.inj hf
      have eI9 : I = Ie := (congrArg Prod.snd e9)
      exact W.iret hx hb hr (fun t ht _ => ⟨⟨_, (), rfl, (congrArg Prod.fst e9), by show qP D _ ad _ _ _ t.heap; rw [ht, ← eI9]; exact hP⟩, hS.F ht⟩) hS.2.2 dX8_goes_35
  · have hf := (if_ok hf).1 cc
    refine lv_aload_n hx hb dX8_goes_11 rfl (lv_at hl 0 rfl) ?_
    refine lv_sipush (v := -1002) hx hb dX8_goes_12 (by decide) ?_
    obtain ⟨v5, I6, h7, hf⟩ := bd2_ok hf
    refine q_cEi (va_runV (As := [.int (-1002 : Int32)]) (rest := []) ⟨hx, hb, hml, hown, hts⟩ (c_X8_refuse l (D := D) (ad := ad) (cy := cy) (sa := sa) (va := va) (I := I) (J := J) (-1002 : Int32) h7) (cwV 1 hts gX8_goes_X8_refuse rfl rfl rfl (by decide +kernel) ⟨Nat.le_of_ble_eq_true rfl, Nat.le_of_ble_eq_true rfl⟩) ⟨qPre_blind _, q_recv hK hP oX8 rfl, fun U hU hW => ⟨rfl, qPre_of hP hK hE hN hS U hU hW⟩⟩ rfl rfl hl.1 rfl (lv_room (Nat.le_of_ble_eq_true rfl)) dX8_goes_15 ⟨Nat.le_of_ble_eq_true rfl, Nat.le_of_ble_eq_true rfl⟩) hS (fun H locs hP hS => ?_)
    have e9 := Option.some.inj hf
    have eI9 : I6 = Ie := (congrArg Prod.snd e9)
    exact W.iret hx hb hr (fun t ht _ => ⟨⟨_, (), rfl, (congrArg Prod.fst e9), by show qP D _ ad _ _ _ t.heap; rw [ht, ← eI9]; exact hP⟩, hS.F ht⟩) hS.2.2 dX8_goes_18
abbrev r_X8_next : Room := { frames := 2, cells := 0, slots := 0, locals := 44 }
theorem in_X8_next_X8 : ∀ w ∈ u_ws RX8 TX8 12, w ∈ wsX8_next := by decide +kernel
set_option maxHeartbeats 4000000 in
set_option maxRecDepth 100000 in
theorem w_X8_next_20 (C : qC p s m args meth c cX8_next 3 RX8 wsX8_next (some .int)) (hK : qK D cy sa s) (hE : qEnv sa va (qA xS ad) s s.heap) (hN : qN xS ad)   {J : qJ} {r : Int32} {Ie : qI} : ∀ (n : Nat) (x2 : Int32)  (I : qI) (ls : Array Slot) (H : Heap) (locs : List Loc), f_X8_next_20 n x2 I = some (r, Ie) → lv_has ls 3 [(0, .ref (ad 0)), (2, .int x2)] → qP D xS ad (eX ad cy) I J H → va_S (qA xS ad) s.heap H locs → W p l e (headSpec wsX8_next r_X8_next).room s m args below meth c H locs 0 0 (MQ below (va_Qi (S := Unit) (fun x _ => x = r) (fun _ t => qP D xS ad (eX ad cy) Ie J t.heap) (qA xS ad)) args s 0 0 (qA xS ad)) (F0 m 20 ls []) := by
  have C0 := C
  obtain ⟨⟨hx, hb, hml, hown, hts⟩, hr, hlocks⟩ := C0
  intro n
  induction n with
  | zero =>
    intro x2 I ls H locs hf hl hP hS
    rw [f_X8_next_20] at hf
    cases hf
  | succ n ih =>
    intro x2 I ls H locs hf hl hP hS
    rw [f_X8_next_20] at hf
    refine lv_iload_n hx hb dX8_next_20 rfl (lv_at hl 1 rfl) ?_
    refine lv_bipush (v := 99) hx hb dX8_next_21 (by decide) ?_
    refine lv_icmp_gt (tgt := 45) hx hb dX8_next_23 (by decide) (fun cc => ?_) (fun cc => ?_)
    · have hf := (if_ok hf).1 cc
      refine lv_iconst (v := -1) hx hb dX8_next_45 (by decide) ?_
      have e9 := Option.some.inj hf
      have eI9 : I = Ie := (congrArg Prod.snd e9)
      exact W.iret hx hb hr (fun t ht _ => ⟨⟨_, (), rfl, (congrArg Prod.fst e9), by show qP D _ ad _ _ _ t.heap; rw [ht, ← eI9]; exact hP⟩, hS.F ht⟩) hS.2.2 dX8_next_46
    · have hf := (if_ok hf).2 cc
      refine lv_aload_n hx hb dX8_next_26 rfl (lv_at hl 0 rfl) ?_
      refine q_get (C := RX8) (T := TX8) (N := 12) (ci := 8) (v := .ref (ad 1)) hx hb hts in_X8_next_X8 hown hK hP oX8 rfl 0 (by decide) (hts (.fieldLink RX8 12 "RowsOnlyPrimes" "now" "LRowsOnlyPrimes$Bank;") (by decide +kernel)) (fun _ h9 => h9) rfl dX8_next_27 ?_
      refine lv_iload_n hx hb dX8_next_30 rfl (lv_at hl 1 rfl) ?_
      obtain ⟨v1, h2, hf⟩ := bd_ok hf
      refine q_cSi (va_runV (As := [.int x2]) (rest := []) ⟨hx, hb, hml, hown, hts⟩ (c_X2_lets l (D := D) (ad := ad) (cy := cy) (sa := sa) (va := va) (I := I) (J := J) 1 isB_1 x2 h2) (cwV 1 hts gX8_next_X2_lets rfl rfl rfl (by decide +kernel) ⟨Nat.le_of_ble_eq_true rfl, Nat.le_of_ble_eq_true rfl⟩) ⟨qPre_blind _, q_recv hK hP (oX2 isB_1) rfl, fun U hU hW => ⟨rfl, qPre_of hP hK hE hN hS U hU hW⟩⟩ rfl rfl hl.1 rfl (lv_room (Nat.le_of_ble_eq_true rfl)) dX8_next_31 ⟨Nat.le_of_ble_eq_true rfl, Nat.le_of_ble_eq_true rfl⟩) ?_
      refine lv_if_eq (tgt := 39) hx hb dX8_next_34 (by decide) (fun cc => ?_) (fun cc => ?_)
      · have hf := (if_ok hf).1 cc
        refine lv_iinc (v := (x2 + (1 : Int32))) (lv' := [(2, .int (x2 + (1 : Int32))), (0, .ref (ad 0))]) hx hb dX8_next_39 hl (k := 1) rfl rfl (by decide) rfl (fun ls hl => ?_)
        refine lv_goto (tgt := 20) hx hb dX8_next_42 (by decide) ?_
        exact ih (x2 + (1 : Int32)) I _ _ _ hf (lv_sub hl [1, 0] rfl) hP hS
      · have hf := (if_ok hf).2 cc
        refine lv_iload_n hx hb dX8_next_37 rfl (lv_at hl 1 rfl) ?_
        have e9 := Option.some.inj hf
        have eI9 : I = Ie := (congrArg Prod.snd e9)
        exact W.iret hx hb hr (fun t ht _ => ⟨⟨_, (), rfl, (congrArg Prod.fst e9), by show qP D _ ad _ _ _ t.heap; rw [ht, ← eI9]; exact hP⟩, hS.F ht⟩) hS.2.2 dX8_next_38
set_option maxHeartbeats 4000000 in
set_option maxRecDepth 100000 in
theorem c_X8_next (l : Launch) {D : va_G} {ad : Nat → Nat} {cy : Nat → ClassId} {sa va : Nat → Nat} {I : qI} {J : qJ}   (p0 : Int32) {r : Int32} {Ie : qI} (hf : f_X8_next p0 I = some (r, Ie)) : Met l yX8_next wsX8_next r_X8_next (va_Pc [.ref (ad 0), .int p0] (qPre D xS ad cy sa va (eX ad cy) I J)) (va_Qi (S := Unit) (fun x _ => x = r) (fun _ t => qP D xS ad (eX ad cy) Ie J t.heap) (qA xS ad)) 0 0 (qA xS ad) := by
  refine Met.ofW (cc := cX8_next) (maxL := 3) (ret := (some .int)) (by decide) rfl ?_
  intro p e s m args below meth c s₁ B hml hv
  obtain ⟨rfl, hP, hK, hE, hN⟩ := hv
  have C : qC p s m _ meth c cX8_next 3 RX8 wsX8_next (some .int) := ⟨⟨B.exec, B.bytes, hml, findClass_of_methodNamed B.named, atoms_spec (ws := wsX8_next) B.pre⟩, B.returns, B.notSynchronized⟩
  have C0 := C
  obtain ⟨⟨hx, hb, hml, hown, hts⟩, hr, hlocks⟩ := C0
  have hS : va_S (qA xS ad) s.heap s.heap [] := va_S.rf
  have hl := lv_entry ([.ref (ad 0), .int p0]) (n := 3) (Nat.le_of_ble_eq_true rfl)
  rw [lg_entry_eq]
  generalize (lg_sl ([.ref (ad 0), .int p0]) ++ List.replicate (3 - (lg_sl ([.ref (ad 0), .int p0])).length) Slot.unset).toArray = ls at hl ⊢
  have hl : lv_has ls 3 [(0, .ref (ad 0)), (1, .int p0)] := hl
  unfold f_X8_next at hf
  refine lv_iload_n hx hb dX8_next_0 rfl (lv_at hl 1 rfl) ?_
  refine lv_iconst (v := 0) hx hb dX8_next_1 (by decide) ?_
  refine lv_bipush (v := 99) hx hb dX8_next_2 (by decide) ?_
  obtain ⟨v1, h2, hf⟩ := bd_ok hf
  refine q_cSi (va_runS (As := [.int p0, .int (0 : Int32), .int (99 : Int32)]) (rest := []) ⟨hx, hb, hml, hown, hts⟩ (c_X8_within l (D := D) (ad := ad) (cy := cy) (sa := sa) (va := va) (I := I) (J := J) p0 (0 : Int32) (99 : Int32) h2) (va_cwS 3 hts gX8_next_X8_within rfl rfl rfl (by decide +kernel) ⟨Nat.le_of_ble_eq_true rfl, Nat.le_of_ble_eq_true rfl⟩) ⟨qPre_blind _, fun U hU hW => ⟨rfl, qPre_of hP hK hE hN hS U hU hW⟩⟩ rfl rfl hl.1 rfl (lv_room (Nat.le_of_ble_eq_true rfl)) dX8_next_4 ⟨Nat.le_of_ble_eq_true rfl, Nat.le_of_ble_eq_true rfl⟩) ?_
  refine lv_if_ne (tgt := 18) hx hb dX8_next_7 (by decide) (fun cc => ?_) (fun cc => ?_)
  · have hf := (if_ok hf).2 cc
    refine lv_iload_n hx hb dX8_next_18 rfl (lv_at hl 1 rfl) ?_
    refine lv_istore_n (lv' := [(2, .int p0), (0, .ref (ad 0)), (1, .int p0)]) hx hb dX8_next_19 rfl hl (by decide) rfl (fun ls hl => ?_)
    exact w_X8_next_20 C hK hE hN   1000 p0 I _ _ _ hf (lv_sub hl [1, 0] rfl) hP hS
  · have hf := (if_ok hf).1 cc
    refine lv_aload_n hx hb dX8_next_10 rfl (lv_at hl 0 rfl) ?_
    refine lv_sipush (v := -1002) hx hb dX8_next_11 (by decide) ?_
    obtain ⟨v3, I4, h5, hf⟩ := bd2_ok hf
    refine q_cEi (va_runV (As := [.int (-1002 : Int32)]) (rest := []) ⟨hx, hb, hml, hown, hts⟩ (c_X8_refuse l (D := D) (ad := ad) (cy := cy) (sa := sa) (va := va) (I := I) (J := J) (-1002 : Int32) h5) (cwV 1 hts gX8_next_X8_refuse rfl rfl rfl (by decide +kernel) ⟨Nat.le_of_ble_eq_true rfl, Nat.le_of_ble_eq_true rfl⟩) ⟨qPre_blind _, q_recv hK hP oX8 rfl, fun U hU hW => ⟨rfl, qPre_of hP hK hE hN hS U hU hW⟩⟩ rfl rfl hl.1 rfl (lv_room (Nat.le_of_ble_eq_true rfl)) dX8_next_14 ⟨Nat.le_of_ble_eq_true rfl, Nat.le_of_ble_eq_true rfl⟩) hS (fun H locs hP hS => ?_)
    have e9 := Option.some.inj hf
    have eI9 : I4 = Ie := (congrArg Prod.snd e9)
    exact W.iret hx hb hr (fun t ht _ => ⟨⟨_, (), rfl, (congrArg Prod.fst e9), by show qP D _ ad _ _ _ t.heap; rw [ht, ← eI9]; exact hP⟩, hS.F ht⟩) hS.2.2 dX8_next_17
abbrev r_X8_hire : Room := { frames := 5, cells := 0, slots := 0, locals := 112 }
theorem in_X8_hire_X8 : ∀ w ∈ u_ws RX8 TX8 12, w ∈ wsX8_hire := by decide +kernel
set_option maxHeartbeats 4000000 in
set_option maxRecDepth 100000 in
theorem c_X8_hire (l : Launch) {D : va_G} {ad : Nat → Nat} {cy : Nat → ClassId} {sa va : Nat → Nat} {I : qI} {J : qJ}   (p0 : Int32) {r : Int32} {Ie : qI} (hf : f_X8_hire p0 I = some (r, Ie)) : Met l yX8_hire wsX8_hire r_X8_hire (va_Pc [.ref (ad 0), .int p0] (qPre D xS ad cy sa va (eX ad cy) I J)) (va_Qi (S := Unit) (fun x _ => x = r) (fun _ t => qP D xS ad (eX ad cy) Ie J t.heap) (qA xS ad)) 0 0 (qA xS ad) := by
  refine Met.ofW (cc := cX8_hire) (maxL := 2) (ret := (some .int)) (by decide) rfl ?_
  intro p e s m args below meth c s₁ B hml hv
  obtain ⟨rfl, hP, hK, hE, hN⟩ := hv
  have C : qC p s m _ meth c cX8_hire 2 RX8 wsX8_hire (some .int) := ⟨⟨B.exec, B.bytes, hml, findClass_of_methodNamed B.named, atoms_spec (ws := wsX8_hire) B.pre⟩, B.returns, B.notSynchronized⟩
  have C0 := C
  obtain ⟨⟨hx, hb, hml, hown, hts⟩, hr, hlocks⟩ := C0
  have hS : va_S (qA xS ad) s.heap s.heap [] := va_S.rf
  have hl := lv_entry ([.ref (ad 0), .int p0]) (n := 2) (Nat.le_of_ble_eq_true rfl)
  rw [lg_entry_eq]
  generalize (lg_sl ([.ref (ad 0), .int p0]) ++ List.replicate (2 - (lg_sl ([.ref (ad 0), .int p0])).length) Slot.unset).toArray = ls at hl ⊢
  have hl : lv_has ls 2 [(0, .ref (ad 0)), (1, .int p0)] := hl
  unfold f_X8_hire at hf
  refine lv_aload_n hx hb dX8_hire_0 rfl (lv_at hl 0 rfl) ?_
  refine q_get (C := RX8) (T := TX8) (N := 12) (ci := 8) (v := .ref (ad 1)) hx hb hts in_X8_hire_X8 hown hK hP oX8 rfl 0 (by decide) (hts (.fieldLink RX8 12 "RowsOnlyPrimes" "now" "LRowsOnlyPrimes$Bank;") (by decide +kernel)) (fun _ h9 => h9) rfl dX8_hire_1 ?_
  refine lv_iload_n hx hb dX8_hire_4 rfl (lv_at hl 1 rfl) ?_
  obtain ⟨v1, h2, hf⟩ := bd_ok hf
  refine q_cSi (va_runV (As := [.int p0]) (rest := []) ⟨hx, hb, hml, hown, hts⟩ (c_X2_hasGroup l (D := D) (ad := ad) (cy := cy) (sa := sa) (va := va) (I := I) (J := J) 1 isB_1 p0 h2) (cwV 1 hts gX8_hire_X2_hasGroup rfl rfl rfl (by decide +kernel) ⟨Nat.le_of_ble_eq_true rfl, Nat.le_of_ble_eq_true rfl⟩) ⟨qPre_blind _, q_recv hK hP (oX2 isB_1) rfl, fun U hU hW => ⟨rfl, qPre_of hP hK hE hN hS U hU hW⟩⟩ rfl rfl hl.1 rfl (lv_room (Nat.le_of_ble_eq_true rfl)) dX8_hire_5 ⟨Nat.le_of_ble_eq_true rfl, Nat.le_of_ble_eq_true rfl⟩) ?_
  refine lv_if_eq (tgt := 22) hx hb dX8_hire_8 (by decide) (fun cc => ?_) (fun cc => ?_)
  · have hf := (if_ok hf).1 cc
    refine lv_aload_n hx hb dX8_hire_22 rfl (lv_at hl 0 rfl) ?_
    refine lv_sipush (v := -1002) hx hb dX8_hire_23 (by decide) ?_
    obtain ⟨v3, I4, h5, hf⟩ := bd2_ok hf
    refine q_cEi (va_runV (As := [.int (-1002 : Int32)]) (rest := []) ⟨hx, hb, hml, hown, hts⟩ (c_X8_refuse l (D := D) (ad := ad) (cy := cy) (sa := sa) (va := va) (I := I) (J := J) (-1002 : Int32) h5) (cwV 1 hts gX8_hire_X8_refuse rfl rfl rfl (by decide +kernel) ⟨Nat.le_of_ble_eq_true rfl, Nat.le_of_ble_eq_true rfl⟩) ⟨qPre_blind _, q_recv hK hP oX8 rfl, fun U hU hW => ⟨rfl, qPre_of hP hK hE hN hS U hU hW⟩⟩ rfl rfl hl.1 rfl (lv_room (Nat.le_of_ble_eq_true rfl)) dX8_hire_26 ⟨Nat.le_of_ble_eq_true rfl, Nat.le_of_ble_eq_true rfl⟩) hS (fun H locs hP hS => ?_)
    have e9 := Option.some.inj hf
    have eI9 : I4 = Ie := (congrArg Prod.snd e9)
    exact W.iret hx hb hr (fun t ht _ => ⟨⟨_, (), rfl, (congrArg Prod.fst e9), by show qP D _ ad _ _ _ t.heap; rw [ht, ← eI9]; exact hP⟩, hS.F ht⟩) hS.2.2 dX8_hire_29
  · have hf := (if_ok hf).2 cc
    refine lv_aload_n hx hb dX8_hire_11 rfl (lv_at hl 0 rfl) ?_
    refine q_get (C := RX8) (T := TX8) (N := 12) (ci := 8) (v := .ref (ad 1)) hx hb hts in_X8_hire_X8 hown hK hP oX8 rfl 0 (by decide) (hts (.fieldLink RX8 12 "RowsOnlyPrimes" "now" "LRowsOnlyPrimes$Bank;") (by decide +kernel)) (fun _ h9 => h9) rfl dX8_hire_12 ?_
    refine lv_iload_n hx hb dX8_hire_15 rfl (lv_at hl 1 rfl) ?_
    obtain ⟨v6, h7, hf⟩ := bd_ok hf
    refine q_cSi (va_runV (As := [.int p0]) (rest := []) ⟨hx, hb, hml, hown, hts⟩ (c_X2_hireNow l (D := D) (ad := ad) (cy := cy) (sa := sa) (va := va) (I := I) (J := J) 1 isB_1 p0 h7) (cwV 1 hts gX8_hire_X2_hireNow rfl rfl rfl (by decide +kernel) ⟨Nat.le_of_ble_eq_true rfl, Nat.le_of_ble_eq_true rfl⟩) ⟨qPre_blind _, q_recv hK hP (oX2 isB_1) rfl, fun U hU hW => ⟨rfl, qPre_of hP hK hE hN hS U hU hW⟩⟩ rfl rfl hl.1 rfl (lv_room (Nat.le_of_ble_eq_true rfl)) dX8_hire_16 ⟨Nat.le_of_ble_eq_true rfl, Nat.le_of_ble_eq_true rfl⟩) ?_
    refine lv_goto (tgt := 29) hx hb dX8_hire_19 (by decide) ?_
    have e9 := Option.some.inj hf
    have eI9 : I = Ie := (congrArg Prod.snd e9)
    exact W.iret hx hb hr (fun t ht _ => ⟨⟨_, (), rfl, (congrArg Prod.fst e9), by show qP D _ ad _ _ _ t.heap; rw [ht, ← eI9]; exact hP⟩, hS.F ht⟩) hS.2.2 dX8_hire_29
abbrev r_X8_many : Room := { frames := 5, cells := 0, slots := 0, locals := 112 }
theorem in_X8_many_X8 : ∀ w ∈ u_ws RX8 TX8 12, w ∈ wsX8_many := by decide +kernel
set_option maxHeartbeats 4000000 in
set_option maxRecDepth 100000 in
theorem w_X8_many_4 (C : qC p s m args meth c cX8_many 3 RX8 wsX8_many (some .int)) (hK : qK D cy sa s) (hE : qEnv sa va (qA xS ad) s s.heap) (hN : qN xS ad)   {I : qI} {J : qJ} (hP : qP D xS ad (eX ad cy) I J s.heap) {r : Int32} : ∀ (n : Nat) (x1 : Int32) (x2 : Int32)  (ls : Array Slot), f_X8_many_4 I n x1 x2 = some r → lv_has ls 3 [(0, .ref (ad 0)), (1, .int x1), (2, .int x2)] → W p l e (headSpec wsX8_many r_X8_many).room s m args below meth c s.heap [] 0 0 (MQ below (vp_Si (fun x => x = r)) args s 0 0 (fun _ => False)) (F0 m 4 ls []) := by
  have C0 := C
  obtain ⟨⟨hx, hb, hml, hown, hts⟩, hr, hlocks⟩ := C0
  intro n
  induction n with
  | zero =>
    intro x1 x2 ls hf hl
    rw [f_X8_many_4] at hf
    cases hf
  | succ n ih =>
    intro x1 x2 ls hf hl
    rw [f_X8_many_4] at hf
    refine lv_iload_n hx hb dX8_many_4 rfl (lv_at hl 2 rfl) ?_
    refine lv_aload_n hx hb dX8_many_5 rfl (lv_at hl 0 rfl) ?_
    refine q_get (C := RX8) (T := TX8) (N := 12) (ci := 8) (v := .ref (ad 1)) hx hb hts in_X8_many_X8 hown hK hP oX8 rfl 0 (by decide) (hts (.fieldLink RX8 12 "RowsOnlyPrimes" "now" "LRowsOnlyPrimes$Bank;") (by decide +kernel)) (fun _ h9 => h9) rfl dX8_many_6 ?_
    obtain ⟨v1, h2, hf⟩ := bd_ok hf
    refine q_cSi (va_runV (As := []) (rest := [.int x2]) ⟨hx, hb, hml, hown, hts⟩ (c_X2_everybody l (D := D) (ad := ad) (cy := cy) (sa := sa) (va := va) (I := I) (J := J) 1 isB_1 h2) (cwV 0 hts gX8_many_X2_everybody rfl rfl rfl (by decide +kernel) ⟨Nat.le_of_ble_eq_true rfl, Nat.le_of_ble_eq_true rfl⟩) ⟨qPre_blind _, q_recv hK hP (oX2 isB_1) rfl, fun U hU hW => ⟨rfl, qPre_of hP hK hE hN va_S.rf U hU hW⟩⟩ rfl rfl hl.1 rfl (lv_room (Nat.le_of_ble_eq_true rfl)) dX8_many_9 ⟨Nat.le_of_ble_eq_true rfl, Nat.le_of_ble_eq_true rfl⟩) ?_
    refine lv_icmp_gt (tgt := 36) hx hb dX8_many_12 (by decide) (fun cc => ?_) (fun cc => ?_)
    · have hf := (if_ok hf).1 cc
      refine lv_iload_n hx hb dX8_many_36 rfl (lv_at hl 1 rfl) ?_
      exact W.iret hx hb hr (fun t ht _ => ⟨_, rfl, Option.some.inj hf, ht⟩) (fun _ h => by cases h) dX8_many_37
    · have hf := (if_ok hf).2 cc
      refine lv_aload_n hx hb dX8_many_15 rfl (lv_at hl 0 rfl) ?_
      refine q_get (C := RX8) (T := TX8) (N := 12) (ci := 8) (v := .ref (ad 1)) hx hb hts in_X8_many_X8 hown hK hP oX8 rfl 0 (by decide) (hts (.fieldLink RX8 12 "RowsOnlyPrimes" "now" "LRowsOnlyPrimes$Bank;") (by decide +kernel)) (fun _ h9 => h9) rfl dX8_many_16 ?_
      refine lv_iload_n hx hb dX8_many_19 rfl (lv_at hl 2 rfl) ?_
      obtain ⟨v3, h4, hf⟩ := bd_ok hf
      refine q_cSi (va_runV (As := [.int x2]) (rest := []) ⟨hx, hb, hml, hown, hts⟩ (c_X2_hireNow l (D := D) (ad := ad) (cy := cy) (sa := sa) (va := va) (I := I) (J := J) 1 isB_1 x2 h4) (cwV 1 hts gX8_many_X2_hireNow rfl rfl rfl (by decide +kernel) ⟨Nat.le_of_ble_eq_true rfl, Nat.le_of_ble_eq_true rfl⟩) ⟨qPre_blind _, q_recv hK hP (oX2 isB_1) rfl, fun U hU hW => ⟨rfl, qPre_of hP hK hE hN va_S.rf U hU hW⟩⟩ rfl rfl hl.1 rfl (lv_room (Nat.le_of_ble_eq_true rfl)) dX8_many_20 ⟨Nat.le_of_ble_eq_true rfl, Nat.le_of_ble_eq_true rfl⟩) ?_
      refine lv_iconst (v := -1) hx hb dX8_many_23 (by decide) ?_
      refine lv_icmp_eq (tgt := 30) hx hb dX8_many_24 (by decide) (fun cc => ?_) (fun cc => ?_)
      · have hf := (if_ok hf).1 cc
        refine lv_iinc (v := (x2 + (1 : Int32))) (lv' := [(2, .int (x2 + (1 : Int32))), (0, .ref (ad 0)), (1, .int x1)]) hx hb dX8_many_30 hl (k := 2) rfl rfl (by decide) rfl (fun ls hl => ?_)
        refine lv_goto (tgt := 4) hx hb dX8_many_33 (by decide) ?_
        exact ih x1 (x2 + (1 : Int32)) _ hf (lv_sub hl [1, 2, 0] rfl)
      · have hf := (if_ok hf).2 cc
        refine lv_iinc (v := (x1 + (1 : Int32))) (lv' := [(1, .int (x1 + (1 : Int32))), (0, .ref (ad 0)), (2, .int x2)]) hx hb dX8_many_27 hl (k := 1) rfl rfl (by decide) rfl (fun ls hl => ?_)
        refine lv_iinc (v := (x2 + (1 : Int32))) (lv' := [(2, .int (x2 + (1 : Int32))), (1, .int (x1 + (1 : Int32))), (0, .ref (ad 0))]) hx hb dX8_many_30 hl (k := 2) rfl rfl (by decide) rfl (fun ls hl => ?_)
        refine lv_goto (tgt := 4) hx hb dX8_many_33 (by decide) ?_
        exact ih (x1 + (1 : Int32)) (x2 + (1 : Int32)) _ hf (lv_sub hl [2, 1, 0] rfl)
set_option maxHeartbeats 4000000 in
set_option maxRecDepth 100000 in
theorem c_X8_many (l : Launch) {D : va_G} {ad : Nat → Nat} {cy : Nat → ClassId} {sa va : Nat → Nat} {I : qI} {J : qJ}    {r : Int32} (hf : f_X8_many I = some r) : Met l yX8_many wsX8_many r_X8_many (va_Pc [.ref (ad 0)] (qPre D xS ad cy sa va (eX ad cy) I J)) (vp_Si (fun x => x = r)) 0 0 (fun _ => False) := by
  refine Met.ofW (cc := cX8_many) (maxL := 3) (ret := (some .int)) (by decide) rfl ?_
  intro p e s m args below meth c s₁ B hml hv
  obtain ⟨rfl, hP, hK, hE, hN⟩ := hv
  have C : qC p s m _ meth c cX8_many 3 RX8 wsX8_many (some .int) := ⟨⟨B.exec, B.bytes, hml, findClass_of_methodNamed B.named, atoms_spec (ws := wsX8_many) B.pre⟩, B.returns, B.notSynchronized⟩
  have C0 := C
  obtain ⟨⟨hx, hb, hml, hown, hts⟩, hr, hlocks⟩ := C0
  have hl := lv_entry ([.ref (ad 0)]) (n := 3) (Nat.le_of_ble_eq_true rfl)
  rw [lg_entry_eq]
  generalize (lg_sl ([.ref (ad 0)]) ++ List.replicate (3 - (lg_sl ([.ref (ad 0)])).length) Slot.unset).toArray = ls at hl ⊢
  have hl : lv_has ls 3 [(0, .ref (ad 0))] := hl
  unfold f_X8_many at hf
  refine lv_iconst (v := 0) hx hb dX8_many_0 (by decide) ?_
  refine lv_istore_n (lv' := [(1, .int (0 : Int32)), (0, .ref (ad 0))]) hx hb dX8_many_1 rfl hl (by decide) rfl (fun ls hl => ?_)
  refine lv_iconst (v := 1) hx hb dX8_many_2 (by decide) ?_
  refine lv_istore_n (lv' := [(2, .int (1 : Int32)), (1, .int (0 : Int32)), (0, .ref (ad 0))]) hx hb dX8_many_3 rfl hl (by decide) rfl (fun ls hl => ?_)
  exact w_X8_many_4 C hK hE hN hP  1000 (0 : Int32) (1 : Int32) _ hf (lv_sub hl [2, 1, 0] rfl)
abbrev r_X8_stranded : Room := { frames := 5, cells := 0, slots := 0, locals := 112 }
theorem in_X8_stranded_X8 : ∀ w ∈ u_ws RX8 TX8 12, w ∈ wsX8_stranded := by decide +kernel
set_option maxHeartbeats 4000000 in
set_option maxRecDepth 100000 in
theorem w_X8_stranded_4 (C : qC p s m args meth c cX8_stranded 3 RX8 wsX8_stranded (some .int)) (hK : qK D cy sa s) (hE : qEnv sa va (qA xS ad) s s.heap) (hN : qN xS ad)   {I : qI} {J : qJ} (hP : qP D xS ad (eX ad cy) I J s.heap) {r : Int32} : ∀ (n : Nat) (x1 : Int32) (x2 : Int32)  (ls : Array Slot), f_X8_stranded_4 I n x1 x2 = some r → lv_has ls 3 [(0, .ref (ad 0)), (1, .int x1), (2, .int x2)] → W p l e (headSpec wsX8_stranded r_X8_stranded).room s m args below meth c s.heap [] 0 0 (MQ below (vp_Si (fun x => x = r)) args s 0 0 (fun _ => False)) (F0 m 4 ls []) := by
  have C0 := C
  obtain ⟨⟨hx, hb, hml, hown, hts⟩, hr, hlocks⟩ := C0
  intro n
  induction n with
  | zero =>
    intro x1 x2 ls hf hl
    rw [f_X8_stranded_4] at hf
    cases hf
  | succ n ih =>
    intro x1 x2 ls hf hl
    rw [f_X8_stranded_4] at hf
    refine lv_iload_n hx hb dX8_stranded_4 rfl (lv_at hl 2 rfl) ?_
    refine lv_aload_n hx hb dX8_stranded_5 rfl (lv_at hl 0 rfl) ?_
    refine q_get (C := RX8) (T := TX8) (N := 12) (ci := 8) (v := .ref (ad 1)) hx hb hts in_X8_stranded_X8 hown hK hP oX8 rfl 0 (by decide) (hts (.fieldLink RX8 12 "RowsOnlyPrimes" "now" "LRowsOnlyPrimes$Bank;") (by decide +kernel)) (fun _ h9 => h9) rfl dX8_stranded_6 ?_
    obtain ⟨v1, h2, hf⟩ := bd_ok hf
    refine q_cSi (va_runV (As := []) (rest := [.int x2]) ⟨hx, hb, hml, hown, hts⟩ (c_X2_everybody l (D := D) (ad := ad) (cy := cy) (sa := sa) (va := va) (I := I) (J := J) 1 isB_1 h2) (cwV 0 hts gX8_stranded_X2_everybody rfl rfl rfl (by decide +kernel) ⟨Nat.le_of_ble_eq_true rfl, Nat.le_of_ble_eq_true rfl⟩) ⟨qPre_blind _, q_recv hK hP (oX2 isB_1) rfl, fun U hU hW => ⟨rfl, qPre_of hP hK hE hN va_S.rf U hU hW⟩⟩ rfl rfl hl.1 rfl (lv_room (Nat.le_of_ble_eq_true rfl)) dX8_stranded_9 ⟨Nat.le_of_ble_eq_true rfl, Nat.le_of_ble_eq_true rfl⟩) ?_
    refine lv_icmp_gt (tgt := 37) hx hb dX8_stranded_12 (by decide) (fun cc => ?_) (fun cc => ?_)
    · have hf := (if_ok hf).1 cc
      refine lv_aload_n hx hb dX8_stranded_37 rfl (lv_at hl 0 rfl) ?_
      refine q_get (C := RX8) (T := TX8) (N := 12) (ci := 8) (v := .ref (ad 1)) hx hb hts in_X8_stranded_X8 hown hK hP oX8 rfl 0 (by decide) (hts (.fieldLink RX8 12 "RowsOnlyPrimes" "now" "LRowsOnlyPrimes$Bank;") (by decide +kernel)) (fun _ h9 => h9) rfl dX8_stranded_38 ?_
      obtain ⟨v3, h4, hf⟩ := bd_ok hf
      refine q_cSi (va_runV (As := []) (rest := []) ⟨hx, hb, hml, hown, hts⟩ (c_X2_here l (D := D) (ad := ad) (cy := cy) (sa := sa) (va := va) (I := I) (J := J) 1 isB_1 h4) (cwV 0 hts gX8_stranded_X2_here rfl rfl rfl (by decide +kernel) ⟨Nat.le_of_ble_eq_true rfl, Nat.le_of_ble_eq_true rfl⟩) ⟨qPre_blind _, q_recv hK hP (oX2 isB_1) rfl, fun U hU hW => ⟨rfl, qPre_of hP hK hE hN va_S.rf U hU hW⟩⟩ rfl rfl hl.1 rfl (lv_room (Nat.le_of_ble_eq_true rfl)) dX8_stranded_41 ⟨Nat.le_of_ble_eq_true rfl, Nat.le_of_ble_eq_true rfl⟩) ?_
      refine lv_iload_n hx hb dX8_stranded_44 rfl (lv_at hl 1 rfl) ?_
      refine lv_iconst (v := -1) hx hb dX8_stranded_45 (by decide) ?_
      refine lv_ixor hx hb dX8_stranded_46 ?_
      refine lv_iand hx hb dX8_stranded_47 ?_
      exact W.iret hx hb hr (fun t ht _ => ⟨_, rfl, Option.some.inj hf, ht⟩) (fun _ h => by cases h) dX8_stranded_48
    · have hf := (if_ok hf).2 cc
      refine lv_aload_n hx hb dX8_stranded_15 rfl (lv_at hl 0 rfl) ?_
      refine q_get (C := RX8) (T := TX8) (N := 12) (ci := 8) (v := .ref (ad 1)) hx hb hts in_X8_stranded_X8 hown hK hP oX8 rfl 0 (by decide) (hts (.fieldLink RX8 12 "RowsOnlyPrimes" "now" "LRowsOnlyPrimes$Bank;") (by decide +kernel)) (fun _ h9 => h9) rfl dX8_stranded_16 ?_
      refine lv_iload_n hx hb dX8_stranded_19 rfl (lv_at hl 2 rfl) ?_
      obtain ⟨v5, h6, hf⟩ := bd_ok hf
      refine q_cSi (va_runV (As := [.int x2]) (rest := []) ⟨hx, hb, hml, hown, hts⟩ (c_X2_hireNow l (D := D) (ad := ad) (cy := cy) (sa := sa) (va := va) (I := I) (J := J) 1 isB_1 x2 h6) (cwV 1 hts gX8_stranded_X2_hireNow rfl rfl rfl (by decide +kernel) ⟨Nat.le_of_ble_eq_true rfl, Nat.le_of_ble_eq_true rfl⟩) ⟨qPre_blind _, q_recv hK hP (oX2 isB_1) rfl, fun U hU hW => ⟨rfl, qPre_of hP hK hE hN va_S.rf U hU hW⟩⟩ rfl rfl hl.1 rfl (lv_room (Nat.le_of_ble_eq_true rfl)) dX8_stranded_20 ⟨Nat.le_of_ble_eq_true rfl, Nat.le_of_ble_eq_true rfl⟩) ?_
      refine lv_iconst (v := -1) hx hb dX8_stranded_23 (by decide) ?_
      refine lv_icmp_eq (tgt := 31) hx hb dX8_stranded_24 (by decide) (fun cc => ?_) (fun cc => ?_)
      · have hf := (if_ok hf).1 cc
        refine lv_iinc (v := (x2 + (1 : Int32))) (lv' := [(2, .int (x2 + (1 : Int32))), (0, .ref (ad 0)), (1, .int x1)]) hx hb dX8_stranded_31 hl (k := 2) rfl rfl (by decide) rfl (fun ls hl => ?_)
        refine lv_goto (tgt := 4) hx hb dX8_stranded_34 (by decide) ?_
        exact ih x1 (x2 + (1 : Int32)) _ hf (lv_sub hl [1, 2, 0] rfl)
      · have hf := (if_ok hf).2 cc
        refine lv_iload_n hx hb dX8_stranded_27 rfl (lv_at hl 1 rfl) ?_
        refine lv_iload_n hx hb dX8_stranded_28 rfl (lv_at hl 2 rfl) ?_
        refine lv_ior hx hb dX8_stranded_29 ?_
        refine lv_istore_n (lv' := [(1, .int (x1 ||| x2)), (0, .ref (ad 0)), (2, .int x2)]) hx hb dX8_stranded_30 rfl hl (by decide) rfl (fun ls hl => ?_)
        refine lv_iinc (v := (x2 + (1 : Int32))) (lv' := [(2, .int (x2 + (1 : Int32))), (1, .int (x1 ||| x2)), (0, .ref (ad 0))]) hx hb dX8_stranded_31 hl (k := 2) rfl rfl (by decide) rfl (fun ls hl => ?_)
        refine lv_goto (tgt := 4) hx hb dX8_stranded_34 (by decide) ?_
        exact ih (x1 ||| x2) (x2 + (1 : Int32)) _ hf (lv_sub hl [2, 1, 0] rfl)
set_option maxHeartbeats 4000000 in
set_option maxRecDepth 100000 in
theorem c_X8_stranded (l : Launch) {D : va_G} {ad : Nat → Nat} {cy : Nat → ClassId} {sa va : Nat → Nat} {I : qI} {J : qJ}    {r : Int32} (hf : f_X8_stranded I = some r) : Met l yX8_stranded wsX8_stranded r_X8_stranded (va_Pc [.ref (ad 0)] (qPre D xS ad cy sa va (eX ad cy) I J)) (vp_Si (fun x => x = r)) 0 0 (fun _ => False) := by
  refine Met.ofW (cc := cX8_stranded) (maxL := 3) (ret := (some .int)) (by decide) rfl ?_
  intro p e s m args below meth c s₁ B hml hv
  obtain ⟨rfl, hP, hK, hE, hN⟩ := hv
  have C : qC p s m _ meth c cX8_stranded 3 RX8 wsX8_stranded (some .int) := ⟨⟨B.exec, B.bytes, hml, findClass_of_methodNamed B.named, atoms_spec (ws := wsX8_stranded) B.pre⟩, B.returns, B.notSynchronized⟩
  have C0 := C
  obtain ⟨⟨hx, hb, hml, hown, hts⟩, hr, hlocks⟩ := C0
  have hl := lv_entry ([.ref (ad 0)]) (n := 3) (Nat.le_of_ble_eq_true rfl)
  rw [lg_entry_eq]
  generalize (lg_sl ([.ref (ad 0)]) ++ List.replicate (3 - (lg_sl ([.ref (ad 0)])).length) Slot.unset).toArray = ls at hl ⊢
  have hl : lv_has ls 3 [(0, .ref (ad 0))] := hl
  unfold f_X8_stranded at hf
  refine lv_iconst (v := 0) hx hb dX8_stranded_0 (by decide) ?_
  refine lv_istore_n (lv' := [(1, .int (0 : Int32)), (0, .ref (ad 0))]) hx hb dX8_stranded_1 rfl hl (by decide) rfl (fun ls hl => ?_)
  refine lv_iconst (v := 1) hx hb dX8_stranded_2 (by decide) ?_
  refine lv_istore_n (lv' := [(2, .int (1 : Int32)), (1, .int (0 : Int32)), (0, .ref (ad 0))]) hx hb dX8_stranded_3 rfl hl (by decide) rfl (fun ls hl => ?_)
  exact w_X8_stranded_4 C hK hE hN hP  1000 (0 : Int32) (1 : Int32) _ hf (lv_sub hl [2, 1, 0] rfl)
abbrev r_X8_waiterTrouble : Room := { frames := 2, cells := 0, slots := 0, locals := 43 }
theorem in_X8_waiterTrouble_X8 : ∀ w ∈ u_ws RX8 TX8 12, w ∈ wsX8_waiterTrouble := by decide +kernel
set_option maxHeartbeats 4000000 in
set_option maxRecDepth 100000 in
theorem c_X8_waiterTrouble (l : Launch) {D : va_G} {ad : Nat → Nat} {cy : Nat → ClassId} {sa va : Nat → Nat} {I : qI} {J : qJ}   (p0 : Int32) {r : Int32} (hf : f_X8_waiterTrouble p0 I = some r) : Met l yX8_waiterTrouble wsX8_waiterTrouble r_X8_waiterTrouble (va_Pc [.ref (ad 0), .int p0] (qPre D xS ad cy sa va (eX ad cy) I J)) (vp_Si (fun x => x = r)) 0 0 (fun _ => False) := by
  refine Met.ofW (cc := cX8_waiterTrouble) (maxL := 2) (ret := (some .int)) (by decide) rfl ?_
  intro p e s m args below meth c s₁ B hml hv
  obtain ⟨rfl, hP, hK, hE, hN⟩ := hv
  have C : qC p s m _ meth c cX8_waiterTrouble 2 RX8 wsX8_waiterTrouble (some .int) := ⟨⟨B.exec, B.bytes, hml, findClass_of_methodNamed B.named, atoms_spec (ws := wsX8_waiterTrouble) B.pre⟩, B.returns, B.notSynchronized⟩
  have C0 := C
  obtain ⟨⟨hx, hb, hml, hown, hts⟩, hr, hlocks⟩ := C0
  have hl := lv_entry ([.ref (ad 0), .int p0]) (n := 2) (Nat.le_of_ble_eq_true rfl)
  rw [lg_entry_eq]
  generalize (lg_sl ([.ref (ad 0), .int p0]) ++ List.replicate (2 - (lg_sl ([.ref (ad 0), .int p0])).length) Slot.unset).toArray = ls at hl ⊢
  have hl : lv_has ls 2 [(0, .ref (ad 0)), (1, .int p0)] := hl
  unfold f_X8_waiterTrouble at hf
  refine lv_aload_n hx hb dX8_waiterTrouble_0 rfl (lv_at hl 0 rfl) ?_
  refine q_get (C := RX8) (T := TX8) (N := 12) (ci := 8) (v := .ref (ad 1)) hx hb hts in_X8_waiterTrouble_X8 hown hK hP oX8 rfl 0 (by decide) (hts (.fieldLink RX8 12 "RowsOnlyPrimes" "now" "LRowsOnlyPrimes$Bank;") (by decide +kernel)) (fun _ h9 => h9) rfl dX8_waiterTrouble_1 ?_
  refine lv_iload_n hx hb dX8_waiterTrouble_4 rfl (lv_at hl 1 rfl) ?_
  obtain ⟨v1, h2, hf⟩ := bd_ok hf
  refine q_cSi (va_runV (As := [.int p0]) (rest := []) ⟨hx, hb, hml, hown, hts⟩ (c_X2_hasParty l (D := D) (ad := ad) (cy := cy) (sa := sa) (va := va) (I := I) (J := J) 1 isB_1 p0 h2) (cwV 1 hts gX8_waiterTrouble_X2_hasParty rfl rfl rfl (by decide +kernel) ⟨Nat.le_of_ble_eq_true rfl, Nat.le_of_ble_eq_true rfl⟩) ⟨qPre_blind _, q_recv hK hP (oX2 isB_1) rfl, fun U hU hW => ⟨rfl, qPre_of hP hK hE hN va_S.rf U hU hW⟩⟩ rfl rfl hl.1 rfl (lv_room (Nat.le_of_ble_eq_true rfl)) dX8_waiterTrouble_5 ⟨Nat.le_of_ble_eq_true rfl, Nat.le_of_ble_eq_true rfl⟩) ?_
  refine lv_if_ne (tgt := 15) hx hb dX8_waiterTrouble_8 (by decide) (fun cc => ?_) (fun cc => ?_)
  · have hf := (if_ok hf).2 cc
    refine lv_aload_n hx hb dX8_waiterTrouble_15 rfl (lv_at hl 0 rfl) ?_
    refine q_get (C := RX8) (T := TX8) (N := 12) (ci := 8) (v := .ref (ad 1)) hx hb hts in_X8_waiterTrouble_X8 hown hK hP oX8 rfl 0 (by decide) (hts (.fieldLink RX8 12 "RowsOnlyPrimes" "now" "LRowsOnlyPrimes$Bank;") (by decide +kernel)) (fun _ h9 => h9) rfl dX8_waiterTrouble_16 ?_
    refine lv_iload_n hx hb dX8_waiterTrouble_19 rfl (lv_at hl 1 rfl) ?_
    obtain ⟨v3, h4, hf⟩ := bd_ok hf
    refine q_cSi (va_runV (As := [.int p0]) (rest := []) ⟨hx, hb, hml, hown, hts⟩ (c_X2_isOver l (D := D) (ad := ad) (cy := cy) (sa := sa) (va := va) (I := I) (J := J) 1 isB_1 p0 h4) (cwV 1 hts gX8_waiterTrouble_X2_isOver rfl rfl rfl (by decide +kernel) ⟨Nat.le_of_ble_eq_true rfl, Nat.le_of_ble_eq_true rfl⟩) ⟨qPre_blind _, q_recv hK hP (oX2 isB_1) rfl, fun U hU hW => ⟨rfl, qPre_of hP hK hE hN va_S.rf U hU hW⟩⟩ rfl rfl hl.1 rfl (lv_room (Nat.le_of_ble_eq_true rfl)) dX8_waiterTrouble_20 ⟨Nat.le_of_ble_eq_true rfl, Nat.le_of_ble_eq_true rfl⟩) ?_
    refine lv_if_eq (tgt := 32) hx hb dX8_waiterTrouble_23 (by decide) (fun cc => ?_) (fun cc => ?_)
    · have hf := (if_ok hf).1 cc
      refine lv_iconst (v := 0) hx hb dX8_waiterTrouble_32 (by decide) ?_
      exact W.iret hx hb hr (fun t ht _ => ⟨_, rfl, Option.some.inj hf, ht⟩) (fun _ h => by cases h) dX8_waiterTrouble_33
    · have hf := (if_ok hf).2 cc
      refine lv_sipush (v := -1005) hx hb dX8_waiterTrouble_26 (by decide) ?_
      refine lv_goto (tgt := 33) hx hb dX8_waiterTrouble_29 (by decide) ?_
      exact W.iret hx hb hr (fun t ht _ => ⟨_, rfl, Option.some.inj hf, ht⟩) (fun _ h => by cases h) dX8_waiterTrouble_33
  · have hf := (if_ok hf).1 cc
    refine lv_sipush (v := -1002) hx hb dX8_waiterTrouble_11 (by decide) ?_
    exact W.iret hx hb hr (fun t ht _ => ⟨_, rfl, Option.some.inj hf, ht⟩) (fun _ h => by cases h) dX8_waiterTrouble_14
abbrev r_X8_along : Room := { frames := 5, cells := 0, slots := 0, locals := 112 }
theorem in_X8_along_X2 : ∀ w ∈ u_ws RX2 TX2 13, w ∈ wsX8_along := by decide +kernel
theorem in_X8_along_X8 : ∀ w ∈ u_ws RX8 TX8 12, w ∈ wsX8_along := by decide +kernel
set_option maxHeartbeats 4000000 in
set_option maxRecDepth 100000 in
theorem w_X8_along_81 (C : qC p s m args meth c cX8_along 7 RX8 wsX8_along (some .int)) (hK : qK D cy sa s) (hE : qEnv sa va (qA xS ad) s s.heap) (hN : qN xS ad)   {J : qJ} {r : Int32} {Ie : qI} (k24 : Int32 → Int32 → Int32 → Int32 → qI → Option (Int32 × qI)) (hk24 : ∀ (x1 : Int32) (x3 : Int32) (x4 : Int32) (x5 : Int32)  (I : qI) (ls : Array Slot) (H : Heap) (locs : List Loc), k24 x1 x3 x4 x5 I = some (r, Ie) → lv_has ls 7 [(0, .ref (ad 0)), (1, .int x1), (3, .int x3), (4, .int x4), (5, .int x5)] → qP D xS ad (eX ad cy) I J H → va_S (qA xS ad) s.heap H locs → W p l e (headSpec wsX8_along r_X8_along).room s m args below meth c H locs 0 0 (MQ below (va_Qi (S := Unit) (fun x _ => x = r) (fun _ t => qP D xS ad (eX ad cy) Ie J t.heap) (qA xS ad)) args s 0 0 (qA xS ad)) (F0 m 24 ls [])) : ∀ (x1 : Int32) (x5 : Int32) (x6 : Int32)  (I : qI) (ls : Array Slot) (H : Heap) (locs : List Loc), f_X8_along_81 k24 x1 x5 x6 I = some (r, Ie) → lv_has ls 7 [(0, .ref (ad 0)), (1, .int x1), (5, .int x5), (6, .int x6)] → qP D xS ad (eX ad cy) I J H → va_S (qA xS ad) s.heap H locs → W p l e (headSpec wsX8_along r_X8_along).room s m args below meth c H locs 0 0 (MQ below (va_Qi (S := Unit) (fun x _ => x = r) (fun _ t => qP D xS ad (eX ad cy) Ie J t.heap) (qA xS ad)) args s 0 0 (qA xS ad)) (F0 m 81 ls []) := by
  have C0 := C
  obtain ⟨⟨hx, hb, hml, hown, hts⟩, hr, hlocks⟩ := C0
  intro x1 x5 x6 I ls H locs hf hl hP hS
  unfold f_X8_along_81 at hf
  refine lv_iload hx hb dX8_along_81 (lv_at hl 2 rfl) ?_
  refine lv_istore_n (lv' := [(3, .int x5), (0, .ref (ad 0)), (1, .int x1), (5, .int x5), (6, .int x6)]) hx hb dX8_along_83 rfl hl (by decide) rfl (fun ls hl => ?_)
  refine lv_iload hx hb dX8_along_84 (lv_at hl 4 rfl) ?_
  refine lv_istore (lv' := [(4, .int x6), (3, .int x5), (0, .ref (ad 0)), (1, .int x1), (5, .int x5), (6, .int x6)]) hx hb dX8_along_86 hl (by decide) rfl (fun ls hl => ?_)
  refine lv_iinc (v := (x5 + (1 : Int32))) (lv' := [(5, .int (x5 + (1 : Int32))), (4, .int x6), (3, .int x5), (0, .ref (ad 0)), (1, .int x1), (6, .int x6)]) hx hb dX8_along_88 hl (k := 4) rfl rfl (by decide) rfl (fun ls hl => ?_)
  refine lv_goto (tgt := 24) hx hb dX8_along_91 (by decide) ?_
  exact hk24 x1 x5 x6 (x5 + (1 : Int32)) I _ _ _ hf (lv_sub hl [3, 4, 2, 1, 0] rfl) hP hS
set_option maxHeartbeats 4000000 in
set_option maxRecDepth 100000 in
theorem w_X8_along_61 (C : qC p s m args meth c cX8_along 7 RX8 wsX8_along (some .int)) (hK : qK D cy sa s) (hE : qEnv sa va (qA xS ad) s s.heap) (hN : qN xS ad)   {J : qJ} {r : Int32} {Ie : qI} (k24 : Int32 → Int32 → Int32 → Int32 → qI → Option (Int32 × qI)) (hk24 : ∀ (x1 : Int32) (x3 : Int32) (x4 : Int32) (x5 : Int32)  (I : qI) (ls : Array Slot) (H : Heap) (locs : List Loc), k24 x1 x3 x4 x5 I = some (r, Ie) → lv_has ls 7 [(0, .ref (ad 0)), (1, .int x1), (3, .int x3), (4, .int x4), (5, .int x5)] → qP D xS ad (eX ad cy) I J H → va_S (qA xS ad) s.heap H locs → W p l e (headSpec wsX8_along r_X8_along).room s m args below meth c H locs 0 0 (MQ below (va_Qi (S := Unit) (fun x _ => x = r) (fun _ t => qP D xS ad (eX ad cy) Ie J t.heap) (qA xS ad)) args s 0 0 (qA xS ad)) (F0 m 24 ls [])) : ∀ (x1 : Int32) (x3 : Int32) (x4 : Int32) (x5 : Int32) (xs0 : Int32)  (I : qI) (ls : Array Slot) (H : Heap) (locs : List Loc), f_X8_along_61 k24 x1 x3 x4 x5 xs0 I = some (r, Ie) → lv_has ls 7 [(0, .ref (ad 0)), (1, .int x1), (3, .int x3), (4, .int x4), (5, .int x5)] → qP D xS ad (eX ad cy) I J H → va_S (qA xS ad) s.heap H locs → W p l e (headSpec wsX8_along r_X8_along).room s m args below meth c H locs 0 0 (MQ below (va_Qi (S := Unit) (fun x _ => x = r) (fun _ t => qP D xS ad (eX ad cy) Ie J t.heap) (qA xS ad)) args s 0 0 (qA xS ad)) (F0 m 61 ls [.int xs0]) := by
  have C0 := C
  obtain ⟨⟨hx, hb, hml, hown, hts⟩, hr, hlocks⟩ := C0
  intro x1 x3 x4 x5 xs0 I ls H locs hf hl hP hS
  unfold f_X8_along_61 at hf
  refine lv_istore (lv' := [(6, .int xs0), (0, .ref (ad 0)), (1, .int x1), (3, .int x3), (4, .int x4), (5, .int x5)]) hx hb dX8_along_61 hl (by decide) rfl (fun ls hl => ?_)
  refine lv_iload hx hb dX8_along_63 (lv_at hl 0 rfl) ?_
  refine lv_iconst (v := -1) hx hb dX8_along_65 (by decide) ?_
  refine lv_icmp_eq (tgt := 88) hx hb dX8_along_66 (by decide) (fun cc => ?_) (fun cc => ?_)
  · have hf := (if_ok hf).1 cc
    refine lv_iinc (v := (x5 + (1 : Int32))) (lv' := [(5, .int (x5 + (1 : Int32))), (6, .int xs0), (0, .ref (ad 0)), (1, .int x1), (3, .int x3), (4, .int x4)]) hx hb dX8_along_88 hl (k := 5) rfl rfl (by decide) rfl (fun ls hl => ?_)
    refine lv_goto (tgt := 24) hx hb dX8_along_91 (by decide) ?_
    exact hk24 x1 x3 x4 (x5 + (1 : Int32)) I _ _ _ hf (lv_sub hl [2, 3, 4, 5, 0] rfl) hP hS
  · have hf := (if_ok hf).2 cc
    refine lv_iload_n hx hb dX8_along_69 rfl (lv_at hl 3 rfl) ?_
    refine lv_iconst (v := -1) hx hb dX8_along_70 (by decide) ?_
    refine lv_icmp_eq (tgt := 81) hx hb dX8_along_71 (by decide) (fun cc => ?_) (fun cc => ?_)
    · have hf := (if_ok hf).1 cc
      exact w_X8_along_81 C hK hE hN  k24 hk24  x1 x5 xs0 I _ _ _ hf (lv_sub hl [1, 2, 5, 0] rfl) hP hS
    · have hf := (if_ok hf).2 cc
      refine lv_iload hx hb dX8_along_74 (lv_at hl 0 rfl) ?_
      refine lv_iload hx hb dX8_along_76 (lv_at hl 4 rfl) ?_
      refine lv_icmp_ge (tgt := 88) hx hb dX8_along_78 (by decide) (fun cc => ?_) (fun cc => ?_)
      · have hf := (if_ok hf).1 cc
        refine lv_iinc (v := (x5 + (1 : Int32))) (lv' := [(5, .int (x5 + (1 : Int32))), (6, .int xs0), (0, .ref (ad 0)), (1, .int x1), (3, .int x3), (4, .int x4)]) hx hb dX8_along_88 hl (k := 5) rfl rfl (by decide) rfl (fun ls hl => ?_)
        refine lv_goto (tgt := 24) hx hb dX8_along_91 (by decide) ?_
        exact hk24 x1 x3 x4 (x5 + (1 : Int32)) I _ _ _ hf (lv_sub hl [2, 3, 4, 5, 0] rfl) hP hS
      · have hf := (if_ok hf).2 cc
        exact w_X8_along_81 C hK hE hN  k24 hk24  x1 x5 xs0 I _ _ _ hf (lv_sub hl [1, 2, 5, 0] rfl) hP hS
set_option maxHeartbeats 4000000 in
set_option maxRecDepth 100000 in
theorem w_X8_along_24 (C : qC p s m args meth c cX8_along 7 RX8 wsX8_along (some .int)) (hK : qK D cy sa s) (hE : qEnv sa va (qA xS ad) s s.heap) (hN : qN xS ad)   {J : qJ} {r : Int32} {Ie : qI} : ∀ (n : Nat) (x1 : Int32) (x3 : Int32) (x4 : Int32) (x5 : Int32)  (I : qI) (ls : Array Slot) (H : Heap) (locs : List Loc), f_X8_along_24 n x1 x3 x4 x5 I = some (r, Ie) → lv_has ls 7 [(0, .ref (ad 0)), (1, .int x1), (3, .int x3), (4, .int x4), (5, .int x5)] → qP D xS ad (eX ad cy) I J H → va_S (qA xS ad) s.heap H locs → W p l e (headSpec wsX8_along r_X8_along).room s m args below meth c H locs 0 0 (MQ below (va_Qi (S := Unit) (fun x _ => x = r) (fun _ t => qP D xS ad (eX ad cy) Ie J t.heap) (qA xS ad)) args s 0 0 (qA xS ad)) (F0 m 24 ls []) := by
  have C0 := C
  obtain ⟨⟨hx, hb, hml, hown, hts⟩, hr, hlocks⟩ := C0
  intro n
  induction n with
  | zero =>
    intro x1 x3 x4 x5 I ls H locs hf hl hP hS
    rw [f_X8_along_24] at hf
    cases hf
  | succ n ih =>
    intro x1 x3 x4 x5 I ls H locs hf hl hP hS
    rw [f_X8_along_24] at hf
    refine lv_iload hx hb dX8_along_24 (lv_at hl 4 rfl) ?_
    refine lv_aload_n hx hb dX8_along_26 rfl (lv_at hl 0 rfl) ?_
    refine q_get (C := RX8) (T := TX8) (N := 12) (ci := 8) (v := .ref (ad 1)) hx hb hts in_X8_along_X8 hown hK hP oX8 rfl 0 (by decide) (hts (.fieldLink RX8 12 "RowsOnlyPrimes" "now" "LRowsOnlyPrimes$Bank;") (by decide +kernel)) (fun _ h9 => h9) rfl dX8_along_27 ?_
    refine q_get (C := RX2) (T := TX2) (N := 13) (ci := 2) (v := .int (I 1 7)) hx hb hts in_X8_along_X2 hown hK hP (oX2 isB_1) rfl 7 (by decide) (hts (.fieldLink RX8 232 "RowsOnlyPrimes$Bank" "size" "I") (by decide +kernel)) (fun _ h9 => h9) rfl dX8_along_30 ?_
    refine lv_icmp_ge (tgt := 94) hx hb dX8_along_33 (by decide) (fun cc => ?_) (fun cc => ?_)
    · have hf := (if_ok hf).1 cc
      refine lv_iload_n hx hb dX8_along_94 rfl (lv_at hl 2 rfl) ?_
      have e9 := Option.some.inj hf
      have eI9 : I = Ie := (congrArg Prod.snd e9)
      exact W.iret hx hb hr (fun t ht _ => ⟨⟨_, (), rfl, (congrArg Prod.fst e9), by show qP D _ ad _ _ _ t.heap; rw [ht, ← eI9]; exact hP⟩, hS.F ht⟩) hS.2.2 dX8_along_95
    · have hf := (if_ok hf).2 cc
      refine lv_iload hx hb dX8_along_36 (lv_at hl 4 rfl) ?_
      refine lv_iload_n hx hb dX8_along_38 rfl (lv_at hl 1 rfl) ?_
      refine lv_icmp_ne (tgt := 46) hx hb dX8_along_39 (by decide) (fun cc => ?_) (fun cc => ?_)
      · have hf := (if_ok hf).2 cc
        refine lv_aload_n hx hb dX8_along_46 rfl (lv_at hl 0 rfl) ?_
        refine q_get (C := RX8) (T := TX8) (N := 12) (ci := 8) (v := .ref (ad 1)) hx hb hts in_X8_along_X8 hown hK hP oX8 rfl 0 (by decide) (hts (.fieldLink RX8 12 "RowsOnlyPrimes" "now" "LRowsOnlyPrimes$Bank;") (by decide +kernel)) (fun _ h9 => h9) rfl dX8_along_47 ?_
        refine lv_iconst (v := 1) hx hb dX8_along_50 (by decide) ?_
        refine lv_iload_n hx hb dX8_along_51 rfl (lv_at hl 1 rfl) ?_
        refine lv_ishl hx hb dX8_along_52 ?_
        refine lv_iconst (v := 1) hx hb dX8_along_53 (by decide) ?_
        refine lv_iload hx hb dX8_along_54 (lv_at hl 4 rfl) ?_
        refine lv_ishl hx hb dX8_along_56 ?_
        refine lv_ior hx hb dX8_along_57 ?_
        obtain ⟨v1, h2, hf⟩ := bd_ok hf
        refine q_cSi (va_runV (As := [.int (((1 : Int32) <<< (x1 &&& (31 : Int32))) ||| ((1 : Int32) <<< (x5 &&& (31 : Int32))))]) (rest := []) ⟨hx, hb, hml, hown, hts⟩ (c_X2_hireNow l (D := D) (ad := ad) (cy := cy) (sa := sa) (va := va) (I := I) (J := J) 1 isB_1 (((1 : Int32) <<< (x1 &&& (31 : Int32))) ||| ((1 : Int32) <<< (x5 &&& (31 : Int32)))) h2) (cwV 1 hts gX8_along_X2_hireNow rfl rfl rfl (by decide +kernel) ⟨Nat.le_of_ble_eq_true rfl, Nat.le_of_ble_eq_true rfl⟩) ⟨qPre_blind _, q_recv hK hP (oX2 isB_1) rfl, fun U hU hW => ⟨rfl, qPre_of hP hK hE hN hS U hU hW⟩⟩ rfl rfl hl.1 rfl (lv_room (Nat.le_of_ble_eq_true rfl)) dX8_along_58 ⟨Nat.le_of_ble_eq_true rfl, Nat.le_of_ble_eq_true rfl⟩) ?_
        exact w_X8_along_61 C hK hE hN  (f_X8_along_24 n) ih  x1 x3 x4 x5 v1 I _ _ _ hf (lv_sub hl [0, 1, 2, 3, 4] rfl) hP hS
      · have hf := (if_ok hf).1 cc
        refine lv_iconst (v := -1) hx hb dX8_along_42 (by decide) ?_
        refine lv_goto (tgt := 61) hx hb dX8_along_43 (by decide) ?_
        exact w_X8_along_61 C hK hE hN  (f_X8_along_24 n) ih  x1 x3 x4 x5 (-1 : Int32) I _ _ _ hf (lv_sub hl [0, 1, 2, 3, 4] rfl) hP hS
set_option maxHeartbeats 4000000 in
set_option maxRecDepth 100000 in
theorem c_X8_along (l : Launch) {D : va_G} {ad : Nat → Nat} {cy : Nat → ClassId} {sa va : Nat → Nat} {I : qI} {J : qJ}   (p0 : Int32) {r : Int32} {Ie : qI} (hf : f_X8_along p0 I = some (r, Ie)) : Met l yX8_along wsX8_along r_X8_along (va_Pc [.ref (ad 0), .int p0] (qPre D xS ad cy sa va (eX ad cy) I J)) (va_Qi (S := Unit) (fun x _ => x = r) (fun _ t => qP D xS ad (eX ad cy) Ie J t.heap) (qA xS ad)) 0 0 (qA xS ad) := by
  refine Met.ofW (cc := cX8_along) (maxL := 7) (ret := (some .int)) (by decide) rfl ?_
  intro p e s m args below meth c s₁ B hml hv
  obtain ⟨rfl, hP, hK, hE, hN⟩ := hv
  have C : qC p s m _ meth c cX8_along 7 RX8 wsX8_along (some .int) := ⟨⟨B.exec, B.bytes, hml, findClass_of_methodNamed B.named, atoms_spec (ws := wsX8_along) B.pre⟩, B.returns, B.notSynchronized⟩
  have C0 := C
  obtain ⟨⟨hx, hb, hml, hown, hts⟩, hr, hlocks⟩ := C0
  have hS : va_S (qA xS ad) s.heap s.heap [] := va_S.rf
  have hl := lv_entry ([.ref (ad 0), .int p0]) (n := 7) (Nat.le_of_ble_eq_true rfl)
  rw [lg_entry_eq]
  generalize (lg_sl ([.ref (ad 0), .int p0]) ++ List.replicate (7 - (lg_sl ([.ref (ad 0), .int p0])).length) Slot.unset).toArray = ls at hl ⊢
  have hl : lv_has ls 7 [(0, .ref (ad 0)), (1, .int p0)] := hl
  unfold f_X8_along at hf
  refine lv_aload_n hx hb dX8_along_0 rfl (lv_at hl 0 rfl) ?_
  refine lv_iload_n hx hb dX8_along_1 rfl (lv_at hl 1 rfl) ?_
  obtain ⟨v1, h2, hf⟩ := bd_ok hf
  refine q_cSi (va_runV (As := [.int p0]) (rest := []) ⟨hx, hb, hml, hown, hts⟩ (c_X8_waiterTrouble l (D := D) (ad := ad) (cy := cy) (sa := sa) (va := va) (I := I) (J := J) p0 h2) (cwV 1 hts gX8_along_X8_waiterTrouble rfl rfl rfl (by decide +kernel) ⟨Nat.le_of_ble_eq_true rfl, Nat.le_of_ble_eq_true rfl⟩) ⟨qPre_blind _, q_recv hK hP oX8 rfl, fun U hU hW => ⟨rfl, qPre_of hP hK hE hN hS U hU hW⟩⟩ rfl rfl hl.1 rfl (lv_room (Nat.le_of_ble_eq_true rfl)) dX8_along_2 ⟨Nat.le_of_ble_eq_true rfl, Nat.le_of_ble_eq_true rfl⟩) ?_
  refine lv_istore_n (lv' := [(2, .int v1), (0, .ref (ad 0)), (1, .int p0)]) hx hb dX8_along_5 rfl hl (by decide) rfl (fun ls hl => ?_)
  refine lv_iload_n hx hb dX8_along_6 rfl (lv_at hl 0 rfl) ?_
  refine lv_if_eq (tgt := 16) hx hb dX8_along_7 (by decide) (fun cc => ?_) (fun cc => ?_)
  · have hf := (if_ok hf).1 cc
    refine lv_iconst (v := -1) hx hb dX8_along_16 (by decide) ?_
    refine lv_istore_n (lv' := [(3, .int (-1 : Int32)), (2, .int v1), (0, .ref (ad 0)), (1, .int p0)]) hx hb dX8_along_17 rfl hl (by decide) rfl (fun ls hl => ?_)
    refine lv_iconst (v := -1) hx hb dX8_along_18 (by decide) ?_
    refine lv_istore (lv' := [(4, .int (-1 : Int32)), (3, .int (-1 : Int32)), (2, .int v1), (0, .ref (ad 0)), (1, .int p0)]) hx hb dX8_along_19 hl (by decide) rfl (fun ls hl => ?_)
    refine lv_iconst (v := 0) hx hb dX8_along_21 (by decide) ?_
    refine lv_istore (lv' := [(5, .int (0 : Int32)), (4, .int (-1 : Int32)), (3, .int (-1 : Int32)), (2, .int v1), (0, .ref (ad 0)), (1, .int p0)]) hx hb dX8_along_22 hl (by decide) rfl (fun ls hl => ?_)
    exact w_X8_along_24 C hK hE hN   1000 p0 (-1 : Int32) (-1 : Int32) (0 : Int32) I _ _ _ hf (lv_sub hl [4, 5, 2, 1, 0] rfl) hP hS
  · have hf := (if_ok hf).2 cc
    refine lv_aload_n hx hb dX8_along_10 rfl (lv_at hl 1 rfl) ?_
    refine lv_iload_n hx hb dX8_along_11 rfl (lv_at hl 0 rfl) ?_
    obtain ⟨v3, I4, h5, hf⟩ := bd2_ok hf
    refine q_cEi (va_runV (As := [.int v1]) (rest := []) ⟨hx, hb, hml, hown, hts⟩ (c_X8_refuse l (D := D) (ad := ad) (cy := cy) (sa := sa) (va := va) (I := I) (J := J) v1 h5) (cwV 1 hts gX8_along_X8_refuse rfl rfl rfl (by decide +kernel) ⟨Nat.le_of_ble_eq_true rfl, Nat.le_of_ble_eq_true rfl⟩) ⟨qPre_blind _, q_recv hK hP oX8 rfl, fun U hU hW => ⟨rfl, qPre_of hP hK hE hN hS U hU hW⟩⟩ rfl rfl hl.1 rfl (lv_room (Nat.le_of_ble_eq_true rfl)) dX8_along_12 ⟨Nat.le_of_ble_eq_true rfl, Nat.le_of_ble_eq_true rfl⟩) hS (fun H locs hP hS => ?_)
    have e9 := Option.some.inj hf
    have eI9 : I4 = Ie := (congrArg Prod.snd e9)
    exact W.iret hx hb hr (fun t ht _ => ⟨⟨_, (), rfl, (congrArg Prod.fst e9), by show qP D _ ad _ _ _ t.heap; rw [ht, ← eI9]; exact hP⟩, hS.F ht⟩) hS.2.2 dX8_along_15
abbrev r_X8_plan : Room := { frames := 5, cells := 0, slots := 0, locals := 114 }
theorem in_X8_plan_X8 : ∀ w ∈ u_ws RX8 TX8 12, w ∈ wsX8_plan := by decide +kernel
set_option maxHeartbeats 4000000 in
set_option maxRecDepth 100000 in
theorem c_X8_plan (l : Launch) {D : va_G} {ad : Nat → Nat} {cy : Nat → ClassId} {sa va : Nat → Nat} {I : qI} {J : qJ}   (p0 : Int32) {r : Int32} {Ie : qI} (hf : f_X8_plan p0 I = some (r, Ie)) : Met l yX8_plan wsX8_plan r_X8_plan (va_Pc [.ref (ad 0), .int p0] (qPre D xS ad cy sa va (eX ad cy) I J)) (va_Qi (S := Unit) (fun x _ => x = r) (fun _ t => qP D xS ad (eX ad cy) Ie J t.heap) (qA xS ad)) 0 0 (qA xS ad) := by
  refine Met.ofW (cc := cX8_plan) (maxL := 2) (ret := (some .int)) (by decide) rfl ?_
  intro p e s m args below meth c s₁ B hml hv
  obtain ⟨rfl, hP, hK, hE, hN⟩ := hv
  have C : qC p s m _ meth c cX8_plan 2 RX8 wsX8_plan (some .int) := ⟨⟨B.exec, B.bytes, hml, findClass_of_methodNamed B.named, atoms_spec (ws := wsX8_plan) B.pre⟩, B.returns, B.notSynchronized⟩
  have C0 := C
  obtain ⟨⟨hx, hb, hml, hown, hts⟩, hr, hlocks⟩ := C0
  have hS : va_S (qA xS ad) s.heap s.heap [] := va_S.rf
  have hl := lv_entry ([.ref (ad 0), .int p0]) (n := 2) (Nat.le_of_ble_eq_true rfl)
  rw [lg_entry_eq]
  generalize (lg_sl ([.ref (ad 0), .int p0]) ++ List.replicate (2 - (lg_sl ([.ref (ad 0), .int p0])).length) Slot.unset).toArray = ls at hl ⊢
  have hl : lv_has ls 2 [(0, .ref (ad 0)), (1, .int p0)] := hl
  unfold f_X8_plan at hf
  refine lv_iload_n hx hb dX8_plan_0 rfl (lv_at hl 1 rfl) ?_
  refine lv_bipush (v := -2) hx hb dX8_plan_1 (by decide) ?_
  refine lv_icmp_ge (tgt := 14) hx hb dX8_plan_3 (by decide) (fun cc => ?_) (fun cc => ?_)
  · have hf := (if_ok hf).1 cc
    refine lv_aload_n hx hb dX8_plan_14 rfl (lv_at hl 0 rfl) ?_
    refine q_get (C := RX8) (T := TX8) (N := 12) (ci := 8) (v := .ref (ad 45)) hx hb hts in_X8_plan_X8 hown hK hP oX8 rfl 6 (by decide) (hts (.fieldLink RX8 42 "RowsOnlyPrimes" "plans" "LRowsOnlyPrimes$Plans;") (by decide +kernel)) (fun _ h9 => h9) rfl dX8_plan_15 ?_
    refine lv_aload_n hx hb dX8_plan_18 rfl (lv_at hl 0 rfl) ?_
    refine q_get (C := RX8) (T := TX8) (N := 12) (ci := 8) (v := .ref (ad 1)) hx hb hts in_X8_plan_X8 hown hK hP oX8 rfl 0 (by decide) (hts (.fieldLink RX8 12 "RowsOnlyPrimes" "now" "LRowsOnlyPrimes$Bank;") (by decide +kernel)) (fun _ h9 => h9) rfl dX8_plan_19 ?_
    obtain ⟨I1, h2, hf⟩ := bd_ok hf
    refine q_cEv (va_runV (As := [.ref (ad 1)]) (rest := []) ⟨hx, hb, hml, hown, hts⟩ (c_X5_reckon l (D := D) (ad := ad) (cy := cy) (sa := sa) (va := va) (I := I) (J := J) 1 isB_1 h2) (cwV 1 hts gX8_plan_X5_reckon rfl rfl rfl (by decide +kernel) ⟨Nat.le_of_ble_eq_true rfl, Nat.le_of_ble_eq_true rfl⟩) ⟨qPre_blind _, q_recv hK hP oX5 rfl, fun U hU hW => ⟨rfl, qPre_of hP hK hE hN hS U hU hW⟩⟩ rfl rfl hl.1 rfl (lv_room (Nat.le_of_ble_eq_true rfl)) dX8_plan_22 ⟨Nat.le_of_ble_eq_true rfl, Nat.le_of_ble_eq_true rfl⟩) hS (fun H locs hP hS => ?_)
    refine lv_aload_n hx hb dX8_plan_25 rfl (lv_at hl 0 rfl) ?_
    refine q_get (C := RX8) (T := TX8) (N := 12) (ci := 8) (v := .ref (ad 45)) hx hb hts in_X8_plan_X8 hown hK hP oX8 rfl 6 (by decide) (hts (.fieldLink RX8 42 "RowsOnlyPrimes" "plans" "LRowsOnlyPrimes$Plans;") (by decide +kernel)) (fun _ h9 => h9) rfl dX8_plan_26 ?_
    obtain ⟨v3, h4, hf⟩ := bd_ok hf
    refine q_cSi (va_runV (As := []) (rest := []) ⟨hx, hb, hml, hown, hts⟩ (c_X5_found l (D := D) (ad := ad) (cy := cy) (sa := sa) (va := va) (I := I1) (J := J)  h4) (cwV 0 hts gX8_plan_X5_found rfl rfl rfl (by decide +kernel) ⟨Nat.le_of_ble_eq_true rfl, Nat.le_of_ble_eq_true rfl⟩) ⟨qPre_blind _, q_recv hK hP oX5 rfl, fun U hU hW => ⟨rfl, qPre_of hP hK hE hN hS U hU hW⟩⟩ rfl rfl hl.1 rfl (lv_room (Nat.le_of_ble_eq_true rfl)) dX8_plan_29 ⟨Nat.le_of_ble_eq_true rfl, Nat.le_of_ble_eq_true rfl⟩) ?_
    refine lv_if_ne (tgt := 37) hx hb dX8_plan_32 (by decide) (fun cc => ?_) (fun cc => ?_)
    · have hf := (if_ok hf).2 cc
      refine lv_iload_n hx hb dX8_plan_37 rfl (lv_at hl 1 rfl) ?_
      refine lv_bipush (v := -2) hx hb dX8_plan_38 (by decide) ?_
      refine lv_icmp_ne (tgt := 51) hx hb dX8_plan_40 (by decide) (fun cc => ?_) (fun cc => ?_)
      · have hf := (if_ok hf).2 cc
        refine lv_iload_n hx hb dX8_plan_51 rfl (lv_at hl 1 rfl) ?_
        refine lv_iconst (v := -1) hx hb dX8_plan_52 (by decide) ?_
        refine lv_icmp_ne (tgt := 64) hx hb dX8_plan_53 (by decide) (fun cc => ?_) (fun cc => ?_)
        · have hf := (if_ok hf).2 cc
          refine lv_iload_n hx hb dX8_plan_64 rfl (lv_at hl 1 rfl) ?_
          refine lv_aload_n hx hb dX8_plan_65 rfl (lv_at hl 0 rfl) ?_
          refine q_get (C := RX8) (T := TX8) (N := 12) (ci := 8) (v := .ref (ad 45)) hx hb hts in_X8_plan_X8 hown hK hP oX8 rfl 6 (by decide) (hts (.fieldLink RX8 42 "RowsOnlyPrimes" "plans" "LRowsOnlyPrimes$Plans;") (by decide +kernel)) (fun _ h9 => h9) rfl dX8_plan_66 ?_
          obtain ⟨v5, h6, hf⟩ := bd_ok hf
          refine q_cSi (va_runV (As := []) (rest := [.int p0]) ⟨hx, hb, hml, hown, hts⟩ (c_X5_crossings l (D := D) (ad := ad) (cy := cy) (sa := sa) (va := va) (I := I1) (J := J)  h6) (cwV 0 hts gX8_plan_X5_crossings rfl rfl rfl (by decide +kernel) ⟨Nat.le_of_ble_eq_true rfl, Nat.le_of_ble_eq_true rfl⟩) ⟨qPre_blind _, q_recv hK hP oX5 rfl, fun U hU hW => ⟨rfl, qPre_of hP hK hE hN hS U hU hW⟩⟩ rfl rfl hl.1 rfl (lv_room (Nat.le_of_ble_eq_true rfl)) dX8_plan_69 ⟨Nat.le_of_ble_eq_true rfl, Nat.le_of_ble_eq_true rfl⟩) ?_
          refine lv_icmp_ge (tgt := 86) hx hb dX8_plan_72 (by decide) (fun cc => ?_) (fun cc => ?_)
          · have hf := (if_ok hf).1 cc
            refine lv_aload_n hx hb dX8_plan_86 rfl (lv_at hl 0 rfl) ?_
            refine lv_sipush (v := -1005) hx hb dX8_plan_87 (by decide) ?_
            obtain ⟨v7, I8, h9, hf⟩ := bd2_ok hf
            refine q_cEi (va_runV (As := [.int (-1005 : Int32)]) (rest := []) ⟨hx, hb, hml, hown, hts⟩ (c_X8_refuse l (D := D) (ad := ad) (cy := cy) (sa := sa) (va := va) (I := I1) (J := J) (-1005 : Int32) h9) (cwV 1 hts gX8_plan_X8_refuse rfl rfl rfl (by decide +kernel) ⟨Nat.le_of_ble_eq_true rfl, Nat.le_of_ble_eq_true rfl⟩) ⟨qPre_blind _, q_recv hK hP oX8 rfl, fun U hU hW => ⟨rfl, qPre_of hP hK hE hN hS U hU hW⟩⟩ rfl rfl hl.1 rfl (lv_room (Nat.le_of_ble_eq_true rfl)) dX8_plan_90 ⟨Nat.le_of_ble_eq_true rfl, Nat.le_of_ble_eq_true rfl⟩) hS (fun H locs hP hS => ?_)
            have e9 := Option.some.inj hf
            have eI9 : I8 = Ie := (congrArg Prod.snd e9)
            exact W.iret hx hb hr (fun t ht _ => ⟨⟨_, (), rfl, (congrArg Prod.fst e9), by show qP D _ ad _ _ _ t.heap; rw [ht, ← eI9]; exact hP⟩, hS.F ht⟩) hS.2.2 dX8_plan_93
          · have hf := (if_ok hf).2 cc
            refine lv_aload_n hx hb dX8_plan_75 rfl (lv_at hl 0 rfl) ?_
            refine q_get (C := RX8) (T := TX8) (N := 12) (ci := 8) (v := .ref (ad 45)) hx hb hts in_X8_plan_X8 hown hK hP oX8 rfl 6 (by decide) (hts (.fieldLink RX8 42 "RowsOnlyPrimes" "plans" "LRowsOnlyPrimes$Plans;") (by decide +kernel)) (fun _ h9 => h9) rfl dX8_plan_76 ?_
            refine lv_iload_n hx hb dX8_plan_79 rfl (lv_at hl 1 rfl) ?_
            obtain ⟨v10, h11, hf⟩ := bd_ok hf
            refine q_cSi (va_runV (As := [.int p0]) (rest := []) ⟨hx, hb, hml, hown, hts⟩ (c_X5_groupAt l (D := D) (ad := ad) (cy := cy) (sa := sa) (va := va) (I := I1) (J := J) p0 h11) (cwV 1 hts gX8_plan_X5_groupAt rfl rfl rfl (by decide +kernel) ⟨Nat.le_of_ble_eq_true rfl, Nat.le_of_ble_eq_true rfl⟩) ⟨qPre_blind _, q_recv hK hP oX5 rfl, fun U hU hW => ⟨rfl, qPre_of hP hK hE hN hS U hU hW⟩⟩ rfl rfl hl.1 rfl (lv_room (Nat.le_of_ble_eq_true rfl)) dX8_plan_80 ⟨Nat.le_of_ble_eq_true rfl, Nat.le_of_ble_eq_true rfl⟩) ?_
            refine lv_goto (tgt := 93) hx hb dX8_plan_83 (by decide) ?_
            have e9 := Option.some.inj hf
            have eI9 : I1 = Ie := (congrArg Prod.snd e9)
            exact W.iret hx hb hr (fun t ht _ => ⟨⟨_, (), rfl, (congrArg Prod.fst e9), by show qP D _ ad _ _ _ t.heap; rw [ht, ← eI9]; exact hP⟩, hS.F ht⟩) hS.2.2 dX8_plan_93
        · have hf := (if_ok hf).1 cc
          refine lv_aload_n hx hb dX8_plan_56 rfl (lv_at hl 0 rfl) ?_
          refine q_get (C := RX8) (T := TX8) (N := 12) (ci := 8) (v := .ref (ad 45)) hx hb hts in_X8_plan_X8 hown hK hP oX8 rfl 6 (by decide) (hts (.fieldLink RX8 42 "RowsOnlyPrimes" "plans" "LRowsOnlyPrimes$Plans;") (by decide +kernel)) (fun _ h9 => h9) rfl dX8_plan_57 ?_
          obtain ⟨v12, h13, hf⟩ := bd_ok hf
          refine q_cSi (va_runV (As := []) (rest := []) ⟨hx, hb, hml, hown, hts⟩ (c_X5_hermits l (D := D) (ad := ad) (cy := cy) (sa := sa) (va := va) (I := I1) (J := J)  h13) (cwV 0 hts gX8_plan_X5_hermits rfl rfl rfl (by decide +kernel) ⟨Nat.le_of_ble_eq_true rfl, Nat.le_of_ble_eq_true rfl⟩) ⟨qPre_blind _, q_recv hK hP oX5 rfl, fun U hU hW => ⟨rfl, qPre_of hP hK hE hN hS U hU hW⟩⟩ rfl rfl hl.1 rfl (lv_room (Nat.le_of_ble_eq_true rfl)) dX8_plan_60 ⟨Nat.le_of_ble_eq_true rfl, Nat.le_of_ble_eq_true rfl⟩) ?_
          have e9 := Option.some.inj hf
          have eI9 : I1 = Ie := (congrArg Prod.snd e9)
          exact W.iret hx hb hr (fun t ht _ => ⟨⟨_, (), rfl, (congrArg Prod.fst e9), by show qP D _ ad _ _ _ t.heap; rw [ht, ← eI9]; exact hP⟩, hS.F ht⟩) hS.2.2 dX8_plan_63
      · have hf := (if_ok hf).1 cc
        refine lv_aload_n hx hb dX8_plan_43 rfl (lv_at hl 0 rfl) ?_
        refine q_get (C := RX8) (T := TX8) (N := 12) (ci := 8) (v := .ref (ad 45)) hx hb hts in_X8_plan_X8 hown hK hP oX8 rfl 6 (by decide) (hts (.fieldLink RX8 42 "RowsOnlyPrimes" "plans" "LRowsOnlyPrimes$Plans;") (by decide +kernel)) (fun _ h9 => h9) rfl dX8_plan_44 ?_
        obtain ⟨v14, h15, hf⟩ := bd_ok hf
        refine q_cSi (va_runV (As := []) (rest := []) ⟨hx, hb, hml, hown, hts⟩ (c_X5_crossings l (D := D) (ad := ad) (cy := cy) (sa := sa) (va := va) (I := I1) (J := J)  h15) (cwV 0 hts gX8_plan_X5_crossings rfl rfl rfl (by decide +kernel) ⟨Nat.le_of_ble_eq_true rfl, Nat.le_of_ble_eq_true rfl⟩) ⟨qPre_blind _, q_recv hK hP oX5 rfl, fun U hU hW => ⟨rfl, qPre_of hP hK hE hN hS U hU hW⟩⟩ rfl rfl hl.1 rfl (lv_room (Nat.le_of_ble_eq_true rfl)) dX8_plan_47 ⟨Nat.le_of_ble_eq_true rfl, Nat.le_of_ble_eq_true rfl⟩) ?_
        have e9 := Option.some.inj hf
        have eI9 : I1 = Ie := (congrArg Prod.snd e9)
        exact W.iret hx hb hr (fun t ht _ => ⟨⟨_, (), rfl, (congrArg Prod.fst e9), by show qP D _ ad _ _ _ t.heap; rw [ht, ← eI9]; exact hP⟩, hS.F ht⟩) hS.2.2 dX8_plan_50
    · have hf := (if_ok hf).1 cc
      refine lv_iconst (v := -1) hx hb dX8_plan_35 (by decide) ?_
      have e9 := Option.some.inj hf
      have eI9 : I1 = Ie := (congrArg Prod.snd e9)
      exact W.iret hx hb hr (fun t ht _ => ⟨⟨_, (), rfl, (congrArg Prod.fst e9), by show qP D _ ad _ _ _ t.heap; rw [ht, ← eI9]; exact hP⟩, hS.F ht⟩) hS.2.2 dX8_plan_36
  · have hf := (if_ok hf).2 cc
    refine lv_aload_n hx hb dX8_plan_6 rfl (lv_at hl 0 rfl) ?_
    refine lv_sipush (v := -1002) hx hb dX8_plan_7 (by decide) ?_
    obtain ⟨v16, I17, h18, hf⟩ := bd2_ok hf
    refine q_cEi (va_runV (As := [.int (-1002 : Int32)]) (rest := []) ⟨hx, hb, hml, hown, hts⟩ (c_X8_refuse l (D := D) (ad := ad) (cy := cy) (sa := sa) (va := va) (I := I) (J := J) (-1002 : Int32) h18) (cwV 1 hts gX8_plan_X8_refuse rfl rfl rfl (by decide +kernel) ⟨Nat.le_of_ble_eq_true rfl, Nat.le_of_ble_eq_true rfl⟩) ⟨qPre_blind _, q_recv hK hP oX8 rfl, fun U hU hW => ⟨rfl, qPre_of hP hK hE hN hS U hU hW⟩⟩ rfl rfl hl.1 rfl (lv_room (Nat.le_of_ble_eq_true rfl)) dX8_plan_10 ⟨Nat.le_of_ble_eq_true rfl, Nat.le_of_ble_eq_true rfl⟩) hS (fun H locs hP hS => ?_)
    have e9 := Option.some.inj hf
    have eI9 : I17 = Ie := (congrArg Prod.snd e9)
    exact W.iret hx hb hr (fun t ht _ => ⟨⟨_, (), rfl, (congrArg Prod.fst e9), by show qP D _ ad _ _ _ t.heap; rw [ht, ← eI9]; exact hP⟩, hS.F ht⟩) hS.2.2 dX8_plan_13
abbrev r_X8_worth : Room := { frames := 5, cells := 0, slots := 0, locals := 114 }
theorem in_X8_worth_X2 : ∀ w ∈ u_ws RX2 TX2 13, w ∈ wsX8_worth := by decide +kernel
theorem in_X8_worth_X8 : ∀ w ∈ u_ws RX8 TX8 12, w ∈ wsX8_worth := by decide +kernel
set_option maxHeartbeats 4000000 in
set_option maxRecDepth 100000 in
theorem c_X8_worth (l : Launch) {D : va_G} {ad : Nat → Nat} {cy : Nat → ClassId} {sa va : Nat → Nat} {I : qI} {J : qJ}   (p0 : Int32) {r : Int32} {Ie : qI} (hf : f_X8_worth p0 I = some (r, Ie)) : Met l yX8_worth wsX8_worth r_X8_worth (va_Pc [.ref (ad 0), .int p0] (qPre D xS ad cy sa va (eX ad cy) I J)) (va_Qi (S := Unit) (fun x _ => x = r) (fun _ t => qP D xS ad (eX ad cy) Ie J t.heap) (qA xS ad)) 0 0 (qA xS ad) := by
  refine Met.ofW (cc := cX8_worth) (maxL := 5) (ret := (some .int)) (by decide) rfl ?_
  intro p e s m args below meth c s₁ B hml hv
  obtain ⟨rfl, hP, hK, hE, hN⟩ := hv
  have C : qC p s m _ meth c cX8_worth 5 RX8 wsX8_worth (some .int) := ⟨⟨B.exec, B.bytes, hml, findClass_of_methodNamed B.named, atoms_spec (ws := wsX8_worth) B.pre⟩, B.returns, B.notSynchronized⟩
  have C0 := C
  obtain ⟨⟨hx, hb, hml, hown, hts⟩, hr, hlocks⟩ := C0
  have hS : va_S (qA xS ad) s.heap s.heap [] := va_S.rf
  have hl := lv_entry ([.ref (ad 0), .int p0]) (n := 5) (Nat.le_of_ble_eq_true rfl)
  rw [lg_entry_eq]
  generalize (lg_sl ([.ref (ad 0), .int p0]) ++ List.replicate (5 - (lg_sl ([.ref (ad 0), .int p0])).length) Slot.unset).toArray = ls at hl ⊢
  have hl : lv_has ls 5 [(0, .ref (ad 0)), (1, .int p0)] := hl
  unfold f_X8_worth at hf
  refine lv_aload_n hx hb dX8_worth_0 rfl (lv_at hl 0 rfl) ?_
  refine lv_iload_n hx hb dX8_worth_1 rfl (lv_at hl 1 rfl) ?_
  obtain ⟨v1, h2, hf⟩ := bd_ok hf
  refine q_cSi (va_runV (As := [.int p0]) (rest := []) ⟨hx, hb, hml, hown, hts⟩ (c_X8_waiterTrouble l (D := D) (ad := ad) (cy := cy) (sa := sa) (va := va) (I := I) (J := J) p0 h2) (cwV 1 hts gX8_worth_X8_waiterTrouble rfl rfl rfl (by decide +kernel) ⟨Nat.le_of_ble_eq_true rfl, Nat.le_of_ble_eq_true rfl⟩) ⟨qPre_blind _, q_recv hK hP oX8 rfl, fun U hU hW => ⟨rfl, qPre_of hP hK hE hN hS U hU hW⟩⟩ rfl rfl hl.1 rfl (lv_room (Nat.le_of_ble_eq_true rfl)) dX8_worth_2 ⟨Nat.le_of_ble_eq_true rfl, Nat.le_of_ble_eq_true rfl⟩) ?_
  refine lv_istore_n (lv' := [(2, .int v1), (0, .ref (ad 0)), (1, .int p0)]) hx hb dX8_worth_5 rfl hl (by decide) rfl (fun ls hl => ?_)
  refine lv_iload_n hx hb dX8_worth_6 rfl (lv_at hl 0 rfl) ?_
  refine lv_if_eq (tgt := 16) hx hb dX8_worth_7 (by decide) (fun cc => ?_) (fun cc => ?_)
  · have hf := (if_ok hf).1 cc
    refine lv_aload_n hx hb dX8_worth_16 rfl (lv_at hl 1 rfl) ?_
    refine q_get (C := RX8) (T := TX8) (N := 12) (ci := 8) (v := .ref (ad 45)) hx hb hts in_X8_worth_X8 hown hK hP oX8 rfl 6 (by decide) (hts (.fieldLink RX8 42 "RowsOnlyPrimes" "plans" "LRowsOnlyPrimes$Plans;") (by decide +kernel)) (fun _ h9 => h9) rfl dX8_worth_17 ?_
    refine lv_aload_n hx hb dX8_worth_20 rfl (lv_at hl 1 rfl) ?_
    refine q_get (C := RX8) (T := TX8) (N := 12) (ci := 8) (v := .ref (ad 1)) hx hb hts in_X8_worth_X8 hown hK hP oX8 rfl 0 (by decide) (hts (.fieldLink RX8 12 "RowsOnlyPrimes" "now" "LRowsOnlyPrimes$Bank;") (by decide +kernel)) (fun _ h9 => h9) rfl dX8_worth_21 ?_
    obtain ⟨I3, h4, hf⟩ := bd_ok hf
    refine q_cEv (va_runV (As := [.ref (ad 1)]) (rest := []) ⟨hx, hb, hml, hown, hts⟩ (c_X5_reckon l (D := D) (ad := ad) (cy := cy) (sa := sa) (va := va) (I := I) (J := J) 1 isB_1 h4) (cwV 1 hts gX8_worth_X5_reckon rfl rfl rfl (by decide +kernel) ⟨Nat.le_of_ble_eq_true rfl, Nat.le_of_ble_eq_true rfl⟩) ⟨qPre_blind _, q_recv hK hP oX5 rfl, fun U hU hW => ⟨rfl, qPre_of hP hK hE hN hS U hU hW⟩⟩ rfl rfl hl.1 rfl (lv_room (Nat.le_of_ble_eq_true rfl)) dX8_worth_24 ⟨Nat.le_of_ble_eq_true rfl, Nat.le_of_ble_eq_true rfl⟩) hS (fun H locs hP hS => ?_)
    refine lv_aload_n hx hb dX8_worth_27 rfl (lv_at hl 1 rfl) ?_
    refine q_get (C := RX8) (T := TX8) (N := 12) (ci := 8) (v := .ref (ad 45)) hx hb hts in_X8_worth_X8 hown hK hP oX8 rfl 6 (by decide) (hts (.fieldLink RX8 42 "RowsOnlyPrimes" "plans" "LRowsOnlyPrimes$Plans;") (by decide +kernel)) (fun _ h9 => h9) rfl dX8_worth_28 ?_
    obtain ⟨v5, h6, hf⟩ := bd_ok hf
    refine q_cSi (va_runV (As := []) (rest := []) ⟨hx, hb, hml, hown, hts⟩ (c_X5_hermits l (D := D) (ad := ad) (cy := cy) (sa := sa) (va := va) (I := I3) (J := J)  h6) (cwV 0 hts gX8_worth_X5_hermits rfl rfl rfl (by decide +kernel) ⟨Nat.le_of_ble_eq_true rfl, Nat.le_of_ble_eq_true rfl⟩) ⟨qPre_blind _, q_recv hK hP oX5 rfl, fun U hU hW => ⟨rfl, qPre_of hP hK hE hN hS U hU hW⟩⟩ rfl rfl hl.1 rfl (lv_room (Nat.le_of_ble_eq_true rfl)) dX8_worth_31 ⟨Nat.le_of_ble_eq_true rfl, Nat.le_of_ble_eq_true rfl⟩) ?_
    refine lv_istore_n (lv' := [(3, .int v5), (2, .int v1), (0, .ref (ad 0)), (1, .int p0)]) hx hb dX8_worth_34 rfl hl (by decide) rfl (fun ls hl => ?_)
    refine lv_aload_n hx hb dX8_worth_35 rfl (lv_at hl 2 rfl) ?_
    refine q_get (C := RX8) (T := TX8) (N := 12) (ci := 8) (v := .ref (ad 17)) hx hb hts in_X8_worth_X8 hown hK hP oX8 rfl 2 (by decide) (hts (.fieldLink RX8 19 "RowsOnlyPrimes" "draft" "LRowsOnlyPrimes$Bank;") (by decide +kernel)) (fun _ h9 => h9) rfl dX8_worth_36 ?_
    refine lv_aload_n hx hb dX8_worth_39 rfl (lv_at hl 2 rfl) ?_
    refine q_get (C := RX8) (T := TX8) (N := 12) (ci := 8) (v := .ref (ad 1)) hx hb hts in_X8_worth_X8 hown hK hP oX8 rfl 0 (by decide) (hts (.fieldLink RX8 12 "RowsOnlyPrimes" "now" "LRowsOnlyPrimes$Bank;") (by decide +kernel)) (fun _ h9 => h9) rfl dX8_worth_40 ?_
    obtain ⟨I7, h8, hf⟩ := bd_ok hf
    refine q_cEv (va_runV (As := [.ref (ad 1)]) (rest := []) ⟨hx, hb, hml, hown, hts⟩ (c_X2_become l (D := D) (ad := ad) (cy := cy) (sa := sa) (va := va) (I := I3) (J := J) 17 1 isB_17 isB_1 h8) (cwV 1 hts gX8_worth_X2_become rfl rfl rfl (by decide +kernel) ⟨Nat.le_of_ble_eq_true rfl, Nat.le_of_ble_eq_true rfl⟩) ⟨qPre_blind _, q_recv hK hP (oX2 isB_17) rfl, fun U hU hW => ⟨rfl, qPre_of hP hK hE hN hS U hU hW⟩⟩ rfl rfl hl.1 rfl (lv_room (Nat.le_of_ble_eq_true rfl)) dX8_worth_43 ⟨Nat.le_of_ble_eq_true rfl, Nat.le_of_ble_eq_true rfl⟩) hS (fun H locs hP hS => ?_)
    refine lv_aload_n hx hb dX8_worth_46 rfl (lv_at hl 2 rfl) ?_
    refine q_get (C := RX8) (T := TX8) (N := 12) (ci := 8) (v := .ref (ad 17)) hx hb hts in_X8_worth_X8 hown hK hP oX8 rfl 2 (by decide) (hts (.fieldLink RX8 19 "RowsOnlyPrimes" "draft" "LRowsOnlyPrimes$Bank;") (by decide +kernel)) (fun _ h9 => h9) rfl dX8_worth_47 ?_
    refine lv_dup hx hb dX8_worth_50 rfl ?_
    refine q_get (C := RX2) (T := TX2) (N := 13) (ci := 2) (v := .int (I7 17 8)) hx hb hts in_X8_worth_X2 hown hK hP (oX2 isB_17) rfl 8 (by decide) (hts (.fieldLink RX8 250 "RowsOnlyPrimes$Bank" "over" "I") (by decide +kernel)) (fun _ h9 => h9) rfl dX8_worth_51 ?_
    refine lv_iconst (v := 1) hx hb dX8_worth_54 (by decide) ?_
    refine lv_iload_n hx hb dX8_worth_55 rfl (lv_at hl 3 rfl) ?_
    refine lv_ishl hx hb dX8_worth_56 ?_
    refine lv_ior hx hb dX8_worth_57 ?_
    obtain ⟨I9, eI9, hf⟩ := lt_ok hf
    refine q_put (C := RX2) (T := TX2) (N := 13) (ci := 2) (v := .int ((I7 17 8) ||| ((1 : Int32) <<< (p0 &&& (31 : Int32))))) (x := ((I7 17 8) ||| ((1 : Int32) <<< (p0 &&& (31 : Int32))))) (ty := .int) hx hb hts in_X8_worth_X2 tyX2 tyX2_ok nmX2 hown hK hP hN hS (oX2 isB_17) rfl 8 (by decide) (hts (.fieldLink RX8 250 "RowsOnlyPrimes$Bank" "over" "I") (by decide +kernel)) (fun _ h9 => h9) rfl (by decide +kernel) rfl rfl (fun _ _ => rfl) (fun _ _ => Nat.le_of_ble_eq_true rfl) dX8_worth_58 (fun H locs hP hS => ?_)
    rw [← eI9] at hP
    refine lv_aload_n hx hb dX8_worth_61 rfl (lv_at hl 2 rfl) ?_
    refine q_get (C := RX8) (T := TX8) (N := 12) (ci := 8) (v := .ref (ad 45)) hx hb hts in_X8_worth_X8 hown hK hP oX8 rfl 6 (by decide) (hts (.fieldLink RX8 42 "RowsOnlyPrimes" "plans" "LRowsOnlyPrimes$Plans;") (by decide +kernel)) (fun _ h9 => h9) rfl dX8_worth_62 ?_
    refine lv_aload_n hx hb dX8_worth_65 rfl (lv_at hl 2 rfl) ?_
    refine q_get (C := RX8) (T := TX8) (N := 12) (ci := 8) (v := .ref (ad 17)) hx hb hts in_X8_worth_X8 hown hK hP oX8 rfl 2 (by decide) (hts (.fieldLink RX8 19 "RowsOnlyPrimes" "draft" "LRowsOnlyPrimes$Bank;") (by decide +kernel)) (fun _ h9 => h9) rfl dX8_worth_66 ?_
    obtain ⟨I10, h11, hf⟩ := bd_ok hf
    refine q_cEv (va_runV (As := [.ref (ad 17)]) (rest := []) ⟨hx, hb, hml, hown, hts⟩ (c_X5_reckon l (D := D) (ad := ad) (cy := cy) (sa := sa) (va := va) (I := I9) (J := J) 17 isB_17 h11) (cwV 1 hts gX8_worth_X5_reckon rfl rfl rfl (by decide +kernel) ⟨Nat.le_of_ble_eq_true rfl, Nat.le_of_ble_eq_true rfl⟩) ⟨qPre_blind _, q_recv hK hP oX5 rfl, fun U hU hW => ⟨rfl, qPre_of hP hK hE hN hS U hU hW⟩⟩ rfl rfl hl.1 rfl (lv_room (Nat.le_of_ble_eq_true rfl)) dX8_worth_69 ⟨Nat.le_of_ble_eq_true rfl, Nat.le_of_ble_eq_true rfl⟩) hS (fun H locs hP hS => ?_)
    refine lv_aload_n hx hb dX8_worth_72 rfl (lv_at hl 2 rfl) ?_
    refine q_get (C := RX8) (T := TX8) (N := 12) (ci := 8) (v := .ref (ad 45)) hx hb hts in_X8_worth_X8 hown hK hP oX8 rfl 6 (by decide) (hts (.fieldLink RX8 42 "RowsOnlyPrimes" "plans" "LRowsOnlyPrimes$Plans;") (by decide +kernel)) (fun _ h9 => h9) rfl dX8_worth_73 ?_
    obtain ⟨v12, h13, hf⟩ := bd_ok hf
    refine q_cSi (va_runV (As := []) (rest := []) ⟨hx, hb, hml, hown, hts⟩ (c_X5_hermits l (D := D) (ad := ad) (cy := cy) (sa := sa) (va := va) (I := I10) (J := J)  h13) (cwV 0 hts gX8_worth_X5_hermits rfl rfl rfl (by decide +kernel) ⟨Nat.le_of_ble_eq_true rfl, Nat.le_of_ble_eq_true rfl⟩) ⟨qPre_blind _, q_recv hK hP oX5 rfl, fun U hU hW => ⟨rfl, qPre_of hP hK hE hN hS U hU hW⟩⟩ rfl rfl hl.1 rfl (lv_room (Nat.le_of_ble_eq_true rfl)) dX8_worth_76 ⟨Nat.le_of_ble_eq_true rfl, Nat.le_of_ble_eq_true rfl⟩) ?_
    refine lv_istore (lv' := [(4, .int v12), (3, .int v5), (2, .int v1), (0, .ref (ad 0)), (1, .int p0)]) hx hb dX8_worth_79 hl (by decide) rfl (fun ls hl => ?_)
    refine lv_iload_n hx hb dX8_worth_81 rfl (lv_at hl 1 rfl) ?_
    refine lv_iconst (v := -1) hx hb dX8_worth_82 (by decide) ?_
    refine lv_icmp_eq (tgt := 92) hx hb dX8_worth_83 (by decide) (fun cc => ?_) (fun cc => ?_)
    · have hf := (if_ok hf).1 cc
      refine lv_sipush (v := -1000) hx hb dX8_worth_92 (by decide) ?_
      refine lv_goto (tgt := 102) hx hb dX8_worth_95 (by decide) ?_
      have e9 := Option.some.inj hf
      have eI9 : I10 = Ie := (congrArg Prod.snd e9)
      exact W.iret hx hb hr (fun t ht _ => ⟨⟨_, (), rfl, (congrArg Prod.fst e9), by show qP D _ ad _ _ _ t.heap; rw [ht, ← eI9]; exact hP⟩, hS.F ht⟩) hS.2.2 dX8_worth_102
    · have hf := (if_ok hf).2 cc
      refine lv_iload hx hb dX8_worth_86 (lv_at hl 0 rfl) ?_
      refine lv_iconst (v := -1) hx hb dX8_worth_88 (by decide) ?_
      refine lv_icmp_ne (tgt := 98) hx hb dX8_worth_89 (by decide) (fun cc => ?_) (fun cc => ?_)
      · have hf := (if_ok hf).2 cc
        refine lv_iload hx hb dX8_worth_98 (lv_at hl 0 rfl) ?_
        refine lv_iload_n hx hb dX8_worth_100 rfl (lv_at hl 1 rfl) ?_
        refine lv_isub hx hb dX8_worth_101 ?_
        have e9 := Option.some.inj hf
        have eI9 : I10 = Ie := (congrArg Prod.snd e9)
        exact W.iret hx hb hr (fun t ht _ => ⟨⟨_, (), rfl, (congrArg Prod.fst e9), by show qP D _ ad _ _ _ t.heap; rw [ht, ← eI9]; exact hP⟩, hS.F ht⟩) hS.2.2 dX8_worth_102
      · have hf := (if_ok hf).1 cc
        refine lv_sipush (v := -1000) hx hb dX8_worth_92 (by decide) ?_
        refine lv_goto (tgt := 102) hx hb dX8_worth_95 (by decide) ?_
        have e9 := Option.some.inj hf
        have eI9 : I10 = Ie := (congrArg Prod.snd e9)
        exact W.iret hx hb hr (fun t ht _ => ⟨⟨_, (), rfl, (congrArg Prod.fst e9), by show qP D _ ad _ _ _ t.heap; rw [ht, ← eI9]; exact hP⟩, hS.F ht⟩) hS.2.2 dX8_worth_102
  · have hf := (if_ok hf).2 cc
    refine lv_aload_n hx hb dX8_worth_10 rfl (lv_at hl 1 rfl) ?_
    refine lv_iload_n hx hb dX8_worth_11 rfl (lv_at hl 0 rfl) ?_
    obtain ⟨v14, I15, h16, hf⟩ := bd2_ok hf
    refine q_cEi (va_runV (As := [.int v1]) (rest := []) ⟨hx, hb, hml, hown, hts⟩ (c_X8_refuse l (D := D) (ad := ad) (cy := cy) (sa := sa) (va := va) (I := I) (J := J) v1 h16) (cwV 1 hts gX8_worth_X8_refuse rfl rfl rfl (by decide +kernel) ⟨Nat.le_of_ble_eq_true rfl, Nat.le_of_ble_eq_true rfl⟩) ⟨qPre_blind _, q_recv hK hP oX8 rfl, fun U hU hW => ⟨rfl, qPre_of hP hK hE hN hS U hU hW⟩⟩ rfl rfl hl.1 rfl (lv_room (Nat.le_of_ble_eq_true rfl)) dX8_worth_12 ⟨Nat.le_of_ble_eq_true rfl, Nat.le_of_ble_eq_true rfl⟩) hS (fun H locs hP hS => ?_)
    have e9 := Option.some.inj hf
    have eI9 : I15 = Ie := (congrArg Prod.snd e9)
    exact W.iret hx hb hr (fun t ht _ => ⟨⟨_, (), rfl, (congrArg Prod.fst e9), by show qP D _ ad _ _ _ t.heap; rw [ht, ← eI9]; exact hP⟩, hS.F ht⟩) hS.2.2 dX8_worth_15
abbrev r_X8_planIf : Room := { frames := 5, cells := 0, slots := 0, locals := 114 }
theorem in_X8_planIf_X2 : ∀ w ∈ u_ws RX2 TX2 13, w ∈ wsX8_planIf := by decide +kernel
theorem in_X8_planIf_X8 : ∀ w ∈ u_ws RX8 TX8 12, w ∈ wsX8_planIf := by decide +kernel
set_option maxHeartbeats 4000000 in
set_option maxRecDepth 100000 in
theorem w_X8_planIf_30 (C : qC p s m args meth c cX8_planIf 3 RX8 wsX8_planIf none) (hK : qK D cy sa s) (hE : qEnv sa va (qA xS ad) s s.heap) (hN : qN xS ad)   {J : qJ} {Ie : qI} : ∀   (I : qI) (ls : Array Slot) (H : Heap) (locs : List Loc), f_X8_planIf_30 I = some Ie → lv_has ls 3 [(0, .ref (ad 0))] → qP D xS ad (eX ad cy) I J H → va_S (qA xS ad) s.heap H locs → W p l e (headSpec wsX8_planIf r_X8_planIf).room s m args below meth c H locs 0 0 (MQ below (va_Qv (S := Unit) (fun _ => True) (fun _ t => qP D xS ad (eX ad cy) Ie J t.heap) (qA xS ad)) args s 0 0 (qA xS ad)) (F0 m 30 ls []) := by
  have C0 := C
  obtain ⟨⟨hx, hb, hml, hown, hts⟩, hr, hlocks⟩ := C0
  intro I ls H locs hf hl hP hS
  unfold f_X8_planIf_30 at hf
  refine lv_aload_n hx hb dX8_planIf_30 rfl (lv_at hl 0 rfl) ?_
  refine q_get (C := RX8) (T := TX8) (N := 12) (ci := 8) (v := .ref (ad 45)) hx hb hts in_X8_planIf_X8 hown hK hP oX8 rfl 6 (by decide) (hts (.fieldLink RX8 42 "RowsOnlyPrimes" "plans" "LRowsOnlyPrimes$Plans;") (by decide +kernel)) (fun _ h9 => h9) rfl dX8_planIf_31 ?_
  refine lv_aload_n hx hb dX8_planIf_34 rfl (lv_at hl 0 rfl) ?_
  refine q_get (C := RX8) (T := TX8) (N := 12) (ci := 8) (v := .ref (ad 17)) hx hb hts in_X8_planIf_X8 hown hK hP oX8 rfl 2 (by decide) (hts (.fieldLink RX8 19 "RowsOnlyPrimes" "draft" "LRowsOnlyPrimes$Bank;") (by decide +kernel)) (fun _ h9 => h9) rfl dX8_planIf_35 ?_
  obtain ⟨I1, h2, hf⟩ := bd_ok hf
  refine q_cEv (va_runV (As := [.ref (ad 17)]) (rest := []) ⟨hx, hb, hml, hown, hts⟩ (c_X5_reckon l (D := D) (ad := ad) (cy := cy) (sa := sa) (va := va) (I := I) (J := J) 17 isB_17 h2) (cwV 1 hts gX8_planIf_X5_reckon rfl rfl rfl (by decide +kernel) ⟨Nat.le_of_ble_eq_true rfl, Nat.le_of_ble_eq_true rfl⟩) ⟨qPre_blind _, q_recv hK hP oX5 rfl, fun U hU hW => ⟨rfl, qPre_of hP hK hE hN hS U hU hW⟩⟩ rfl rfl hl.1 rfl (lv_room (Nat.le_of_ble_eq_true rfl)) dX8_planIf_38 ⟨Nat.le_of_ble_eq_true rfl, Nat.le_of_ble_eq_true rfl⟩) hS (fun H locs hP hS => ?_)
  have e9 := Option.some.inj hf
  have eI9 : I1 = Ie := e9
  exact W.vret hx hb hr (fun t ht _ => ⟨⟨(), rfl, trivial, by show qP D _ ad _ _ _ t.heap; rw [ht, ← eI9]; exact hP⟩, hS.F ht⟩) hS.2.2 dX8_planIf_41
set_option maxHeartbeats 4000000 in
set_option maxRecDepth 100000 in
theorem c_X8_planIf (l : Launch) {D : va_G} {ad : Nat → Nat} {cy : Nat → ClassId} {sa va : Nat → Nat} {I : qI} {J : qJ}   (p0 : Int32) (p1 : Int32) {Ie : qI} (hf : f_X8_planIf p0 p1 I = some Ie) : Met l yX8_planIf wsX8_planIf r_X8_planIf (va_Pc [.ref (ad 0), .int p0, .int p1] (qPre D xS ad cy sa va (eX ad cy) I J)) (va_Qv (S := Unit) (fun _ => True) (fun _ t => qP D xS ad (eX ad cy) Ie J t.heap) (qA xS ad)) 0 0 (qA xS ad) := by
  refine Met.ofW (cc := cX8_planIf) (maxL := 3) (ret := none) (by decide) rfl ?_
  intro p e s m args below meth c s₁ B hml hv
  obtain ⟨rfl, hP, hK, hE, hN⟩ := hv
  have C : qC p s m _ meth c cX8_planIf 3 RX8 wsX8_planIf none := ⟨⟨B.exec, B.bytes, hml, findClass_of_methodNamed B.named, atoms_spec (ws := wsX8_planIf) B.pre⟩, B.returns, B.notSynchronized⟩
  have C0 := C
  obtain ⟨⟨hx, hb, hml, hown, hts⟩, hr, hlocks⟩ := C0
  have hS : va_S (qA xS ad) s.heap s.heap [] := va_S.rf
  have hl := lv_entry ([.ref (ad 0), .int p0, .int p1]) (n := 3) (Nat.le_of_ble_eq_true rfl)
  rw [lg_entry_eq]
  generalize (lg_sl ([.ref (ad 0), .int p0, .int p1]) ++ List.replicate (3 - (lg_sl ([.ref (ad 0), .int p0, .int p1])).length) Slot.unset).toArray = ls at hl ⊢
  have hl : lv_has ls 3 [(0, .ref (ad 0)), (1, .int p0), (2, .int p1)] := hl
  unfold f_X8_planIf at hf
  refine lv_aload_n hx hb dX8_planIf_0 rfl (lv_at hl 0 rfl) ?_
  refine q_get (C := RX8) (T := TX8) (N := 12) (ci := 8) (v := .ref (ad 17)) hx hb hts in_X8_planIf_X8 hown hK hP oX8 rfl 2 (by decide) (hts (.fieldLink RX8 19 "RowsOnlyPrimes" "draft" "LRowsOnlyPrimes$Bank;") (by decide +kernel)) (fun _ h9 => h9) rfl dX8_planIf_1 ?_
  refine lv_aload_n hx hb dX8_planIf_4 rfl (lv_at hl 0 rfl) ?_
  refine q_get (C := RX8) (T := TX8) (N := 12) (ci := 8) (v := .ref (ad 1)) hx hb hts in_X8_planIf_X8 hown hK hP oX8 rfl 0 (by decide) (hts (.fieldLink RX8 12 "RowsOnlyPrimes" "now" "LRowsOnlyPrimes$Bank;") (by decide +kernel)) (fun _ h9 => h9) rfl dX8_planIf_5 ?_
  obtain ⟨I1, h2, hf⟩ := bd_ok hf
  refine q_cEv (va_runV (As := [.ref (ad 1)]) (rest := []) ⟨hx, hb, hml, hown, hts⟩ (c_X2_become l (D := D) (ad := ad) (cy := cy) (sa := sa) (va := va) (I := I) (J := J) 17 1 isB_17 isB_1 h2) (cwV 1 hts gX8_planIf_X2_become rfl rfl rfl (by decide +kernel) ⟨Nat.le_of_ble_eq_true rfl, Nat.le_of_ble_eq_true rfl⟩) ⟨qPre_blind _, q_recv hK hP (oX2 isB_17) rfl, fun U hU hW => ⟨rfl, qPre_of hP hK hE hN hS U hU hW⟩⟩ rfl rfl hl.1 rfl (lv_room (Nat.le_of_ble_eq_true rfl)) dX8_planIf_8 ⟨Nat.le_of_ble_eq_true rfl, Nat.le_of_ble_eq_true rfl⟩) hS (fun H locs hP hS => ?_)
  refine lv_iload_n hx hb dX8_planIf_11 rfl (lv_at hl 1 rfl) ?_
  refine lv_iconst (v := 0) hx hb dX8_planIf_12 (by decide) ?_
  refine lv_iconst (v := 4) hx hb dX8_planIf_13 (by decide) ?_
  obtain ⟨v3, h4, hf⟩ := bd_ok hf
  refine q_cSi (va_runS (As := [.int p0, .int (0 : Int32), .int (4 : Int32)]) (rest := []) ⟨hx, hb, hml, hown, hts⟩ (c_X8_within l (D := D) (ad := ad) (cy := cy) (sa := sa) (va := va) (I := I1) (J := J) p0 (0 : Int32) (4 : Int32) h4) (va_cwS 3 hts gX8_planIf_X8_within rfl rfl rfl (by decide +kernel) ⟨Nat.le_of_ble_eq_true rfl, Nat.le_of_ble_eq_true rfl⟩) ⟨qPre_blind _, fun U hU hW => ⟨rfl, qPre_of hP hK hE hN hS U hU hW⟩⟩ rfl rfl hl.1 rfl (lv_room (Nat.le_of_ble_eq_true rfl)) dX8_planIf_14 ⟨Nat.le_of_ble_eq_true rfl, Nat.le_of_ble_eq_true rfl⟩) ?_
  refine lv_if_eq (tgt := 30) hx hb dX8_planIf_17 (by decide) (fun cc => ?_) (fun cc => ?_)
  · have hf := (if_ok hf).1 cc
    exact w_X8_planIf_30 C hK hE hN    I1 _ _ _ hf (lv_sub hl [0] rfl) hP hS
  · have hf := (if_ok hf).2 cc
    refine lv_aload_n hx hb dX8_planIf_20 rfl (lv_at hl 0 rfl) ?_
    refine q_get (C := RX8) (T := TX8) (N := 12) (ci := 8) (v := .ref (ad 17)) hx hb hts in_X8_planIf_X8 hown hK hP oX8 rfl 2 (by decide) (hts (.fieldLink RX8 19 "RowsOnlyPrimes" "draft" "LRowsOnlyPrimes$Bank;") (by decide +kernel)) (fun _ h9 => h9) rfl dX8_planIf_21 ?_
    refine q_get (C := RX2) (T := TX2) (N := 13) (ci := 2) (v := .ref (ad (17 + 7))) hx hb hts in_X8_planIf_X2 hown hK hP (oX2 isB_17) rfl 6 (by decide) (hts (.fieldLink RX8 179 "RowsOnlyPrimes$Bank" "told" "[I") (by decide +kernel)) (fun _ h9 => h9) rfl dX8_planIf_24 ?_
    refine lv_iload_n hx hb dX8_planIf_27 rfl (lv_at hl 1 rfl) ?_
    refine lv_iload_n hx hb dX8_planIf_28 rfl (lv_at hl 2 rfl) ?_
    obtain ⟨g5, hf⟩ := gd_ok hf
    obtain ⟨I6, eI6, hf⟩ := lt_ok hf
    refine q_iast hx hb hK hP hN hS (aX2_7 isB_17) g5 dX8_planIf_29 (fun H locs hP hS => ?_)
    have hP : qP D xS ad (eX ad cy) I6 J H := by rw [eI6]; exact hP
    exact w_X8_planIf_30 C hK hE hN    I6 _ _ _ hf (lv_sub hl [0] rfl) hP hS
abbrev r_X8_laws : Room := { frames := 6, cells := 0, slots := 0, locals := 136 }
theorem in_X8_laws_X8 : ∀ w ∈ u_ws RX8 TX8 12, w ∈ wsX8_laws := by decide +kernel
set_option maxHeartbeats 4000000 in
set_option maxRecDepth 100000 in
theorem w_X8_laws_45 (C : qC p s m args meth c cX8_laws 5 RX8 wsX8_laws (some .int)) (hK : qK D cy sa s) (hE : qEnv sa va (qA xS ad) s s.heap) (hN : qN xS ad)   {J : qJ} {r : Int32} {Ie : qI} : ∀ (n : Nat) (x2 : Int32) (x3 : Int32) (x4 : Int32)  (I : qI) (ls : Array Slot) (H : Heap) (locs : List Loc), f_X8_laws_45 n x2 x3 x4 I = some (r, Ie) → lv_has ls 5 [(0, .ref (ad 0)), (2, .int x2), (3, .int x3), (4, .int x4)] → qP D xS ad (eX ad cy) I J H → va_S (qA xS ad) s.heap H locs → W p l e (headSpec wsX8_laws r_X8_laws).room s m args below meth c H locs 0 0 (MQ below (va_Qi (S := Unit) (fun x _ => x = r) (fun _ t => qP D xS ad (eX ad cy) Ie J t.heap) (qA xS ad)) args s 0 0 (qA xS ad)) (F0 m 45 ls []) := by
  have C0 := C
  obtain ⟨⟨hx, hb, hml, hown, hts⟩, hr, hlocks⟩ := C0
  intro n
  induction n with
  | zero =>
    intro x2 x3 x4 I ls H locs hf hl hP hS
    rw [f_X8_laws_45] at hf
    cases hf
  | succ n ih =>
    intro x2 x3 x4 I ls H locs hf hl hP hS
    rw [f_X8_laws_45] at hf
    refine lv_iload hx hb dX8_laws_45 (lv_at hl 3 rfl) ?_
    refine lv_iconst (v := 4) hx hb dX8_laws_47 (by decide) ?_
    refine lv_icmp_ge (tgt := 96) hx hb dX8_laws_48 (by decide) (fun cc => ?_) (fun cc => ?_)
    · have hf := (if_ok hf).1 cc
      refine lv_iload_n hx hb dX8_laws_96 rfl (lv_at hl 1 rfl) ?_
      have e9 := Option.some.inj hf
      have eI9 : I = Ie := (congrArg Prod.snd e9)
      exact W.iret hx hb hr (fun t ht _ => ⟨⟨_, (), rfl, (congrArg Prod.fst e9), by show qP D _ ad _ _ _ t.heap; rw [ht, ← eI9]; exact hP⟩, hS.F ht⟩) hS.2.2 dX8_laws_97
    · have hf := (if_ok hf).2 cc
      refine lv_aload_n hx hb dX8_laws_51 rfl (lv_at hl 0 rfl) ?_
      refine lv_iconst (v := 1) hx hb dX8_laws_52 (by decide) ?_
      refine lv_iload hx hb dX8_laws_53 (lv_at hl 3 rfl) ?_
      obtain ⟨I1, h2, hf⟩ := bd_ok hf
      refine q_cEv (va_runV (As := [.int (1 : Int32), .int x4]) (rest := []) ⟨hx, hb, hml, hown, hts⟩ (c_X8_planIf l (D := D) (ad := ad) (cy := cy) (sa := sa) (va := va) (I := I) (J := J) (1 : Int32) x4 h2) (cwV 2 hts gX8_laws_X8_planIf rfl rfl rfl (by decide +kernel) ⟨Nat.le_of_ble_eq_true rfl, Nat.le_of_ble_eq_true rfl⟩) ⟨qPre_blind _, q_recv hK hP oX8 rfl, fun U hU hW => ⟨rfl, qPre_of hP hK hE hN hS U hU hW⟩⟩ rfl rfl hl.1 rfl (lv_room (Nat.le_of_ble_eq_true rfl)) dX8_laws_55 ⟨Nat.le_of_ble_eq_true rfl, Nat.le_of_ble_eq_true rfl⟩) hS (fun H locs hP hS => ?_)
      refine lv_aload_n hx hb dX8_laws_58 rfl (lv_at hl 0 rfl) ?_
      refine q_get (C := RX8) (T := TX8) (N := 12) (ci := 8) (v := .ref (ad 45)) hx hb hts in_X8_laws_X8 hown hK hP oX8 rfl 6 (by decide) (hts (.fieldLink RX8 42 "RowsOnlyPrimes" "plans" "LRowsOnlyPrimes$Plans;") (by decide +kernel)) (fun _ h9 => h9) rfl dX8_laws_59 ?_
      obtain ⟨v3, h4, hf⟩ := bd_ok hf
      refine q_cSi (va_runV (As := []) (rest := []) ⟨hx, hb, hml, hown, hts⟩ (c_X5_found l (D := D) (ad := ad) (cy := cy) (sa := sa) (va := va) (I := I1) (J := J)  h4) (cwV 0 hts gX8_laws_X5_found rfl rfl rfl (by decide +kernel) ⟨Nat.le_of_ble_eq_true rfl, Nat.le_of_ble_eq_true rfl⟩) ⟨qPre_blind _, q_recv hK hP oX5 rfl, fun U hU hW => ⟨rfl, qPre_of hP hK hE hN hS U hU hW⟩⟩ rfl rfl hl.1 rfl (lv_room (Nat.le_of_ble_eq_true rfl)) dX8_laws_62 ⟨Nat.le_of_ble_eq_true rfl, Nat.le_of_ble_eq_true rfl⟩) ?_
      refine lv_if_eq (tgt := 90) hx hb dX8_laws_65 (by decide) (fun cc => ?_) (fun cc => ?_)
      · have hf := (if_ok hf).1 cc
        refine lv_iinc (v := (x4 + (1 : Int32))) (lv' := [(4, .int (x4 + (1 : Int32))), (0, .ref (ad 0)), (2, .int x2), (3, .int x3)]) hx hb dX8_laws_90 hl (k := 3) rfl rfl (by decide) rfl (fun ls hl => ?_)
        refine lv_goto (tgt := 45) hx hb dX8_laws_93 (by decide) ?_
        exact ih x2 x3 (x4 + (1 : Int32)) I1 _ _ _ hf (lv_sub hl [1, 2, 3, 0] rfl) hP hS
      · have hf := (if_ok hf).2 cc
        refine lv_aload_n hx hb dX8_laws_68 rfl (lv_at hl 0 rfl) ?_
        refine q_get (C := RX8) (T := TX8) (N := 12) (ci := 8) (v := .ref (ad 45)) hx hb hts in_X8_laws_X8 hown hK hP oX8 rfl 6 (by decide) (hts (.fieldLink RX8 42 "RowsOnlyPrimes" "plans" "LRowsOnlyPrimes$Plans;") (by decide +kernel)) (fun _ h9 => h9) rfl dX8_laws_69 ?_
        obtain ⟨v5, h6, hf⟩ := bd_ok hf
        refine q_cSi (va_runV (As := []) (rest := []) ⟨hx, hb, hml, hown, hts⟩ (c_X5_crossings l (D := D) (ad := ad) (cy := cy) (sa := sa) (va := va) (I := I1) (J := J)  h6) (cwV 0 hts gX8_laws_X5_crossings rfl rfl rfl (by decide +kernel) ⟨Nat.le_of_ble_eq_true rfl, Nat.le_of_ble_eq_true rfl⟩) ⟨qPre_blind _, q_recv hK hP oX5 rfl, fun U hU hW => ⟨rfl, qPre_of hP hK hE hN hS U hU hW⟩⟩ rfl rfl hl.1 rfl (lv_room (Nat.le_of_ble_eq_true rfl)) dX8_laws_72 ⟨Nat.le_of_ble_eq_true rfl, Nat.le_of_ble_eq_true rfl⟩) ?_
        refine lv_iload_n hx hb dX8_laws_75 rfl (lv_at hl 2 rfl) ?_
        refine lv_icmp_ge (tgt := 90) hx hb dX8_laws_76 (by decide) (fun cc => ?_) (fun cc => ?_)
        · have hf := (if_ok hf).1 cc
          refine lv_iinc (v := (x4 + (1 : Int32))) (lv' := [(4, .int (x4 + (1 : Int32))), (0, .ref (ad 0)), (2, .int x2), (3, .int x3)]) hx hb dX8_laws_90 hl (k := 3) rfl rfl (by decide) rfl (fun ls hl => ?_)
          refine lv_goto (tgt := 45) hx hb dX8_laws_93 (by decide) ?_
          exact ih x2 x3 (x4 + (1 : Int32)) I1 _ _ _ hf (lv_sub hl [1, 2, 3, 0] rfl) hP hS
        · have hf := (if_ok hf).2 cc
          refine lv_iload hx hb dX8_laws_79 (lv_at hl 3 rfl) ?_
          refine lv_istore_n (lv' := [(2, .int x4), (0, .ref (ad 0)), (3, .int x3), (4, .int x4)]) hx hb dX8_laws_81 rfl hl (by decide) rfl (fun ls hl => ?_)
          refine lv_aload_n hx hb dX8_laws_82 rfl (lv_at hl 1 rfl) ?_
          refine q_get (C := RX8) (T := TX8) (N := 12) (ci := 8) (v := .ref (ad 45)) hx hb hts in_X8_laws_X8 hown hK hP oX8 rfl 6 (by decide) (hts (.fieldLink RX8 42 "RowsOnlyPrimes" "plans" "LRowsOnlyPrimes$Plans;") (by decide +kernel)) (fun _ h9 => h9) rfl dX8_laws_83 ?_
          obtain ⟨v7, h8, hf⟩ := bd_ok hf
          refine q_cSi (va_runV (As := []) (rest := []) ⟨hx, hb, hml, hown, hts⟩ (c_X5_crossings l (D := D) (ad := ad) (cy := cy) (sa := sa) (va := va) (I := I1) (J := J)  h8) (cwV 0 hts gX8_laws_X5_crossings rfl rfl rfl (by decide +kernel) ⟨Nat.le_of_ble_eq_true rfl, Nat.le_of_ble_eq_true rfl⟩) ⟨qPre_blind _, q_recv hK hP oX5 rfl, fun U hU hW => ⟨rfl, qPre_of hP hK hE hN hS U hU hW⟩⟩ rfl rfl hl.1 rfl (lv_room (Nat.le_of_ble_eq_true rfl)) dX8_laws_86 ⟨Nat.le_of_ble_eq_true rfl, Nat.le_of_ble_eq_true rfl⟩) ?_
          refine lv_istore_n (lv' := [(3, .int v7), (2, .int x4), (0, .ref (ad 0)), (4, .int x4)]) hx hb dX8_laws_89 rfl hl (by decide) rfl (fun ls hl => ?_)
          refine lv_iinc (v := (x4 + (1 : Int32))) (lv' := [(4, .int (x4 + (1 : Int32))), (3, .int v7), (2, .int x4), (0, .ref (ad 0))]) hx hb dX8_laws_90 hl (k := 3) rfl rfl (by decide) rfl (fun ls hl => ?_)
          refine lv_goto (tgt := 45) hx hb dX8_laws_93 (by decide) ?_
          exact ih x4 v7 (x4 + (1 : Int32)) I1 _ _ _ hf (lv_sub hl [3, 2, 1, 0] rfl) hP hS
set_option maxHeartbeats 4000000 in
set_option maxRecDepth 100000 in
theorem c_X8_laws (l : Launch) {D : va_G} {ad : Nat → Nat} {cy : Nat → ClassId} {sa va : Nat → Nat} {I : qI} {J : qJ}   (p0 : Int32) {r : Int32} {Ie : qI} (hf : f_X8_laws p0 I = some (r, Ie)) : Met l yX8_laws wsX8_laws r_X8_laws (va_Pc [.ref (ad 0), .int p0] (qPre D xS ad cy sa va (eX ad cy) I J)) (va_Qi (S := Unit) (fun x _ => x = r) (fun _ t => qP D xS ad (eX ad cy) Ie J t.heap) (qA xS ad)) 0 0 (qA xS ad) := by
  refine Met.ofW (cc := cX8_laws) (maxL := 5) (ret := (some .int)) (by decide) rfl ?_
  intro p e s m args below meth c s₁ B hml hv
  obtain ⟨rfl, hP, hK, hE, hN⟩ := hv
  have C : qC p s m _ meth c cX8_laws 5 RX8 wsX8_laws (some .int) := ⟨⟨B.exec, B.bytes, hml, findClass_of_methodNamed B.named, atoms_spec (ws := wsX8_laws) B.pre⟩, B.returns, B.notSynchronized⟩
  have C0 := C
  obtain ⟨⟨hx, hb, hml, hown, hts⟩, hr, hlocks⟩ := C0
  have hS : va_S (qA xS ad) s.heap s.heap [] := va_S.rf
  have hl := lv_entry ([.ref (ad 0), .int p0]) (n := 5) (Nat.le_of_ble_eq_true rfl)
  rw [lg_entry_eq]
  generalize (lg_sl ([.ref (ad 0), .int p0]) ++ List.replicate (5 - (lg_sl ([.ref (ad 0), .int p0])).length) Slot.unset).toArray = ls at hl ⊢
  have hl : lv_has ls 5 [(0, .ref (ad 0)), (1, .int p0)] := hl
  unfold f_X8_laws at hf
  refine lv_iload_n hx hb dX8_laws_0 rfl (lv_at hl 1 rfl) ?_
  refine lv_iconst (v := -1) hx hb dX8_laws_1 (by decide) ?_
  refine lv_iconst (v := 3) hx hb dX8_laws_2 (by decide) ?_
  obtain ⟨v1, h2, hf⟩ := bd_ok hf
  refine q_cSi (va_runS (As := [.int p0, .int (-1 : Int32), .int (3 : Int32)]) (rest := []) ⟨hx, hb, hml, hown, hts⟩ (c_X8_within l (D := D) (ad := ad) (cy := cy) (sa := sa) (va := va) (I := I) (J := J) p0 (-1 : Int32) (3 : Int32) h2) (va_cwS 3 hts gX8_laws_X8_within rfl rfl rfl (by decide +kernel) ⟨Nat.le_of_ble_eq_true rfl, Nat.le_of_ble_eq_true rfl⟩) ⟨qPre_blind _, fun U hU hW => ⟨rfl, qPre_of hP hK hE hN hS U hU hW⟩⟩ rfl rfl hl.1 rfl (lv_room (Nat.le_of_ble_eq_true rfl)) dX8_laws_3 ⟨Nat.le_of_ble_eq_true rfl, Nat.le_of_ble_eq_true rfl⟩) ?_
  refine lv_if_ne (tgt := 17) hx hb dX8_laws_6 (by decide) (fun cc => ?_) (fun cc => ?_)
  · have hf := (if_ok hf).2 cc
    refine lv_iload_n hx hb dX8_laws_17 rfl (lv_at hl 1 rfl) ?_
    refine lv_iconst (v := -1) hx hb dX8_laws_18 (by decide) ?_
    refine lv_icmp_eq (tgt := 36) hx hb dX8_laws_19 (by decide) (fun cc => ?_) (fun cc => ?_)
    · have hf := (if_ok hf).1 cc
      refine lv_iconst (v := 0) hx hb dX8_laws_36 (by decide) ?_
      refine lv_istore_n (lv' := [(2, .int (0 : Int32)), (0, .ref (ad 0)), (1, .int p0)]) hx hb dX8_laws_37 rfl hl (by decide) rfl (fun ls hl => ?_)
      refine lv_ldcw (own := RX8) (v := 1000000) hx hb hown (hts (.constant RX8 256 (1000000)) (by decide +kernel)) dX8_laws_38 ?_
      refine lv_istore_n (lv' := [(3, .int (1000000 : Int32)), (2, .int (0 : Int32)), (0, .ref (ad 0)), (1, .int p0)]) hx hb dX8_laws_41 rfl hl (by decide) rfl (fun ls hl => ?_)
      refine lv_iconst (v := 0) hx hb dX8_laws_42 (by decide) ?_
      refine lv_istore (lv' := [(4, .int (0 : Int32)), (3, .int (1000000 : Int32)), (2, .int (0 : Int32)), (0, .ref (ad 0)), (1, .int p0)]) hx hb dX8_laws_43 hl (by decide) rfl (fun ls hl => ?_)
      exact w_X8_laws_45 C hK hE hN   1000 (0 : Int32) (1000000 : Int32) (0 : Int32) I _ _ _ hf (lv_sub hl [3, 2, 1, 0] rfl) hP hS
    · have hf := (if_ok hf).2 cc
      refine lv_aload_n hx hb dX8_laws_22 rfl (lv_at hl 0 rfl) ?_
      refine lv_iconst (v := 1) hx hb dX8_laws_23 (by decide) ?_
      refine lv_iload_n hx hb dX8_laws_24 rfl (lv_at hl 1 rfl) ?_
      obtain ⟨I3, h4, hf⟩ := bd_ok hf
      refine q_cEv (va_runV (As := [.int (1 : Int32), .int p0]) (rest := []) ⟨hx, hb, hml, hown, hts⟩ (c_X8_planIf l (D := D) (ad := ad) (cy := cy) (sa := sa) (va := va) (I := I) (J := J) (1 : Int32) p0 h4) (cwV 2 hts gX8_laws_X8_planIf rfl rfl rfl (by decide +kernel) ⟨Nat.le_of_ble_eq_true rfl, Nat.le_of_ble_eq_true rfl⟩) ⟨qPre_blind _, q_recv hK hP oX8 rfl, fun U hU hW => ⟨rfl, qPre_of hP hK hE hN hS U hU hW⟩⟩ rfl rfl hl.1 rfl (lv_room (Nat.le_of_ble_eq_true rfl)) dX8_laws_25 ⟨Nat.le_of_ble_eq_true rfl, Nat.le_of_ble_eq_true rfl⟩) hS (fun H locs hP hS => ?_)
      refine lv_aload_n hx hb dX8_laws_28 rfl (lv_at hl 0 rfl) ?_
      refine q_get (C := RX8) (T := TX8) (N := 12) (ci := 8) (v := .ref (ad 45)) hx hb hts in_X8_laws_X8 hown hK hP oX8 rfl 6 (by decide) (hts (.fieldLink RX8 42 "RowsOnlyPrimes" "plans" "LRowsOnlyPrimes$Plans;") (by decide +kernel)) (fun _ h9 => h9) rfl dX8_laws_29 ?_
      obtain ⟨v5, h6, hf⟩ := bd_ok hf
      refine q_cSi (va_runV (As := []) (rest := []) ⟨hx, hb, hml, hown, hts⟩ (c_X5_crossings l (D := D) (ad := ad) (cy := cy) (sa := sa) (va := va) (I := I3) (J := J)  h6) (cwV 0 hts gX8_laws_X5_crossings rfl rfl rfl (by decide +kernel) ⟨Nat.le_of_ble_eq_true rfl, Nat.le_of_ble_eq_true rfl⟩) ⟨qPre_blind _, q_recv hK hP oX5 rfl, fun U hU hW => ⟨rfl, qPre_of hP hK hE hN hS U hU hW⟩⟩ rfl rfl hl.1 rfl (lv_room (Nat.le_of_ble_eq_true rfl)) dX8_laws_32 ⟨Nat.le_of_ble_eq_true rfl, Nat.le_of_ble_eq_true rfl⟩) ?_
      have e9 := Option.some.inj hf
      have eI9 : I3 = Ie := (congrArg Prod.snd e9)
      exact W.iret hx hb hr (fun t ht _ => ⟨⟨_, (), rfl, (congrArg Prod.fst e9), by show qP D _ ad _ _ _ t.heap; rw [ht, ← eI9]; exact hP⟩, hS.F ht⟩) hS.2.2 dX8_laws_35
  · have hf := (if_ok hf).1 cc
    refine lv_aload_n hx hb dX8_laws_9 rfl (lv_at hl 0 rfl) ?_
    refine lv_sipush (v := -1002) hx hb dX8_laws_10 (by decide) ?_
    obtain ⟨v7, I8, h9, hf⟩ := bd2_ok hf
    refine q_cEi (va_runV (As := [.int (-1002 : Int32)]) (rest := []) ⟨hx, hb, hml, hown, hts⟩ (c_X8_refuse l (D := D) (ad := ad) (cy := cy) (sa := sa) (va := va) (I := I) (J := J) (-1002 : Int32) h9) (cwV 1 hts gX8_laws_X8_refuse rfl rfl rfl (by decide +kernel) ⟨Nat.le_of_ble_eq_true rfl, Nat.le_of_ble_eq_true rfl⟩) ⟨qPre_blind _, q_recv hK hP oX8 rfl, fun U hU hW => ⟨rfl, qPre_of hP hK hE hN hS U hU hW⟩⟩ rfl rfl hl.1 rfl (lv_room (Nat.le_of_ble_eq_true rfl)) dX8_laws_13 ⟨Nat.le_of_ble_eq_true rfl, Nat.le_of_ble_eq_true rfl⟩) hS (fun H locs hP hS => ?_)
    have e9 := Option.some.inj hf
    have eI9 : I8 = Ie := (congrArg Prod.snd e9)
    exact W.iret hx hb hr (fun t ht _ => ⟨⟨_, (), rfl, (congrArg Prod.fst e9), by show qP D _ ad _ _ _ t.heap; rw [ht, ← eI9]; exact hP⟩, hS.F ht⟩) hS.2.2 dX8_laws_16
abbrev r_X8_sizes : Room := { frames := 6, cells := 0, slots := 0, locals := 136 }
theorem in_X8_sizes_X8 : ∀ w ∈ u_ws RX8 TX8 12, w ∈ wsX8_sizes := by decide +kernel
set_option maxHeartbeats 4000000 in
set_option maxRecDepth 100000 in
theorem w_X8_sizes_26 (C : qC p s m args meth c cX8_sizes 5 RX8 wsX8_sizes (some .int)) (hK : qK D cy sa s) (hE : qEnv sa va (qA xS ad) s s.heap) (hN : qN xS ad)   {J : qJ} {r : Int32} {Ie : qI} : ∀ (n : Nat) (x1 : Int32) (x2 : Int32) (x3 : Int32)  (I : qI) (ls : Array Slot) (H : Heap) (locs : List Loc), f_X8_sizes_26 n x1 x2 x3 I = some (r, Ie) → lv_has ls 5 [(0, .ref (ad 0)), (1, .int x1), (2, .int x2), (3, .int x3)] → qP D xS ad (eX ad cy) I J H → va_S (qA xS ad) s.heap H locs → W p l e (headSpec wsX8_sizes r_X8_sizes).room s m args below meth c H locs 0 0 (MQ below (va_Qi (S := Unit) (fun x _ => x = r) (fun _ t => qP D xS ad (eX ad cy) Ie J t.heap) (qA xS ad)) args s 0 0 (qA xS ad)) (F0 m 26 ls []) := by
  have C0 := C
  obtain ⟨⟨hx, hb, hml, hown, hts⟩, hr, hlocks⟩ := C0
  intro n
  induction n with
  | zero =>
    intro x1 x2 x3 I ls H locs hf hl hP hS
    rw [f_X8_sizes_26] at hf
    cases hf
  | succ n ih =>
    intro x1 x2 x3 I ls H locs hf hl hP hS
    rw [f_X8_sizes_26] at hf
    refine lv_iload_n hx hb dX8_sizes_26 rfl (lv_at hl 3 rfl) ?_
    refine lv_bipush (v := 99) hx hb dX8_sizes_27 (by decide) ?_
    refine lv_icmp_ge (tgt := 78) hx hb dX8_sizes_29 (by decide) (fun cc => ?_) (fun cc => ?_)
    · have hf := (if_ok hf).1 cc
      refine lv_iload_n hx hb dX8_sizes_78 rfl (lv_at hl 1 rfl) ?_
      have e9 := Option.some.inj hf
      have eI9 : I = Ie := (congrArg Prod.snd e9)
      exact W.iret hx hb hr (fun t ht _ => ⟨⟨_, (), rfl, (congrArg Prod.fst e9), by show qP D _ ad _ _ _ t.heap; rw [ht, ← eI9]; exact hP⟩, hS.F ht⟩) hS.2.2 dX8_sizes_79
    · have hf := (if_ok hf).2 cc
      refine lv_iload_n hx hb dX8_sizes_32 rfl (lv_at hl 1 rfl) ?_
      refine lv_iload_n hx hb dX8_sizes_33 rfl (lv_at hl 2 rfl) ?_
      refine lv_icmp_ge (tgt := 78) hx hb dX8_sizes_34 (by decide) (fun cc => ?_) (fun cc => ?_)
      · have hf := (if_ok hf).1 cc
        refine lv_iload_n hx hb dX8_sizes_78 rfl (lv_at hl 1 rfl) ?_
        have e9 := Option.some.inj hf
        have eI9 : I = Ie := (congrArg Prod.snd e9)
        exact W.iret hx hb hr (fun t ht _ => ⟨⟨_, (), rfl, (congrArg Prod.fst e9), by show qP D _ ad _ _ _ t.heap; rw [ht, ← eI9]; exact hP⟩, hS.F ht⟩) hS.2.2 dX8_sizes_79
      · have hf := (if_ok hf).2 cc
        refine lv_iload_n hx hb dX8_sizes_37 rfl (lv_at hl 1 rfl) ?_
        refine lv_iload_n hx hb dX8_sizes_38 rfl (lv_at hl 2 rfl) ?_
        refine lv_iadd hx hb dX8_sizes_39 ?_
        refine lv_iconst (v := 2) hx hb dX8_sizes_40 (by decide) ?_
        refine lv_idiv hx hb dX8_sizes_41 (by decide) ?_
        refine lv_istore (lv' := [(4, .int ((x1 + x2) / (2 : Int32))), (0, .ref (ad 0)), (1, .int x1), (2, .int x2), (3, .int x3)]) hx hb dX8_sizes_42 hl (by decide) rfl (fun ls hl => ?_)
        refine lv_aload_n hx hb dX8_sizes_44 rfl (lv_at hl 1 rfl) ?_
        refine lv_iconst (v := 0) hx hb dX8_sizes_45 (by decide) ?_
        refine lv_iload hx hb dX8_sizes_46 (lv_at hl 0 rfl) ?_
        obtain ⟨I1, h2, hf⟩ := bd_ok hf
        refine q_cEv (va_runV (As := [.int (0 : Int32), .int ((x1 + x2) / (2 : Int32))]) (rest := []) ⟨hx, hb, hml, hown, hts⟩ (c_X8_planIf l (D := D) (ad := ad) (cy := cy) (sa := sa) (va := va) (I := I) (J := J) (0 : Int32) ((x1 + x2) / (2 : Int32)) h2) (cwV 2 hts gX8_sizes_X8_planIf rfl rfl rfl (by decide +kernel) ⟨Nat.le_of_ble_eq_true rfl, Nat.le_of_ble_eq_true rfl⟩) ⟨qPre_blind _, q_recv hK hP oX8 rfl, fun U hU hW => ⟨rfl, qPre_of hP hK hE hN hS U hU hW⟩⟩ rfl rfl hl.1 rfl (lv_room (Nat.le_of_ble_eq_true rfl)) dX8_sizes_48 ⟨Nat.le_of_ble_eq_true rfl, Nat.le_of_ble_eq_true rfl⟩) hS (fun H locs hP hS => ?_)
        refine lv_aload_n hx hb dX8_sizes_51 rfl (lv_at hl 1 rfl) ?_
        refine q_get (C := RX8) (T := TX8) (N := 12) (ci := 8) (v := .ref (ad 45)) hx hb hts in_X8_sizes_X8 hown hK hP oX8 rfl 6 (by decide) (hts (.fieldLink RX8 42 "RowsOnlyPrimes" "plans" "LRowsOnlyPrimes$Plans;") (by decide +kernel)) (fun _ h9 => h9) rfl dX8_sizes_52 ?_
        obtain ⟨v3, h4, hf⟩ := bd_ok hf
        refine q_cSi (va_runV (As := []) (rest := []) ⟨hx, hb, hml, hown, hts⟩ (c_X5_found l (D := D) (ad := ad) (cy := cy) (sa := sa) (va := va) (I := I1) (J := J)  h4) (cwV 0 hts gX8_sizes_X5_found rfl rfl rfl (by decide +kernel) ⟨Nat.le_of_ble_eq_true rfl, Nat.le_of_ble_eq_true rfl⟩) ⟨qPre_blind _, q_recv hK hP oX5 rfl, fun U hU hW => ⟨rfl, qPre_of hP hK hE hN hS U hU hW⟩⟩ rfl rfl hl.1 rfl (lv_room (Nat.le_of_ble_eq_true rfl)) dX8_sizes_55 ⟨Nat.le_of_ble_eq_true rfl, Nat.le_of_ble_eq_true rfl⟩) ?_
        refine lv_if_eq (tgt := 67) hx hb dX8_sizes_58 (by decide) (fun cc => ?_) (fun cc => ?_)
        · have hf := (if_ok hf).1 cc
          refine lv_iload hx hb dX8_sizes_67 (lv_at hl 0 rfl) ?_
          refine lv_iconst (v := 1) hx hb dX8_sizes_69 (by decide) ?_
          refine lv_iadd hx hb dX8_sizes_70 ?_
          refine lv_istore_n (lv' := [(1, .int (((x1 + x2) / (2 : Int32)) + (1 : Int32))), (4, .int ((x1 + x2) / (2 : Int32))), (0, .ref (ad 0)), (2, .int x2), (3, .int x3)]) hx hb dX8_sizes_71 rfl hl (by decide) rfl (fun ls hl => ?_)
          refine lv_iinc (v := (x3 + (1 : Int32))) (lv' := [(3, .int (x3 + (1 : Int32))), (1, .int (((x1 + x2) / (2 : Int32)) + (1 : Int32))), (4, .int ((x1 + x2) / (2 : Int32))), (0, .ref (ad 0)), (2, .int x2)]) hx hb dX8_sizes_72 hl (k := 4) rfl rfl (by decide) rfl (fun ls hl => ?_)
          refine lv_goto (tgt := 26) hx hb dX8_sizes_75 (by decide) ?_
          exact ih (((x1 + x2) / (2 : Int32)) + (1 : Int32)) x2 (x3 + (1 : Int32)) I1 _ _ _ hf (lv_sub hl [3, 1, 4, 0] rfl) hP hS
        · have hf := (if_ok hf).2 cc
          refine lv_iload hx hb dX8_sizes_61 (lv_at hl 0 rfl) ?_
          refine lv_istore_n (lv' := [(2, .int ((x1 + x2) / (2 : Int32))), (4, .int ((x1 + x2) / (2 : Int32))), (0, .ref (ad 0)), (1, .int x1), (3, .int x3)]) hx hb dX8_sizes_63 rfl hl (by decide) rfl (fun ls hl => ?_)
          refine lv_goto (tgt := 72) hx hb dX8_sizes_64 (by decide) ?_
          refine lv_iinc (v := (x3 + (1 : Int32))) (lv' := [(3, .int (x3 + (1 : Int32))), (2, .int ((x1 + x2) / (2 : Int32))), (4, .int ((x1 + x2) / (2 : Int32))), (0, .ref (ad 0)), (1, .int x1)]) hx hb dX8_sizes_72 hl (k := 4) rfl rfl (by decide) rfl (fun ls hl => ?_)
          refine lv_goto (tgt := 26) hx hb dX8_sizes_75 (by decide) ?_
          exact ih x1 ((x1 + x2) / (2 : Int32)) (x3 + (1 : Int32)) I1 _ _ _ hf (lv_sub hl [3, 4, 1, 0] rfl) hP hS
set_option maxHeartbeats 4000000 in
set_option maxRecDepth 100000 in
theorem c_X8_sizes (l : Launch) {D : va_G} {ad : Nat → Nat} {cy : Nat → ClassId} {sa va : Nat → Nat} {I : qI} {J : qJ}    {r : Int32} {Ie : qI} (hf : f_X8_sizes I = some (r, Ie)) : Met l yX8_sizes wsX8_sizes r_X8_sizes (va_Pc [.ref (ad 0)] (qPre D xS ad cy sa va (eX ad cy) I J)) (va_Qi (S := Unit) (fun x _ => x = r) (fun _ t => qP D xS ad (eX ad cy) Ie J t.heap) (qA xS ad)) 0 0 (qA xS ad) := by
  refine Met.ofW (cc := cX8_sizes) (maxL := 5) (ret := (some .int)) (by decide) rfl ?_
  intro p e s m args below meth c s₁ B hml hv
  obtain ⟨rfl, hP, hK, hE, hN⟩ := hv
  have C : qC p s m _ meth c cX8_sizes 5 RX8 wsX8_sizes (some .int) := ⟨⟨B.exec, B.bytes, hml, findClass_of_methodNamed B.named, atoms_spec (ws := wsX8_sizes) B.pre⟩, B.returns, B.notSynchronized⟩
  have C0 := C
  obtain ⟨⟨hx, hb, hml, hown, hts⟩, hr, hlocks⟩ := C0
  have hS : va_S (qA xS ad) s.heap s.heap [] := va_S.rf
  have hl := lv_entry ([.ref (ad 0)]) (n := 5) (Nat.le_of_ble_eq_true rfl)
  rw [lg_entry_eq]
  generalize (lg_sl ([.ref (ad 0)]) ++ List.replicate (5 - (lg_sl ([.ref (ad 0)])).length) Slot.unset).toArray = ls at hl ⊢
  have hl : lv_has ls 5 [(0, .ref (ad 0))] := hl
  unfold f_X8_sizes at hf
  refine lv_aload_n hx hb dX8_sizes_0 rfl (lv_at hl 0 rfl) ?_
  refine lv_iconst (v := 0) hx hb dX8_sizes_1 (by decide) ?_
  refine lv_bipush (v := 99) hx hb dX8_sizes_2 (by decide) ?_
  obtain ⟨I1, h2, hf⟩ := bd_ok hf
  refine q_cEv (va_runV (As := [.int (0 : Int32), .int (99 : Int32)]) (rest := []) ⟨hx, hb, hml, hown, hts⟩ (c_X8_planIf l (D := D) (ad := ad) (cy := cy) (sa := sa) (va := va) (I := I) (J := J) (0 : Int32) (99 : Int32) h2) (cwV 2 hts gX8_sizes_X8_planIf rfl rfl rfl (by decide +kernel) ⟨Nat.le_of_ble_eq_true rfl, Nat.le_of_ble_eq_true rfl⟩) ⟨qPre_blind _, q_recv hK hP oX8 rfl, fun U hU hW => ⟨rfl, qPre_of hP hK hE hN hS U hU hW⟩⟩ rfl rfl hl.1 rfl (lv_room (Nat.le_of_ble_eq_true rfl)) dX8_sizes_4 ⟨Nat.le_of_ble_eq_true rfl, Nat.le_of_ble_eq_true rfl⟩) hS (fun H locs hP hS => ?_)
  refine lv_aload_n hx hb dX8_sizes_7 rfl (lv_at hl 0 rfl) ?_
  refine q_get (C := RX8) (T := TX8) (N := 12) (ci := 8) (v := .ref (ad 45)) hx hb hts in_X8_sizes_X8 hown hK hP oX8 rfl 6 (by decide) (hts (.fieldLink RX8 42 "RowsOnlyPrimes" "plans" "LRowsOnlyPrimes$Plans;") (by decide +kernel)) (fun _ h9 => h9) rfl dX8_sizes_8 ?_
  obtain ⟨v3, h4, hf⟩ := bd_ok hf
  refine q_cSi (va_runV (As := []) (rest := []) ⟨hx, hb, hml, hown, hts⟩ (c_X5_found l (D := D) (ad := ad) (cy := cy) (sa := sa) (va := va) (I := I1) (J := J)  h4) (cwV 0 hts gX8_sizes_X5_found rfl rfl rfl (by decide +kernel) ⟨Nat.le_of_ble_eq_true rfl, Nat.le_of_ble_eq_true rfl⟩) ⟨qPre_blind _, q_recv hK hP oX5 rfl, fun U hU hW => ⟨rfl, qPre_of hP hK hE hN hS U hU hW⟩⟩ rfl rfl hl.1 rfl (lv_room (Nat.le_of_ble_eq_true rfl)) dX8_sizes_11 ⟨Nat.le_of_ble_eq_true rfl, Nat.le_of_ble_eq_true rfl⟩) ?_
  refine lv_if_ne (tgt := 19) hx hb dX8_sizes_14 (by decide) (fun cc => ?_) (fun cc => ?_)
  · have hf := (if_ok hf).2 cc
    refine lv_iconst (v := 1) hx hb dX8_sizes_19 (by decide) ?_
    refine lv_istore_n (lv' := [(1, .int (1 : Int32)), (0, .ref (ad 0))]) hx hb dX8_sizes_20 rfl hl (by decide) rfl (fun ls hl => ?_)
    refine lv_bipush (v := 99) hx hb dX8_sizes_21 (by decide) ?_
    refine lv_istore_n (lv' := [(2, .int (99 : Int32)), (1, .int (1 : Int32)), (0, .ref (ad 0))]) hx hb dX8_sizes_23 rfl hl (by decide) rfl (fun ls hl => ?_)
    refine lv_iconst (v := 0) hx hb dX8_sizes_24 (by decide) ?_
    refine lv_istore_n (lv' := [(3, .int (0 : Int32)), (2, .int (99 : Int32)), (1, .int (1 : Int32)), (0, .ref (ad 0))]) hx hb dX8_sizes_25 rfl hl (by decide) rfl (fun ls hl => ?_)
    exact w_X8_sizes_26 C hK hE hN   1000 (1 : Int32) (99 : Int32) (0 : Int32) I1 _ _ _ hf (lv_sub hl [3, 2, 1, 0] rfl) hP hS
  · have hf := (if_ok hf).1 cc
    refine lv_iconst (v := -1) hx hb dX8_sizes_17 (by decide) ?_
    have e9 := Option.some.inj hf
    have eI9 : I1 = Ie := (congrArg Prod.snd e9)
    exact W.iret hx hb hr (fun t ht _ => ⟨⟨_, (), rfl, (congrArg Prod.fst e9), by show qP D _ ad _ _ _ t.heap; rw [ht, ← eI9]; exact hP⟩, hS.F ht⟩) hS.2.2 dX8_sizes_18
abbrev r_X8_rules : Room := { frames := 6, cells := 0, slots := 0, locals := 136 }
theorem in_X8_rules_X8 : ∀ w ∈ u_ws RX8 TX8 12, w ∈ wsX8_rules := by decide +kernel
set_option maxHeartbeats 4000000 in
set_option maxRecDepth 100000 in
theorem w_X8_rules_8 (C : qC p s m args meth c cX8_rules 4 RX8 wsX8_rules (some .int)) (hK : qK D cy sa s) (hE : qEnv sa va (qA xS ad) s s.heap) (hN : qN xS ad)   {J : qJ} {r : Int32} {Ie : qI} : ∀ (n : Nat) (x1 : Int32) (x2 : Int32) (x3 : Int32)  (I : qI) (ls : Array Slot) (H : Heap) (locs : List Loc), f_X8_rules_8 n x1 x2 x3 I = some (r, Ie) → lv_has ls 4 [(0, .ref (ad 0)), (1, .int x1), (2, .int x2), (3, .int x3)] → qP D xS ad (eX ad cy) I J H → va_S (qA xS ad) s.heap H locs → W p l e (headSpec wsX8_rules r_X8_rules).room s m args below meth c H locs 0 0 (MQ below (va_Qi (S := Unit) (fun x _ => x = r) (fun _ t => qP D xS ad (eX ad cy) Ie J t.heap) (qA xS ad)) args s 0 0 (qA xS ad)) (F0 m 8 ls []) := by
  have C0 := C
  obtain ⟨⟨hx, hb, hml, hown, hts⟩, hr, hlocks⟩ := C0
  intro n
  induction n with
  | zero =>
    intro x1 x2 x3 I ls H locs hf hl hP hS
    rw [f_X8_rules_8] at hf
    cases hf
  | succ n ih =>
    intro x1 x2 x3 I ls H locs hf hl hP hS
    rw [f_X8_rules_8] at hf
    refine lv_iload_n hx hb dX8_rules_8 rfl (lv_at hl 3 rfl) ?_
    refine lv_iconst (v := 4) hx hb dX8_rules_9 (by decide) ?_
    refine lv_icmp_ge (tgt := 46) hx hb dX8_rules_10 (by decide) (fun cc => ?_) (fun cc => ?_)
    · have hf := (if_ok hf).1 cc
      refine lv_iload_n hx hb dX8_rules_46 rfl (lv_at hl 1 rfl) ?_
      have e9 := Option.some.inj hf
      have eI9 : I = Ie := (congrArg Prod.snd e9)
      exact W.iret hx hb hr (fun t ht _ => ⟨⟨_, (), rfl, (congrArg Prod.fst e9), by show qP D _ ad _ _ _ t.heap; rw [ht, ← eI9]; exact hP⟩, hS.F ht⟩) hS.2.2 dX8_rules_47
    · have hf := (if_ok hf).2 cc
      refine lv_aload_n hx hb dX8_rules_13 rfl (lv_at hl 0 rfl) ?_
      refine lv_iconst (v := 2) hx hb dX8_rules_14 (by decide) ?_
      refine lv_iload_n hx hb dX8_rules_15 rfl (lv_at hl 3 rfl) ?_
      obtain ⟨I1, h2, hf⟩ := bd_ok hf
      refine q_cEv (va_runV (As := [.int (2 : Int32), .int x3]) (rest := []) ⟨hx, hb, hml, hown, hts⟩ (c_X8_planIf l (D := D) (ad := ad) (cy := cy) (sa := sa) (va := va) (I := I) (J := J) (2 : Int32) x3 h2) (cwV 2 hts gX8_rules_X8_planIf rfl rfl rfl (by decide +kernel) ⟨Nat.le_of_ble_eq_true rfl, Nat.le_of_ble_eq_true rfl⟩) ⟨qPre_blind _, q_recv hK hP oX8 rfl, fun U hU hW => ⟨rfl, qPre_of hP hK hE hN hS U hU hW⟩⟩ rfl rfl hl.1 rfl (lv_room (Nat.le_of_ble_eq_true rfl)) dX8_rules_16 ⟨Nat.le_of_ble_eq_true rfl, Nat.le_of_ble_eq_true rfl⟩) hS (fun H locs hP hS => ?_)
      refine lv_aload_n hx hb dX8_rules_19 rfl (lv_at hl 0 rfl) ?_
      refine q_get (C := RX8) (T := TX8) (N := 12) (ci := 8) (v := .ref (ad 45)) hx hb hts in_X8_rules_X8 hown hK hP oX8 rfl 6 (by decide) (hts (.fieldLink RX8 42 "RowsOnlyPrimes" "plans" "LRowsOnlyPrimes$Plans;") (by decide +kernel)) (fun _ h9 => h9) rfl dX8_rules_20 ?_
      obtain ⟨v3, h4, hf⟩ := bd_ok hf
      refine q_cSi (va_runV (As := []) (rest := []) ⟨hx, hb, hml, hown, hts⟩ (c_X5_price l (D := D) (ad := ad) (cy := cy) (sa := sa) (va := va) (I := I1) (J := J)  h4) (cwV 0 hts gX8_rules_X5_price rfl rfl rfl (by decide +kernel) ⟨Nat.le_of_ble_eq_true rfl, Nat.le_of_ble_eq_true rfl⟩) ⟨qPre_blind _, q_recv hK hP oX5 rfl, fun U hU hW => ⟨rfl, qPre_of hP hK hE hN hS U hU hW⟩⟩ rfl rfl hl.1 rfl (lv_room (Nat.le_of_ble_eq_true rfl)) dX8_rules_23 ⟨Nat.le_of_ble_eq_true rfl, Nat.le_of_ble_eq_true rfl⟩) ?_
      refine lv_iload_n hx hb dX8_rules_26 rfl (lv_at hl 2 rfl) ?_
      refine lv_icmp_ge (tgt := 40) hx hb dX8_rules_27 (by decide) (fun cc => ?_) (fun cc => ?_)
      · have hf := (if_ok hf).1 cc
        refine lv_iinc (v := (x3 + (1 : Int32))) (lv' := [(3, .int (x3 + (1 : Int32))), (0, .ref (ad 0)), (1, .int x1), (2, .int x2)]) hx hb dX8_rules_40 hl (k := 3) rfl rfl (by decide) rfl (fun ls hl => ?_)
        refine lv_goto (tgt := 8) hx hb dX8_rules_43 (by decide) ?_
        exact ih x1 x2 (x3 + (1 : Int32)) I1 _ _ _ hf (lv_sub hl [1, 2, 3, 0] rfl) hP hS
      · have hf := (if_ok hf).2 cc
        refine lv_iload_n hx hb dX8_rules_30 rfl (lv_at hl 3 rfl) ?_
        refine lv_istore_n (lv' := [(1, .int x3), (0, .ref (ad 0)), (2, .int x2), (3, .int x3)]) hx hb dX8_rules_31 rfl hl (by decide) rfl (fun ls hl => ?_)
        refine lv_aload_n hx hb dX8_rules_32 rfl (lv_at hl 1 rfl) ?_
        refine q_get (C := RX8) (T := TX8) (N := 12) (ci := 8) (v := .ref (ad 45)) hx hb hts in_X8_rules_X8 hown hK hP oX8 rfl 6 (by decide) (hts (.fieldLink RX8 42 "RowsOnlyPrimes" "plans" "LRowsOnlyPrimes$Plans;") (by decide +kernel)) (fun _ h9 => h9) rfl dX8_rules_33 ?_
        obtain ⟨v5, h6, hf⟩ := bd_ok hf
        refine q_cSi (va_runV (As := []) (rest := []) ⟨hx, hb, hml, hown, hts⟩ (c_X5_price l (D := D) (ad := ad) (cy := cy) (sa := sa) (va := va) (I := I1) (J := J)  h6) (cwV 0 hts gX8_rules_X5_price rfl rfl rfl (by decide +kernel) ⟨Nat.le_of_ble_eq_true rfl, Nat.le_of_ble_eq_true rfl⟩) ⟨qPre_blind _, q_recv hK hP oX5 rfl, fun U hU hW => ⟨rfl, qPre_of hP hK hE hN hS U hU hW⟩⟩ rfl rfl hl.1 rfl (lv_room (Nat.le_of_ble_eq_true rfl)) dX8_rules_36 ⟨Nat.le_of_ble_eq_true rfl, Nat.le_of_ble_eq_true rfl⟩) ?_
        refine lv_istore_n (lv' := [(2, .int v5), (1, .int x3), (0, .ref (ad 0)), (3, .int x3)]) hx hb dX8_rules_39 rfl hl (by decide) rfl (fun ls hl => ?_)
        refine lv_iinc (v := (x3 + (1 : Int32))) (lv' := [(3, .int (x3 + (1 : Int32))), (2, .int v5), (1, .int x3), (0, .ref (ad 0))]) hx hb dX8_rules_40 hl (k := 3) rfl rfl (by decide) rfl (fun ls hl => ?_)
        refine lv_goto (tgt := 8) hx hb dX8_rules_43 (by decide) ?_
        exact ih x3 v5 (x3 + (1 : Int32)) I1 _ _ _ hf (lv_sub hl [3, 2, 1, 0] rfl) hP hS
set_option maxHeartbeats 4000000 in
set_option maxRecDepth 100000 in
theorem c_X8_rules (l : Launch) {D : va_G} {ad : Nat → Nat} {cy : Nat → ClassId} {sa va : Nat → Nat} {I : qI} {J : qJ}    {r : Int32} {Ie : qI} (hf : f_X8_rules I = some (r, Ie)) : Met l yX8_rules wsX8_rules r_X8_rules (va_Pc [.ref (ad 0)] (qPre D xS ad cy sa va (eX ad cy) I J)) (va_Qi (S := Unit) (fun x _ => x = r) (fun _ t => qP D xS ad (eX ad cy) Ie J t.heap) (qA xS ad)) 0 0 (qA xS ad) := by
  refine Met.ofW (cc := cX8_rules) (maxL := 4) (ret := (some .int)) (by decide) rfl ?_
  intro p e s m args below meth c s₁ B hml hv
  obtain ⟨rfl, hP, hK, hE, hN⟩ := hv
  have C : qC p s m _ meth c cX8_rules 4 RX8 wsX8_rules (some .int) := ⟨⟨B.exec, B.bytes, hml, findClass_of_methodNamed B.named, atoms_spec (ws := wsX8_rules) B.pre⟩, B.returns, B.notSynchronized⟩
  have C0 := C
  obtain ⟨⟨hx, hb, hml, hown, hts⟩, hr, hlocks⟩ := C0
  have hS : va_S (qA xS ad) s.heap s.heap [] := va_S.rf
  have hl := lv_entry ([.ref (ad 0)]) (n := 4) (Nat.le_of_ble_eq_true rfl)
  rw [lg_entry_eq]
  generalize (lg_sl ([.ref (ad 0)]) ++ List.replicate (4 - (lg_sl ([.ref (ad 0)])).length) Slot.unset).toArray = ls at hl ⊢
  have hl : lv_has ls 4 [(0, .ref (ad 0))] := hl
  unfold f_X8_rules at hf
  refine lv_iconst (v := 0) hx hb dX8_rules_0 (by decide) ?_
  refine lv_istore_n (lv' := [(1, .int (0 : Int32)), (0, .ref (ad 0))]) hx hb dX8_rules_1 rfl hl (by decide) rfl (fun ls hl => ?_)
  refine lv_ldcw (own := RX8) (v := 1000000) hx hb hown (hts (.constant RX8 256 (1000000)) (by decide +kernel)) dX8_rules_2 ?_
  refine lv_istore_n (lv' := [(2, .int (1000000 : Int32)), (1, .int (0 : Int32)), (0, .ref (ad 0))]) hx hb dX8_rules_5 rfl hl (by decide) rfl (fun ls hl => ?_)
  refine lv_iconst (v := 0) hx hb dX8_rules_6 (by decide) ?_
  refine lv_istore_n (lv' := [(3, .int (0 : Int32)), (2, .int (1000000 : Int32)), (1, .int (0 : Int32)), (0, .ref (ad 0))]) hx hb dX8_rules_7 rfl hl (by decide) rfl (fun ls hl => ?_)
  exact w_X8_rules_8 C hK hE hN   1000 (0 : Int32) (1000000 : Int32) (0 : Int32) I _ _ _ hf (lv_sub hl [3, 2, 1, 0] rfl) hP hS
abbrev r_X8_time : Room := { frames := 5, cells := 0, slots := 0, locals := 114 }
theorem in_X8_time_X8 : ∀ w ∈ u_ws RX8 TX8 12, w ∈ wsX8_time := by decide +kernel
set_option maxHeartbeats 4000000 in
set_option maxRecDepth 100000 in
theorem c_X8_time (l : Launch) {D : va_G} {ad : Nat → Nat} {cy : Nat → ClassId} {sa va : Nat → Nat} {I : qI} {J : qJ}    {r : Int32} {Ie : qI} (hf : f_X8_time I = some (r, Ie)) : Met l yX8_time wsX8_time r_X8_time (va_Pc [.ref (ad 0)] (qPre D xS ad cy sa va (eX ad cy) I J)) (va_Qi (S := Unit) (fun x _ => x = r) (fun _ t => qP D xS ad (eX ad cy) Ie J t.heap) (qA xS ad)) 0 0 (qA xS ad) := by
  refine Met.ofW (cc := cX8_time) (maxL := 1) (ret := (some .int)) (by decide) rfl ?_
  intro p e s m args below meth c s₁ B hml hv
  obtain ⟨rfl, hP, hK, hE, hN⟩ := hv
  have C : qC p s m _ meth c cX8_time 1 RX8 wsX8_time (some .int) := ⟨⟨B.exec, B.bytes, hml, findClass_of_methodNamed B.named, atoms_spec (ws := wsX8_time) B.pre⟩, B.returns, B.notSynchronized⟩
  have C0 := C
  obtain ⟨⟨hx, hb, hml, hown, hts⟩, hr, hlocks⟩ := C0
  have hS : va_S (qA xS ad) s.heap s.heap [] := va_S.rf
  have hl := lv_entry ([.ref (ad 0)]) (n := 1) (Nat.le_of_ble_eq_true rfl)
  rw [lg_entry_eq]
  generalize (lg_sl ([.ref (ad 0)]) ++ List.replicate (1 - (lg_sl ([.ref (ad 0)])).length) Slot.unset).toArray = ls at hl ⊢
  have hl : lv_has ls 1 [(0, .ref (ad 0))] := hl
  unfold f_X8_time at hf
  refine lv_aload_n hx hb dX8_time_0 rfl (lv_at hl 0 rfl) ?_
  refine q_get (C := RX8) (T := TX8) (N := 12) (ci := 8) (v := .ref (ad 45)) hx hb hts in_X8_time_X8 hown hK hP oX8 rfl 6 (by decide) (hts (.fieldLink RX8 42 "RowsOnlyPrimes" "plans" "LRowsOnlyPrimes$Plans;") (by decide +kernel)) (fun _ h9 => h9) rfl dX8_time_1 ?_
  refine lv_aload_n hx hb dX8_time_4 rfl (lv_at hl 0 rfl) ?_
  refine q_get (C := RX8) (T := TX8) (N := 12) (ci := 8) (v := .ref (ad 1)) hx hb hts in_X8_time_X8 hown hK hP oX8 rfl 0 (by decide) (hts (.fieldLink RX8 12 "RowsOnlyPrimes" "now" "LRowsOnlyPrimes$Bank;") (by decide +kernel)) (fun _ h9 => h9) rfl dX8_time_5 ?_
  obtain ⟨I1, h2, hf⟩ := bd_ok hf
  refine q_cEv (va_runV (As := [.ref (ad 1)]) (rest := []) ⟨hx, hb, hml, hown, hts⟩ (c_X5_reckon l (D := D) (ad := ad) (cy := cy) (sa := sa) (va := va) (I := I) (J := J) 1 isB_1 h2) (cwV 1 hts gX8_time_X5_reckon rfl rfl rfl (by decide +kernel) ⟨Nat.le_of_ble_eq_true rfl, Nat.le_of_ble_eq_true rfl⟩) ⟨qPre_blind _, q_recv hK hP oX5 rfl, fun U hU hW => ⟨rfl, qPre_of hP hK hE hN hS U hU hW⟩⟩ rfl rfl hl.1 rfl (lv_room (Nat.le_of_ble_eq_true rfl)) dX8_time_8 ⟨Nat.le_of_ble_eq_true rfl, Nat.le_of_ble_eq_true rfl⟩) hS (fun H locs hP hS => ?_)
  refine lv_aload_n hx hb dX8_time_11 rfl (lv_at hl 0 rfl) ?_
  refine q_get (C := RX8) (T := TX8) (N := 12) (ci := 8) (v := .ref (ad 45)) hx hb hts in_X8_time_X8 hown hK hP oX8 rfl 6 (by decide) (hts (.fieldLink RX8 42 "RowsOnlyPrimes" "plans" "LRowsOnlyPrimes$Plans;") (by decide +kernel)) (fun _ h9 => h9) rfl dX8_time_12 ?_
  obtain ⟨v3, h4, hf⟩ := bd_ok hf
  refine q_cSi (va_runV (As := []) (rest := []) ⟨hx, hb, hml, hown, hts⟩ (c_X5_found l (D := D) (ad := ad) (cy := cy) (sa := sa) (va := va) (I := I1) (J := J)  h4) (cwV 0 hts gX8_time_X5_found rfl rfl rfl (by decide +kernel) ⟨Nat.le_of_ble_eq_true rfl, Nat.le_of_ble_eq_true rfl⟩) ⟨qPre_blind _, q_recv hK hP oX5 rfl, fun U hU hW => ⟨rfl, qPre_of hP hK hE hN hS U hU hW⟩⟩ rfl rfl hl.1 rfl (lv_room (Nat.le_of_ble_eq_true rfl)) dX8_time_15 ⟨Nat.le_of_ble_eq_true rfl, Nat.le_of_ble_eq_true rfl⟩) ?_
  refine lv_if_eq (tgt := 34) hx hb dX8_time_18 (by decide) (fun cc => ?_) (fun cc => ?_)
  · have hf := (if_ok hf).1 cc
    refine lv_iconst (v := -1) hx hb dX8_time_34 (by decide) ?_
    have e9 := Option.some.inj hf
    have eI9 : I1 = Ie := (congrArg Prod.snd e9)
    exact W.iret hx hb hr (fun t ht _ => ⟨⟨_, (), rfl, (congrArg Prod.fst e9), by show qP D _ ad _ _ _ t.heap; rw [ht, ← eI9]; exact hP⟩, hS.F ht⟩) hS.2.2 dX8_time_35
  · have hf := (if_ok hf).2 cc
    refine lv_aload_n hx hb dX8_time_21 rfl (lv_at hl 0 rfl) ?_
    refine q_get (C := RX8) (T := TX8) (N := 12) (ci := 8) (v := .ref (ad 45)) hx hb hts in_X8_time_X8 hown hK hP oX8 rfl 6 (by decide) (hts (.fieldLink RX8 42 "RowsOnlyPrimes" "plans" "LRowsOnlyPrimes$Plans;") (by decide +kernel)) (fun _ h9 => h9) rfl dX8_time_22 ?_
    obtain ⟨v5, h6, hf⟩ := bd_ok hf
    refine q_cSi (va_runV (As := []) (rest := []) ⟨hx, hb, hml, hown, hts⟩ (c_X5_crossings l (D := D) (ad := ad) (cy := cy) (sa := sa) (va := va) (I := I1) (J := J)  h6) (cwV 0 hts gX8_time_X5_crossings rfl rfl rfl (by decide +kernel) ⟨Nat.le_of_ble_eq_true rfl, Nat.le_of_ble_eq_true rfl⟩) ⟨qPre_blind _, q_recv hK hP oX5 rfl, fun U hU hW => ⟨rfl, qPre_of hP hK hE hN hS U hU hW⟩⟩ rfl rfl hl.1 rfl (lv_room (Nat.le_of_ble_eq_true rfl)) dX8_time_25 ⟨Nat.le_of_ble_eq_true rfl, Nat.le_of_ble_eq_true rfl⟩) ?_
    refine lv_bipush (v := 20) hx hb dX8_time_28 (by decide) ?_
    refine lv_imul hx hb dX8_time_30 ?_
    refine lv_goto (tgt := 35) hx hb dX8_time_31 (by decide) ?_
    have e9 := Option.some.inj hf
    have eI9 : I1 = Ie := (congrArg Prod.snd e9)
    exact W.iret hx hb hr (fun t ht _ => ⟨⟨_, (), rfl, (congrArg Prod.fst e9), by show qP D _ ad _ _ _ t.heap; rw [ht, ← eI9]; exact hP⟩, hS.F ht⟩) hS.2.2 dX8_time_35
abbrev r_X8_priceUntied : Room := { frames := 5, cells := 0, slots := 0, locals := 114 }
theorem in_X8_priceUntied_X8 : ∀ w ∈ u_ws RX8 TX8 12, w ∈ wsX8_priceUntied := by decide +kernel
set_option maxHeartbeats 4000000 in
set_option maxRecDepth 100000 in
theorem c_X8_priceUntied (l : Launch) {D : va_G} {ad : Nat → Nat} {cy : Nat → ClassId} {sa va : Nat → Nat} {I : qI} {J : qJ}   (p0 : Int32) (p1 : Int32) {r : Int32} {Ie : qI} (hf : f_X8_priceUntied p0 p1 I = some (r, Ie)) : Met l yX8_priceUntied wsX8_priceUntied r_X8_priceUntied (va_Pc [.ref (ad 0), .int p0, .int p1] (qPre D xS ad cy sa va (eX ad cy) I J)) (va_Qi (S := Unit) (fun x _ => x = r) (fun _ t => qP D xS ad (eX ad cy) Ie J t.heap) (qA xS ad)) 0 0 (qA xS ad) := by
  refine Met.ofW (cc := cX8_priceUntied) (maxL := 3) (ret := (some .int)) (by decide) rfl ?_
  intro p e s m args below meth c s₁ B hml hv
  obtain ⟨rfl, hP, hK, hE, hN⟩ := hv
  have C : qC p s m _ meth c cX8_priceUntied 3 RX8 wsX8_priceUntied (some .int) := ⟨⟨B.exec, B.bytes, hml, findClass_of_methodNamed B.named, atoms_spec (ws := wsX8_priceUntied) B.pre⟩, B.returns, B.notSynchronized⟩
  have C0 := C
  obtain ⟨⟨hx, hb, hml, hown, hts⟩, hr, hlocks⟩ := C0
  have hS : va_S (qA xS ad) s.heap s.heap [] := va_S.rf
  have hl := lv_entry ([.ref (ad 0), .int p0, .int p1]) (n := 3) (Nat.le_of_ble_eq_true rfl)
  rw [lg_entry_eq]
  generalize (lg_sl ([.ref (ad 0), .int p0, .int p1]) ++ List.replicate (3 - (lg_sl ([.ref (ad 0), .int p0, .int p1])).length) Slot.unset).toArray = ls at hl ⊢
  have hl : lv_has ls 3 [(0, .ref (ad 0)), (1, .int p0), (2, .int p1)] := hl
  unfold f_X8_priceUntied at hf
  refine lv_aload_n hx hb dX8_priceUntied_0 rfl (lv_at hl 0 rfl) ?_
  refine q_get (C := RX8) (T := TX8) (N := 12) (ci := 8) (v := .ref (ad 17)) hx hb hts in_X8_priceUntied_X8 hown hK hP oX8 rfl 2 (by decide) (hts (.fieldLink RX8 19 "RowsOnlyPrimes" "draft" "LRowsOnlyPrimes$Bank;") (by decide +kernel)) (fun _ h9 => h9) rfl dX8_priceUntied_1 ?_
  refine lv_aload_n hx hb dX8_priceUntied_4 rfl (lv_at hl 0 rfl) ?_
  refine q_get (C := RX8) (T := TX8) (N := 12) (ci := 8) (v := .ref (ad 1)) hx hb hts in_X8_priceUntied_X8 hown hK hP oX8 rfl 0 (by decide) (hts (.fieldLink RX8 12 "RowsOnlyPrimes" "now" "LRowsOnlyPrimes$Bank;") (by decide +kernel)) (fun _ h9 => h9) rfl dX8_priceUntied_5 ?_
  obtain ⟨I1, h2, hf⟩ := bd_ok hf
  refine q_cEv (va_runV (As := [.ref (ad 1)]) (rest := []) ⟨hx, hb, hml, hown, hts⟩ (c_X2_become l (D := D) (ad := ad) (cy := cy) (sa := sa) (va := va) (I := I) (J := J) 17 1 isB_17 isB_1 h2) (cwV 1 hts gX8_priceUntied_X2_become rfl rfl rfl (by decide +kernel) ⟨Nat.le_of_ble_eq_true rfl, Nat.le_of_ble_eq_true rfl⟩) ⟨qPre_blind _, q_recv hK hP (oX2 isB_17) rfl, fun U hU hW => ⟨rfl, qPre_of hP hK hE hN hS U hU hW⟩⟩ rfl rfl hl.1 rfl (lv_room (Nat.le_of_ble_eq_true rfl)) dX8_priceUntied_8 ⟨Nat.le_of_ble_eq_true rfl, Nat.le_of_ble_eq_true rfl⟩) hS (fun H locs hP hS => ?_)
  refine lv_aload_n hx hb dX8_priceUntied_11 rfl (lv_at hl 0 rfl) ?_
  refine q_get (C := RX8) (T := TX8) (N := 12) (ci := 8) (v := .ref (ad 17)) hx hb hts in_X8_priceUntied_X8 hown hK hP oX8 rfl 2 (by decide) (hts (.fieldLink RX8 19 "RowsOnlyPrimes" "draft" "LRowsOnlyPrimes$Bank;") (by decide +kernel)) (fun _ h9 => h9) rfl dX8_priceUntied_12 ?_
  refine lv_iload_n hx hb dX8_priceUntied_15 rfl (lv_at hl 1 rfl) ?_
  refine lv_iload_n hx hb dX8_priceUntied_16 rfl (lv_at hl 2 rfl) ?_
  refine lv_iconst (v := 0) hx hb dX8_priceUntied_17 (by decide) ?_
  obtain ⟨I3, h4, hf⟩ := bd_ok hf
  refine q_cEv (va_runV (As := [.int p0, .int p1, .int (0 : Int32)]) (rest := []) ⟨hx, hb, hml, hown, hts⟩ (c_X2_relate l (D := D) (ad := ad) (cy := cy) (sa := sa) (va := va) (I := I1) (J := J) 17 isB_17 p0 p1 (0 : Int32) h4) (cwV 3 hts gX8_priceUntied_X2_relate rfl rfl rfl (by decide +kernel) ⟨Nat.le_of_ble_eq_true rfl, Nat.le_of_ble_eq_true rfl⟩) ⟨qPre_blind _, q_recv hK hP (oX2 isB_17) rfl, fun U hU hW => ⟨rfl, qPre_of hP hK hE hN hS U hU hW⟩⟩ rfl rfl hl.1 rfl (lv_room (Nat.le_of_ble_eq_true rfl)) dX8_priceUntied_18 ⟨Nat.le_of_ble_eq_true rfl, Nat.le_of_ble_eq_true rfl⟩) hS (fun H locs hP hS => ?_)
  refine lv_aload_n hx hb dX8_priceUntied_21 rfl (lv_at hl 0 rfl) ?_
  refine q_get (C := RX8) (T := TX8) (N := 12) (ci := 8) (v := .ref (ad 45)) hx hb hts in_X8_priceUntied_X8 hown hK hP oX8 rfl 6 (by decide) (hts (.fieldLink RX8 42 "RowsOnlyPrimes" "plans" "LRowsOnlyPrimes$Plans;") (by decide +kernel)) (fun _ h9 => h9) rfl dX8_priceUntied_22 ?_
  refine lv_aload_n hx hb dX8_priceUntied_25 rfl (lv_at hl 0 rfl) ?_
  refine q_get (C := RX8) (T := TX8) (N := 12) (ci := 8) (v := .ref (ad 17)) hx hb hts in_X8_priceUntied_X8 hown hK hP oX8 rfl 2 (by decide) (hts (.fieldLink RX8 19 "RowsOnlyPrimes" "draft" "LRowsOnlyPrimes$Bank;") (by decide +kernel)) (fun _ h9 => h9) rfl dX8_priceUntied_26 ?_
  obtain ⟨I5, h6, hf⟩ := bd_ok hf
  refine q_cEv (va_runV (As := [.ref (ad 17)]) (rest := []) ⟨hx, hb, hml, hown, hts⟩ (c_X5_reckon l (D := D) (ad := ad) (cy := cy) (sa := sa) (va := va) (I := I3) (J := J) 17 isB_17 h6) (cwV 1 hts gX8_priceUntied_X5_reckon rfl rfl rfl (by decide +kernel) ⟨Nat.le_of_ble_eq_true rfl, Nat.le_of_ble_eq_true rfl⟩) ⟨qPre_blind _, q_recv hK hP oX5 rfl, fun U hU hW => ⟨rfl, qPre_of hP hK hE hN hS U hU hW⟩⟩ rfl rfl hl.1 rfl (lv_room (Nat.le_of_ble_eq_true rfl)) dX8_priceUntied_29 ⟨Nat.le_of_ble_eq_true rfl, Nat.le_of_ble_eq_true rfl⟩) hS (fun H locs hP hS => ?_)
  refine lv_aload_n hx hb dX8_priceUntied_32 rfl (lv_at hl 0 rfl) ?_
  refine q_get (C := RX8) (T := TX8) (N := 12) (ci := 8) (v := .ref (ad 45)) hx hb hts in_X8_priceUntied_X8 hown hK hP oX8 rfl 6 (by decide) (hts (.fieldLink RX8 42 "RowsOnlyPrimes" "plans" "LRowsOnlyPrimes$Plans;") (by decide +kernel)) (fun _ h9 => h9) rfl dX8_priceUntied_33 ?_
  obtain ⟨v7, h8, hf⟩ := bd_ok hf
  refine q_cSi (va_runV (As := []) (rest := []) ⟨hx, hb, hml, hown, hts⟩ (c_X5_price l (D := D) (ad := ad) (cy := cy) (sa := sa) (va := va) (I := I5) (J := J)  h8) (cwV 0 hts gX8_priceUntied_X5_price rfl rfl rfl (by decide +kernel) ⟨Nat.le_of_ble_eq_true rfl, Nat.le_of_ble_eq_true rfl⟩) ⟨qPre_blind _, q_recv hK hP oX5 rfl, fun U hU hW => ⟨rfl, qPre_of hP hK hE hN hS U hU hW⟩⟩ rfl rfl hl.1 rfl (lv_room (Nat.le_of_ble_eq_true rfl)) dX8_priceUntied_36 ⟨Nat.le_of_ble_eq_true rfl, Nat.le_of_ble_eq_true rfl⟩) ?_
  have e9 := Option.some.inj hf
  have eI9 : I5 = Ie := (congrArg Prod.snd e9)
  exact W.iret hx hb hr (fun t ht _ => ⟨⟨_, (), rfl, (congrArg Prod.fst e9), by show qP D _ ad _ _ _ t.heap; rw [ht, ← eI9]; exact hP⟩, hS.F ht⟩) hS.2.2 dX8_priceUntied_39
abbrev r_X8_loosen : Room := { frames := 6, cells := 0, slots := 0, locals := 136 }
theorem in_X8_loosen_X2 : ∀ w ∈ u_ws RX2 TX2 13, w ∈ wsX8_loosen := by decide +kernel
theorem in_X8_loosen_X8 : ∀ w ∈ u_ws RX8 TX8 12, w ∈ wsX8_loosen := by decide +kernel
set_option maxHeartbeats 4000000 in
set_option maxRecDepth 100000 in
theorem w_X8_loosen_70 (C : qC p s m args meth c cX8_loosen 6 RX8 wsX8_loosen (some .int)) (hK : qK D cy sa s) (hE : qEnv sa va (qA xS ad) s s.heap) (hN : qN xS ad)   {J : qJ} {r : Int32} {Ie : qI} (k8 : Int32 → Int32 → Int32 → qI → Option (Int32 × qI)) (hk8 : ∀ (x1 : Int32) (x2 : Int32) (x3 : Int32)  (I : qI) (ls : Array Slot) (H : Heap) (locs : List Loc), k8 x1 x2 x3 I = some (r, Ie) → lv_has ls 6 [(0, .ref (ad 0)), (1, .int x1), (2, .int x2), (3, .int x3)] → qP D xS ad (eX ad cy) I J H → va_S (qA xS ad) s.heap H locs → W p l e (headSpec wsX8_loosen r_X8_loosen).room s m args below meth c H locs 0 0 (MQ below (va_Qi (S := Unit) (fun x _ => x = r) (fun _ t => qP D xS ad (eX ad cy) Ie J t.heap) (qA xS ad)) args s 0 0 (qA xS ad)) (F0 m 8 ls [])) (k24 : Int32 → Int32 → Int32 → Int32 → qI → Option (Int32 × qI)) (hk24 : ∀ (x1 : Int32) (x2 : Int32) (x3 : Int32) (x4 : Int32)  (I : qI) (ls : Array Slot) (H : Heap) (locs : List Loc), k24 x1 x2 x3 x4 I = some (r, Ie) → lv_has ls 6 [(0, .ref (ad 0)), (1, .int x1), (2, .int x2), (3, .int x3), (4, .int x4)] → qP D xS ad (eX ad cy) I J H → va_S (qA xS ad) s.heap H locs → W p l e (headSpec wsX8_loosen r_X8_loosen).room s m args below meth c H locs 0 0 (MQ below (va_Qi (S := Unit) (fun x _ => x = r) (fun _ t => qP D xS ad (eX ad cy) Ie J t.heap) (qA xS ad)) args s 0 0 (qA xS ad)) (F0 m 24 ls [])) : ∀ (x3 : Int32) (x4 : Int32) (x5 : Int32)  (I : qI) (ls : Array Slot) (H : Heap) (locs : List Loc), f_X8_loosen_70 k8 k24 x3 x4 x5 I = some (r, Ie) → lv_has ls 6 [(0, .ref (ad 0)), (3, .int x3), (4, .int x4), (5, .int x5)] → qP D xS ad (eX ad cy) I J H → va_S (qA xS ad) s.heap H locs → W p l e (headSpec wsX8_loosen r_X8_loosen).room s m args below meth c H locs 0 0 (MQ below (va_Qi (S := Unit) (fun x _ => x = r) (fun _ t => qP D xS ad (eX ad cy) Ie J t.heap) (qA xS ad)) args s 0 0 (qA xS ad)) (F0 m 70 ls []) := by
  have C0 := C
  obtain ⟨⟨hx, hb, hml, hown, hts⟩, hr, hlocks⟩ := C0
  intro x3 x4 x5 I ls H locs hf hl hP hS
  unfold f_X8_loosen_70 at hf
  refine lv_iload_n hx hb dX8_loosen_70 rfl (lv_at hl 1 rfl) ?_
  refine lv_bipush (v := 10) hx hb dX8_loosen_71 (by decide) ?_
  refine lv_imul hx hb dX8_loosen_73 ?_
  refine lv_iload hx hb dX8_loosen_74 (lv_at hl 2 rfl) ?_
  refine lv_iadd hx hb dX8_loosen_76 ?_
  refine lv_istore_n (lv' := [(1, .int ((x3 * (10 : Int32)) + x4)), (0, .ref (ad 0)), (3, .int x3), (4, .int x4), (5, .int x5)]) hx hb dX8_loosen_77 rfl hl (by decide) rfl (fun ls hl => ?_)
  refine lv_iload hx hb dX8_loosen_78 (lv_at hl 4 rfl) ?_
  refine lv_istore_n (lv' := [(2, .int x5), (1, .int ((x3 * (10 : Int32)) + x4)), (0, .ref (ad 0)), (3, .int x3), (4, .int x4), (5, .int x5)]) hx hb dX8_loosen_80 rfl hl (by decide) rfl (fun ls hl => ?_)
  refine lv_iinc (v := (x4 + (1 : Int32))) (lv' := [(4, .int (x4 + (1 : Int32))), (2, .int x5), (1, .int ((x3 * (10 : Int32)) + x4)), (0, .ref (ad 0)), (3, .int x3), (5, .int x5)]) hx hb dX8_loosen_81 hl (k := 4) rfl rfl (by decide) rfl (fun ls hl => ?_)
  refine lv_goto (tgt := 24) hx hb dX8_loosen_84 (by decide) ?_
  exact hk24 ((x3 * (10 : Int32)) + x4) x5 x3 (x4 + (1 : Int32)) I _ _ _ hf (lv_sub hl [3, 2, 1, 4, 0] rfl) hP hS
set_option maxHeartbeats 4000000 in
set_option maxRecDepth 100000 in
theorem w_X8_loosen_24 (C : qC p s m args meth c cX8_loosen 6 RX8 wsX8_loosen (some .int)) (hK : qK D cy sa s) (hE : qEnv sa va (qA xS ad) s s.heap) (hN : qN xS ad)   {J : qJ} {r : Int32} {Ie : qI} (k8 : Int32 → Int32 → Int32 → qI → Option (Int32 × qI)) (hk8 : ∀ (x1 : Int32) (x2 : Int32) (x3 : Int32)  (I : qI) (ls : Array Slot) (H : Heap) (locs : List Loc), k8 x1 x2 x3 I = some (r, Ie) → lv_has ls 6 [(0, .ref (ad 0)), (1, .int x1), (2, .int x2), (3, .int x3)] → qP D xS ad (eX ad cy) I J H → va_S (qA xS ad) s.heap H locs → W p l e (headSpec wsX8_loosen r_X8_loosen).room s m args below meth c H locs 0 0 (MQ below (va_Qi (S := Unit) (fun x _ => x = r) (fun _ t => qP D xS ad (eX ad cy) Ie J t.heap) (qA xS ad)) args s 0 0 (qA xS ad)) (F0 m 8 ls [])) : ∀ (n : Nat) (x1 : Int32) (x2 : Int32) (x3 : Int32) (x4 : Int32)  (I : qI) (ls : Array Slot) (H : Heap) (locs : List Loc), f_X8_loosen_24 k8 n x1 x2 x3 x4 I = some (r, Ie) → lv_has ls 6 [(0, .ref (ad 0)), (1, .int x1), (2, .int x2), (3, .int x3), (4, .int x4)] → qP D xS ad (eX ad cy) I J H → va_S (qA xS ad) s.heap H locs → W p l e (headSpec wsX8_loosen r_X8_loosen).room s m args below meth c H locs 0 0 (MQ below (va_Qi (S := Unit) (fun x _ => x = r) (fun _ t => qP D xS ad (eX ad cy) Ie J t.heap) (qA xS ad)) args s 0 0 (qA xS ad)) (F0 m 24 ls []) := by
  have C0 := C
  obtain ⟨⟨hx, hb, hml, hown, hts⟩, hr, hlocks⟩ := C0
  intro n
  induction n with
  | zero =>
    intro x1 x2 x3 x4 I ls H locs hf hl hP hS
    rw [f_X8_loosen_24] at hf
    cases hf
  | succ n ih =>
    intro x1 x2 x3 x4 I ls H locs hf hl hP hS
    rw [f_X8_loosen_24] at hf
    refine lv_iload hx hb dX8_loosen_24 (lv_at hl 4 rfl) ?_
    refine lv_aload_n hx hb dX8_loosen_26 rfl (lv_at hl 0 rfl) ?_
    refine q_get (C := RX8) (T := TX8) (N := 12) (ci := 8) (v := .ref (ad 1)) hx hb hts in_X8_loosen_X8 hown hK hP oX8 rfl 0 (by decide) (hts (.fieldLink RX8 12 "RowsOnlyPrimes" "now" "LRowsOnlyPrimes$Bank;") (by decide +kernel)) (fun _ h9 => h9) rfl dX8_loosen_27 ?_
    refine q_get (C := RX2) (T := TX2) (N := 13) (ci := 2) (v := .int (I 1 7)) hx hb hts in_X8_loosen_X2 hown hK hP (oX2 isB_1) rfl 7 (by decide) (hts (.fieldLink RX8 232 "RowsOnlyPrimes$Bank" "size" "I") (by decide +kernel)) (fun _ h9 => h9) rfl dX8_loosen_30 ?_
    refine lv_icmp_ge (tgt := 87) hx hb dX8_loosen_33 (by decide) (fun cc => ?_) (fun cc => ?_)
    · have hf := (if_ok hf).1 cc
      refine lv_iinc (v := (x3 + (1 : Int32))) (lv' := [(3, .int (x3 + (1 : Int32))), (0, .ref (ad 0)), (1, .int x1), (2, .int x2), (4, .int x4)]) hx hb dX8_loosen_87 hl (k := 3) rfl rfl (by decide) rfl (fun ls hl => ?_)
      refine lv_goto (tgt := 8) hx hb dX8_loosen_90 (by decide) ?_
      exact hk8 x1 x2 (x3 + (1 : Int32)) I _ _ _ hf (lv_sub hl [1, 2, 3, 0] rfl) hP hS
    · have hf := (if_ok hf).2 cc
      refine lv_aload_n hx hb dX8_loosen_36 rfl (lv_at hl 0 rfl) ?_
      refine q_get (C := RX8) (T := TX8) (N := 12) (ci := 8) (v := .ref (ad 1)) hx hb hts in_X8_loosen_X8 hown hK hP oX8 rfl 0 (by decide) (hts (.fieldLink RX8 12 "RowsOnlyPrimes" "now" "LRowsOnlyPrimes$Bank;") (by decide +kernel)) (fun _ h9 => h9) rfl dX8_loosen_37 ?_
      refine lv_iload_n hx hb dX8_loosen_40 rfl (lv_at hl 3 rfl) ?_
      refine lv_iload hx hb dX8_loosen_41 (lv_at hl 4 rfl) ?_
      obtain ⟨v1, h2, hf⟩ := bd_ok hf
      refine q_cSi (va_runV (As := [.int x3, .int x4]) (rest := []) ⟨hx, hb, hml, hown, hts⟩ (c_X2_relation l (D := D) (ad := ad) (cy := cy) (sa := sa) (va := va) (I := I) (J := J) 1 isB_1 x3 x4 h2) (cwV 2 hts gX8_loosen_X2_relation rfl rfl rfl (by decide +kernel) ⟨Nat.le_of_ble_eq_true rfl, Nat.le_of_ble_eq_true rfl⟩) ⟨qPre_blind _, q_recv hK hP (oX2 isB_1) rfl, fun U hU hW => ⟨rfl, qPre_of hP hK hE hN hS U hU hW⟩⟩ rfl rfl hl.1 rfl (lv_room (Nat.le_of_ble_eq_true rfl)) dX8_loosen_43 ⟨Nat.le_of_ble_eq_true rfl, Nat.le_of_ble_eq_true rfl⟩) ?_
      refine lv_iconst (v := 1) hx hb dX8_loosen_46 (by decide) ?_
      refine lv_icmp_ne (tgt := 81) hx hb dX8_loosen_47 (by decide) (fun cc => ?_) (fun cc => ?_)
      · have hf := (if_ok hf).2 cc
        refine lv_iinc (v := (x4 + (1 : Int32))) (lv' := [(4, .int (x4 + (1 : Int32))), (0, .ref (ad 0)), (1, .int x1), (2, .int x2), (3, .int x3)]) hx hb dX8_loosen_81 hl (k := 4) rfl rfl (by decide) rfl (fun ls hl => ?_)
        refine lv_goto (tgt := 24) hx hb dX8_loosen_84 (by decide) ?_
        exact ih x1 x2 x3 (x4 + (1 : Int32)) I _ _ _ hf (lv_sub hl [1, 2, 3, 4, 0] rfl) hP hS
      · have hf := (if_ok hf).1 cc
        refine lv_aload_n hx hb dX8_loosen_50 rfl (lv_at hl 0 rfl) ?_
        refine lv_iload_n hx hb dX8_loosen_51 rfl (lv_at hl 3 rfl) ?_
        refine lv_iload hx hb dX8_loosen_52 (lv_at hl 4 rfl) ?_
        obtain ⟨v3, I4, h5, hf⟩ := bd2_ok hf
        refine q_cEi (va_runV (As := [.int x3, .int x4]) (rest := []) ⟨hx, hb, hml, hown, hts⟩ (c_X8_priceUntied l (D := D) (ad := ad) (cy := cy) (sa := sa) (va := va) (I := I) (J := J) x3 x4 h5) (cwV 2 hts gX8_loosen_X8_priceUntied rfl rfl rfl (by decide +kernel) ⟨Nat.le_of_ble_eq_true rfl, Nat.le_of_ble_eq_true rfl⟩) ⟨qPre_blind _, q_recv hK hP oX8 rfl, fun U hU hW => ⟨rfl, qPre_of hP hK hE hN hS U hU hW⟩⟩ rfl rfl hl.1 rfl (lv_room (Nat.le_of_ble_eq_true rfl)) dX8_loosen_54 ⟨Nat.le_of_ble_eq_true rfl, Nat.le_of_ble_eq_true rfl⟩) hS (fun H locs hP hS => ?_)
        refine lv_istore (lv' := [(5, .int v3), (0, .ref (ad 0)), (1, .int x1), (2, .int x2), (3, .int x3), (4, .int x4)]) hx hb dX8_loosen_57 hl (by decide) rfl (fun ls hl => ?_)
        refine lv_iload_n hx hb dX8_loosen_59 rfl (lv_at hl 2 rfl) ?_
        refine lv_iconst (v := -1) hx hb dX8_loosen_60 (by decide) ?_
        refine lv_icmp_eq (tgt := 70) hx hb dX8_loosen_61 (by decide) (fun cc => ?_) (fun cc => ?_)
        · have hf := (if_ok hf).1 cc
          exact w_X8_loosen_70 C hK hE hN  k8 hk8 (f_X8_loosen_24 k8 n) ih  x3 x4 v3 I4 _ _ _ hf (lv_sub hl [1, 4, 5, 0] rfl) hP hS
        · have hf := (if_ok hf).2 cc
          refine lv_iload hx hb dX8_loosen_64 (lv_at hl 0 rfl) ?_
          refine lv_iload_n hx hb dX8_loosen_66 rfl (lv_at hl 3 rfl) ?_
          refine lv_icmp_ge (tgt := 81) hx hb dX8_loosen_67 (by decide) (fun cc => ?_) (fun cc => ?_)
          · have hf := (if_ok hf).1 cc
            refine lv_iinc (v := (x4 + (1 : Int32))) (lv' := [(4, .int (x4 + (1 : Int32))), (5, .int v3), (0, .ref (ad 0)), (1, .int x1), (2, .int x2), (3, .int x3)]) hx hb dX8_loosen_81 hl (k := 5) rfl rfl (by decide) rfl (fun ls hl => ?_)
            refine lv_goto (tgt := 24) hx hb dX8_loosen_84 (by decide) ?_
            exact ih x1 x2 x3 (x4 + (1 : Int32)) I4 _ _ _ hf (lv_sub hl [2, 3, 4, 5, 0] rfl) hP hS
          · have hf := (if_ok hf).2 cc
            exact w_X8_loosen_70 C hK hE hN  k8 hk8 (f_X8_loosen_24 k8 n) ih  x3 x4 v3 I4 _ _ _ hf (lv_sub hl [1, 4, 5, 0] rfl) hP hS
set_option maxHeartbeats 4000000 in
set_option maxRecDepth 100000 in
theorem w_X8_loosen_8 (C : qC p s m args meth c cX8_loosen 6 RX8 wsX8_loosen (some .int)) (hK : qK D cy sa s) (hE : qEnv sa va (qA xS ad) s s.heap) (hN : qN xS ad)   {J : qJ} {r : Int32} {Ie : qI} : ∀ (n : Nat) (x1 : Int32) (x2 : Int32) (x3 : Int32)  (I : qI) (ls : Array Slot) (H : Heap) (locs : List Loc), f_X8_loosen_8 n x1 x2 x3 I = some (r, Ie) → lv_has ls 6 [(0, .ref (ad 0)), (1, .int x1), (2, .int x2), (3, .int x3)] → qP D xS ad (eX ad cy) I J H → va_S (qA xS ad) s.heap H locs → W p l e (headSpec wsX8_loosen r_X8_loosen).room s m args below meth c H locs 0 0 (MQ below (va_Qi (S := Unit) (fun x _ => x = r) (fun _ t => qP D xS ad (eX ad cy) Ie J t.heap) (qA xS ad)) args s 0 0 (qA xS ad)) (F0 m 8 ls []) := by
  have C0 := C
  obtain ⟨⟨hx, hb, hml, hown, hts⟩, hr, hlocks⟩ := C0
  intro n
  induction n with
  | zero =>
    intro x1 x2 x3 I ls H locs hf hl hP hS
    rw [f_X8_loosen_8] at hf
    cases hf
  | succ n ih =>
    intro x1 x2 x3 I ls H locs hf hl hP hS
    rw [f_X8_loosen_8] at hf
    refine lv_iload_n hx hb dX8_loosen_8 rfl (lv_at hl 3 rfl) ?_
    refine lv_aload_n hx hb dX8_loosen_9 rfl (lv_at hl 0 rfl) ?_
    refine q_get (C := RX8) (T := TX8) (N := 12) (ci := 8) (v := .ref (ad 1)) hx hb hts in_X8_loosen_X8 hown hK hP oX8 rfl 0 (by decide) (hts (.fieldLink RX8 12 "RowsOnlyPrimes" "now" "LRowsOnlyPrimes$Bank;") (by decide +kernel)) (fun _ h9 => h9) rfl dX8_loosen_10 ?_
    refine q_get (C := RX2) (T := TX2) (N := 13) (ci := 2) (v := .int (I 1 7)) hx hb hts in_X8_loosen_X2 hown hK hP (oX2 isB_1) rfl 7 (by decide) (hts (.fieldLink RX8 232 "RowsOnlyPrimes$Bank" "size" "I") (by decide +kernel)) (fun _ h9 => h9) rfl dX8_loosen_13 ?_
    refine lv_icmp_ge (tgt := 93) hx hb dX8_loosen_16 (by decide) (fun cc => ?_) (fun cc => ?_)
    · have hf := (if_ok hf).1 cc
      refine lv_iload_n hx hb dX8_loosen_93 rfl (lv_at hl 1 rfl) ?_
      have e9 := Option.some.inj hf
      have eI9 : I = Ie := (congrArg Prod.snd e9)
      exact W.iret hx hb hr (fun t ht _ => ⟨⟨_, (), rfl, (congrArg Prod.fst e9), by show qP D _ ad _ _ _ t.heap; rw [ht, ← eI9]; exact hP⟩, hS.F ht⟩) hS.2.2 dX8_loosen_94
    · have hf := (if_ok hf).2 cc
      refine lv_iload_n hx hb dX8_loosen_19 rfl (lv_at hl 3 rfl) ?_
      refine lv_iconst (v := 1) hx hb dX8_loosen_20 (by decide) ?_
      refine lv_iadd hx hb dX8_loosen_21 ?_
      refine lv_istore (lv' := [(4, .int (x3 + (1 : Int32))), (0, .ref (ad 0)), (1, .int x1), (2, .int x2), (3, .int x3)]) hx hb dX8_loosen_22 hl (by decide) rfl (fun ls hl => ?_)
      exact w_X8_loosen_24 C hK hE hN  (f_X8_loosen_8 n) ih 1000 x1 x2 x3 (x3 + (1 : Int32)) I _ _ _ hf (lv_sub hl [1, 2, 3, 4, 0] rfl) hP hS
set_option maxHeartbeats 4000000 in
set_option maxRecDepth 100000 in
theorem c_X8_loosen (l : Launch) {D : va_G} {ad : Nat → Nat} {cy : Nat → ClassId} {sa va : Nat → Nat} {I : qI} {J : qJ}    {r : Int32} {Ie : qI} (hf : f_X8_loosen I = some (r, Ie)) : Met l yX8_loosen wsX8_loosen r_X8_loosen (va_Pc [.ref (ad 0)] (qPre D xS ad cy sa va (eX ad cy) I J)) (va_Qi (S := Unit) (fun x _ => x = r) (fun _ t => qP D xS ad (eX ad cy) Ie J t.heap) (qA xS ad)) 0 0 (qA xS ad) := by
  refine Met.ofW (cc := cX8_loosen) (maxL := 6) (ret := (some .int)) (by decide) rfl ?_
  intro p e s m args below meth c s₁ B hml hv
  obtain ⟨rfl, hP, hK, hE, hN⟩ := hv
  have C : qC p s m _ meth c cX8_loosen 6 RX8 wsX8_loosen (some .int) := ⟨⟨B.exec, B.bytes, hml, findClass_of_methodNamed B.named, atoms_spec (ws := wsX8_loosen) B.pre⟩, B.returns, B.notSynchronized⟩
  have C0 := C
  obtain ⟨⟨hx, hb, hml, hown, hts⟩, hr, hlocks⟩ := C0
  have hS : va_S (qA xS ad) s.heap s.heap [] := va_S.rf
  have hl := lv_entry ([.ref (ad 0)]) (n := 6) (Nat.le_of_ble_eq_true rfl)
  rw [lg_entry_eq]
  generalize (lg_sl ([.ref (ad 0)]) ++ List.replicate (6 - (lg_sl ([.ref (ad 0)])).length) Slot.unset).toArray = ls at hl ⊢
  have hl : lv_has ls 6 [(0, .ref (ad 0))] := hl
  unfold f_X8_loosen at hf
  refine lv_iconst (v := -1) hx hb dX8_loosen_0 (by decide) ?_
  refine lv_istore_n (lv' := [(1, .int (-1 : Int32)), (0, .ref (ad 0))]) hx hb dX8_loosen_1 rfl hl (by decide) rfl (fun ls hl => ?_)
  refine lv_ldcw (own := RX8) (v := 1000000) hx hb hown (hts (.constant RX8 256 (1000000)) (by decide +kernel)) dX8_loosen_2 ?_
  refine lv_istore_n (lv' := [(2, .int (1000000 : Int32)), (1, .int (-1 : Int32)), (0, .ref (ad 0))]) hx hb dX8_loosen_5 rfl hl (by decide) rfl (fun ls hl => ?_)
  refine lv_iconst (v := 0) hx hb dX8_loosen_6 (by decide) ?_
  refine lv_istore_n (lv' := [(3, .int (0 : Int32)), (2, .int (1000000 : Int32)), (1, .int (-1 : Int32)), (0, .ref (ad 0))]) hx hb dX8_loosen_7 rfl hl (by decide) rfl (fun ls hl => ?_)
  exact w_X8_loosen_8 C hK hE hN   1000 (-1 : Int32) (1000000 : Int32) (0 : Int32) I _ _ _ hf (lv_sub hl [3, 2, 1, 0] rfl) hP hS
end
