/-! machine: X9_days X9_seed X9_copied X9_takeFrom X9_status (written by wip/gen/gen.py) -/
section
variable {p : Program} {l : Launch} {e : Env} {s : State} {m : MethodId} {args : Array Value} {below : List Frame} {meth : Method} {c : Code} {D : va_G} {ad : Nat → Nat} {cy : Nat → ClassId} {sa va : Nat → Nat}
abbrev r_X9_days : Room := { frames := 5, cells := 0, slots := 0, locals := 116 }
theorem in_X9_days_X9 : ∀ w ∈ u_ws RX9 TX9 42, w ∈ wsX9_days := by decide +kernel
set_option maxHeartbeats 4000000 in
set_option maxRecDepth 100000 in
theorem w_X9_days_39 {S : Nat → Prop} (C : qC p s m args meth c cX9_days 4 RX9 wsX9_days (some .int)) (hK : qK D cy sa s) (hE : qEnv sa va (qA S ad) s s.heap) (hN : qN S ad) (h0 : isM0 S)   {J : qJ} {r : Int32} {Ie : qI} : ∀ (n : Nat) (x1 : Int32) (x2 : Int32) (x3 : Int32)  (I : qI) (ls : Array Slot) (H : Heap) (locs : List Loc), f_X9_days_39 n x1 x2 x3 I = some (r, Ie) → lv_has ls 4 [(0, .ref (ad 0)), (1, .int x1), (2, .int x2), (3, .int x3)] → qP D S ad (eM ad cy) I J H → va_S (qA S ad) s.heap H locs → W p l e (headSpec wsX9_days r_X9_days).room s m args below meth c H locs 0 0 (MQ below (va_Qi (S := Unit) (fun x _ => x = r) (fun _ t => qP D S ad (eM ad cy) Ie J t.heap) (qA S ad)) args s 0 0 (qA S ad)) (F0 m 39 ls []) := by
  have C0 := C
  obtain ⟨⟨hx, hb, hml, hown, hts⟩, hr, hlocks⟩ := C0
  intro n
  induction n with
  | zero =>
    intro x1 x2 x3 I ls H locs hf hl hP hS
    rw [f_X9_days_39] at hf
    cases hf
  | succ n ih =>
    intro x1 x2 x3 I ls H locs hf hl hP hS
    rw [f_X9_days_39] at hf
    refine lv_iload_n hx hb dX9_days_39 rfl (lv_at hl 3 rfl) ?_
    refine lv_iload_n hx hb dX9_days_40 rfl (lv_at hl 1 rfl) ?_
    refine lv_icmp_ge (tgt := 65) hx hb dX9_days_41 (by decide) (fun cc => ?_) (fun cc => ?_)
    · have hf := (if_ok hf).1 cc
      refine lv_iload_n hx hb dX9_days_65 rfl (lv_at hl 2 rfl) ?_
      have e9 := Option.some.inj hf
      have eI9 : I = Ie := (congrArg Prod.snd e9)
      exact W.iret hx hb hr (fun t ht _ => ⟨⟨_, (), rfl, (congrArg Prod.fst e9), by show qP D _ ad _ _ _ t.heap; rw [ht, ← eI9]; exact hP⟩, hS.F ht⟩) hS.2.2 dX9_days_66
    · have hf := (if_ok hf).2 cc
      refine lv_iload_n hx hb dX9_days_44 rfl (lv_at hl 2 rfl) ?_
      refine lv_aload_n hx hb dX9_days_45 rfl (lv_at hl 0 rfl) ?_
      obtain ⟨v1, I2, h3, hf⟩ := bd2_ok hf
      refine q_cEi (va_runV (As := []) (rest := [.int x2]) ⟨hx, hb, hml, hown, hts⟩ (c_X9_goesDay l (D := D) (ad := ad) (cy := cy) (sa := sa) (va := va) (I := I) (J := J) (S := S) h0  h3) (cwV 0 hts gX9_days_X9_goesDay rfl rfl rfl (by decide +kernel) ⟨Nat.le_of_ble_eq_true rfl, Nat.le_of_ble_eq_true rfl⟩) ⟨qPre_blind _, q_recv hK hP (oX9 h0) rfl, fun U hU hW => ⟨rfl, qPre_of hP hK hE hN hS U hU hW⟩⟩ rfl rfl hl.1 rfl (lv_room (Nat.le_of_ble_eq_true rfl)) dX9_days_46 ⟨Nat.le_of_ble_eq_true rfl, Nat.le_of_ble_eq_true rfl⟩) hS (fun H locs hP hS => ?_)
      refine lv_if_eq (tgt := 56) hx hb dX9_days_49 (by decide) (fun cc => ?_) (fun cc => ?_)
      · have hf := (if_ok hf).1 cc
        refine lv_iconst (v := 0) hx hb dX9_days_56 (by decide) ?_
        refine lv_iadd hx hb dX9_days_57 ?_
        refine lv_istore_n (lv' := [(2, .int (x2 + (0 : Int32))), (0, .ref (ad 0)), (1, .int x1), (3, .int x3)]) hx hb dX9_days_58 rfl hl (by decide) rfl (fun ls hl => ?_)
        refine lv_iinc (v := (x3 + (1 : Int32))) (lv' := [(3, .int (x3 + (1 : Int32))), (2, .int (x2 + (0 : Int32))), (0, .ref (ad 0)), (1, .int x1)]) hx hb dX9_days_59 hl (k := 3) rfl rfl (by decide) rfl (fun ls hl => ?_)
        refine lv_goto (tgt := 39) hx hb dX9_days_62 (by decide) ?_
        exact ih x1 (x2 + (0 : Int32)) (x3 + (1 : Int32)) I2 _ _ _ hf (lv_sub hl [2, 3, 1, 0] rfl) hP hS
      · have hf := (if_ok hf).2 cc
        refine lv_iconst (v := 1) hx hb dX9_days_52 (by decide) ?_
        refine lv_goto (tgt := 57) hx hb dX9_days_53 (by decide) ?_
        refine lv_iadd hx hb dX9_days_57 ?_
        refine lv_istore_n (lv' := [(2, .int (x2 + (1 : Int32))), (0, .ref (ad 0)), (1, .int x1), (3, .int x3)]) hx hb dX9_days_58 rfl hl (by decide) rfl (fun ls hl => ?_)
        refine lv_iinc (v := (x3 + (1 : Int32))) (lv' := [(3, .int (x3 + (1 : Int32))), (2, .int (x2 + (1 : Int32))), (0, .ref (ad 0)), (1, .int x1)]) hx hb dX9_days_59 hl (k := 3) rfl rfl (by decide) rfl (fun ls hl => ?_)
        refine lv_goto (tgt := 39) hx hb dX9_days_62 (by decide) ?_
        exact ih x1 (x2 + (1 : Int32)) (x3 + (1 : Int32)) I2 _ _ _ hf (lv_sub hl [2, 3, 1, 0] rfl) hP hS
set_option maxHeartbeats 4000000 in
set_option maxRecDepth 100000 in
theorem c_X9_days (l : Launch) {D : va_G} {ad : Nat → Nat} {cy : Nat → ClassId} {sa va : Nat → Nat} {I : qI} {J : qJ} {S : Nat → Prop} (h0 : isM0 S)   (p0 : Int32) {r : Int32} {Ie : qI} (hf : f_X9_days p0 I = some (r, Ie)) : Met l yX9_days wsX9_days r_X9_days (va_Pc [.ref (ad 0), .int p0] (qPre D S ad cy sa va (eM ad cy) I J)) (va_Qi (S := Unit) (fun x _ => x = r) (fun _ t => qP D S ad (eM ad cy) Ie J t.heap) (qA S ad)) 0 0 (qA S ad) := by
  refine Met.ofW (cc := cX9_days) (maxL := 4) (ret := (some .int)) (by decide) rfl ?_
  intro p e s m args below meth c s₁ B hml hv
  obtain ⟨rfl, hP, hK, hE, hN⟩ := hv
  have C : qC p s m _ meth c cX9_days 4 RX9 wsX9_days (some .int) := ⟨⟨B.exec, B.bytes, hml, findClass_of_methodNamed B.named, atoms_spec (ws := wsX9_days) B.pre⟩, B.returns, B.notSynchronized⟩
  have C0 := C
  obtain ⟨⟨hx, hb, hml, hown, hts⟩, hr, hlocks⟩ := C0
  have hS : va_S (qA S ad) s.heap s.heap [] := va_S.rf
  have hl := lv_entry ([.ref (ad 0), .int p0]) (n := 4) (Nat.le_of_ble_eq_true rfl)
  rw [lg_entry_eq]
  generalize (lg_sl ([.ref (ad 0), .int p0]) ++ List.replicate (4 - (lg_sl ([.ref (ad 0), .int p0])).length) Slot.unset).toArray = ls at hl ⊢
  have hl : lv_has ls 4 [(0, .ref (ad 0)), (1, .int p0)] := hl
  unfold f_X9_days at hf
  refine lv_iload_n hx hb dX9_days_0 rfl (lv_at hl 1 rfl) ?_
  refine lv_i2l hx hb dX9_days_1 rfl ?_
  refine lv_lconst (v := 1) hx hb dX9_days_2 (by decide) ?_
  refine lv_ldc2 (own := RX9) (v := 60) hx hb hown (hts (.constantLong RX9 267 (60)) (by decide +kernel)) dX9_days_3 ?_
  obtain ⟨v1, h2, hf⟩ := bd_ok hf
  refine q_cSi (va_runS (As := [.long p0.toInt64, .long (1 : Int64), .long (60 : Int64)]) (rest := []) ⟨hx, hb, hml, hown, hts⟩ (c_X9_in l (D := D) (ad := ad) (cy := cy) (sa := sa) (va := va) (I := I) (J := J) (S := S) h0 p0.toInt64 (1 : Int64) (60 : Int64) h2) (va_cwS 3 hts gX9_days_X9_in rfl rfl rfl (by decide +kernel) ⟨Nat.le_of_ble_eq_true rfl, Nat.le_of_ble_eq_true rfl⟩) ⟨qPre_blind _, fun U hU hW => ⟨rfl, qPre_of hP hK hE hN hS U hU hW⟩⟩ rfl rfl hl.1 rfl (lv_room (Nat.le_of_ble_eq_true rfl)) dX9_days_6 ⟨Nat.le_of_ble_eq_true rfl, Nat.le_of_ble_eq_true rfl⟩) ?_
  refine lv_if_ne (tgt := 20) hx hb dX9_days_9 (by decide) (fun cc => ?_) (fun cc => ?_)
  · have hf := (if_ok hf).2 cc
    refine lv_aload_n hx hb dX9_days_20 rfl (lv_at hl 0 rfl) ?_
    refine q_get (C := RX9) (T := TX9) (N := 42) (ci := 9) (v := .int (I 0 17)) hx hb hts in_X9_days_X9 hown hK hP (oX9 h0) rfl 17 (by decide) (hts (.fieldLink RX9 93 "RowsOnlyPrimesModel" "parties" "I") (by decide +kernel)) (fun _ h9 => h9) rfl dX9_days_21 ?_
    refine lv_if_ne (tgt := 35) hx hb dX9_days_24 (by decide) (fun cc => ?_) (fun cc => ?_)
    · have hf := (if_ok hf).2 cc
      refine lv_iconst (v := 0) hx hb dX9_days_35 (by decide) ?_
      refine lv_istore_n (lv' := [(2, .int (0 : Int32)), (0, .ref (ad 0)), (1, .int p0)]) hx hb dX9_days_36 rfl hl (by decide) rfl (fun ls hl => ?_)
      refine lv_iconst (v := 0) hx hb dX9_days_37 (by decide) ?_
      refine lv_istore_n (lv' := [(3, .int (0 : Int32)), (2, .int (0 : Int32)), (0, .ref (ad 0)), (1, .int p0)]) hx hb dX9_days_38 rfl hl (by decide) rfl (fun ls hl => ?_)
      exact w_X9_days_39 C hK hE hN h0  1000 p0 (0 : Int32) (0 : Int32) I _ _ _ hf (lv_sub hl [2, 3, 1, 0] rfl) hP hS
    · have hf := (if_ok hf).1 cc
      refine lv_aload_n hx hb dX9_days_27 rfl (lv_at hl 0 rfl) ?_
      refine lv_sipush (v := -1005) hx hb dX9_days_28 (by decide) ?_
      obtain ⟨v3, I4, h5, hf⟩ := bd2_ok hf
      refine q_cEi (va_runV (As := [.int (-1005 : Int32)]) (rest := []) ⟨hx, hb, hml, hown, hts⟩ (c_X9_refuse l (D := D) (ad := ad) (cy := cy) (sa := sa) (va := va) (I := I) (J := J) (S := S) h0 (-1005 : Int32) h5) (cwV 1 hts gX9_days_X9_refuse rfl rfl rfl (by decide +kernel) ⟨Nat.le_of_ble_eq_true rfl, Nat.le_of_ble_eq_true rfl⟩) ⟨qPre_blind _, q_recv hK hP (oX9 h0) rfl, fun U hU hW => ⟨rfl, qPre_of hP hK hE hN hS U hU hW⟩⟩ rfl rfl hl.1 rfl (lv_room (Nat.le_of_ble_eq_true rfl)) dX9_days_31 ⟨Nat.le_of_ble_eq_true rfl, Nat.le_of_ble_eq_true rfl⟩) hS (fun H locs hP hS => ?_)
      have e9 := Option.some.inj hf
      have eI9 : I4 = Ie := (congrArg Prod.snd e9)
      exact W.iret hx hb hr (fun t ht _ => ⟨⟨_, (), rfl, (congrArg Prod.fst e9), by show qP D _ ad _ _ _ t.heap; rw [ht, ← eI9]; exact hP⟩, hS.F ht⟩) hS.2.2 dX9_days_34
  · have hf := (if_ok hf).1 cc
    refine lv_aload_n hx hb dX9_days_12 rfl (lv_at hl 0 rfl) ?_
    refine lv_sipush (v := -1002) hx hb dX9_days_13 (by decide) ?_
    obtain ⟨v6, I7, h8, hf⟩ := bd2_ok hf
    refine q_cEi (va_runV (As := [.int (-1002 : Int32)]) (rest := []) ⟨hx, hb, hml, hown, hts⟩ (c_X9_refuse l (D := D) (ad := ad) (cy := cy) (sa := sa) (va := va) (I := I) (J := J) (S := S) h0 (-1002 : Int32) h8) (cwV 1 hts gX9_days_X9_refuse rfl rfl rfl (by decide +kernel) ⟨Nat.le_of_ble_eq_true rfl, Nat.le_of_ble_eq_true rfl⟩) ⟨qPre_blind _, q_recv hK hP (oX9 h0) rfl, fun U hU hW => ⟨rfl, qPre_of hP hK hE hN hS U hU hW⟩⟩ rfl rfl hl.1 rfl (lv_room (Nat.le_of_ble_eq_true rfl)) dX9_days_16 ⟨Nat.le_of_ble_eq_true rfl, Nat.le_of_ble_eq_true rfl⟩) hS (fun H locs hP hS => ?_)
    have e9 := Option.some.inj hf
    have eI9 : I7 = Ie := (congrArg Prod.snd e9)
    exact W.iret hx hb hr (fun t ht _ => ⟨⟨_, (), rfl, (congrArg Prod.fst e9), by show qP D _ ad _ _ _ t.heap; rw [ht, ← eI9]; exact hP⟩, hS.F ht⟩) hS.2.2 dX9_days_19
abbrev r_X9_seed : Room := { frames := 0, cells := 0, slots := 0, locals := 0 }
theorem in_X9_seed_X9 : ∀ w ∈ u_ws RX9 TX9 42, w ∈ wsX9_seed := by decide +kernel
set_option maxHeartbeats 4000000 in
set_option maxRecDepth 100000 in
theorem c_X9_seed (l : Launch) {D : va_G} {ad : Nat → Nat} {cy : Nat → ClassId} {sa va : Nat → Nat} {I : qI} {J : qJ} {S : Nat → Prop} (h0 : isM0 S)   (p0 : Int32) {r : Int32} {Ie : qI} (hf : f_X9_seed p0 I = some (r, Ie)) : Met l yX9_seed wsX9_seed r_X9_seed (va_Pc [.ref (ad 0), .int p0] (qPre D S ad cy sa va (eM ad cy) I J)) (va_Qi (S := Unit) (fun x _ => x = r) (fun _ t => qP D S ad (eM ad cy) Ie J t.heap) (qA S ad)) 0 0 (qA S ad) := by
  refine Met.ofW (cc := cX9_seed) (maxL := 3) (ret := (some .int)) (by decide) rfl ?_
  intro p e s m args below meth c s₁ B hml hv
  obtain ⟨rfl, hP, hK, hE, hN⟩ := hv
  have C : qC p s m _ meth c cX9_seed 3 RX9 wsX9_seed (some .int) := ⟨⟨B.exec, B.bytes, hml, findClass_of_methodNamed B.named, atoms_spec (ws := wsX9_seed) B.pre⟩, B.returns, B.notSynchronized⟩
  have C0 := C
  obtain ⟨⟨hx, hb, hml, hown, hts⟩, hr, hlocks⟩ := C0
  have hS : va_S (qA S ad) s.heap s.heap [] := va_S.rf
  have hl := lv_entry ([.ref (ad 0), .int p0]) (n := 3) (Nat.le_of_ble_eq_true rfl)
  rw [lg_entry_eq]
  generalize (lg_sl ([.ref (ad 0), .int p0]) ++ List.replicate (3 - (lg_sl ([.ref (ad 0), .int p0])).length) Slot.unset).toArray = ls at hl ⊢
  have hl : lv_has ls 3 [(0, .ref (ad 0)), (1, .int p0)] := hl
  unfold f_X9_seed at hf
  refine lv_aload_n hx hb dX9_seed_0 rfl (lv_at hl 0 rfl) ?_
  refine q_get (C := RX9) (T := TX9) (N := 42) (ci := 9) (v := .int (I 0 25)) hx hb hts in_X9_seed_X9 hown hK hP (oX9 h0) rfl 25 (by decide) (hts (.fieldLink RX9 68 "RowsOnlyPrimesModel" "seed" "I") (by decide +kernel)) (fun _ h9 => h9) rfl dX9_seed_1 ?_
  refine lv_istore_n (lv' := [(2, .int (I 0 25)), (0, .ref (ad 0)), (1, .int p0)]) hx hb dX9_seed_4 rfl hl (by decide) rfl (fun ls hl => ?_)
  refine lv_aload_n hx hb dX9_seed_5 rfl (lv_at hl 1 rfl) ?_
  refine lv_iload_n hx hb dX9_seed_6 rfl (lv_at hl 2 rfl) ?_
  obtain ⟨I1, eI1, hf⟩ := lt_ok hf
  refine q_put (C := RX9) (T := TX9) (N := 42) (ci := 9) (v := .int p0) (x := p0) (ty := .int) hx hb hts in_X9_seed_X9 tyX9 tyX9_ok nmX9 hown hK hP hN hS (oX9 h0) rfl 25 (by decide) (hts (.fieldLink RX9 68 "RowsOnlyPrimesModel" "seed" "I") (by decide +kernel)) (fun _ h9 => h9) rfl (by decide +kernel) rfl rfl (fun _ _ => rfl) (fun _ _ => Nat.le_of_ble_eq_true rfl) dX9_seed_7 (fun H locs hP hS => ?_)
  rw [← eI1] at hP
  refine lv_iload_n hx hb dX9_seed_10 rfl (lv_at hl 0 rfl) ?_
  have e9 := Option.some.inj hf
  have eI9 : I1 = Ie := (congrArg Prod.snd e9)
  exact W.iret hx hb hr (fun t ht _ => ⟨⟨_, (), rfl, (congrArg Prod.fst e9), by show qP D _ ad _ _ _ t.heap; rw [ht, ← eI9]; exact hP⟩, hS.F ht⟩) hS.2.2 dX9_seed_11
abbrev r_X9_copied : Room := { frames := 0, cells := 0, slots := 0, locals := 0 }
set_option maxHeartbeats 4000000 in
set_option maxRecDepth 100000 in
theorem w_X9_copied_2 {S : Nat → Prop} (C : qC p s m args meth c cX9_copied 3 RX9 wsX9_copied none) (hK : qK D cy sa s) (hE : qEnv sa va (qA S ad) s s.heap) (hN : qN S ad) (h0 : isM0 S) (k0 : Nat) (n0 : Nat) (k1 : Nat) (n1 : Nat) (zk0 : qAI S (eM ad cy) cy k0 n0) (zk1 : qAI S (eM ad cy) cy k1 n1) {J : qJ} {Ie : qI} : ∀ (n : Nat) (x2 : Int32)  (I : qI) (ls : Array Slot) (H : Heap) (locs : List Loc), f_X9_copied_2 k0 n0 k1 n1 n x2 I = some Ie → lv_has ls 3 [(0, .ref (ad k0)), (1, .ref (ad k1)), (2, .int x2)] → qP D S ad (eM ad cy) I J H → va_S (qA S ad) s.heap H locs → W p l e (headSpec wsX9_copied r_X9_copied).room s m args below meth c H locs 0 0 (MQ below (va_Qv (S := Unit) (fun _ => True) (fun _ t => qP D S ad (eM ad cy) Ie J t.heap) (qA S ad)) args s 0 0 (qA S ad)) (F0 m 2 ls []) := by
  have C0 := C
  obtain ⟨⟨hx, hb, hml, hown, hts⟩, hr, hlocks⟩ := C0
  intro n
  induction n with
  | zero =>
    intro x2 I ls H locs hf hl hP hS
    rw [f_X9_copied_2] at hf
    cases hf
  | succ n ih =>
    intro x2 I ls H locs hf hl hP hS
    rw [f_X9_copied_2] at hf
    refine lv_iload_n hx hb dX9_copied_2 rfl (lv_at hl 2 rfl) ?_
    refine lv_aload_n hx hb dX9_copied_3 rfl (lv_at hl 0 rfl) ?_
    refine q_alenI (v := (Int32.ofNat n0)) hx hb hK hP zk0 rfl dX9_copied_4 ?_
    refine lv_icmp_ge (tgt := 20) hx hb dX9_copied_5 (by decide) (fun cc => ?_) (fun cc => ?_)
    · have hf := (if_ok hf).1 cc
      have e9 := Option.some.inj hf
      have eI9 : I = Ie := e9
      exact W.vret hx hb hr (fun t ht _ => ⟨⟨(), rfl, trivial, by show qP D _ ad _ _ _ t.heap; rw [ht, ← eI9]; exact hP⟩, hS.F ht⟩) hS.2.2 dX9_copied_20
    · have hf := (if_ok hf).2 cc
      refine lv_aload_n hx hb dX9_copied_8 rfl (lv_at hl 1 rfl) ?_
      refine lv_iload_n hx hb dX9_copied_9 rfl (lv_at hl 2 rfl) ?_
      refine lv_aload_n hx hb dX9_copied_10 rfl (lv_at hl 0 rfl) ?_
      refine lv_iload_n hx hb dX9_copied_11 rfl (lv_at hl 2 rfl) ?_
      obtain ⟨g1, hf⟩ := gd_ok hf
      refine q_iald hx hb hK hP zk0 g1 dX9_copied_12 ?_
      obtain ⟨g2, hf⟩ := gd_ok hf
      obtain ⟨I3, eI3, hf⟩ := lt_ok hf
      refine q_iast hx hb hK hP hN hS zk1 g2 dX9_copied_13 (fun H locs hP hS => ?_)
      have hP : qP D S ad (eM ad cy) I3 J H := by rw [eI3]; exact hP
      refine lv_iinc (v := (x2 + (1 : Int32))) (lv' := [(2, .int (x2 + (1 : Int32))), (0, .ref (ad k0)), (1, .ref (ad k1))]) hx hb dX9_copied_14 hl (k := 2) rfl rfl (by decide) rfl (fun ls hl => ?_)
      refine lv_goto (tgt := 2) hx hb dX9_copied_17 (by decide) ?_
      exact ih (x2 + (1 : Int32)) I3 _ _ _ hf (lv_sub hl [1, 2, 0] rfl) hP hS
set_option maxHeartbeats 4000000 in
set_option maxRecDepth 100000 in
theorem c_X9_copied (l : Launch) {D : va_G} {ad : Nat → Nat} {cy : Nat → ClassId} {sa va : Nat → Nat} {I : qI} {J : qJ} {S : Nat → Prop} (h0 : isM0 S) (k0 : Nat) (n0 : Nat) (k1 : Nat) (n1 : Nat) (zk0 : qAI S (eM ad cy) cy k0 n0) (zk1 : qAI S (eM ad cy) cy k1 n1)  {Ie : qI} (hf : f_X9_copied k0 n0 k1 n1 I = some Ie) : Met l yX9_copied wsX9_copied r_X9_copied (va_Pc [.ref (ad k0), .ref (ad k1)] (qPre D S ad cy sa va (eM ad cy) I J)) (va_Qv (S := Unit) (fun _ => True) (fun _ t => qP D S ad (eM ad cy) Ie J t.heap) (qA S ad)) 0 0 (qA S ad) := by
  refine Met.ofW (cc := cX9_copied) (maxL := 3) (ret := none) (by decide) rfl ?_
  intro p e s m args below meth c s₁ B hml hv
  obtain ⟨rfl, hP, hK, hE, hN⟩ := hv
  have C : qC p s m _ meth c cX9_copied 3 RX9 wsX9_copied none := ⟨⟨B.exec, B.bytes, hml, findClass_of_methodNamed B.named, atoms_spec (ws := wsX9_copied) B.pre⟩, B.returns, B.notSynchronized⟩
  have C0 := C
  obtain ⟨⟨hx, hb, hml, hown, hts⟩, hr, hlocks⟩ := C0
  have hS : va_S (qA S ad) s.heap s.heap [] := va_S.rf
  have hl := lv_entry ([.ref (ad k0), .ref (ad k1)]) (n := 3) (Nat.le_of_ble_eq_true rfl)
  rw [lg_entry_eq]
  generalize (lg_sl ([.ref (ad k0), .ref (ad k1)]) ++ List.replicate (3 - (lg_sl ([.ref (ad k0), .ref (ad k1)])).length) Slot.unset).toArray = ls at hl ⊢
  have hl : lv_has ls 3 [(0, .ref (ad k0)), (1, .ref (ad k1))] := hl
  unfold f_X9_copied at hf
  refine lv_iconst (v := 0) hx hb dX9_copied_0 (by decide) ?_
  refine lv_istore_n (lv' := [(2, .int (0 : Int32)), (0, .ref (ad k0)), (1, .ref (ad k1))]) hx hb dX9_copied_1 rfl hl (by decide) rfl (fun ls hl => ?_)
  exact w_X9_copied_2 C hK hE hN h0 k0 n0 k1 n1 zk0 zk1  1000 (0 : Int32) I _ _ _ hf (lv_sub hl [1, 2, 0] rfl) hP hS
abbrev r_X9_takeFrom : Room := { frames := 1, cells := 0, slots := 0, locals := 22 }
theorem in_X9_takeFrom_X9 : ∀ w ∈ u_ws RX9 TX9 42, w ∈ wsX9_takeFrom := by decide +kernel
set_option maxHeartbeats 4000000 in
set_option maxRecDepth 100000 in
theorem c_X9_takeFrom (l : Launch) {D : va_G} {ad : Nat → Nat} {cy : Nat → ClassId} {sa va : Nat → Nat} {I : qI} {J : qJ} {S : Nat → Prop} (h0 : isM0 S) (b : Nat) (c0 : Nat) (zb : isM S b) (zc0 : isM S c0)  {Ie : qI} (hf : f_X9_takeFrom b c0 I = some Ie) : Met l yX9_takeFrom wsX9_takeFrom r_X9_takeFrom (va_Pc [.ref (ad b), .ref (ad c0)] (qPre D S ad cy sa va (eM ad cy) I J)) (va_Qv (S := Unit) (fun _ => True) (fun _ t => qP D S ad (eM ad cy) Ie J t.heap) (qA S ad)) 0 0 (qA S ad) := by
  refine Met.ofW (cc := cX9_takeFrom) (maxL := 2) (ret := none) (by decide) rfl ?_
  intro p e s m args below meth c s₁ B hml hv
  obtain ⟨rfl, hP, hK, hE, hN⟩ := hv
  have C : qC p s m _ meth c cX9_takeFrom 2 RX9 wsX9_takeFrom none := ⟨⟨B.exec, B.bytes, hml, findClass_of_methodNamed B.named, atoms_spec (ws := wsX9_takeFrom) B.pre⟩, B.returns, B.notSynchronized⟩
  have C0 := C
  obtain ⟨⟨hx, hb, hml, hown, hts⟩, hr, hlocks⟩ := C0
  have hS : va_S (qA S ad) s.heap s.heap [] := va_S.rf
  have hl := lv_entry ([.ref (ad b), .ref (ad c0)]) (n := 2) (Nat.le_of_ble_eq_true rfl)
  rw [lg_entry_eq]
  generalize (lg_sl ([.ref (ad b), .ref (ad c0)]) ++ List.replicate (2 - (lg_sl ([.ref (ad b), .ref (ad c0)])).length) Slot.unset).toArray = ls at hl ⊢
  have hl : lv_has ls 2 [(0, .ref (ad b)), (1, .ref (ad c0))] := hl
  unfold f_X9_takeFrom at hf
  refine lv_aload_n hx hb dX9_takeFrom_0 rfl (lv_at hl 0 rfl) ?_
  refine lv_aload_n hx hb dX9_takeFrom_1 rfl (lv_at hl 1 rfl) ?_
  refine q_get (C := RX9) (T := TX9) (N := 42) (ci := 9) (v := .int (I c0 9)) hx hb hts in_X9_takeFrom_X9 hown hK hP (oX9 zc0) rfl 9 (by decide) (hts (.fieldLink RX9 37 "RowsOnlyPrimesModel" "seats" "I") (by decide +kernel)) (fun _ h9 => h9) rfl dX9_takeFrom_2 ?_
  obtain ⟨I1, eI1, hf⟩ := lt_ok hf
  refine q_put (C := RX9) (T := TX9) (N := 42) (ci := 9) (v := .int (I c0 9)) (x := (I c0 9)) (ty := .int) hx hb hts in_X9_takeFrom_X9 tyX9 tyX9_ok nmX9 hown hK hP hN hS (oX9 zb) rfl 9 (by decide) (hts (.fieldLink RX9 37 "RowsOnlyPrimesModel" "seats" "I") (by decide +kernel)) (fun _ h9 => h9) rfl (by decide +kernel) rfl rfl (fun _ _ => rfl) (fun _ _ => Nat.le_of_ble_eq_true rfl) dX9_takeFrom_5 (fun H locs hP hS => ?_)
  rw [← eI1] at hP
  refine lv_aload_n hx hb dX9_takeFrom_8 rfl (lv_at hl 0 rfl) ?_
  refine lv_aload_n hx hb dX9_takeFrom_9 rfl (lv_at hl 1 rfl) ?_
  refine q_get (C := RX9) (T := TX9) (N := 42) (ci := 9) (v := .int (I1 c0 10)) hx hb hts in_X9_takeFrom_X9 hown hK hP (oX9 zc0) rfl 10 (by decide) (hts (.fieldLink RX9 151 "RowsOnlyPrimesModel" "law" "I") (by decide +kernel)) (fun _ h9 => h9) rfl dX9_takeFrom_10 ?_
  obtain ⟨I2, eI2, hf⟩ := lt_ok hf
  refine q_put (C := RX9) (T := TX9) (N := 42) (ci := 9) (v := .int (I1 c0 10)) (x := (I1 c0 10)) (ty := .int) hx hb hts in_X9_takeFrom_X9 tyX9 tyX9_ok nmX9 hown hK hP hN hS (oX9 zb) rfl 10 (by decide) (hts (.fieldLink RX9 151 "RowsOnlyPrimesModel" "law" "I") (by decide +kernel)) (fun _ h9 => h9) rfl (by decide +kernel) rfl rfl (fun _ _ => rfl) (fun _ _ => Nat.le_of_ble_eq_true rfl) dX9_takeFrom_13 (fun H locs hP hS => ?_)
  rw [← eI2] at hP
  refine lv_aload_n hx hb dX9_takeFrom_16 rfl (lv_at hl 0 rfl) ?_
  refine lv_aload_n hx hb dX9_takeFrom_17 rfl (lv_at hl 1 rfl) ?_
  refine q_get (C := RX9) (T := TX9) (N := 42) (ci := 9) (v := .int (I2 c0 11)) hx hb hts in_X9_takeFrom_X9 hown hK hP (oX9 zc0) rfl 11 (by decide) (hts (.fieldLink RX9 41 "RowsOnlyPrimesModel" "rule" "I") (by decide +kernel)) (fun _ h9 => h9) rfl dX9_takeFrom_18 ?_
  obtain ⟨I3, eI3, hf⟩ := lt_ok hf
  refine q_put (C := RX9) (T := TX9) (N := 42) (ci := 9) (v := .int (I2 c0 11)) (x := (I2 c0 11)) (ty := .int) hx hb hts in_X9_takeFrom_X9 tyX9 tyX9_ok nmX9 hown hK hP hN hS (oX9 zb) rfl 11 (by decide) (hts (.fieldLink RX9 41 "RowsOnlyPrimesModel" "rule" "I") (by decide +kernel)) (fun _ h9 => h9) rfl (by decide +kernel) rfl rfl (fun _ _ => rfl) (fun _ _ => Nat.le_of_ble_eq_true rfl) dX9_takeFrom_21 (fun H locs hP hS => ?_)
  rw [← eI3] at hP
  refine lv_aload_n hx hb dX9_takeFrom_24 rfl (lv_at hl 0 rfl) ?_
  refine lv_aload_n hx hb dX9_takeFrom_25 rfl (lv_at hl 1 rfl) ?_
  refine q_get (C := RX9) (T := TX9) (N := 42) (ci := 9) (v := .int (I3 c0 12)) hx hb hts in_X9_takeFrom_X9 hown hK hP (oX9 zc0) rfl 12 (by decide) (hts (.fieldLink RX9 44 "RowsOnlyPrimesModel" "hermits" "I") (by decide +kernel)) (fun _ h9 => h9) rfl dX9_takeFrom_26 ?_
  obtain ⟨I4, eI4, hf⟩ := lt_ok hf
  refine q_put (C := RX9) (T := TX9) (N := 42) (ci := 9) (v := .int (I3 c0 12)) (x := (I3 c0 12)) (ty := .int) hx hb hts in_X9_takeFrom_X9 tyX9 tyX9_ok nmX9 hown hK hP hN hS (oX9 zb) rfl 12 (by decide) (hts (.fieldLink RX9 44 "RowsOnlyPrimesModel" "hermits" "I") (by decide +kernel)) (fun _ h9 => h9) rfl (by decide +kernel) rfl rfl (fun _ _ => rfl) (fun _ _ => Nat.le_of_ble_eq_true rfl) dX9_takeFrom_29 (fun H locs hP hS => ?_)
  rw [← eI4] at hP
  refine lv_aload_n hx hb dX9_takeFrom_32 rfl (lv_at hl 0 rfl) ?_
  refine lv_aload_n hx hb dX9_takeFrom_33 rfl (lv_at hl 1 rfl) ?_
  refine q_get (C := RX9) (T := TX9) (N := 42) (ci := 9) (v := .int (I4 c0 13)) hx hb hts in_X9_takeFrom_X9 hown hK hP (oX9 zc0) rfl 13 (by decide) (hts (.fieldLink RX9 47 "RowsOnlyPrimesModel" "cost" "I") (by decide +kernel)) (fun _ h9 => h9) rfl dX9_takeFrom_34 ?_
  obtain ⟨I5, eI5, hf⟩ := lt_ok hf
  refine q_put (C := RX9) (T := TX9) (N := 42) (ci := 9) (v := .int (I4 c0 13)) (x := (I4 c0 13)) (ty := .int) hx hb hts in_X9_takeFrom_X9 tyX9 tyX9_ok nmX9 hown hK hP hN hS (oX9 zb) rfl 13 (by decide) (hts (.fieldLink RX9 47 "RowsOnlyPrimesModel" "cost" "I") (by decide +kernel)) (fun _ h9 => h9) rfl (by decide +kernel) rfl rfl (fun _ _ => rfl) (fun _ _ => Nat.le_of_ble_eq_true rfl) dX9_takeFrom_37 (fun H locs hP hS => ?_)
  rw [← eI5] at hP
  refine lv_aload_n hx hb dX9_takeFrom_40 rfl (lv_at hl 0 rfl) ?_
  refine lv_aload_n hx hb dX9_takeFrom_41 rfl (lv_at hl 1 rfl) ?_
  refine q_get (C := RX9) (T := TX9) (N := 42) (ci := 9) (v := .int (I5 c0 14)) hx hb hts in_X9_takeFrom_X9 hown hK hP (oX9 zc0) rfl 14 (by decide) (hts (.fieldLink RX9 340 "RowsOnlyPrimesModel" "minutes" "I") (by decide +kernel)) (fun _ h9 => h9) rfl dX9_takeFrom_42 ?_
  obtain ⟨I6, eI6, hf⟩ := lt_ok hf
  refine q_put (C := RX9) (T := TX9) (N := 42) (ci := 9) (v := .int (I5 c0 14)) (x := (I5 c0 14)) (ty := .int) hx hb hts in_X9_takeFrom_X9 tyX9 tyX9_ok nmX9 hown hK hP hN hS (oX9 zb) rfl 14 (by decide) (hts (.fieldLink RX9 340 "RowsOnlyPrimesModel" "minutes" "I") (by decide +kernel)) (fun _ h9 => h9) rfl (by decide +kernel) rfl rfl (fun _ _ => rfl) (fun _ _ => Nat.le_of_ble_eq_true rfl) dX9_takeFrom_45 (fun H locs hP hS => ?_)
  rw [← eI6] at hP
  refine lv_aload_n hx hb dX9_takeFrom_48 rfl (lv_at hl 0 rfl) ?_
  refine lv_aload_n hx hb dX9_takeFrom_49 rfl (lv_at hl 1 rfl) ?_
  refine q_get (C := RX9) (T := TX9) (N := 42) (ci := 9) (v := .int (I6 c0 15)) hx hb hts in_X9_takeFrom_X9 hown hK hP (oX9 zc0) rfl 15 (by decide) (hts (.fieldLink RX9 337 "RowsOnlyPrimesModel" "paid" "I") (by decide +kernel)) (fun _ h9 => h9) rfl dX9_takeFrom_50 ?_
  obtain ⟨I7, eI7, hf⟩ := lt_ok hf
  refine q_put (C := RX9) (T := TX9) (N := 42) (ci := 9) (v := .int (I6 c0 15)) (x := (I6 c0 15)) (ty := .int) hx hb hts in_X9_takeFrom_X9 tyX9 tyX9_ok nmX9 hown hK hP hN hS (oX9 zb) rfl 15 (by decide) (hts (.fieldLink RX9 337 "RowsOnlyPrimesModel" "paid" "I") (by decide +kernel)) (fun _ h9 => h9) rfl (by decide +kernel) rfl rfl (fun _ _ => rfl) (fun _ _ => Nat.le_of_ble_eq_true rfl) dX9_takeFrom_53 (fun H locs hP hS => ?_)
  rw [← eI7] at hP
  refine lv_aload_n hx hb dX9_takeFrom_56 rfl (lv_at hl 0 rfl) ?_
  refine lv_aload_n hx hb dX9_takeFrom_57 rfl (lv_at hl 1 rfl) ?_
  refine q_get (C := RX9) (T := TX9) (N := 42) (ci := 9) (v := .int (I7 c0 16)) hx hb hts in_X9_takeFrom_X9 hown hK hP (oX9 zc0) rfl 16 (by decide) (hts (.fieldLink RX9 334 "RowsOnlyPrimesModel" "crossings" "I") (by decide +kernel)) (fun _ h9 => h9) rfl dX9_takeFrom_58 ?_
  obtain ⟨I8, eI8, hf⟩ := lt_ok hf
  refine q_put (C := RX9) (T := TX9) (N := 42) (ci := 9) (v := .int (I7 c0 16)) (x := (I7 c0 16)) (ty := .int) hx hb hts in_X9_takeFrom_X9 tyX9 tyX9_ok nmX9 hown hK hP hN hS (oX9 zb) rfl 16 (by decide) (hts (.fieldLink RX9 334 "RowsOnlyPrimesModel" "crossings" "I") (by decide +kernel)) (fun _ h9 => h9) rfl (by decide +kernel) rfl rfl (fun _ _ => rfl) (fun _ _ => Nat.le_of_ble_eq_true rfl) dX9_takeFrom_61 (fun H locs hP hS => ?_)
  rw [← eI8] at hP
  refine lv_aload_n hx hb dX9_takeFrom_64 rfl (lv_at hl 0 rfl) ?_
  refine lv_aload_n hx hb dX9_takeFrom_65 rfl (lv_at hl 1 rfl) ?_
  refine q_get (C := RX9) (T := TX9) (N := 42) (ci := 9) (v := .int (I8 c0 17)) hx hb hts in_X9_takeFrom_X9 hown hK hP (oX9 zc0) rfl 17 (by decide) (hts (.fieldLink RX9 93 "RowsOnlyPrimesModel" "parties" "I") (by decide +kernel)) (fun _ h9 => h9) rfl dX9_takeFrom_66 ?_
  obtain ⟨I9, eI9, hf⟩ := lt_ok hf
  refine q_put (C := RX9) (T := TX9) (N := 42) (ci := 9) (v := .int (I8 c0 17)) (x := (I8 c0 17)) (ty := .int) hx hb hts in_X9_takeFrom_X9 tyX9 tyX9_ok nmX9 hown hK hP hN hS (oX9 zb) rfl 17 (by decide) (hts (.fieldLink RX9 93 "RowsOnlyPrimesModel" "parties" "I") (by decide +kernel)) (fun _ h9 => h9) rfl (by decide +kernel) rfl rfl (fun _ _ => rfl) (fun _ _ => Nat.le_of_ble_eq_true rfl) dX9_takeFrom_69 (fun H locs hP hS => ?_)
  rw [← eI9] at hP
  refine lv_aload_n hx hb dX9_takeFrom_72 rfl (lv_at hl 0 rfl) ?_
  refine lv_aload_n hx hb dX9_takeFrom_73 rfl (lv_at hl 1 rfl) ?_
  refine q_get (C := RX9) (T := TX9) (N := 42) (ci := 9) (v := .int (I9 c0 18)) hx hb hts in_X9_takeFrom_X9 hown hK hP (oX9 zc0) rfl 18 (by decide) (hts (.fieldLink RX9 100 "RowsOnlyPrimesModel" "over" "I") (by decide +kernel)) (fun _ h9 => h9) rfl dX9_takeFrom_74 ?_
  obtain ⟨I10, eI10, hf⟩ := lt_ok hf
  refine q_put (C := RX9) (T := TX9) (N := 42) (ci := 9) (v := .int (I9 c0 18)) (x := (I9 c0 18)) (ty := .int) hx hb hts in_X9_takeFrom_X9 tyX9 tyX9_ok nmX9 hown hK hP hN hS (oX9 zb) rfl 18 (by decide) (hts (.fieldLink RX9 100 "RowsOnlyPrimesModel" "over" "I") (by decide +kernel)) (fun _ h9 => h9) rfl (by decide +kernel) rfl rfl (fun _ _ => rfl) (fun _ _ => Nat.le_of_ble_eq_true rfl) dX9_takeFrom_77 (fun H locs hP hS => ?_)
  rw [← eI10] at hP
  refine lv_aload_n hx hb dX9_takeFrom_80 rfl (lv_at hl 1 rfl) ?_
  refine q_get (C := RX9) (T := TX9) (N := 42) (ci := 9) (v := .ref (ad (c0 + 17))) hx hb hts in_X9_takeFrom_X9 hown hK hP (oX9 zc0) rfl 19 (by decide) (hts (.fieldLink RX9 50 "RowsOnlyPrimesModel" "kind" "[I") (by decide +kernel)) (fun _ h9 => h9) rfl dX9_takeFrom_81 ?_
  refine lv_aload_n hx hb dX9_takeFrom_84 rfl (lv_at hl 0 rfl) ?_
  refine q_get (C := RX9) (T := TX9) (N := 42) (ci := 9) (v := .ref (ad (b + 17))) hx hb hts in_X9_takeFrom_X9 hown hK hP (oX9 zb) rfl 19 (by decide) (hts (.fieldLink RX9 50 "RowsOnlyPrimesModel" "kind" "[I") (by decide +kernel)) (fun _ h9 => h9) rfl dX9_takeFrom_85 ?_
  obtain ⟨I11, h12, hf⟩ := bd_ok hf
  refine q_cEv (va_runS (As := [.ref (ad (c0 + 17)), .ref (ad (b + 17))]) (rest := []) ⟨hx, hb, hml, hown, hts⟩ (c_X9_copied l (D := D) (ad := ad) (cy := cy) (sa := sa) (va := va) (I := I10) (J := J) (S := S) h0 (c0 + 17) 8 (b + 17) 8 (aX9_17 zc0) (aX9_17 zb) h12) (va_cwS 2 hts gX9_takeFrom_X9_copied rfl rfl rfl (by decide +kernel) ⟨Nat.le_of_ble_eq_true rfl, Nat.le_of_ble_eq_true rfl⟩) ⟨qPre_blind _, fun U hU hW => ⟨rfl, qPre_of hP hK hE hN hS U hU hW⟩⟩ rfl rfl hl.1 rfl (lv_room (Nat.le_of_ble_eq_true rfl)) dX9_takeFrom_88 ⟨Nat.le_of_ble_eq_true rfl, Nat.le_of_ble_eq_true rfl⟩) hS (fun H locs hP hS => ?_)
  refine lv_aload_n hx hb dX9_takeFrom_91 rfl (lv_at hl 1 rfl) ?_
  refine q_get (C := RX9) (T := TX9) (N := 42) (ci := 9) (v := .ref (ad (c0 + 18))) hx hb hts in_X9_takeFrom_X9 hown hK hP (oX9 zc0) rfl 20 (by decide) (hts (.fieldLink RX9 53 "RowsOnlyPrimesModel" "by" "[I") (by decide +kernel)) (fun _ h9 => h9) rfl dX9_takeFrom_92 ?_
  refine lv_aload_n hx hb dX9_takeFrom_95 rfl (lv_at hl 0 rfl) ?_
  refine q_get (C := RX9) (T := TX9) (N := 42) (ci := 9) (v := .ref (ad (b + 18))) hx hb hts in_X9_takeFrom_X9 hown hK hP (oX9 zb) rfl 20 (by decide) (hts (.fieldLink RX9 53 "RowsOnlyPrimesModel" "by" "[I") (by decide +kernel)) (fun _ h9 => h9) rfl dX9_takeFrom_96 ?_
  obtain ⟨I13, h14, hf⟩ := bd_ok hf
  refine q_cEv (va_runS (As := [.ref (ad (c0 + 18)), .ref (ad (b + 18))]) (rest := []) ⟨hx, hb, hml, hown, hts⟩ (c_X9_copied l (D := D) (ad := ad) (cy := cy) (sa := sa) (va := va) (I := I11) (J := J) (S := S) h0 (c0 + 18) 8 (b + 18) 8 (aX9_18 zc0) (aX9_18 zb) h14) (va_cwS 2 hts gX9_takeFrom_X9_copied rfl rfl rfl (by decide +kernel) ⟨Nat.le_of_ble_eq_true rfl, Nat.le_of_ble_eq_true rfl⟩) ⟨qPre_blind _, fun U hU hW => ⟨rfl, qPre_of hP hK hE hN hS U hU hW⟩⟩ rfl rfl hl.1 rfl (lv_room (Nat.le_of_ble_eq_true rfl)) dX9_takeFrom_99 ⟨Nat.le_of_ble_eq_true rfl, Nat.le_of_ble_eq_true rfl⟩) hS (fun H locs hP hS => ?_)
  refine lv_aload_n hx hb dX9_takeFrom_102 rfl (lv_at hl 1 rfl) ?_
  refine q_get (C := RX9) (T := TX9) (N := 42) (ci := 9) (v := .ref (ad (c0 + 19))) hx hb hts in_X9_takeFrom_X9 hown hK hP (oX9 zc0) rfl 21 (by decide) (hts (.fieldLink RX9 56 "RowsOnlyPrimesModel" "size" "[I") (by decide +kernel)) (fun _ h9 => h9) rfl dX9_takeFrom_103 ?_
  refine lv_aload_n hx hb dX9_takeFrom_106 rfl (lv_at hl 0 rfl) ?_
  refine q_get (C := RX9) (T := TX9) (N := 42) (ci := 9) (v := .ref (ad (b + 19))) hx hb hts in_X9_takeFrom_X9 hown hK hP (oX9 zb) rfl 21 (by decide) (hts (.fieldLink RX9 56 "RowsOnlyPrimesModel" "size" "[I") (by decide +kernel)) (fun _ h9 => h9) rfl dX9_takeFrom_107 ?_
  obtain ⟨I15, h16, hf⟩ := bd_ok hf
  refine q_cEv (va_runS (As := [.ref (ad (c0 + 19)), .ref (ad (b + 19))]) (rest := []) ⟨hx, hb, hml, hown, hts⟩ (c_X9_copied l (D := D) (ad := ad) (cy := cy) (sa := sa) (va := va) (I := I13) (J := J) (S := S) h0 (c0 + 19) 8 (b + 19) 8 (aX9_19 zc0) (aX9_19 zb) h16) (va_cwS 2 hts gX9_takeFrom_X9_copied rfl rfl rfl (by decide +kernel) ⟨Nat.le_of_ble_eq_true rfl, Nat.le_of_ble_eq_true rfl⟩) ⟨qPre_blind _, fun U hU hW => ⟨rfl, qPre_of hP hK hE hN hS U hU hW⟩⟩ rfl rfl hl.1 rfl (lv_room (Nat.le_of_ble_eq_true rfl)) dX9_takeFrom_110 ⟨Nat.le_of_ble_eq_true rfl, Nat.le_of_ble_eq_true rfl⟩) hS (fun H locs hP hS => ?_)
  refine lv_aload_n hx hb dX9_takeFrom_113 rfl (lv_at hl 1 rfl) ?_
  refine q_get (C := RX9) (T := TX9) (N := 42) (ci := 9) (v := .ref (ad (c0 + 20))) hx hb hts in_X9_takeFrom_X9 hown hK hP (oX9 zc0) rfl 22 (by decide) (hts (.fieldLink RX9 59 "RowsOnlyPrimesModel" "purse" "[I") (by decide +kernel)) (fun _ h9 => h9) rfl dX9_takeFrom_114 ?_
  refine lv_aload_n hx hb dX9_takeFrom_117 rfl (lv_at hl 0 rfl) ?_
  refine q_get (C := RX9) (T := TX9) (N := 42) (ci := 9) (v := .ref (ad (b + 20))) hx hb hts in_X9_takeFrom_X9 hown hK hP (oX9 zb) rfl 22 (by decide) (hts (.fieldLink RX9 59 "RowsOnlyPrimesModel" "purse" "[I") (by decide +kernel)) (fun _ h9 => h9) rfl dX9_takeFrom_118 ?_
  obtain ⟨I17, h18, hf⟩ := bd_ok hf
  refine q_cEv (va_runS (As := [.ref (ad (c0 + 20)), .ref (ad (b + 20))]) (rest := []) ⟨hx, hb, hml, hown, hts⟩ (c_X9_copied l (D := D) (ad := ad) (cy := cy) (sa := sa) (va := va) (I := I15) (J := J) (S := S) h0 (c0 + 20) 8 (b + 20) 8 (aX9_20 zc0) (aX9_20 zb) h18) (va_cwS 2 hts gX9_takeFrom_X9_copied rfl rfl rfl (by decide +kernel) ⟨Nat.le_of_ble_eq_true rfl, Nat.le_of_ble_eq_true rfl⟩) ⟨qPre_blind _, fun U hU hW => ⟨rfl, qPre_of hP hK hE hN hS U hU hW⟩⟩ rfl rfl hl.1 rfl (lv_room (Nat.le_of_ble_eq_true rfl)) dX9_takeFrom_121 ⟨Nat.le_of_ble_eq_true rfl, Nat.le_of_ble_eq_true rfl⟩) hS (fun H locs hP hS => ?_)
  refine lv_aload_n hx hb dX9_takeFrom_124 rfl (lv_at hl 1 rfl) ?_
  refine q_get (C := RX9) (T := TX9) (N := 42) (ci := 9) (v := .ref (ad (c0 + 21))) hx hb hts in_X9_takeFrom_X9 hown hK hP (oX9 zc0) rfl 23 (by decide) (hts (.fieldLink RX9 62 "RowsOnlyPrimesModel" "tied" "[I") (by decide +kernel)) (fun _ h9 => h9) rfl dX9_takeFrom_125 ?_
  refine lv_aload_n hx hb dX9_takeFrom_128 rfl (lv_at hl 0 rfl) ?_
  refine q_get (C := RX9) (T := TX9) (N := 42) (ci := 9) (v := .ref (ad (b + 21))) hx hb hts in_X9_takeFrom_X9 hown hK hP (oX9 zb) rfl 23 (by decide) (hts (.fieldLink RX9 62 "RowsOnlyPrimesModel" "tied" "[I") (by decide +kernel)) (fun _ h9 => h9) rfl dX9_takeFrom_129 ?_
  obtain ⟨I19, h20, hf⟩ := bd_ok hf
  refine q_cEv (va_runS (As := [.ref (ad (c0 + 21)), .ref (ad (b + 21))]) (rest := []) ⟨hx, hb, hml, hown, hts⟩ (c_X9_copied l (D := D) (ad := ad) (cy := cy) (sa := sa) (va := va) (I := I17) (J := J) (S := S) h0 (c0 + 21) 8 (b + 21) 8 (aX9_21 zc0) (aX9_21 zb) h20) (va_cwS 2 hts gX9_takeFrom_X9_copied rfl rfl rfl (by decide +kernel) ⟨Nat.le_of_ble_eq_true rfl, Nat.le_of_ble_eq_true rfl⟩) ⟨qPre_blind _, fun U hU hW => ⟨rfl, qPre_of hP hK hE hN hS U hU hW⟩⟩ rfl rfl hl.1 rfl (lv_room (Nat.le_of_ble_eq_true rfl)) dX9_takeFrom_132 ⟨Nat.le_of_ble_eq_true rfl, Nat.le_of_ble_eq_true rfl⟩) hS (fun H locs hP hS => ?_)
  refine lv_aload_n hx hb dX9_takeFrom_135 rfl (lv_at hl 1 rfl) ?_
  refine q_get (C := RX9) (T := TX9) (N := 42) (ci := 9) (v := .ref (ad (c0 + 22))) hx hb hts in_X9_takeFrom_X9 hown hK hP (oX9 zc0) rfl 24 (by decide) (hts (.fieldLink RX9 65 "RowsOnlyPrimesModel" "shuns" "[I") (by decide +kernel)) (fun _ h9 => h9) rfl dX9_takeFrom_136 ?_
  refine lv_aload_n hx hb dX9_takeFrom_139 rfl (lv_at hl 0 rfl) ?_
  refine q_get (C := RX9) (T := TX9) (N := 42) (ci := 9) (v := .ref (ad (b + 22))) hx hb hts in_X9_takeFrom_X9 hown hK hP (oX9 zb) rfl 24 (by decide) (hts (.fieldLink RX9 65 "RowsOnlyPrimesModel" "shuns" "[I") (by decide +kernel)) (fun _ h9 => h9) rfl dX9_takeFrom_140 ?_
  obtain ⟨I21, h22, hf⟩ := bd_ok hf
  refine q_cEv (va_runS (As := [.ref (ad (c0 + 22)), .ref (ad (b + 22))]) (rest := []) ⟨hx, hb, hml, hown, hts⟩ (c_X9_copied l (D := D) (ad := ad) (cy := cy) (sa := sa) (va := va) (I := I19) (J := J) (S := S) h0 (c0 + 22) 8 (b + 22) 8 (aX9_22 zc0) (aX9_22 zb) h22) (va_cwS 2 hts gX9_takeFrom_X9_copied rfl rfl rfl (by decide +kernel) ⟨Nat.le_of_ble_eq_true rfl, Nat.le_of_ble_eq_true rfl⟩) ⟨qPre_blind _, fun U hU hW => ⟨rfl, qPre_of hP hK hE hN hS U hU hW⟩⟩ rfl rfl hl.1 rfl (lv_room (Nat.le_of_ble_eq_true rfl)) dX9_takeFrom_143 ⟨Nat.le_of_ble_eq_true rfl, Nat.le_of_ble_eq_true rfl⟩) hS (fun H locs hP hS => ?_)
  refine lv_aload_n hx hb dX9_takeFrom_146 rfl (lv_at hl 0 rfl) ?_
  refine lv_aload_n hx hb dX9_takeFrom_147 rfl (lv_at hl 1 rfl) ?_
  refine q_get (C := RX9) (T := TX9) (N := 42) (ci := 9) (v := .int (I21 c0 25)) hx hb hts in_X9_takeFrom_X9 hown hK hP (oX9 zc0) rfl 25 (by decide) (hts (.fieldLink RX9 68 "RowsOnlyPrimesModel" "seed" "I") (by decide +kernel)) (fun _ h9 => h9) rfl dX9_takeFrom_148 ?_
  obtain ⟨I23, eI23, hf⟩ := lt_ok hf
  refine q_put (C := RX9) (T := TX9) (N := 42) (ci := 9) (v := .int (I21 c0 25)) (x := (I21 c0 25)) (ty := .int) hx hb hts in_X9_takeFrom_X9 tyX9 tyX9_ok nmX9 hown hK hP hN hS (oX9 zb) rfl 25 (by decide) (hts (.fieldLink RX9 68 "RowsOnlyPrimesModel" "seed" "I") (by decide +kernel)) (fun _ h9 => h9) rfl (by decide +kernel) rfl rfl (fun _ _ => rfl) (fun _ _ => Nat.le_of_ble_eq_true rfl) dX9_takeFrom_151 (fun H locs hP hS => ?_)
  rw [← eI23] at hP
  have e9 := Option.some.inj hf
  have eI9 : I23 = Ie := e9
  exact W.vret hx hb hr (fun t ht _ => ⟨⟨(), rfl, trivial, by show qP D _ ad _ _ _ t.heap; rw [ht, ← eI9]; exact hP⟩, hS.F ht⟩) hS.2.2 dX9_takeFrom_154
abbrev r_X9_status : Room := { frames := 1, cells := 0, slots := 0, locals := 25 }
theorem in_X9_status_X9 : ∀ w ∈ u_ws RX9 TX9 42, w ∈ wsX9_status := by decide +kernel
set_option maxHeartbeats 4000000 in
set_option maxRecDepth 100000 in
theorem w_X9_status_152 {S : Nat → Prop} (C : qC p s m args meth c cX9_status 4 RX9 wsX9_status (some .int)) (hK : qK D cy sa s) (hE : qEnv sa va (qA S ad) s s.heap) (hN : qN S ad) (h0 : isM0 S)   {I : qI} {J : qJ} (hP : qP D S ad (eM ad cy) I J s.heap) {r : Int32} : ∀ (n : Nat) (x2 : Int32) (x3 : Int32)  (ls : Array Slot), f_X9_status_152 I n x2 x3 = some r → lv_has ls 4 [(0, .ref (ad 0)), (2, .int x2), (3, .int x3)] → W p l e (headSpec wsX9_status r_X9_status).room s m args below meth c s.heap [] 0 0 (MQ below (vp_Si (fun x => x = r)) args s 0 0 (fun _ => False)) (F0 m 152 ls []) := by
  have C0 := C
  obtain ⟨⟨hx, hb, hml, hown, hts⟩, hr, hlocks⟩ := C0
  intro n
  induction n with
  | zero =>
    intro x2 x3 ls hf hl
    rw [f_X9_status_152] at hf
    cases hf
  | succ n ih =>
    intro x2 x3 ls hf hl
    rw [f_X9_status_152] at hf
    refine lv_iload_n hx hb dX9_status_152 rfl (lv_at hl 2 rfl) ?_
    refine lv_bipush (v := 8) hx hb dX9_status_153 (by decide) ?_
    refine lv_icmp_ge (tgt := 181) hx hb dX9_status_155 (by decide) (fun cc => ?_) (fun cc => ?_)
    · have hf := (if_ok hf).1 cc
      refine lv_iload_n hx hb dX9_status_181 rfl (lv_at hl 1 rfl) ?_
      exact W.iret hx hb hr (fun t ht _ => ⟨_, rfl, Option.some.inj hf, ht⟩) (fun _ h => by cases h) dX9_status_182
    · have hf := (if_ok hf).2 cc
      refine lv_iload_n hx hb dX9_status_158 rfl (lv_at hl 1 rfl) ?_
      refine lv_aload_n hx hb dX9_status_159 rfl (lv_at hl 0 rfl) ?_
      refine q_get (C := RX9) (T := TX9) (N := 42) (ci := 9) (v := .ref (ad 1)) hx hb hts in_X9_status_X9 hown hK hP (oX9 h0) rfl 0 (by decide) (hts (.fieldLink RX9 7 "RowsOnlyPrimesModel" "shelf" "[I") (by decide +kernel)) (fun _ h9 => h9) rfl dX9_status_160 ?_
      refine lv_iload_n hx hb dX9_status_163 rfl (lv_at hl 2 rfl) ?_
      obtain ⟨g1, hf⟩ := gd_ok hf
      refine q_iald hx hb hK hP (a0X9_1 h0) g1 dX9_status_164 ?_
      refine lv_if_eq (tgt := 172) hx hb dX9_status_165 (by decide) (fun cc => ?_) (fun cc => ?_)
      · have hf := (if_ok hf).1 cc
        refine lv_iconst (v := 0) hx hb dX9_status_172 (by decide) ?_
        refine lv_iadd hx hb dX9_status_173 ?_
        refine lv_istore_n (lv' := [(2, .int (x2 + (0 : Int32))), (0, .ref (ad 0)), (3, .int x3)]) hx hb dX9_status_174 rfl hl (by decide) rfl (fun ls hl => ?_)
        refine lv_iinc (v := (x3 + (1 : Int32))) (lv' := [(3, .int (x3 + (1 : Int32))), (2, .int (x2 + (0 : Int32))), (0, .ref (ad 0))]) hx hb dX9_status_175 hl (k := 2) rfl rfl (by decide) rfl (fun ls hl => ?_)
        refine lv_goto (tgt := 152) hx hb dX9_status_178 (by decide) ?_
        exact ih (x2 + (0 : Int32)) (x3 + (1 : Int32)) _ hf (lv_sub hl [2, 1, 0] rfl)
      · have hf := (if_ok hf).2 cc
        refine lv_iconst (v := 1) hx hb dX9_status_168 (by decide) ?_
        refine lv_goto (tgt := 173) hx hb dX9_status_169 (by decide) ?_
        refine lv_iadd hx hb dX9_status_173 ?_
        refine lv_istore_n (lv' := [(2, .int (x2 + (1 : Int32))), (0, .ref (ad 0)), (3, .int x3)]) hx hb dX9_status_174 rfl hl (by decide) rfl (fun ls hl => ?_)
        refine lv_iinc (v := (x3 + (1 : Int32))) (lv' := [(3, .int (x3 + (1 : Int32))), (2, .int (x2 + (1 : Int32))), (0, .ref (ad 0))]) hx hb dX9_status_175 hl (k := 2) rfl rfl (by decide) rfl (fun ls hl => ?_)
        refine lv_goto (tgt := 152) hx hb dX9_status_178 (by decide) ?_
        exact ih (x2 + (1 : Int32)) (x3 + (1 : Int32)) _ hf (lv_sub hl [2, 1, 0] rfl)
set_option maxHeartbeats 4000000 in
set_option maxRecDepth 100000 in
theorem w_X9_status_183 {S : Nat → Prop} (C : qC p s m args meth c cX9_status 4 RX9 wsX9_status (some .int)) (hK : qK D cy sa s) (hE : qEnv sa va (qA S ad) s s.heap) (hN : qN S ad) (h0 : isM0 S)   {I : qI} {J : qJ} (hP : qP D S ad (eM ad cy) I J s.heap) {r : Int32} : ∀ (x1 : Int32)  (ls : Array Slot), f_X9_status_183 I x1 = some r → lv_has ls 4 [(0, .ref (ad 0)), (1, .int x1)] → W p l e (headSpec wsX9_status r_X9_status).room s m args below meth c s.heap [] 0 0 (MQ below (vp_Si (fun x => x = r)) args s 0 0 (fun _ => False)) (F0 m 183 ls []) := by
  have C0 := C
  obtain ⟨⟨hx, hb, hml, hown, hts⟩, hr, hlocks⟩ := C0
  intro x1 ls hf hl
  unfold f_X9_status_183 at hf
  refine lv_iload_n hx hb dX9_status_183 rfl (lv_at hl 1 rfl) ?_
  refine lv_i2l hx hb dX9_status_184 rfl ?_
  refine lv_ldc2 (own := RX9) (v := 12) hx hb hown (hts (.constantLong RX9 364 (12)) (by decide +kernel)) dX9_status_185 ?_
  refine lv_ldc2 (own := RX9) (v := 16) hx hb hown (hts (.constantLong RX9 366 (16)) (by decide +kernel)) dX9_status_188 ?_
  obtain ⟨v1, h2, hf⟩ := bd_ok hf
  refine q_cSi (va_runS (As := [.long x1.toInt64, .long (12 : Int64), .long (16 : Int64)]) (rest := []) ⟨hx, hb, hml, hown, hts⟩ (c_X9_in l (D := D) (ad := ad) (cy := cy) (sa := sa) (va := va) (I := I) (J := J) (S := S) h0 x1.toInt64 (12 : Int64) (16 : Int64) h2) (va_cwS 3 hts gX9_status_X9_in rfl rfl rfl (by decide +kernel) ⟨Nat.le_of_ble_eq_true rfl, Nat.le_of_ble_eq_true rfl⟩) ⟨qPre_blind _, fun U hU hW => ⟨rfl, qPre_of hP hK hE hN va_S.rf U hU hW⟩⟩ rfl rfl hl.1 rfl (lv_room (Nat.le_of_ble_eq_true rfl)) dX9_status_191 ⟨Nat.le_of_ble_eq_true rfl, Nat.le_of_ble_eq_true rfl⟩) ?_
  refine lv_if_eq (tgt := 209) hx hb dX9_status_194 (by decide) (fun cc => ?_) (fun cc => ?_)
  · have hf := (if_ok hf).1 cc
    refine lv_iconst (v := -1) hx hb dX9_status_209 (by decide) ?_
    exact W.iret hx hb hr (fun t ht _ => ⟨_, rfl, Option.some.inj hf, ht⟩) (fun _ h => by cases h) dX9_status_210
  · have hf := (if_ok hf).2 cc
    refine lv_aload_n hx hb dX9_status_197 rfl (lv_at hl 0 rfl) ?_
    refine q_get (C := RX9) (T := TX9) (N := 42) (ci := 9) (v := .ref (ad 16)) hx hb hts in_X9_status_X9 hown hK hP (oX9 h0) rfl 8 (by decide) (hts (.fieldLink RX9 34 "RowsOnlyPrimesModel" "refused" "[I") (by decide +kernel)) (fun _ h9 => h9) rfl dX9_status_198 ?_
    refine lv_iload_n hx hb dX9_status_201 rfl (lv_at hl 1 rfl) ?_
    refine lv_bipush (v := 10) hx hb dX9_status_202 (by decide) ?_
    refine lv_isub hx hb dX9_status_204 ?_
    obtain ⟨g3, hf⟩ := gd_ok hf
    refine q_iald hx hb hK hP (a0X9_16 h0) g3 dX9_status_205 ?_
    refine lv_goto (tgt := 210) hx hb dX9_status_206 (by decide) ?_
    exact W.iret hx hb hr (fun t ht _ => ⟨_, rfl, Option.some.inj hf, ht⟩) (fun _ h => by cases h) dX9_status_210
set_option maxHeartbeats 4000000 in
set_option maxRecDepth 100000 in
theorem c_X9_status (l : Launch) {D : va_G} {ad : Nat → Nat} {cy : Nat → ClassId} {sa va : Nat → Nat} {I : qI} {J : qJ} {S : Nat → Prop} (h0 : isM0 S)   (p0 : Int32) {r : Int32} (hf : f_X9_status p0 I = some r) : Met l yX9_status wsX9_status r_X9_status (va_Pc [.ref (ad 0), .int p0] (qPre D S ad cy sa va (eM ad cy) I J)) (vp_Si (fun x => x = r)) 0 0 (fun _ => False) := by
  refine Met.ofW (cc := cX9_status) (maxL := 4) (ret := (some .int)) (by decide) rfl ?_
  intro p e s m args below meth c s₁ B hml hv
  obtain ⟨rfl, hP, hK, hE, hN⟩ := hv
  have C : qC p s m _ meth c cX9_status 4 RX9 wsX9_status (some .int) := ⟨⟨B.exec, B.bytes, hml, findClass_of_methodNamed B.named, atoms_spec (ws := wsX9_status) B.pre⟩, B.returns, B.notSynchronized⟩
  have C0 := C
  obtain ⟨⟨hx, hb, hml, hown, hts⟩, hr, hlocks⟩ := C0
  have hl := lv_entry ([.ref (ad 0), .int p0]) (n := 4) (Nat.le_of_ble_eq_true rfl)
  rw [lg_entry_eq]
  generalize (lg_sl ([.ref (ad 0), .int p0]) ++ List.replicate (4 - (lg_sl ([.ref (ad 0), .int p0])).length) Slot.unset).toArray = ls at hl ⊢
  have hl : lv_has ls 4 [(0, .ref (ad 0)), (1, .int p0)] := hl
  unfold f_X9_status at hf
  refine lv_iload_n hx hb dX9_status_0 rfl (lv_at hl 1 rfl) ?_
  by_cases c1 : p0 = (0 : Int32)
  · have hf := (if_ok hf).1 c1
    refine lv_tableIn (off := 87) (tgt := 88) hx hb dX9_status_1 (by rw [c1]; decide) (by rw [c1]; decide) (by rw [c1]; rfl) (by decide) ?_
    refine lv_aload_n hx hb dX9_status_88 rfl (lv_at hl 0 rfl) ?_
    refine q_get (C := RX9) (T := TX9) (N := 42) (ci := 9) (v := .int (I 0 17)) hx hb hts in_X9_status_X9 hown hK hP (oX9 h0) rfl 17 (by decide) (hts (.fieldLink RX9 93 "RowsOnlyPrimesModel" "parties" "I") (by decide +kernel)) (fun _ h9 => h9) rfl dX9_status_89 ?_
    exact W.iret hx hb hr (fun t ht _ => ⟨_, rfl, Option.some.inj hf, ht⟩) (fun _ h => by cases h) dX9_status_92
  have hf := (if_ok hf).2 c1
  by_cases c2 : p0 = (1 : Int32)
  · have hf := (if_ok hf).1 c2
    refine lv_tableIn (off := 92) (tgt := 93) hx hb dX9_status_1 (by rw [c2]; decide) (by rw [c2]; decide) (by rw [c2]; rfl) (by decide) ?_
    refine lv_aload_n hx hb dX9_status_93 rfl (lv_at hl 0 rfl) ?_
    refine q_get (C := RX9) (T := TX9) (N := 42) (ci := 9) (v := .int (I 0 9)) hx hb hts in_X9_status_X9 hown hK hP (oX9 h0) rfl 9 (by decide) (hts (.fieldLink RX9 37 "RowsOnlyPrimesModel" "seats" "I") (by decide +kernel)) (fun _ h9 => h9) rfl dX9_status_94 ?_
    exact W.iret hx hb hr (fun t ht _ => ⟨_, rfl, Option.some.inj hf, ht⟩) (fun _ h => by cases h) dX9_status_97
  have hf := (if_ok hf).2 c2
  by_cases c3 : p0 = (2 : Int32)
  · have hf := (if_ok hf).1 c3
    refine lv_tableIn (off := 97) (tgt := 98) hx hb dX9_status_1 (by rw [c3]; decide) (by rw [c3]; decide) (by rw [c3]; rfl) (by decide) ?_
    refine lv_aload_n hx hb dX9_status_98 rfl (lv_at hl 0 rfl) ?_
    refine q_get (C := RX9) (T := TX9) (N := 42) (ci := 9) (v := .int (I 0 10)) hx hb hts in_X9_status_X9 hown hK hP (oX9 h0) rfl 10 (by decide) (hts (.fieldLink RX9 151 "RowsOnlyPrimesModel" "law" "I") (by decide +kernel)) (fun _ h9 => h9) rfl dX9_status_99 ?_
    exact W.iret hx hb hr (fun t ht _ => ⟨_, rfl, Option.some.inj hf, ht⟩) (fun _ h => by cases h) dX9_status_102
  have hf := (if_ok hf).2 c3
  by_cases c4 : p0 = (3 : Int32)
  · have hf := (if_ok hf).1 c4
    refine lv_tableIn (off := 102) (tgt := 103) hx hb dX9_status_1 (by rw [c4]; decide) (by rw [c4]; decide) (by rw [c4]; rfl) (by decide) ?_
    refine lv_aload_n hx hb dX9_status_103 rfl (lv_at hl 0 rfl) ?_
    refine q_get (C := RX9) (T := TX9) (N := 42) (ci := 9) (v := .int (I 0 11)) hx hb hts in_X9_status_X9 hown hK hP (oX9 h0) rfl 11 (by decide) (hts (.fieldLink RX9 41 "RowsOnlyPrimesModel" "rule" "I") (by decide +kernel)) (fun _ h9 => h9) rfl dX9_status_104 ?_
    exact W.iret hx hb hr (fun t ht _ => ⟨_, rfl, Option.some.inj hf, ht⟩) (fun _ h => by cases h) dX9_status_107
  have hf := (if_ok hf).2 c4
  by_cases c5 : p0 = (4 : Int32)
  · have hf := (if_ok hf).1 c5
    refine lv_tableIn (off := 107) (tgt := 108) hx hb dX9_status_1 (by rw [c5]; decide) (by rw [c5]; decide) (by rw [c5]; rfl) (by decide) ?_
    refine lv_aload_n hx hb dX9_status_108 rfl (lv_at hl 0 rfl) ?_
    refine q_get (C := RX9) (T := TX9) (N := 42) (ci := 9) (v := .int (I 0 12)) hx hb hts in_X9_status_X9 hown hK hP (oX9 h0) rfl 12 (by decide) (hts (.fieldLink RX9 44 "RowsOnlyPrimesModel" "hermits" "I") (by decide +kernel)) (fun _ h9 => h9) rfl dX9_status_109 ?_
    exact W.iret hx hb hr (fun t ht _ => ⟨_, rfl, Option.some.inj hf, ht⟩) (fun _ h => by cases h) dX9_status_112
  have hf := (if_ok hf).2 c5
  by_cases c6 : p0 = (5 : Int32)
  · have hf := (if_ok hf).1 c6
    refine lv_tableIn (off := 112) (tgt := 113) hx hb dX9_status_1 (by rw [c6]; decide) (by rw [c6]; decide) (by rw [c6]; rfl) (by decide) ?_
    refine lv_aload_n hx hb dX9_status_113 rfl (lv_at hl 0 rfl) ?_
    refine q_get (C := RX9) (T := TX9) (N := 42) (ci := 9) (v := .int (I 0 13)) hx hb hts in_X9_status_X9 hown hK hP (oX9 h0) rfl 13 (by decide) (hts (.fieldLink RX9 47 "RowsOnlyPrimesModel" "cost" "I") (by decide +kernel)) (fun _ h9 => h9) rfl dX9_status_114 ?_
    exact W.iret hx hb hr (fun t ht _ => ⟨_, rfl, Option.some.inj hf, ht⟩) (fun _ h => by cases h) dX9_status_117
  have hf := (if_ok hf).2 c6
  by_cases c7 : p0 = (6 : Int32)
  · have hf := (if_ok hf).1 c7
    refine lv_tableIn (off := 117) (tgt := 118) hx hb dX9_status_1 (by rw [c7]; decide) (by rw [c7]; decide) (by rw [c7]; rfl) (by decide) ?_
    refine lv_aload_n hx hb dX9_status_118 rfl (lv_at hl 0 rfl) ?_
    refine q_get (C := RX9) (T := TX9) (N := 42) (ci := 9) (v := .int (I 0 14)) hx hb hts in_X9_status_X9 hown hK hP (oX9 h0) rfl 14 (by decide) (hts (.fieldLink RX9 340 "RowsOnlyPrimesModel" "minutes" "I") (by decide +kernel)) (fun _ h9 => h9) rfl dX9_status_119 ?_
    exact W.iret hx hb hr (fun t ht _ => ⟨_, rfl, Option.some.inj hf, ht⟩) (fun _ h => by cases h) dX9_status_122
  have hf := (if_ok hf).2 c7
  by_cases c8 : p0 = (7 : Int32)
  · have hf := (if_ok hf).1 c8
    refine lv_tableIn (off := 122) (tgt := 123) hx hb dX9_status_1 (by rw [c8]; decide) (by rw [c8]; decide) (by rw [c8]; rfl) (by decide) ?_
    refine lv_aload_n hx hb dX9_status_123 rfl (lv_at hl 0 rfl) ?_
    refine q_get (C := RX9) (T := TX9) (N := 42) (ci := 9) (v := .int (I 0 15)) hx hb hts in_X9_status_X9 hown hK hP (oX9 h0) rfl 15 (by decide) (hts (.fieldLink RX9 337 "RowsOnlyPrimesModel" "paid" "I") (by decide +kernel)) (fun _ h9 => h9) rfl dX9_status_124 ?_
    exact W.iret hx hb hr (fun t ht _ => ⟨_, rfl, Option.some.inj hf, ht⟩) (fun _ h => by cases h) dX9_status_127
  have hf := (if_ok hf).2 c8
  by_cases c9 : p0 = (8 : Int32)
  · have hf := (if_ok hf).1 c9
    refine lv_tableIn (off := 127) (tgt := 128) hx hb dX9_status_1 (by rw [c9]; decide) (by rw [c9]; decide) (by rw [c9]; rfl) (by decide) ?_
    refine lv_aload_n hx hb dX9_status_128 rfl (lv_at hl 0 rfl) ?_
    refine q_get (C := RX9) (T := TX9) (N := 42) (ci := 9) (v := .int (I 0 16)) hx hb hts in_X9_status_X9 hown hK hP (oX9 h0) rfl 16 (by decide) (hts (.fieldLink RX9 334 "RowsOnlyPrimesModel" "crossings" "I") (by decide +kernel)) (fun _ h9 => h9) rfl dX9_status_129 ?_
    exact W.iret hx hb hr (fun t ht _ => ⟨_, rfl, Option.some.inj hf, ht⟩) (fun _ h => by cases h) dX9_status_132
  have hf := (if_ok hf).2 c9
  by_cases c10 : p0 = (9 : Int32)
  · have hf := (if_ok hf).1 c10
    refine lv_tableIn (off := 132) (tgt := 133) hx hb dX9_status_1 (by rw [c10]; decide) (by rw [c10]; decide) (by rw [c10]; rfl) (by decide) ?_
    refine lv_aload_n hx hb dX9_status_133 rfl (lv_at hl 0 rfl) ?_
    refine q_get (C := RX9) (T := TX9) (N := 42) (ci := 9) (v := .int (I 0 18)) hx hb hts in_X9_status_X9 hown hK hP (oX9 h0) rfl 18 (by decide) (hts (.fieldLink RX9 100 "RowsOnlyPrimesModel" "over" "I") (by decide +kernel)) (fun _ h9 => h9) rfl dX9_status_134 ?_
    exact W.iret hx hb hr (fun t ht _ => ⟨_, rfl, Option.some.inj hf, ht⟩) (fun _ h => by cases h) dX9_status_137
  have hf := (if_ok hf).2 c10
  by_cases c11 : p0 = (10 : Int32)
  · have hf := (if_ok hf).1 c11
    refine lv_tableIn (off := 137) (tgt := 138) hx hb dX9_status_1 (by rw [c11]; decide) (by rw [c11]; decide) (by rw [c11]; rfl) (by decide) ?_
    refine lv_aload_n hx hb dX9_status_138 rfl (lv_at hl 0 rfl) ?_
    refine q_get (C := RX9) (T := TX9) (N := 42) (ci := 9) (v := .int (I 0 7)) hx hb hts in_X9_status_X9 hown hK hP (oX9 h0) rfl 7 (by decide) (hts (.fieldLink RX9 161 "RowsOnlyPrimesModel" "tapeSize" "I") (by decide +kernel)) (fun _ h9 => h9) rfl dX9_status_139 ?_
    exact W.iret hx hb hr (fun t ht _ => ⟨_, rfl, Option.some.inj hf, ht⟩) (fun _ h => by cases h) dX9_status_142
  have hf := (if_ok hf).2 c11
  by_cases c12 : p0 = (11 : Int32)
  · have hf := (if_ok hf).1 c12
    refine lv_tableIn (off := 142) (tgt := 143) hx hb dX9_status_1 (by rw [c12]; decide) (by rw [c12]; decide) (by rw [c12]; rfl) (by decide) ?_
    refine lv_aload_n hx hb dX9_status_143 rfl (lv_at hl 0 rfl) ?_
    refine q_get (C := RX9) (T := TX9) (N := 42) (ci := 9) (v := .int (I 0 25)) hx hb hts in_X9_status_X9 hown hK hP (oX9 h0) rfl 25 (by decide) (hts (.fieldLink RX9 68 "RowsOnlyPrimesModel" "seed" "I") (by decide +kernel)) (fun _ h9 => h9) rfl dX9_status_144 ?_
    exact W.iret hx hb hr (fun t ht _ => ⟨_, rfl, Option.some.inj hf, ht⟩) (fun _ h => by cases h) dX9_status_147
  have hf := (if_ok hf).2 c12
  by_cases c13 : p0 = (12 : Int32)
  · have hf := (if_ok hf).1 c13
    refine lv_tableIn (off := 182) (tgt := 183) hx hb dX9_status_1 (by rw [c13]; decide) (by rw [c13]; decide) (by rw [c13]; rfl) (by decide) ?_
    exact w_X9_status_183 C hK hE hN h0 hP   p0 _ hf (lv_sub hl [0, 1] rfl)
  have hf := (if_ok hf).2 c13
  by_cases c14 : p0 = (13 : Int32)
  · have hf := (if_ok hf).1 c14
    refine lv_tableIn (off := 182) (tgt := 183) hx hb dX9_status_1 (by rw [c14]; decide) (by rw [c14]; decide) (by rw [c14]; rfl) (by decide) ?_
    exact w_X9_status_183 C hK hE hN h0 hP   p0 _ hf (lv_sub hl [0, 1] rfl)
  have hf := (if_ok hf).2 c14
  by_cases c15 : p0 = (14 : Int32)
  · have hf := (if_ok hf).1 c15
    refine lv_tableIn (off := 182) (tgt := 183) hx hb dX9_status_1 (by rw [c15]; decide) (by rw [c15]; decide) (by rw [c15]; rfl) (by decide) ?_
    exact w_X9_status_183 C hK hE hN h0 hP   p0 _ hf (lv_sub hl [0, 1] rfl)
  have hf := (if_ok hf).2 c15
  by_cases c16 : p0 = (15 : Int32)
  · have hf := (if_ok hf).1 c16
    refine lv_tableIn (off := 182) (tgt := 183) hx hb dX9_status_1 (by rw [c16]; decide) (by rw [c16]; decide) (by rw [c16]; rfl) (by decide) ?_
    exact w_X9_status_183 C hK hE hN h0 hP   p0 _ hf (lv_sub hl [0, 1] rfl)
  have hf := (if_ok hf).2 c16
  by_cases c17 : p0 = (16 : Int32)
  · have hf := (if_ok hf).1 c17
    refine lv_tableIn (off := 182) (tgt := 183) hx hb dX9_status_1 (by rw [c17]; decide) (by rw [c17]; decide) (by rw [c17]; rfl) (by decide) ?_
    exact w_X9_status_183 C hK hE hN h0 hP   p0 _ hf (lv_sub hl [0, 1] rfl)
  have hf := (if_ok hf).2 c17
  by_cases c18 : p0 = (17 : Int32)
  · have hf := (if_ok hf).1 c18
    refine lv_tableIn (off := 147) (tgt := 148) hx hb dX9_status_1 (by rw [c18]; decide) (by rw [c18]; decide) (by rw [c18]; rfl) (by decide) ?_
    refine lv_iconst (v := 0) hx hb dX9_status_148 (by decide) ?_
    refine lv_istore_n (lv' := [(2, .int (0 : Int32)), (0, .ref (ad 0)), (1, .int p0)]) hx hb dX9_status_149 rfl hl (by decide) rfl (fun ls hl => ?_)
    refine lv_iconst (v := 0) hx hb dX9_status_150 (by decide) ?_
    refine lv_istore_n (lv' := [(3, .int (0 : Int32)), (2, .int (0 : Int32)), (0, .ref (ad 0)), (1, .int p0)]) hx hb dX9_status_151 rfl hl (by decide) rfl (fun ls hl => ?_)
    exact w_X9_status_152 C hK hE hN h0 hP  1000 (0 : Int32) (0 : Int32) _ hf (lv_sub hl [2, 1, 0] rfl)
  have hf := (if_ok hf).2 c18
  refine lv_tableOut (tgt := 183) hx hb dX9_status_1 (by have c1 := q_nt c1 (show ((0 : Int32)).toInt = 0 by decide); have c2 := q_nt c2 (show ((1 : Int32)).toInt = 1 by decide); have c3 := q_nt c3 (show ((2 : Int32)).toInt = 2 by decide); have c4 := q_nt c4 (show ((3 : Int32)).toInt = 3 by decide); have c5 := q_nt c5 (show ((4 : Int32)).toInt = 4 by decide); have c6 := q_nt c6 (show ((5 : Int32)).toInt = 5 by decide); have c7 := q_nt c7 (show ((6 : Int32)).toInt = 6 by decide); have c8 := q_nt c8 (show ((7 : Int32)).toInt = 7 by decide); have c9 := q_nt c9 (show ((8 : Int32)).toInt = 8 by decide); have c10 := q_nt c10 (show ((9 : Int32)).toInt = 9 by decide); have c11 := q_nt c11 (show ((10 : Int32)).toInt = 10 by decide); have c12 := q_nt c12 (show ((11 : Int32)).toInt = 11 by decide); have c13 := q_nt c13 (show ((12 : Int32)).toInt = 12 by decide); have c14 := q_nt c14 (show ((13 : Int32)).toInt = 13 by decide); have c15 := q_nt c15 (show ((14 : Int32)).toInt = 14 by decide); have c16 := q_nt c16 (show ((15 : Int32)).toInt = 15 by decide); have c17 := q_nt c17 (show ((16 : Int32)).toInt = 16 by decide); have c18 := q_nt c18 (show ((17 : Int32)).toInt = 17 by decide); omega) (by decide) ?_
  exact w_X9_status_183 C hK hE hN h0 hP   p0 _ hf (lv_sub hl [0, 1] rfl)
end
