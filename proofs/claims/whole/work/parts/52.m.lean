/-! machine: X9_knot X9_torn X9_ofKind X9_waitingBits X9_findPlan X9_begins X9_plan X9_time X9_worth X9_isLess X9_crossingsBy X9_laws X9_rules X9_sizes X9_loosen X9_findBids (written by wip/gen/gen.py) -/
section
variable {p : Program} {l : Launch} {e : Env} {s : State} {m : MethodId} {args : Array Value} {below : List Frame} {meth : Method} {c : Code} {D : va_G} {ad : Nat → Nat} {cy : Nat → ClassId} {sa va : Nat → Nat}
abbrev r_X9_knot : Room := { frames := 2, cells := 0, slots := 0, locals := 46 }
set_option maxHeartbeats 4000000 in
set_option maxRecDepth 100000 in
theorem c_X9_knot (l : Launch) {D : va_G} {ad : Nat → Nat} {cy : Nat → ClassId} {sa va : Nat → Nat} {I : qI} {J : qJ} {S : Nat → Prop} (h0 : isM0 S)   (p0 : Int32) {r : Int32} {Ie : qI} (hf : f_X9_knot p0 I = some (r, Ie)) : Met l yX9_knot wsX9_knot r_X9_knot (va_Pc [.ref (ad 0), .int p0] (qPre D S ad cy sa va (eM ad cy) I J)) (va_Qi (S := Unit) (fun x _ => x = r) (fun _ t => qP D S ad (eM ad cy) Ie J t.heap) (qA S ad)) 0 0 (qA S ad) := by
  refine Met.ofW (cc := cX9_knot) (maxL := 2) (ret := (some .int)) (by decide) rfl ?_
  intro p e s m args below meth c s₁ B hml hv
  obtain ⟨rfl, hP, hK, hE, hN⟩ := hv
  have C : qC p s m _ meth c cX9_knot 2 RX9 wsX9_knot (some .int) := ⟨⟨B.exec, B.bytes, hml, findClass_of_methodNamed B.named, atoms_spec (ws := wsX9_knot) B.pre⟩, B.returns, B.notSynchronized⟩
  have C0 := C
  obtain ⟨⟨hx, hb, hml, hown, hts⟩, hr, hlocks⟩ := C0
  have hS : va_S (qA S ad) s.heap s.heap [] := va_S.rf
  have hl := lv_entry ([.ref (ad 0), .int p0]) (n := 2) (Nat.le_of_ble_eq_true rfl)
  rw [lg_entry_eq]
  generalize (lg_sl ([.ref (ad 0), .int p0]) ++ List.replicate (2 - (lg_sl ([.ref (ad 0), .int p0])).length) Slot.unset).toArray = ls at hl ⊢
  have hl : lv_has ls 2 [(0, .ref (ad 0)), (1, .int p0)] := hl
  unfold f_X9_knot at hf
  refine lv_aload_n hx hb dX9_knot_0 rfl (lv_at hl 0 rfl) ?_
  refine lv_iload_n hx hb dX9_knot_1 rfl (lv_at hl 1 rfl) ?_
  obtain ⟨v1, h2, hf⟩ := bd_ok hf
  refine q_cSi (va_runV (As := [.int p0]) (rest := []) ⟨hx, hb, hml, hown, hts⟩ (c_X9_isParty l (D := D) (ad := ad) (cy := cy) (sa := sa) (va := va) (I := I) (J := J) (S := S) h0 p0 h2) (cwV 1 hts gX9_knot_X9_isParty rfl rfl rfl (by decide +kernel) ⟨Nat.le_of_ble_eq_true rfl, Nat.le_of_ble_eq_true rfl⟩) ⟨qPre_blind _, q_recv hK hP (oX9 h0) rfl, fun U hU hW => ⟨rfl, qPre_of hP hK hE hN hS U hU hW⟩⟩ rfl rfl hl.1 rfl (lv_room (Nat.le_of_ble_eq_true rfl)) dX9_knot_2 ⟨Nat.le_of_ble_eq_true rfl, Nat.le_of_ble_eq_true rfl⟩) ?_
  refine lv_if_eq (tgt := 16) hx hb dX9_knot_5 (by decide) (fun cc => ?_) (fun cc => ?_)
  · have hf := (if_ok hf).1 cc
    refine lv_aload_n hx hb dX9_knot_16 rfl (lv_at hl 0 rfl) ?_
    refine lv_sipush (v := -1002) hx hb dX9_knot_17 (by decide) ?_
    obtain ⟨v3, I4, h5, hf⟩ := bd2_ok hf
    refine q_cEi (va_runV (As := [.int (-1002 : Int32)]) (rest := []) ⟨hx, hb, hml, hown, hts⟩ (c_X9_refuse l (D := D) (ad := ad) (cy := cy) (sa := sa) (va := va) (I := I) (J := J) (S := S) h0 (-1002 : Int32) h5) (cwV 1 hts gX9_knot_X9_refuse rfl rfl rfl (by decide +kernel) ⟨Nat.le_of_ble_eq_true rfl, Nat.le_of_ble_eq_true rfl⟩) ⟨qPre_blind _, q_recv hK hP (oX9 h0) rfl, fun U hU hW => ⟨rfl, qPre_of hP hK hE hN hS U hU hW⟩⟩ rfl rfl hl.1 rfl (lv_room (Nat.le_of_ble_eq_true rfl)) dX9_knot_20 ⟨Nat.le_of_ble_eq_true rfl, Nat.le_of_ble_eq_true rfl⟩) hS (fun H locs hP hS => ?_)
    have e9 := Option.some.inj hf
    have eI9 : I4 = Ie := (congrArg Prod.snd e9)
    exact W.iret hx hb hr (fun t ht _ => ⟨⟨_, (), rfl, (congrArg Prod.fst e9), by show qP D _ ad _ _ _ t.heap; rw [ht, ← eI9]; exact hP⟩, hS.F ht⟩) hS.2.2 dX9_knot_23
  · have hf := (if_ok hf).2 cc
    refine lv_aload_n hx hb dX9_knot_8 rfl (lv_at hl 0 rfl) ?_
    refine lv_iload_n hx hb dX9_knot_9 rfl (lv_at hl 1 rfl) ?_
    obtain ⟨v6, h7, hf⟩ := bd_ok hf
    refine q_cSi (va_runV (As := [.int p0]) (rest := []) ⟨hx, hb, hml, hown, hts⟩ (c_X9_knotOf l (D := D) (ad := ad) (cy := cy) (sa := sa) (va := va) (I := I) (J := J) (S := S) h0 p0 h7) (cwV 1 hts gX9_knot_X9_knotOf rfl rfl rfl (by decide +kernel) ⟨Nat.le_of_ble_eq_true rfl, Nat.le_of_ble_eq_true rfl⟩) ⟨qPre_blind _, q_recv hK hP (oX9 h0) rfl, fun U hU hW => ⟨rfl, qPre_of hP hK hE hN hS U hU hW⟩⟩ rfl rfl hl.1 rfl (lv_room (Nat.le_of_ble_eq_true rfl)) dX9_knot_10 ⟨Nat.le_of_ble_eq_true rfl, Nat.le_of_ble_eq_true rfl⟩) ?_
    refine lv_goto (tgt := 23) hx hb dX9_knot_13 (by decide) ?_
    have e9 := Option.some.inj hf
    have eI9 : I = Ie := (congrArg Prod.snd e9)
    exact W.iret hx hb hr (fun t ht _ => ⟨⟨_, (), rfl, (congrArg Prod.fst e9), by show qP D _ ad _ _ _ t.heap; rw [ht, ← eI9]; exact hP⟩, hS.F ht⟩) hS.2.2 dX9_knot_23
abbrev r_X9_torn : Room := { frames := 1, cells := 0, slots := 0, locals := 24 }
theorem in_X9_torn_X9 : ∀ w ∈ u_ws RX9 TX9 42, w ∈ wsX9_torn := by decide +kernel
set_option maxHeartbeats 4000000 in
set_option maxRecDepth 100000 in
theorem w_X9_torn_4 {S : Nat → Prop} (C : qC p s m args meth c cX9_torn 3 RX9 wsX9_torn (some .int)) (hK : qK D cy sa s) (hE : qEnv sa va (qA S ad) s s.heap) (hN : qN S ad) (h0 : isM0 S)   {I : qI} {J : qJ} (hP : qP D S ad (eM ad cy) I J s.heap) {r : Int32} : ∀ (n : Nat) (x1 : Int32) (x2 : Int32)  (ls : Array Slot), f_X9_torn_4 I n x1 x2 = some r → lv_has ls 3 [(0, .ref (ad 0)), (1, .int x1), (2, .int x2)] → W p l e (headSpec wsX9_torn r_X9_torn).room s m args below meth c s.heap [] 0 0 (MQ below (vp_Si (fun x => x = r)) args s 0 0 (fun _ => False)) (F0 m 4 ls []) := by
  have C0 := C
  obtain ⟨⟨hx, hb, hml, hown, hts⟩, hr, hlocks⟩ := C0
  intro n
  induction n with
  | zero =>
    intro x1 x2 ls hf hl
    rw [f_X9_torn_4] at hf
    cases hf
  | succ n ih =>
    intro x1 x2 ls hf hl
    rw [f_X9_torn_4] at hf
    refine lv_iload_n hx hb dX9_torn_4 rfl (lv_at hl 2 rfl) ?_
    refine lv_aload_n hx hb dX9_torn_5 rfl (lv_at hl 0 rfl) ?_
    refine q_get (C := RX9) (T := TX9) (N := 42) (ci := 9) (v := .int (I 0 17)) hx hb hts in_X9_torn_X9 hown hK hP (oX9 h0) rfl 17 (by decide) (hts (.fieldLink RX9 93 "RowsOnlyPrimesModel" "parties" "I") (by decide +kernel)) (fun _ h9 => h9) rfl dX9_torn_6 ?_
    refine lv_icmp_ge (tgt := 41) hx hb dX9_torn_9 (by decide) (fun cc => ?_) (fun cc => ?_)
    · have hf := (if_ok hf).1 cc
      refine lv_iload_n hx hb dX9_torn_41 rfl (lv_at hl 1 rfl) ?_
      exact W.iret hx hb hr (fun t ht _ => ⟨_, rfl, Option.some.inj hf, ht⟩) (fun _ h => by cases h) dX9_torn_42
    · have hf := (if_ok hf).2 cc
      refine lv_iload_n hx hb dX9_torn_12 rfl (lv_at hl 1 rfl) ?_
      refine lv_aload_n hx hb dX9_torn_13 rfl (lv_at hl 0 rfl) ?_
      refine lv_iload_n hx hb dX9_torn_14 rfl (lv_at hl 2 rfl) ?_
      obtain ⟨v1, h2, hf⟩ := bd_ok hf
      refine q_cSi (va_runV (As := [.int x2]) (rest := [.int x1]) ⟨hx, hb, hml, hown, hts⟩ (c_X9_knotOf l (D := D) (ad := ad) (cy := cy) (sa := sa) (va := va) (I := I) (J := J) (S := S) h0 x2 h2) (cwV 1 hts gX9_torn_X9_knotOf rfl rfl rfl (by decide +kernel) ⟨Nat.le_of_ble_eq_true rfl, Nat.le_of_ble_eq_true rfl⟩) ⟨qPre_blind _, q_recv hK hP (oX9 h0) rfl, fun U hU hW => ⟨rfl, qPre_of hP hK hE hN va_S.rf U hU hW⟩⟩ rfl rfl hl.1 rfl (lv_room (Nat.le_of_ble_eq_true rfl)) dX9_torn_15 ⟨Nat.le_of_ble_eq_true rfl, Nat.le_of_ble_eq_true rfl⟩) ?_
      refine lv_aload_n hx hb dX9_torn_18 rfl (lv_at hl 0 rfl) ?_
      refine q_get (C := RX9) (T := TX9) (N := 42) (ci := 9) (v := .ref (ad 22)) hx hb hts in_X9_torn_X9 hown hK hP (oX9 h0) rfl 24 (by decide) (hts (.fieldLink RX9 65 "RowsOnlyPrimesModel" "shuns" "[I") (by decide +kernel)) (fun _ h9 => h9) rfl dX9_torn_19 ?_
      refine lv_iload_n hx hb dX9_torn_22 rfl (lv_at hl 2 rfl) ?_
      obtain ⟨g3, hf⟩ := gd_ok hf
      refine q_iald hx hb hK hP (a0X9_22 h0) g3 dX9_torn_23 ?_
      refine lv_iand hx hb dX9_torn_24 ?_
      refine lv_if_eq (tgt := 32) hx hb dX9_torn_25 (by decide) (fun cc => ?_) (fun cc => ?_)
      · have hf := (if_ok hf).1 cc
        refine lv_iconst (v := 0) hx hb dX9_torn_32 (by decide) ?_
        refine lv_ior hx hb dX9_torn_33 ?_
        refine lv_istore_n (lv' := [(1, .int (x1 ||| (0 : Int32))), (0, .ref (ad 0)), (2, .int x2)]) hx hb dX9_torn_34 rfl hl (by decide) rfl (fun ls hl => ?_)
        refine lv_iinc (v := (x2 + (1 : Int32))) (lv' := [(2, .int (x2 + (1 : Int32))), (1, .int (x1 ||| (0 : Int32))), (0, .ref (ad 0))]) hx hb dX9_torn_35 hl (k := 2) rfl rfl (by decide) rfl (fun ls hl => ?_)
        refine lv_goto (tgt := 4) hx hb dX9_torn_38 (by decide) ?_
        exact ih (x1 ||| (0 : Int32)) (x2 + (1 : Int32)) _ hf (lv_sub hl [2, 1, 0] rfl)
      · have hf := (if_ok hf).2 cc
        refine lv_iconst (v := 1) hx hb dX9_torn_28 (by decide) ?_
        refine lv_goto (tgt := 33) hx hb dX9_torn_29 (by decide) ?_
        refine lv_ior hx hb dX9_torn_33 ?_
        refine lv_istore_n (lv' := [(1, .int (x1 ||| (1 : Int32))), (0, .ref (ad 0)), (2, .int x2)]) hx hb dX9_torn_34 rfl hl (by decide) rfl (fun ls hl => ?_)
        refine lv_iinc (v := (x2 + (1 : Int32))) (lv' := [(2, .int (x2 + (1 : Int32))), (1, .int (x1 ||| (1 : Int32))), (0, .ref (ad 0))]) hx hb dX9_torn_35 hl (k := 2) rfl rfl (by decide) rfl (fun ls hl => ?_)
        refine lv_goto (tgt := 4) hx hb dX9_torn_38 (by decide) ?_
        exact ih (x1 ||| (1 : Int32)) (x2 + (1 : Int32)) _ hf (lv_sub hl [2, 1, 0] rfl)
set_option maxHeartbeats 4000000 in
set_option maxRecDepth 100000 in
theorem c_X9_torn (l : Launch) {D : va_G} {ad : Nat → Nat} {cy : Nat → ClassId} {sa va : Nat → Nat} {I : qI} {J : qJ} {S : Nat → Prop} (h0 : isM0 S)    {r : Int32} (hf : f_X9_torn I = some r) : Met l yX9_torn wsX9_torn r_X9_torn (va_Pc [.ref (ad 0)] (qPre D S ad cy sa va (eM ad cy) I J)) (vp_Si (fun x => x = r)) 0 0 (fun _ => False) := by
  refine Met.ofW (cc := cX9_torn) (maxL := 3) (ret := (some .int)) (by decide) rfl ?_
  intro p e s m args below meth c s₁ B hml hv
  obtain ⟨rfl, hP, hK, hE, hN⟩ := hv
  have C : qC p s m _ meth c cX9_torn 3 RX9 wsX9_torn (some .int) := ⟨⟨B.exec, B.bytes, hml, findClass_of_methodNamed B.named, atoms_spec (ws := wsX9_torn) B.pre⟩, B.returns, B.notSynchronized⟩
  have C0 := C
  obtain ⟨⟨hx, hb, hml, hown, hts⟩, hr, hlocks⟩ := C0
  have hl := lv_entry ([.ref (ad 0)]) (n := 3) (Nat.le_of_ble_eq_true rfl)
  rw [lg_entry_eq]
  generalize (lg_sl ([.ref (ad 0)]) ++ List.replicate (3 - (lg_sl ([.ref (ad 0)])).length) Slot.unset).toArray = ls at hl ⊢
  have hl : lv_has ls 3 [(0, .ref (ad 0))] := hl
  unfold f_X9_torn at hf
  refine lv_iconst (v := 0) hx hb dX9_torn_0 (by decide) ?_
  refine lv_istore_n (lv' := [(1, .int (0 : Int32)), (0, .ref (ad 0))]) hx hb dX9_torn_1 rfl hl (by decide) rfl (fun ls hl => ?_)
  refine lv_iconst (v := 0) hx hb dX9_torn_2 (by decide) ?_
  refine lv_istore_n (lv' := [(2, .int (0 : Int32)), (1, .int (0 : Int32)), (0, .ref (ad 0))]) hx hb dX9_torn_3 rfl hl (by decide) rfl (fun ls hl => ?_)
  exact w_X9_torn_4 C hK hE hN h0 hP  1000 (0 : Int32) (0 : Int32) _ hf (lv_sub hl [2, 1, 0] rfl)
abbrev r_X9_ofKind : Room := { frames := 1, cells := 0, slots := 0, locals := 25 }
theorem in_X9_ofKind_X9 : ∀ w ∈ u_ws RX9 TX9 42, w ∈ wsX9_ofKind := by decide +kernel
set_option maxHeartbeats 4000000 in
set_option maxRecDepth 100000 in
theorem w_X9_ofKind_24 {S : Nat → Prop} (C : qC p s m args meth c cX9_ofKind 4 RX9 wsX9_ofKind (some .int)) (hK : qK D cy sa s) (hE : qEnv sa va (qA S ad) s s.heap) (hN : qN S ad) (h0 : isM0 S)   {J : qJ} {r : Int32} {Ie : qI} : ∀ (n : Nat) (x1 : Int32) (x2 : Int32) (x3 : Int32)  (I : qI) (ls : Array Slot) (H : Heap) (locs : List Loc), f_X9_ofKind_24 n x1 x2 x3 I = some (r, Ie) → lv_has ls 4 [(0, .ref (ad 0)), (1, .int x1), (2, .int x2), (3, .int x3)] → qP D S ad (eM ad cy) I J H → va_S (qA S ad) s.heap H locs → W p l e (headSpec wsX9_ofKind r_X9_ofKind).room s m args below meth c H locs 0 0 (MQ below (va_Qi (S := Unit) (fun x _ => x = r) (fun _ t => qP D S ad (eM ad cy) Ie J t.heap) (qA S ad)) args s 0 0 (qA S ad)) (F0 m 24 ls []) := by
  have C0 := C
  obtain ⟨⟨hx, hb, hml, hown, hts⟩, hr, hlocks⟩ := C0
  intro n
  induction n with
  | zero =>
    intro x1 x2 x3 I ls H locs hf hl hP hS
    rw [f_X9_ofKind_24] at hf
    cases hf
  | succ n ih =>
    intro x1 x2 x3 I ls H locs hf hl hP hS
    rw [f_X9_ofKind_24] at hf
    refine lv_iload_n hx hb dX9_ofKind_24 rfl (lv_at hl 3 rfl) ?_
    refine lv_aload_n hx hb dX9_ofKind_25 rfl (lv_at hl 0 rfl) ?_
    refine q_get (C := RX9) (T := TX9) (N := 42) (ci := 9) (v := .int (I 0 17)) hx hb hts in_X9_ofKind_X9 hown hK hP (oX9 h0) rfl 17 (by decide) (hts (.fieldLink RX9 93 "RowsOnlyPrimesModel" "parties" "I") (by decide +kernel)) (fun _ h9 => h9) rfl dX9_ofKind_26 ?_
    refine lv_icmp_ge (tgt := 56) hx hb dX9_ofKind_29 (by decide) (fun cc => ?_) (fun cc => ?_)
    · have hf := (if_ok hf).1 cc
      refine lv_iload_n hx hb dX9_ofKind_56 rfl (lv_at hl 2 rfl) ?_
      have e9 := Option.some.inj hf
      have eI9 : I = Ie := (congrArg Prod.snd e9)
      exact W.iret hx hb hr (fun t ht _ => ⟨⟨_, (), rfl, (congrArg Prod.fst e9), by show qP D _ ad _ _ _ t.heap; rw [ht, ← eI9]; exact hP⟩, hS.F ht⟩) hS.2.2 dX9_ofKind_57
    · have hf := (if_ok hf).2 cc
      refine lv_iload_n hx hb dX9_ofKind_32 rfl (lv_at hl 2 rfl) ?_
      refine lv_aload_n hx hb dX9_ofKind_33 rfl (lv_at hl 0 rfl) ?_
      refine q_get (C := RX9) (T := TX9) (N := 42) (ci := 9) (v := .ref (ad 17)) hx hb hts in_X9_ofKind_X9 hown hK hP (oX9 h0) rfl 19 (by decide) (hts (.fieldLink RX9 50 "RowsOnlyPrimesModel" "kind" "[I") (by decide +kernel)) (fun _ h9 => h9) rfl dX9_ofKind_34 ?_
      refine lv_iload_n hx hb dX9_ofKind_37 rfl (lv_at hl 3 rfl) ?_
      obtain ⟨g1, hf⟩ := gd_ok hf
      refine q_iald hx hb hK hP (a0X9_17 h0) g1 dX9_ofKind_38 ?_
      refine lv_iload_n hx hb dX9_ofKind_39 rfl (lv_at hl 1 rfl) ?_
      refine lv_icmp_ne (tgt := 47) hx hb dX9_ofKind_40 (by decide) (fun cc => ?_) (fun cc => ?_)
      · have hf := (if_ok hf).2 cc
        refine lv_iconst (v := 0) hx hb dX9_ofKind_47 (by decide) ?_
        refine lv_iadd hx hb dX9_ofKind_48 ?_
        refine lv_istore_n (lv' := [(2, .int (x2 + (0 : Int32))), (0, .ref (ad 0)), (1, .int x1), (3, .int x3)]) hx hb dX9_ofKind_49 rfl hl (by decide) rfl (fun ls hl => ?_)
        refine lv_iinc (v := (x3 + (1 : Int32))) (lv' := [(3, .int (x3 + (1 : Int32))), (2, .int (x2 + (0 : Int32))), (0, .ref (ad 0)), (1, .int x1)]) hx hb dX9_ofKind_50 hl (k := 3) rfl rfl (by decide) rfl (fun ls hl => ?_)
        refine lv_goto (tgt := 24) hx hb dX9_ofKind_53 (by decide) ?_
        exact ih x1 (x2 + (0 : Int32)) (x3 + (1 : Int32)) I _ _ _ hf (lv_sub hl [2, 3, 1, 0] rfl) hP hS
      · have hf := (if_ok hf).1 cc
        refine lv_iconst (v := 1) hx hb dX9_ofKind_43 (by decide) ?_
        refine lv_goto (tgt := 48) hx hb dX9_ofKind_44 (by decide) ?_
        refine lv_iadd hx hb dX9_ofKind_48 ?_
        refine lv_istore_n (lv' := [(2, .int (x2 + (1 : Int32))), (0, .ref (ad 0)), (1, .int x1), (3, .int x3)]) hx hb dX9_ofKind_49 rfl hl (by decide) rfl (fun ls hl => ?_)
        refine lv_iinc (v := (x3 + (1 : Int32))) (lv' := [(3, .int (x3 + (1 : Int32))), (2, .int (x2 + (1 : Int32))), (0, .ref (ad 0)), (1, .int x1)]) hx hb dX9_ofKind_50 hl (k := 3) rfl rfl (by decide) rfl (fun ls hl => ?_)
        refine lv_goto (tgt := 24) hx hb dX9_ofKind_53 (by decide) ?_
        exact ih x1 (x2 + (1 : Int32)) (x3 + (1 : Int32)) I _ _ _ hf (lv_sub hl [2, 3, 1, 0] rfl) hP hS
set_option maxHeartbeats 4000000 in
set_option maxRecDepth 100000 in
theorem c_X9_ofKind (l : Launch) {D : va_G} {ad : Nat → Nat} {cy : Nat → ClassId} {sa va : Nat → Nat} {I : qI} {J : qJ} {S : Nat → Prop} (h0 : isM0 S)   (p0 : Int32) {r : Int32} {Ie : qI} (hf : f_X9_ofKind p0 I = some (r, Ie)) : Met l yX9_ofKind wsX9_ofKind r_X9_ofKind (va_Pc [.ref (ad 0), .int p0] (qPre D S ad cy sa va (eM ad cy) I J)) (va_Qi (S := Unit) (fun x _ => x = r) (fun _ t => qP D S ad (eM ad cy) Ie J t.heap) (qA S ad)) 0 0 (qA S ad) := by
  refine Met.ofW (cc := cX9_ofKind) (maxL := 4) (ret := (some .int)) (by decide) rfl ?_
  intro p e s m args below meth c s₁ B hml hv
  obtain ⟨rfl, hP, hK, hE, hN⟩ := hv
  have C : qC p s m _ meth c cX9_ofKind 4 RX9 wsX9_ofKind (some .int) := ⟨⟨B.exec, B.bytes, hml, findClass_of_methodNamed B.named, atoms_spec (ws := wsX9_ofKind) B.pre⟩, B.returns, B.notSynchronized⟩
  have C0 := C
  obtain ⟨⟨hx, hb, hml, hown, hts⟩, hr, hlocks⟩ := C0
  have hS : va_S (qA S ad) s.heap s.heap [] := va_S.rf
  have hl := lv_entry ([.ref (ad 0), .int p0]) (n := 4) (Nat.le_of_ble_eq_true rfl)
  rw [lg_entry_eq]
  generalize (lg_sl ([.ref (ad 0), .int p0]) ++ List.replicate (4 - (lg_sl ([.ref (ad 0), .int p0])).length) Slot.unset).toArray = ls at hl ⊢
  have hl : lv_has ls 4 [(0, .ref (ad 0)), (1, .int p0)] := hl
  unfold f_X9_ofKind at hf
  refine lv_iload_n hx hb dX9_ofKind_0 rfl (lv_at hl 1 rfl) ?_
  refine lv_i2l hx hb dX9_ofKind_1 rfl ?_
  refine lv_lconst (v := 0) hx hb dX9_ofKind_2 (by decide) ?_
  refine lv_ldc2 (own := RX9) (v := 5) hx hb hown (hts (.constantLong RX9 124 (5)) (by decide +kernel)) dX9_ofKind_3 ?_
  obtain ⟨v1, h2, hf⟩ := bd_ok hf
  refine q_cSi (va_runS (As := [.long p0.toInt64, .long (0 : Int64), .long (5 : Int64)]) (rest := []) ⟨hx, hb, hml, hown, hts⟩ (c_X9_in l (D := D) (ad := ad) (cy := cy) (sa := sa) (va := va) (I := I) (J := J) (S := S) h0 p0.toInt64 (0 : Int64) (5 : Int64) h2) (va_cwS 3 hts gX9_ofKind_X9_in rfl rfl rfl (by decide +kernel) ⟨Nat.le_of_ble_eq_true rfl, Nat.le_of_ble_eq_true rfl⟩) ⟨qPre_blind _, fun U hU hW => ⟨rfl, qPre_of hP hK hE hN hS U hU hW⟩⟩ rfl rfl hl.1 rfl (lv_room (Nat.le_of_ble_eq_true rfl)) dX9_ofKind_6 ⟨Nat.le_of_ble_eq_true rfl, Nat.le_of_ble_eq_true rfl⟩) ?_
  refine lv_if_ne (tgt := 20) hx hb dX9_ofKind_9 (by decide) (fun cc => ?_) (fun cc => ?_)
  · have hf := (if_ok hf).2 cc
    refine lv_iconst (v := 0) hx hb dX9_ofKind_20 (by decide) ?_
    refine lv_istore_n (lv' := [(2, .int (0 : Int32)), (0, .ref (ad 0)), (1, .int p0)]) hx hb dX9_ofKind_21 rfl hl (by decide) rfl (fun ls hl => ?_)
    refine lv_iconst (v := 0) hx hb dX9_ofKind_22 (by decide) ?_
    refine lv_istore_n (lv' := [(3, .int (0 : Int32)), (2, .int (0 : Int32)), (0, .ref (ad 0)), (1, .int p0)]) hx hb dX9_ofKind_23 rfl hl (by decide) rfl (fun ls hl => ?_)
    exact w_X9_ofKind_24 C hK hE hN h0  1000 p0 (0 : Int32) (0 : Int32) I _ _ _ hf (lv_sub hl [2, 3, 1, 0] rfl) hP hS
  · have hf := (if_ok hf).1 cc
    refine lv_aload_n hx hb dX9_ofKind_12 rfl (lv_at hl 0 rfl) ?_
    refine lv_sipush (v := -1002) hx hb dX9_ofKind_13 (by decide) ?_
    obtain ⟨v3, I4, h5, hf⟩ := bd2_ok hf
    refine q_cEi (va_runV (As := [.int (-1002 : Int32)]) (rest := []) ⟨hx, hb, hml, hown, hts⟩ (c_X9_refuse l (D := D) (ad := ad) (cy := cy) (sa := sa) (va := va) (I := I) (J := J) (S := S) h0 (-1002 : Int32) h5) (cwV 1 hts gX9_ofKind_X9_refuse rfl rfl rfl (by decide +kernel) ⟨Nat.le_of_ble_eq_true rfl, Nat.le_of_ble_eq_true rfl⟩) ⟨qPre_blind _, q_recv hK hP (oX9 h0) rfl, fun U hU hW => ⟨rfl, qPre_of hP hK hE hN hS U hU hW⟩⟩ rfl rfl hl.1 rfl (lv_room (Nat.le_of_ble_eq_true rfl)) dX9_ofKind_16 ⟨Nat.le_of_ble_eq_true rfl, Nat.le_of_ble_eq_true rfl⟩) hS (fun H locs hP hS => ?_)
    have e9 := Option.some.inj hf
    have eI9 : I4 = Ie := (congrArg Prod.snd e9)
    exact W.iret hx hb hr (fun t ht _ => ⟨⟨_, (), rfl, (congrArg Prod.fst e9), by show qP D _ ad _ _ _ t.heap; rw [ht, ← eI9]; exact hP⟩, hS.F ht⟩) hS.2.2 dX9_ofKind_19
abbrev r_X9_waitingBits : Room := { frames := 0, cells := 0, slots := 0, locals := 0 }
theorem in_X9_waitingBits_X9 : ∀ w ∈ u_ws RX9 TX9 42, w ∈ wsX9_waitingBits := by decide +kernel
set_option maxHeartbeats 4000000 in
set_option maxRecDepth 100000 in
theorem c_X9_waitingBits (l : Launch) {D : va_G} {ad : Nat → Nat} {cy : Nat → ClassId} {sa va : Nat → Nat} {I : qI} {J : qJ} {S : Nat → Prop} (h0 : isM0 S)    {r : Int32} (hf : f_X9_waitingBits I = some r) : Met l yX9_waitingBits wsX9_waitingBits r_X9_waitingBits (va_Pc [.ref (ad 0)] (qPre D S ad cy sa va (eM ad cy) I J)) (vp_Si (fun x => x = r)) 0 0 (fun _ => False) := by
  refine Met.ofW (cc := cX9_waitingBits) (maxL := 1) (ret := (some .int)) (by decide) rfl ?_
  intro p e s m args below meth c s₁ B hml hv
  obtain ⟨rfl, hP, hK, hE, hN⟩ := hv
  have C : qC p s m _ meth c cX9_waitingBits 1 RX9 wsX9_waitingBits (some .int) := ⟨⟨B.exec, B.bytes, hml, findClass_of_methodNamed B.named, atoms_spec (ws := wsX9_waitingBits) B.pre⟩, B.returns, B.notSynchronized⟩
  have C0 := C
  obtain ⟨⟨hx, hb, hml, hown, hts⟩, hr, hlocks⟩ := C0
  have hl := lv_entry ([.ref (ad 0)]) (n := 1) (Nat.le_of_ble_eq_true rfl)
  rw [lg_entry_eq]
  generalize (lg_sl ([.ref (ad 0)]) ++ List.replicate (1 - (lg_sl ([.ref (ad 0)])).length) Slot.unset).toArray = ls at hl ⊢
  have hl : lv_has ls 1 [(0, .ref (ad 0))] := hl
  unfold f_X9_waitingBits at hf
  refine lv_iconst (v := 1) hx hb dX9_waitingBits_0 (by decide) ?_
  refine lv_aload_n hx hb dX9_waitingBits_1 rfl (lv_at hl 0 rfl) ?_
  refine q_get (C := RX9) (T := TX9) (N := 42) (ci := 9) (v := .int (I 0 17)) hx hb hts in_X9_waitingBits_X9 hown hK hP (oX9 h0) rfl 17 (by decide) (hts (.fieldLink RX9 93 "RowsOnlyPrimesModel" "parties" "I") (by decide +kernel)) (fun _ h9 => h9) rfl dX9_waitingBits_2 ?_
  refine lv_ishl hx hb dX9_waitingBits_5 ?_
  refine lv_iconst (v := 1) hx hb dX9_waitingBits_6 (by decide) ?_
  refine lv_isub hx hb dX9_waitingBits_7 ?_
  refine lv_aload_n hx hb dX9_waitingBits_8 rfl (lv_at hl 0 rfl) ?_
  refine q_get (C := RX9) (T := TX9) (N := 42) (ci := 9) (v := .int (I 0 18)) hx hb hts in_X9_waitingBits_X9 hown hK hP (oX9 h0) rfl 18 (by decide) (hts (.fieldLink RX9 100 "RowsOnlyPrimesModel" "over" "I") (by decide +kernel)) (fun _ h9 => h9) rfl dX9_waitingBits_9 ?_
  refine lv_iconst (v := -1) hx hb dX9_waitingBits_12 (by decide) ?_
  refine lv_ixor hx hb dX9_waitingBits_13 ?_
  refine lv_iand hx hb dX9_waitingBits_14 ?_
  exact W.iret hx hb hr (fun t ht _ => ⟨_, rfl, Option.some.inj hf, ht⟩) (fun _ h => by cases h) dX9_waitingBits_15
abbrev r_X9_findPlan : Room := { frames := 4, cells := 0, slots := 0, locals := 93 }
theorem in_X9_findPlan_X9 : ∀ w ∈ u_ws RX9 TX9 42, w ∈ wsX9_findPlan := by decide +kernel
set_option maxHeartbeats 4000000 in
set_option maxRecDepth 100000 in
theorem w_X9_findPlan_141 {S : Nat → Prop} (C : qC p s m args meth c cX9_findPlan 6 RX9 wsX9_findPlan (some .int)) (hK : qK D cy sa s) (hE : qEnv sa va (qA S ad) s s.heap) (hN : qN S ad) (h0 : isM0 S)   {J : qJ} {r : Int32} {Ie : qI} (k14 : Int32 → Int32 → qI → Option (Int32 × qI)) (hk14 : ∀ (x1 : Int32) (x2 : Int32)  (I : qI) (ls : Array Slot) (H : Heap) (locs : List Loc), k14 x1 x2 I = some (r, Ie) → lv_has ls 6 [(0, .ref (ad 0)), (1, .int x1), (2, .int x2)] → qP D S ad (eM ad cy) I J H → va_S (qA S ad) s.heap H locs → W p l e (headSpec wsX9_findPlan r_X9_findPlan).room s m args below meth c H locs 0 0 (MQ below (va_Qi (S := Unit) (fun x _ => x = r) (fun _ t => qP D S ad (eM ad cy) Ie J t.heap) (qA S ad)) args s 0 0 (qA S ad)) (F0 m 14 ls [])) (k39 : Int32 → Int32 → Int32 → qI → Option (Int32 × qI)) (hk39 : ∀ (x1 : Int32) (x2 : Int32) (x3 : Int32)  (I : qI) (ls : Array Slot) (H : Heap) (locs : List Loc), k39 x1 x2 x3 I = some (r, Ie) → lv_has ls 6 [(0, .ref (ad 0)), (1, .int x1), (2, .int x2), (3, .int x3)] → qP D S ad (eM ad cy) I J H → va_S (qA S ad) s.heap H locs → W p l e (headSpec wsX9_findPlan r_X9_findPlan).room s m args below meth c H locs 0 0 (MQ below (va_Qi (S := Unit) (fun x _ => x = r) (fun _ t => qP D S ad (eM ad cy) Ie J t.heap) (qA S ad)) args s 0 0 (qA S ad)) (F0 m 39 ls [])) : ∀ (x1 : Int32) (x2 : Int32) (x3 : Int32) (xs0 : Int32) (xs1 : Int32)  (I : qI) (ls : Array Slot) (H : Heap) (locs : List Loc), f_X9_findPlan_141 k14 k39 x1 x2 x3 xs0 xs1 I = some (r, Ie) → lv_has ls 6 [(0, .ref (ad 0)), (1, .int x1), (2, .int x2), (3, .int x3)] → qP D S ad (eM ad cy) I J H → va_S (qA S ad) s.heap H locs → W p l e (headSpec wsX9_findPlan r_X9_findPlan).room s m args below meth c H locs 0 0 (MQ below (va_Qi (S := Unit) (fun x _ => x = r) (fun _ t => qP D S ad (eM ad cy) Ie J t.heap) (qA S ad)) args s 0 0 (qA S ad)) (F0 m 141 ls [.int xs0, .int xs1, .ref (ad 26)]) := by
  have C0 := C
  obtain ⟨⟨hx, hb, hml, hown, hts⟩, hr, hlocks⟩ := C0
  intro x1 x2 x3 xs0 xs1 I ls H locs hf hl hP hS
  unfold f_X9_findPlan_141 at hf
  obtain ⟨g1, hf⟩ := gd_ok hf
  obtain ⟨I2, eI2, hf⟩ := lt_ok hf
  refine q_iast hx hb hK hP hN hS (a0X9_26 h0) g1 dX9_findPlan_141 (fun H locs hP hS => ?_)
  have hP : qP D S ad (eM ad cy) I2 J H := by rw [eI2]; exact hP
  refine lv_iload_n hx hb dX9_findPlan_142 rfl (lv_at hl 3 rfl) ?_
  refine lv_iconst (v := 1) hx hb dX9_findPlan_143 (by decide) ?_
  refine lv_isub hx hb dX9_findPlan_144 ?_
  refine lv_iload_n hx hb dX9_findPlan_145 rfl (lv_at hl 2 rfl) ?_
  refine lv_iand hx hb dX9_findPlan_146 ?_
  refine lv_istore_n (lv' := [(3, .int ((x3 - (1 : Int32)) &&& x2)), (0, .ref (ad 0)), (1, .int x1), (2, .int x2)]) hx hb dX9_findPlan_147 rfl hl (by decide) rfl (fun ls hl => ?_)
  refine lv_goto (tgt := 39) hx hb dX9_findPlan_148 (by decide) ?_
  exact hk39 x1 x2 ((x3 - (1 : Int32)) &&& x2) I2 _ _ _ hf (lv_sub hl [1, 2, 3, 0] rfl) hP hS
set_option maxHeartbeats 4000000 in
set_option maxRecDepth 100000 in
theorem w_X9_findPlan_130 {S : Nat → Prop} (C : qC p s m args meth c cX9_findPlan 6 RX9 wsX9_findPlan (some .int)) (hK : qK D cy sa s) (hE : qEnv sa va (qA S ad) s s.heap) (hN : qN S ad) (h0 : isM0 S)   {J : qJ} {r : Int32} {Ie : qI} (k14 : Int32 → Int32 → qI → Option (Int32 × qI)) (hk14 : ∀ (x1 : Int32) (x2 : Int32)  (I : qI) (ls : Array Slot) (H : Heap) (locs : List Loc), k14 x1 x2 I = some (r, Ie) → lv_has ls 6 [(0, .ref (ad 0)), (1, .int x1), (2, .int x2)] → qP D S ad (eM ad cy) I J H → va_S (qA S ad) s.heap H locs → W p l e (headSpec wsX9_findPlan r_X9_findPlan).room s m args below meth c H locs 0 0 (MQ below (va_Qi (S := Unit) (fun x _ => x = r) (fun _ t => qP D S ad (eM ad cy) Ie J t.heap) (qA S ad)) args s 0 0 (qA S ad)) (F0 m 14 ls [])) (k39 : Int32 → Int32 → Int32 → qI → Option (Int32 × qI)) (hk39 : ∀ (x1 : Int32) (x2 : Int32) (x3 : Int32)  (I : qI) (ls : Array Slot) (H : Heap) (locs : List Loc), k39 x1 x2 x3 I = some (r, Ie) → lv_has ls 6 [(0, .ref (ad 0)), (1, .int x1), (2, .int x2), (3, .int x3)] → qP D S ad (eM ad cy) I J H → va_S (qA S ad) s.heap H locs → W p l e (headSpec wsX9_findPlan r_X9_findPlan).room s m args below meth c H locs 0 0 (MQ below (va_Qi (S := Unit) (fun x _ => x = r) (fun _ t => qP D S ad (eM ad cy) Ie J t.heap) (qA S ad)) args s 0 0 (qA S ad)) (F0 m 39 ls [])) : ∀ (x1 : Int32) (x2 : Int32) (x3 : Int32) (x5 : Int32) (xs0 : Int32)  (I : qI) (ls : Array Slot) (H : Heap) (locs : List Loc), f_X9_findPlan_130 k14 k39 x1 x2 x3 x5 xs0 I = some (r, Ie) → lv_has ls 6 [(0, .ref (ad 0)), (1, .int x1), (2, .int x2), (3, .int x3), (5, .int x5)] → qP D S ad (eM ad cy) I J H → va_S (qA S ad) s.heap H locs → W p l e (headSpec wsX9_findPlan r_X9_findPlan).room s m args below meth c H locs 0 0 (MQ below (va_Qi (S := Unit) (fun x _ => x = r) (fun _ t => qP D S ad (eM ad cy) Ie J t.heap) (qA S ad)) args s 0 0 (qA S ad)) (F0 m 130 ls [.int xs0, .ref (ad 26)]) := by
  have C0 := C
  obtain ⟨⟨hx, hb, hml, hown, hts⟩, hr, hlocks⟩ := C0
  intro x1 x2 x3 x5 xs0 I ls H locs hf hl hP hS
  unfold f_X9_findPlan_130 at hf
  refine lv_iload hx hb dX9_findPlan_130 (lv_at hl 4 rfl) ?_
  refine lv_goto (tgt := 141) hx hb dX9_findPlan_132 (by decide) ?_
  exact w_X9_findPlan_141 C hK hE hN h0 k14 hk14 k39 hk39  x1 x2 x3 x5 xs0 I _ _ _ hf (lv_sub hl [0, 1, 2, 3] rfl) hP hS
set_option maxHeartbeats 4000000 in
set_option maxRecDepth 100000 in
theorem w_X9_findPlan_135 {S : Nat → Prop} (C : qC p s m args meth c cX9_findPlan 6 RX9 wsX9_findPlan (some .int)) (hK : qK D cy sa s) (hE : qEnv sa va (qA S ad) s s.heap) (hN : qN S ad) (h0 : isM0 S)   {J : qJ} {r : Int32} {Ie : qI} (k14 : Int32 → Int32 → qI → Option (Int32 × qI)) (hk14 : ∀ (x1 : Int32) (x2 : Int32)  (I : qI) (ls : Array Slot) (H : Heap) (locs : List Loc), k14 x1 x2 I = some (r, Ie) → lv_has ls 6 [(0, .ref (ad 0)), (1, .int x1), (2, .int x2)] → qP D S ad (eM ad cy) I J H → va_S (qA S ad) s.heap H locs → W p l e (headSpec wsX9_findPlan r_X9_findPlan).room s m args below meth c H locs 0 0 (MQ below (va_Qi (S := Unit) (fun x _ => x = r) (fun _ t => qP D S ad (eM ad cy) Ie J t.heap) (qA S ad)) args s 0 0 (qA S ad)) (F0 m 14 ls [])) (k39 : Int32 → Int32 → Int32 → qI → Option (Int32 × qI)) (hk39 : ∀ (x1 : Int32) (x2 : Int32) (x3 : Int32)  (I : qI) (ls : Array Slot) (H : Heap) (locs : List Loc), k39 x1 x2 x3 I = some (r, Ie) → lv_has ls 6 [(0, .ref (ad 0)), (1, .int x1), (2, .int x2), (3, .int x3)] → qP D S ad (eM ad cy) I J H → va_S (qA S ad) s.heap H locs → W p l e (headSpec wsX9_findPlan r_X9_findPlan).room s m args below meth c H locs 0 0 (MQ below (va_Qi (S := Unit) (fun x _ => x = r) (fun _ t => qP D S ad (eM ad cy) Ie J t.heap) (qA S ad)) args s 0 0 (qA S ad)) (F0 m 39 ls [])) : ∀ (x1 : Int32) (x2 : Int32) (x3 : Int32) (xs0 : Int32)  (I : qI) (ls : Array Slot) (H : Heap) (locs : List Loc), f_X9_findPlan_135 k14 k39 x1 x2 x3 xs0 I = some (r, Ie) → lv_has ls 6 [(0, .ref (ad 0)), (1, .int x1), (2, .int x2), (3, .int x3)] → qP D S ad (eM ad cy) I J H → va_S (qA S ad) s.heap H locs → W p l e (headSpec wsX9_findPlan r_X9_findPlan).room s m args below meth c H locs 0 0 (MQ below (va_Qi (S := Unit) (fun x _ => x = r) (fun _ t => qP D S ad (eM ad cy) Ie J t.heap) (qA S ad)) args s 0 0 (qA S ad)) (F0 m 135 ls [.int xs0, .ref (ad 26)]) := by
  have C0 := C
  obtain ⟨⟨hx, hb, hml, hown, hts⟩, hr, hlocks⟩ := C0
  intro x1 x2 x3 xs0 I ls H locs hf hl hP hS
  unfold f_X9_findPlan_135 at hf
  refine lv_aload_n hx hb dX9_findPlan_135 rfl (lv_at hl 0 rfl) ?_
  refine q_get (C := RX9) (T := TX9) (N := 42) (ci := 9) (v := .ref (ad 26)) hx hb hts in_X9_findPlan_X9 hown hK hP (oX9 h0) rfl 37 (by decide) (hts (.fieldLink RX9 80 "RowsOnlyPrimesModel" "price" "[I") (by decide +kernel)) (fun _ h9 => h9) rfl dX9_findPlan_136 ?_
  refine lv_iload_n hx hb dX9_findPlan_139 rfl (lv_at hl 2 rfl) ?_
  obtain ⟨g1, hf⟩ := gd_ok hf
  refine q_iald hx hb hK hP (a0X9_26 h0) g1 dX9_findPlan_140 ?_
  exact w_X9_findPlan_141 C hK hE hN h0 k14 hk14 k39 hk39  x1 x2 x3 (I 26 x2.toNatClampNeg) xs0 I _ _ _ hf (lv_sub hl [0, 1, 2, 3] rfl) hP hS
set_option maxHeartbeats 4000000 in
set_option maxRecDepth 100000 in
theorem w_X9_findPlan_96 {S : Nat → Prop} (C : qC p s m args meth c cX9_findPlan 6 RX9 wsX9_findPlan (some .int)) (hK : qK D cy sa s) (hE : qEnv sa va (qA S ad) s s.heap) (hN : qN S ad) (h0 : isM0 S)   {J : qJ} {r : Int32} {Ie : qI} (k14 : Int32 → Int32 → qI → Option (Int32 × qI)) (hk14 : ∀ (x1 : Int32) (x2 : Int32)  (I : qI) (ls : Array Slot) (H : Heap) (locs : List Loc), k14 x1 x2 I = some (r, Ie) → lv_has ls 6 [(0, .ref (ad 0)), (1, .int x1), (2, .int x2)] → qP D S ad (eM ad cy) I J H → va_S (qA S ad) s.heap H locs → W p l e (headSpec wsX9_findPlan r_X9_findPlan).room s m args below meth c H locs 0 0 (MQ below (va_Qi (S := Unit) (fun x _ => x = r) (fun _ t => qP D S ad (eM ad cy) Ie J t.heap) (qA S ad)) args s 0 0 (qA S ad)) (F0 m 14 ls [])) (k39 : Int32 → Int32 → Int32 → qI → Option (Int32 × qI)) (hk39 : ∀ (x1 : Int32) (x2 : Int32) (x3 : Int32)  (I : qI) (ls : Array Slot) (H : Heap) (locs : List Loc), k39 x1 x2 x3 I = some (r, Ie) → lv_has ls 6 [(0, .ref (ad 0)), (1, .int x1), (2, .int x2), (3, .int x3)] → qP D S ad (eM ad cy) I J H → va_S (qA S ad) s.heap H locs → W p l e (headSpec wsX9_findPlan r_X9_findPlan).room s m args below meth c H locs 0 0 (MQ below (va_Qi (S := Unit) (fun x _ => x = r) (fun _ t => qP D S ad (eM ad cy) Ie J t.heap) (qA S ad)) args s 0 0 (qA S ad)) (F0 m 39 ls [])) : ∀ (x1 : Int32) (x2 : Int32) (x3 : Int32) (xs0 : Int32)  (I : qI) (ls : Array Slot) (H : Heap) (locs : List Loc), f_X9_findPlan_96 k14 k39 x1 x2 x3 xs0 I = some (r, Ie) → lv_has ls 6 [(0, .ref (ad 0)), (1, .int x1), (2, .int x2), (3, .int x3)] → qP D S ad (eM ad cy) I J H → va_S (qA S ad) s.heap H locs → W p l e (headSpec wsX9_findPlan r_X9_findPlan).room s m args below meth c H locs 0 0 (MQ below (va_Qi (S := Unit) (fun x _ => x = r) (fun _ t => qP D S ad (eM ad cy) Ie J t.heap) (qA S ad)) args s 0 0 (qA S ad)) (F0 m 96 ls [.int xs0]) := by
  have C0 := C
  obtain ⟨⟨hx, hb, hml, hown, hts⟩, hr, hlocks⟩ := C0
  intro x1 x2 x3 xs0 I ls H locs hf hl hP hS
  unfold f_X9_findPlan_96 at hf
  refine lv_istore (lv' := [(5, .int xs0), (0, .ref (ad 0)), (1, .int x1), (2, .int x2), (3, .int x3)]) hx hb dX9_findPlan_96 hl (by decide) rfl (fun ls hl => ?_)
  refine lv_aload_n hx hb dX9_findPlan_98 rfl (lv_at hl 1 rfl) ?_
  refine q_get (C := RX9) (T := TX9) (N := 42) (ci := 9) (v := .ref (ad 26)) hx hb hts in_X9_findPlan_X9 hown hK hP (oX9 h0) rfl 37 (by decide) (hts (.fieldLink RX9 80 "RowsOnlyPrimesModel" "price" "[I") (by decide +kernel)) (fun _ h9 => h9) rfl dX9_findPlan_99 ?_
  refine lv_iload_n hx hb dX9_findPlan_102 rfl (lv_at hl 3 rfl) ?_
  refine lv_iload hx hb dX9_findPlan_103 (lv_at hl 0 rfl) ?_
  refine lv_iconst (v := -1) hx hb dX9_findPlan_105 (by decide) ?_
  refine lv_icmp_eq (tgt := 135) hx hb dX9_findPlan_106 (by decide) (fun cc => ?_) (fun cc => ?_)
  · have hf := (if_ok hf).1 cc
    exact w_X9_findPlan_135 C hK hE hN h0 k14 hk14 k39 hk39  x1 x2 x3 x2 I _ _ _ hf (lv_sub hl [1, 2, 3, 4] rfl) hP hS
  · have hf := (if_ok hf).2 cc
    refine lv_aload_n hx hb dX9_findPlan_109 rfl (lv_at hl 1 rfl) ?_
    refine q_get (C := RX9) (T := TX9) (N := 42) (ci := 9) (v := .ref (ad 26)) hx hb hts in_X9_findPlan_X9 hown hK hP (oX9 h0) rfl 37 (by decide) (hts (.fieldLink RX9 80 "RowsOnlyPrimesModel" "price" "[I") (by decide +kernel)) (fun _ h9 => h9) rfl dX9_findPlan_110 ?_
    refine lv_iload_n hx hb dX9_findPlan_113 rfl (lv_at hl 3 rfl) ?_
    obtain ⟨g1, hf⟩ := gd_ok hf
    refine q_iald hx hb hK hP (a0X9_26 h0) g1 dX9_findPlan_114 ?_
    refine lv_iconst (v := -1) hx hb dX9_findPlan_115 (by decide) ?_
    refine lv_icmp_eq (tgt := 130) hx hb dX9_findPlan_116 (by decide) (fun cc => ?_) (fun cc => ?_)
    · have hf := (if_ok hf).1 cc
      exact w_X9_findPlan_130 C hK hE hN h0 k14 hk14 k39 hk39  x1 x2 x3 xs0 x2 I _ _ _ hf (lv_sub hl [1, 2, 3, 4, 0] rfl) hP hS
    · have hf := (if_ok hf).2 cc
      refine lv_iload hx hb dX9_findPlan_119 (lv_at hl 0 rfl) ?_
      refine lv_aload_n hx hb dX9_findPlan_121 rfl (lv_at hl 1 rfl) ?_
      refine q_get (C := RX9) (T := TX9) (N := 42) (ci := 9) (v := .ref (ad 26)) hx hb hts in_X9_findPlan_X9 hown hK hP (oX9 h0) rfl 37 (by decide) (hts (.fieldLink RX9 80 "RowsOnlyPrimesModel" "price" "[I") (by decide +kernel)) (fun _ h9 => h9) rfl dX9_findPlan_122 ?_
      refine lv_iload_n hx hb dX9_findPlan_125 rfl (lv_at hl 3 rfl) ?_
      obtain ⟨g2, hf⟩ := gd_ok hf
      refine q_iald hx hb hK hP (a0X9_26 h0) g2 dX9_findPlan_126 ?_
      refine lv_icmp_ge (tgt := 135) hx hb dX9_findPlan_127 (by decide) (fun cc => ?_) (fun cc => ?_)
      · have hf := (if_ok hf).1 cc
        exact w_X9_findPlan_135 C hK hE hN h0 k14 hk14 k39 hk39  x1 x2 x3 x2 I _ _ _ hf (lv_sub hl [1, 2, 3, 4] rfl) hP hS
      · have hf := (if_ok hf).2 cc
        exact w_X9_findPlan_130 C hK hE hN h0 k14 hk14 k39 hk39  x1 x2 x3 xs0 x2 I _ _ _ hf (lv_sub hl [1, 2, 3, 4, 0] rfl) hP hS
set_option maxHeartbeats 4000000 in
set_option maxRecDepth 100000 in
theorem w_X9_findPlan_79 {S : Nat → Prop} (C : qC p s m args meth c cX9_findPlan 6 RX9 wsX9_findPlan (some .int)) (hK : qK D cy sa s) (hE : qEnv sa va (qA S ad) s s.heap) (hN : qN S ad) (h0 : isM0 S)   {J : qJ} {r : Int32} {Ie : qI} (k14 : Int32 → Int32 → qI → Option (Int32 × qI)) (hk14 : ∀ (x1 : Int32) (x2 : Int32)  (I : qI) (ls : Array Slot) (H : Heap) (locs : List Loc), k14 x1 x2 I = some (r, Ie) → lv_has ls 6 [(0, .ref (ad 0)), (1, .int x1), (2, .int x2)] → qP D S ad (eM ad cy) I J H → va_S (qA S ad) s.heap H locs → W p l e (headSpec wsX9_findPlan r_X9_findPlan).room s m args below meth c H locs 0 0 (MQ below (va_Qi (S := Unit) (fun x _ => x = r) (fun _ t => qP D S ad (eM ad cy) Ie J t.heap) (qA S ad)) args s 0 0 (qA S ad)) (F0 m 14 ls [])) (k39 : Int32 → Int32 → Int32 → qI → Option (Int32 × qI)) (hk39 : ∀ (x1 : Int32) (x2 : Int32) (x3 : Int32)  (I : qI) (ls : Array Slot) (H : Heap) (locs : List Loc), k39 x1 x2 x3 I = some (r, Ie) → lv_has ls 6 [(0, .ref (ad 0)), (1, .int x1), (2, .int x2), (3, .int x3)] → qP D S ad (eM ad cy) I J H → va_S (qA S ad) s.heap H locs → W p l e (headSpec wsX9_findPlan r_X9_findPlan).room s m args below meth c H locs 0 0 (MQ below (va_Qi (S := Unit) (fun x _ => x = r) (fun _ t => qP D S ad (eM ad cy) Ie J t.heap) (qA S ad)) args s 0 0 (qA S ad)) (F0 m 39 ls [])) : ∀ (x1 : Int32) (x2 : Int32) (x3 : Int32)  (I : qI) (ls : Array Slot) (H : Heap) (locs : List Loc), f_X9_findPlan_79 k14 k39 x1 x2 x3 I = some (r, Ie) → lv_has ls 6 [(0, .ref (ad 0)), (1, .int x1), (2, .int x2), (3, .int x3)] → qP D S ad (eM ad cy) I J H → va_S (qA S ad) s.heap H locs → W p l e (headSpec wsX9_findPlan r_X9_findPlan).room s m args below meth c H locs 0 0 (MQ below (va_Qi (S := Unit) (fun x _ => x = r) (fun _ t => qP D S ad (eM ad cy) Ie J t.heap) (qA S ad)) args s 0 0 (qA S ad)) (F0 m 79 ls []) := by
  have C0 := C
  obtain ⟨⟨hx, hb, hml, hown, hts⟩, hr, hlocks⟩ := C0
  intro x1 x2 x3 I ls H locs hf hl hP hS
  unfold f_X9_findPlan_79 at hf
  refine lv_iconst (v := -1) hx hb dX9_findPlan_79 (by decide) ?_
  refine lv_goto (tgt := 96) hx hb dX9_findPlan_80 (by decide) ?_
  exact w_X9_findPlan_96 C hK hE hN h0 k14 hk14 k39 hk39  x1 x2 x3 (-1 : Int32) I _ _ _ hf (lv_sub hl [0, 1, 2, 3] rfl) hP hS
set_option maxHeartbeats 4000000 in
set_option maxRecDepth 100000 in
theorem w_X9_findPlan_39 {S : Nat → Prop} (C : qC p s m args meth c cX9_findPlan 6 RX9 wsX9_findPlan (some .int)) (hK : qK D cy sa s) (hE : qEnv sa va (qA S ad) s s.heap) (hN : qN S ad) (h0 : isM0 S)   {J : qJ} {r : Int32} {Ie : qI} (k14 : Int32 → Int32 → qI → Option (Int32 × qI)) (hk14 : ∀ (x1 : Int32) (x2 : Int32)  (I : qI) (ls : Array Slot) (H : Heap) (locs : List Loc), k14 x1 x2 I = some (r, Ie) → lv_has ls 6 [(0, .ref (ad 0)), (1, .int x1), (2, .int x2)] → qP D S ad (eM ad cy) I J H → va_S (qA S ad) s.heap H locs → W p l e (headSpec wsX9_findPlan r_X9_findPlan).room s m args below meth c H locs 0 0 (MQ below (va_Qi (S := Unit) (fun x _ => x = r) (fun _ t => qP D S ad (eM ad cy) Ie J t.heap) (qA S ad)) args s 0 0 (qA S ad)) (F0 m 14 ls [])) : ∀ (n : Nat) (x1 : Int32) (x2 : Int32) (x3 : Int32)  (I : qI) (ls : Array Slot) (H : Heap) (locs : List Loc), f_X9_findPlan_39 k14 n x1 x2 x3 I = some (r, Ie) → lv_has ls 6 [(0, .ref (ad 0)), (1, .int x1), (2, .int x2), (3, .int x3)] → qP D S ad (eM ad cy) I J H → va_S (qA S ad) s.heap H locs → W p l e (headSpec wsX9_findPlan r_X9_findPlan).room s m args below meth c H locs 0 0 (MQ below (va_Qi (S := Unit) (fun x _ => x = r) (fun _ t => qP D S ad (eM ad cy) Ie J t.heap) (qA S ad)) args s 0 0 (qA S ad)) (F0 m 39 ls []) := by
  have C0 := C
  obtain ⟨⟨hx, hb, hml, hown, hts⟩, hr, hlocks⟩ := C0
  intro n
  induction n with
  | zero =>
    intro x1 x2 x3 I ls H locs hf hl hP hS
    rw [f_X9_findPlan_39] at hf
    cases hf
  | succ n ih =>
    intro x1 x2 x3 I ls H locs hf hl hP hS
    rw [f_X9_findPlan_39] at hf
    refine lv_iload_n hx hb dX9_findPlan_39 rfl (lv_at hl 3 rfl) ?_
    refine lv_if_le (tgt := 151) hx hb dX9_findPlan_40 (by decide) (fun cc => ?_) (fun cc => ?_)
    · have hf := (if_ok hf).1 cc
      refine lv_iinc (v := (x2 + (1 : Int32))) (lv' := [(2, .int (x2 + (1 : Int32))), (0, .ref (ad 0)), (1, .int x1), (3, .int x3)]) hx hb dX9_findPlan_151 hl (k := 2) rfl rfl (by decide) rfl (fun ls hl => ?_)
      refine lv_goto (tgt := 14) hx hb dX9_findPlan_154 (by decide) ?_
      exact hk14 x1 (x2 + (1 : Int32)) I _ _ _ hf (lv_sub hl [1, 2, 0] rfl) hP hS
    · have hf := (if_ok hf).2 cc
      refine lv_iload_n hx hb dX9_findPlan_43 rfl (lv_at hl 2 rfl) ?_
      refine lv_iload_n hx hb dX9_findPlan_44 rfl (lv_at hl 1 rfl) ?_
      refine lv_iconst (v := -1) hx hb dX9_findPlan_45 (by decide) ?_
      refine lv_ixor hx hb dX9_findPlan_46 ?_
      refine lv_iand hx hb dX9_findPlan_47 ?_
      refine lv_if_ne (tgt := 151) hx hb dX9_findPlan_48 (by decide) (fun cc => ?_) (fun cc => ?_)
      · have hf := (if_ok hf).2 cc
        refine lv_iinc (v := (x2 + (1 : Int32))) (lv' := [(2, .int (x2 + (1 : Int32))), (0, .ref (ad 0)), (1, .int x1), (3, .int x3)]) hx hb dX9_findPlan_151 hl (k := 2) rfl rfl (by decide) rfl (fun ls hl => ?_)
        refine lv_goto (tgt := 14) hx hb dX9_findPlan_154 (by decide) ?_
        exact hk14 x1 (x2 + (1 : Int32)) I _ _ _ hf (lv_sub hl [1, 2, 0] rfl) hP hS
      · have hf := (if_ok hf).1 cc
        refine lv_aload_n hx hb dX9_findPlan_51 rfl (lv_at hl 0 rfl) ?_
        refine q_get (C := RX9) (T := TX9) (N := 42) (ci := 9) (v := .ref (ad 26)) hx hb hts in_X9_findPlan_X9 hown hK hP (oX9 h0) rfl 37 (by decide) (hts (.fieldLink RX9 80 "RowsOnlyPrimesModel" "price" "[I") (by decide +kernel)) (fun _ h9 => h9) rfl dX9_findPlan_52 ?_
        refine lv_iload_n hx hb dX9_findPlan_55 rfl (lv_at hl 2 rfl) ?_
        refine lv_iload_n hx hb dX9_findPlan_56 rfl (lv_at hl 3 rfl) ?_
        refine lv_iconst (v := -1) hx hb dX9_findPlan_57 (by decide) ?_
        refine lv_ixor hx hb dX9_findPlan_58 ?_
        refine lv_iand hx hb dX9_findPlan_59 ?_
        obtain ⟨g1, hf⟩ := gd_ok hf
        refine q_iald hx hb hK hP (a0X9_26 h0) g1 dX9_findPlan_60 ?_
        obtain ⟨v2, ev2, hf⟩ := lt_ok hf
        refine q_top ev2 ?_
        refine lv_istore (lv' := [(4, .int v2), (0, .ref (ad 0)), (1, .int x1), (2, .int x2), (3, .int x3)]) hx hb dX9_findPlan_61 hl (by decide) rfl (fun ls hl => ?_)
        refine lv_aload_n hx hb dX9_findPlan_63 rfl (lv_at hl 1 rfl) ?_
        refine q_get (C := RX9) (T := TX9) (N := 42) (ci := 9) (v := .ref (ad 25)) hx hb hts in_X9_findPlan_X9 hown hK hP (oX9 h0) rfl 36 (by decide) (hts (.fieldLink RX9 77 "RowsOnlyPrimesModel" "hires" "[I") (by decide +kernel)) (fun _ h9 => h9) rfl dX9_findPlan_64 ?_
        refine lv_iload_n hx hb dX9_findPlan_67 rfl (lv_at hl 4 rfl) ?_
        obtain ⟨g3, hf⟩ := gd_ok hf
        refine q_iald hx hb hK hP (a0X9_25 h0) g3 dX9_findPlan_68 ?_
        refine lv_iconst (v := -1) hx hb dX9_findPlan_69 (by decide) ?_
        refine lv_icmp_eq (tgt := 79) hx hb dX9_findPlan_70 (by decide) (fun cc => ?_) (fun cc => ?_)
        · have hf := (if_ok hf).1 cc
          exact w_X9_findPlan_79 C hK hE hN h0 k14 hk14 (f_X9_findPlan_39 k14 n) ih  x1 x2 x3 I _ _ _ hf (lv_sub hl [1, 2, 3, 4] rfl) hP hS
        · have hf := (if_ok hf).2 cc
          refine lv_iload hx hb dX9_findPlan_73 (lv_at hl 0 rfl) ?_
          refine lv_iconst (v := -1) hx hb dX9_findPlan_75 (by decide) ?_
          refine lv_icmp_ne (tgt := 83) hx hb dX9_findPlan_76 (by decide) (fun cc => ?_) (fun cc => ?_)
          · have hf := (if_ok hf).2 cc
            refine lv_iload hx hb dX9_findPlan_83 (lv_at hl 0 rfl) ?_
            refine lv_sipush (v := 1000) hx hb dX9_findPlan_85 (by decide) ?_
            refine lv_iadd hx hb dX9_findPlan_88 ?_
            refine lv_aload_n hx hb dX9_findPlan_89 rfl (lv_at hl 1 rfl) ?_
            refine q_get (C := RX9) (T := TX9) (N := 42) (ci := 9) (v := .ref (ad 25)) hx hb hts in_X9_findPlan_X9 hown hK hP (oX9 h0) rfl 36 (by decide) (hts (.fieldLink RX9 77 "RowsOnlyPrimesModel" "hires" "[I") (by decide +kernel)) (fun _ h9 => h9) rfl dX9_findPlan_90 ?_
            refine lv_iload_n hx hb dX9_findPlan_93 rfl (lv_at hl 4 rfl) ?_
            obtain ⟨g4, hf⟩ := gd_ok hf
            refine q_iald hx hb hK hP (a0X9_25 h0) g4 dX9_findPlan_94 ?_
            refine lv_iadd hx hb dX9_findPlan_95 ?_
            exact w_X9_findPlan_96 C hK hE hN h0 k14 hk14 (f_X9_findPlan_39 k14 n) ih  x1 x2 x3 ((v2 + (1000 : Int32)) + (I 25 x3.toNatClampNeg)) I _ _ _ hf (lv_sub hl [1, 2, 3, 4] rfl) hP hS
          · have hf := (if_ok hf).1 cc
            exact w_X9_findPlan_79 C hK hE hN h0 k14 hk14 (f_X9_findPlan_39 k14 n) ih  x1 x2 x3 I _ _ _ hf (lv_sub hl [1, 2, 3, 4] rfl) hP hS
set_option maxHeartbeats 4000000 in
set_option maxRecDepth 100000 in
theorem w_X9_findPlan_14 {S : Nat → Prop} (C : qC p s m args meth c cX9_findPlan 6 RX9 wsX9_findPlan (some .int)) (hK : qK D cy sa s) (hE : qEnv sa va (qA S ad) s s.heap) (hN : qN S ad) (h0 : isM0 S)   {J : qJ} {r : Int32} {Ie : qI} : ∀ (n : Nat) (x1 : Int32) (x2 : Int32)  (I : qI) (ls : Array Slot) (H : Heap) (locs : List Loc), f_X9_findPlan_14 n x1 x2 I = some (r, Ie) → lv_has ls 6 [(0, .ref (ad 0)), (1, .int x1), (2, .int x2)] → qP D S ad (eM ad cy) I J H → va_S (qA S ad) s.heap H locs → W p l e (headSpec wsX9_findPlan r_X9_findPlan).room s m args below meth c H locs 0 0 (MQ below (va_Qi (S := Unit) (fun x _ => x = r) (fun _ t => qP D S ad (eM ad cy) Ie J t.heap) (qA S ad)) args s 0 0 (qA S ad)) (F0 m 14 ls []) := by
  have C0 := C
  obtain ⟨⟨hx, hb, hml, hown, hts⟩, hr, hlocks⟩ := C0
  intro n
  induction n with
  | zero =>
    intro x1 x2 I ls H locs hf hl hP hS
    rw [f_X9_findPlan_14] at hf
    cases hf
  | succ n ih =>
    intro x1 x2 I ls H locs hf hl hP hS
    rw [f_X9_findPlan_14] at hf
    refine lv_iload_n hx hb dX9_findPlan_14 rfl (lv_at hl 2 rfl) ?_
    refine lv_iload_n hx hb dX9_findPlan_15 rfl (lv_at hl 1 rfl) ?_
    refine lv_icmp_gt (tgt := 157) hx hb dX9_findPlan_16 (by decide) (fun cc => ?_) (fun cc => ?_)
    · have hf := (if_ok hf).1 cc
      refine lv_aload_n hx hb dX9_findPlan_157 rfl (lv_at hl 0 rfl) ?_
      refine q_get (C := RX9) (T := TX9) (N := 42) (ci := 9) (v := .ref (ad 26)) hx hb hts in_X9_findPlan_X9 hown hK hP (oX9 h0) rfl 37 (by decide) (hts (.fieldLink RX9 80 "RowsOnlyPrimesModel" "price" "[I") (by decide +kernel)) (fun _ h9 => h9) rfl dX9_findPlan_158 ?_
      refine lv_iload_n hx hb dX9_findPlan_161 rfl (lv_at hl 1 rfl) ?_
      obtain ⟨g1, hf⟩ := gd_ok hf
      refine q_iald hx hb hK hP (a0X9_26 h0) g1 dX9_findPlan_162 ?_
      have e9 := Option.some.inj hf
      have eI9 : I = Ie := (congrArg Prod.snd e9)
      exact W.iret hx hb hr (fun t ht _ => ⟨⟨_, (), rfl, (congrArg Prod.fst e9), by show qP D _ ad _ _ _ t.heap; rw [ht, ← eI9]; exact hP⟩, hS.F ht⟩) hS.2.2 dX9_findPlan_163
    · have hf := (if_ok hf).2 cc
      refine lv_aload_n hx hb dX9_findPlan_19 rfl (lv_at hl 0 rfl) ?_
      refine q_get (C := RX9) (T := TX9) (N := 42) (ci := 9) (v := .ref (ad 25)) hx hb hts in_X9_findPlan_X9 hown hK hP (oX9 h0) rfl 36 (by decide) (hts (.fieldLink RX9 77 "RowsOnlyPrimesModel" "hires" "[I") (by decide +kernel)) (fun _ h9 => h9) rfl dX9_findPlan_20 ?_
      refine lv_iload_n hx hb dX9_findPlan_23 rfl (lv_at hl 2 rfl) ?_
      refine lv_aload_n hx hb dX9_findPlan_24 rfl (lv_at hl 0 rfl) ?_
      refine lv_iload_n hx hb dX9_findPlan_25 rfl (lv_at hl 2 rfl) ?_
      obtain ⟨v2, h3, hf⟩ := bd_ok hf
      refine q_cSi (va_runV (As := [.int x2]) (rest := [.int x2, .ref (ad 25)]) ⟨hx, hb, hml, hown, hts⟩ (c_X9_hireOf l (D := D) (ad := ad) (cy := cy) (sa := sa) (va := va) (I := I) (J := J) (S := S) h0 x2 h3) (cwV 1 hts gX9_findPlan_X9_hireOf rfl rfl rfl (by decide +kernel) ⟨Nat.le_of_ble_eq_true rfl, Nat.le_of_ble_eq_true rfl⟩) ⟨qPre_blind _, q_recv hK hP (oX9 h0) rfl, fun U hU hW => ⟨rfl, qPre_of hP hK hE hN hS U hU hW⟩⟩ rfl rfl hl.1 rfl (lv_room (Nat.le_of_ble_eq_true rfl)) dX9_findPlan_26 ⟨Nat.le_of_ble_eq_true rfl, Nat.le_of_ble_eq_true rfl⟩) ?_
      obtain ⟨g4, hf⟩ := gd_ok hf
      obtain ⟨I5, eI5, hf⟩ := lt_ok hf
      refine q_iast hx hb hK hP hN hS (a0X9_25 h0) g4 dX9_findPlan_29 (fun H locs hP hS => ?_)
      have hP : qP D S ad (eM ad cy) I5 J H := by rw [eI5]; exact hP
      refine lv_aload_n hx hb dX9_findPlan_30 rfl (lv_at hl 0 rfl) ?_
      refine q_get (C := RX9) (T := TX9) (N := 42) (ci := 9) (v := .ref (ad 26)) hx hb hts in_X9_findPlan_X9 hown hK hP (oX9 h0) rfl 37 (by decide) (hts (.fieldLink RX9 80 "RowsOnlyPrimesModel" "price" "[I") (by decide +kernel)) (fun _ h9 => h9) rfl dX9_findPlan_31 ?_
      refine lv_iload_n hx hb dX9_findPlan_34 rfl (lv_at hl 2 rfl) ?_
      refine lv_iconst (v := -1) hx hb dX9_findPlan_35 (by decide) ?_
      obtain ⟨g6, hf⟩ := gd_ok hf
      obtain ⟨I7, eI7, hf⟩ := lt_ok hf
      refine q_iast hx hb hK hP hN hS (a0X9_26 h0) g6 dX9_findPlan_36 (fun H locs hP hS => ?_)
      have hP : qP D S ad (eM ad cy) I7 J H := by rw [eI7]; exact hP
      refine lv_iload_n hx hb dX9_findPlan_37 rfl (lv_at hl 2 rfl) ?_
      refine lv_istore_n (lv' := [(3, .int x2), (0, .ref (ad 0)), (1, .int x1), (2, .int x2)]) hx hb dX9_findPlan_38 rfl hl (by decide) rfl (fun ls hl => ?_)
      exact w_X9_findPlan_39 C hK hE hN h0 (f_X9_findPlan_14 n) ih 1000 x1 x2 x2 I7 _ _ _ hf (lv_sub hl [1, 2, 3, 0] rfl) hP hS
set_option maxHeartbeats 4000000 in
set_option maxRecDepth 100000 in
theorem c_X9_findPlan (l : Launch) {D : va_G} {ad : Nat → Nat} {cy : Nat → ClassId} {sa va : Nat → Nat} {I : qI} {J : qJ} {S : Nat → Prop} (h0 : isM0 S)    {r : Int32} {Ie : qI} (hf : f_X9_findPlan I = some (r, Ie)) : Met l yX9_findPlan wsX9_findPlan r_X9_findPlan (va_Pc [.ref (ad 0)] (qPre D S ad cy sa va (eM ad cy) I J)) (va_Qi (S := Unit) (fun x _ => x = r) (fun _ t => qP D S ad (eM ad cy) Ie J t.heap) (qA S ad)) 0 0 (qA S ad) := by
  refine Met.ofW (cc := cX9_findPlan) (maxL := 6) (ret := (some .int)) (by decide) rfl ?_
  intro p e s m args below meth c s₁ B hml hv
  obtain ⟨rfl, hP, hK, hE, hN⟩ := hv
  have C : qC p s m _ meth c cX9_findPlan 6 RX9 wsX9_findPlan (some .int) := ⟨⟨B.exec, B.bytes, hml, findClass_of_methodNamed B.named, atoms_spec (ws := wsX9_findPlan) B.pre⟩, B.returns, B.notSynchronized⟩
  have C0 := C
  obtain ⟨⟨hx, hb, hml, hown, hts⟩, hr, hlocks⟩ := C0
  have hS : va_S (qA S ad) s.heap s.heap [] := va_S.rf
  have hl := lv_entry ([.ref (ad 0)]) (n := 6) (Nat.le_of_ble_eq_true rfl)
  rw [lg_entry_eq]
  generalize (lg_sl ([.ref (ad 0)]) ++ List.replicate (6 - (lg_sl ([.ref (ad 0)])).length) Slot.unset).toArray = ls at hl ⊢
  have hl : lv_has ls 6 [(0, .ref (ad 0))] := hl
  unfold f_X9_findPlan at hf
  refine lv_aload_n hx hb dX9_findPlan_0 rfl (lv_at hl 0 rfl) ?_
  obtain ⟨v1, h2, hf⟩ := bd_ok hf
  refine q_cSi (va_runV (As := []) (rest := []) ⟨hx, hb, hml, hown, hts⟩ (c_X9_waitingBits l (D := D) (ad := ad) (cy := cy) (sa := sa) (va := va) (I := I) (J := J) (S := S) h0  h2) (cwV 0 hts gX9_findPlan_X9_waitingBits rfl rfl rfl (by decide +kernel) ⟨Nat.le_of_ble_eq_true rfl, Nat.le_of_ble_eq_true rfl⟩) ⟨qPre_blind _, q_recv hK hP (oX9 h0) rfl, fun U hU hW => ⟨rfl, qPre_of hP hK hE hN hS U hU hW⟩⟩ rfl rfl hl.1 rfl (lv_room (Nat.le_of_ble_eq_true rfl)) dX9_findPlan_1 ⟨Nat.le_of_ble_eq_true rfl, Nat.le_of_ble_eq_true rfl⟩) ?_
  refine lv_istore_n (lv' := [(1, .int v1), (0, .ref (ad 0))]) hx hb dX9_findPlan_4 rfl hl (by decide) rfl (fun ls hl => ?_)
  refine lv_aload_n hx hb dX9_findPlan_5 rfl (lv_at hl 1 rfl) ?_
  refine q_get (C := RX9) (T := TX9) (N := 42) (ci := 9) (v := .ref (ad 26)) hx hb hts in_X9_findPlan_X9 hown hK hP (oX9 h0) rfl 37 (by decide) (hts (.fieldLink RX9 80 "RowsOnlyPrimesModel" "price" "[I") (by decide +kernel)) (fun _ h9 => h9) rfl dX9_findPlan_6 ?_
  refine lv_iconst (v := 0) hx hb dX9_findPlan_9 (by decide) ?_
  refine lv_iconst (v := 0) hx hb dX9_findPlan_10 (by decide) ?_
  obtain ⟨I3, eI3, hf⟩ := lt_ok hf
  refine q_iast hx hb hK hP hN hS (a0X9_26 h0) (by decide) dX9_findPlan_11 (fun H locs hP hS => ?_)
  have eI3 : I3 = _ := eI3
  have hP : qP D S ad (eM ad cy) I3 J H := by rw [eI3]; exact hP
  refine lv_iconst (v := 1) hx hb dX9_findPlan_12 (by decide) ?_
  refine lv_istore_n (lv' := [(2, .int (1 : Int32)), (1, .int v1), (0, .ref (ad 0))]) hx hb dX9_findPlan_13 rfl hl (by decide) rfl (fun ls hl => ?_)
  exact w_X9_findPlan_14 C hK hE hN h0  1000 v1 (1 : Int32) I3 _ _ _ hf (lv_sub hl [2, 1, 0] rfl) hP hS
abbrev r_X9_begins : Room := { frames := 0, cells := 0, slots := 0, locals := 0 }
theorem in_X9_begins_X9 : ∀ w ∈ u_ws RX9 TX9 42, w ∈ wsX9_begins := by decide +kernel
set_option maxHeartbeats 4000000 in
set_option maxRecDepth 100000 in
theorem c_X9_begins (l : Launch) {D : va_G} {ad : Nat → Nat} {cy : Nat → ClassId} {sa va : Nat → Nat} {I : qI} {J : qJ} {S : Nat → Prop} (h0 : isM0 S)   (p0 : Int32) (p1 : Int32) {r : Int32} (hf : f_X9_begins p0 p1 I = some r) : Met l yX9_begins wsX9_begins r_X9_begins (va_Pc [.ref (ad 0), .int p0, .int p1] (qPre D S ad cy sa va (eM ad cy) I J)) (vp_Si (fun x => x = r)) 0 0 (fun _ => False) := by
  refine Met.ofW (cc := cX9_begins) (maxL := 4) (ret := (some .boolean)) (by decide) rfl ?_
  intro p e s m args below meth c s₁ B hml hv
  obtain ⟨rfl, hP, hK, hE, hN⟩ := hv
  have C : qC p s m _ meth c cX9_begins 4 RX9 wsX9_begins (some .boolean) := ⟨⟨B.exec, B.bytes, hml, findClass_of_methodNamed B.named, atoms_spec (ws := wsX9_begins) B.pre⟩, B.returns, B.notSynchronized⟩
  have C0 := C
  obtain ⟨⟨hx, hb, hml, hown, hts⟩, hr, hlocks⟩ := C0
  have hl := lv_entry ([.ref (ad 0), .int p0, .int p1]) (n := 4) (Nat.le_of_ble_eq_true rfl)
  rw [lg_entry_eq]
  generalize (lg_sl ([.ref (ad 0), .int p0, .int p1]) ++ List.replicate (4 - (lg_sl ([.ref (ad 0), .int p0, .int p1])).length) Slot.unset).toArray = ls at hl ⊢
  have hl : lv_has ls 4 [(0, .ref (ad 0)), (1, .int p0), (2, .int p1)] := hl
  unfold f_X9_begins at hf
  refine lv_aload_n hx hb dX9_begins_0 rfl (lv_at hl 0 rfl) ?_
  refine q_get (C := RX9) (T := TX9) (N := 42) (ci := 9) (v := .ref (ad 26)) hx hb hts in_X9_begins_X9 hown hK hP (oX9 h0) rfl 37 (by decide) (hts (.fieldLink RX9 80 "RowsOnlyPrimesModel" "price" "[I") (by decide +kernel)) (fun _ h9 => h9) rfl dX9_begins_1 ?_
  refine lv_iload_n hx hb dX9_begins_4 rfl (lv_at hl 1 rfl) ?_
  refine lv_iload_n hx hb dX9_begins_5 rfl (lv_at hl 2 rfl) ?_
  refine lv_iconst (v := -1) hx hb dX9_begins_6 (by decide) ?_
  refine lv_ixor hx hb dX9_begins_7 ?_
  refine lv_iand hx hb dX9_begins_8 ?_
  obtain ⟨g1, hf⟩ := gd_ok hf
  refine q_iald hx hb hK hP (a0X9_26 h0) g1 dX9_begins_9 ?_
  obtain ⟨v2, ev2, hf⟩ := lt_ok hf
  refine q_top ev2 ?_
  refine lv_istore_n (lv' := [(3, .int v2), (0, .ref (ad 0)), (1, .int p0), (2, .int p1)]) hx hb dX9_begins_10 rfl hl (by decide) rfl (fun ls hl => ?_)
  refine lv_iload_n hx hb dX9_begins_11 rfl (lv_at hl 3 rfl) ?_
  refine lv_iload_n hx hb dX9_begins_12 rfl (lv_at hl 2 rfl) ?_
  refine lv_iconst (v := -1) hx hb dX9_begins_13 (by decide) ?_
  refine lv_ixor hx hb dX9_begins_14 ?_
  refine lv_iand hx hb dX9_begins_15 ?_
  refine lv_if_ne (tgt := 59) hx hb dX9_begins_16 (by decide) (fun cc => ?_) (fun cc => ?_)
  · have hf := (if_ok hf).2 cc
    refine lv_iconst (v := 0) hx hb dX9_begins_59 (by decide) ?_
    exact W.zret (ty := .boolean) hx hb hr rfl (fun t ht _ => ⟨_, rfl, Option.some.inj hf, ht⟩) (fun _ h => by cases h) dX9_begins_60
  · have hf := (if_ok hf).1 cc
    refine lv_aload_n hx hb dX9_begins_19 rfl (lv_at hl 1 rfl) ?_
    refine q_get (C := RX9) (T := TX9) (N := 42) (ci := 9) (v := .ref (ad 25)) hx hb hts in_X9_begins_X9 hown hK hP (oX9 h0) rfl 36 (by decide) (hts (.fieldLink RX9 77 "RowsOnlyPrimesModel" "hires" "[I") (by decide +kernel)) (fun _ h9 => h9) rfl dX9_begins_20 ?_
    refine lv_iload_n hx hb dX9_begins_23 rfl (lv_at hl 3 rfl) ?_
    obtain ⟨g3, hf⟩ := gd_ok hf
    refine q_iald hx hb hK hP (a0X9_25 h0) g3 dX9_begins_24 ?_
    refine lv_iconst (v := -1) hx hb dX9_begins_25 (by decide) ?_
    refine lv_icmp_eq (tgt := 59) hx hb dX9_begins_26 (by decide) (fun cc => ?_) (fun cc => ?_)
    · have hf := (if_ok hf).1 cc
      refine lv_iconst (v := 0) hx hb dX9_begins_59 (by decide) ?_
      exact W.zret (ty := .boolean) hx hb hr rfl (fun t ht _ => ⟨_, rfl, Option.some.inj hf, ht⟩) (fun _ h => by cases h) dX9_begins_60
    · have hf := (if_ok hf).2 cc
      refine lv_iload_n hx hb dX9_begins_29 rfl (lv_at hl 0 rfl) ?_
      refine lv_iconst (v := -1) hx hb dX9_begins_30 (by decide) ?_
      refine lv_icmp_eq (tgt := 59) hx hb dX9_begins_31 (by decide) (fun cc => ?_) (fun cc => ?_)
      · have hf := (if_ok hf).1 cc
        refine lv_iconst (v := 0) hx hb dX9_begins_59 (by decide) ?_
        exact W.zret (ty := .boolean) hx hb hr rfl (fun t ht _ => ⟨_, rfl, Option.some.inj hf, ht⟩) (fun _ h => by cases h) dX9_begins_60
      · have hf := (if_ok hf).2 cc
        refine lv_iload_n hx hb dX9_begins_34 rfl (lv_at hl 0 rfl) ?_
        refine lv_sipush (v := 1000) hx hb dX9_begins_35 (by decide) ?_
        refine lv_iadd hx hb dX9_begins_38 ?_
        refine lv_aload_n hx hb dX9_begins_39 rfl (lv_at hl 1 rfl) ?_
        refine q_get (C := RX9) (T := TX9) (N := 42) (ci := 9) (v := .ref (ad 25)) hx hb hts in_X9_begins_X9 hown hK hP (oX9 h0) rfl 36 (by decide) (hts (.fieldLink RX9 77 "RowsOnlyPrimesModel" "hires" "[I") (by decide +kernel)) (fun _ h9 => h9) rfl dX9_begins_40 ?_
        refine lv_iload_n hx hb dX9_begins_43 rfl (lv_at hl 3 rfl) ?_
        obtain ⟨g4, hf⟩ := gd_ok hf
        refine q_iald hx hb hK hP (a0X9_25 h0) g4 dX9_begins_44 ?_
        refine lv_iadd hx hb dX9_begins_45 ?_
        refine lv_aload_n hx hb dX9_begins_46 rfl (lv_at hl 1 rfl) ?_
        refine q_get (C := RX9) (T := TX9) (N := 42) (ci := 9) (v := .ref (ad 26)) hx hb hts in_X9_begins_X9 hown hK hP (oX9 h0) rfl 37 (by decide) (hts (.fieldLink RX9 80 "RowsOnlyPrimesModel" "price" "[I") (by decide +kernel)) (fun _ h9 => h9) rfl dX9_begins_47 ?_
        refine lv_iload_n hx hb dX9_begins_50 rfl (lv_at hl 2 rfl) ?_
        obtain ⟨g5, hf⟩ := gd_ok hf
        refine q_iald hx hb hK hP (a0X9_26 h0) g5 dX9_begins_51 ?_
        refine lv_icmp_ne (tgt := 59) hx hb dX9_begins_52 (by decide) (fun cc => ?_) (fun cc => ?_)
        · have hf := (if_ok hf).2 cc
          refine lv_iconst (v := 0) hx hb dX9_begins_59 (by decide) ?_
          exact W.zret (ty := .boolean) hx hb hr rfl (fun t ht _ => ⟨_, rfl, Option.some.inj hf, ht⟩) (fun _ h => by cases h) dX9_begins_60
        · have hf := (if_ok hf).1 cc
          refine lv_iconst (v := 1) hx hb dX9_begins_55 (by decide) ?_
          refine lv_goto (tgt := 60) hx hb dX9_begins_56 (by decide) ?_
          exact W.zret (ty := .boolean) hx hb hr rfl (fun t ht _ => ⟨_, rfl, Option.some.inj hf, ht⟩) (fun _ h => by cases h) dX9_begins_60
abbrev r_X9_plan : Room := { frames := 5, cells := 0, slots := 0, locals := 118 }
set_option maxHeartbeats 4000000 in
set_option maxRecDepth 100000 in
theorem w_X9_plan_86 {S : Nat → Prop} (C : qC p s m args meth c cX9_plan 6 RX9 wsX9_plan (some .int)) (hK : qK D cy sa s) (hE : qEnv sa va (qA S ad) s s.heap) (hN : qN S ad) (h0 : isM0 S)   {J : qJ} {r : Int32} {Ie : qI} (k77 : Int32 → Int32 → Int32 → Int32 → qI → Option (Int32 × qI)) (hk77 : ∀ (x1 : Int32) (x3 : Int32) (x4 : Int32) (x5 : Int32)  (I : qI) (ls : Array Slot) (H : Heap) (locs : List Loc), k77 x1 x3 x4 x5 I = some (r, Ie) → lv_has ls 6 [(0, .ref (ad 0)), (1, .int x1), (3, .int x3), (4, .int x4), (5, .int x5)] → qP D S ad (eM ad cy) I J H → va_S (qA S ad) s.heap H locs → W p l e (headSpec wsX9_plan r_X9_plan).room s m args below meth c H locs 0 0 (MQ below (va_Qi (S := Unit) (fun x _ => x = r) (fun _ t => qP D S ad (eM ad cy) Ie J t.heap) (qA S ad)) args s 0 0 (qA S ad)) (F0 m 77 ls [])) : ∀ (n : Nat) (x1 : Int32) (x3 : Int32) (x4 : Int32) (x5 : Int32)  (I : qI) (ls : Array Slot) (H : Heap) (locs : List Loc), f_X9_plan_86 k77 n x1 x3 x4 x5 I = some (r, Ie) → lv_has ls 6 [(0, .ref (ad 0)), (1, .int x1), (3, .int x3), (4, .int x4), (5, .int x5)] → qP D S ad (eM ad cy) I J H → va_S (qA S ad) s.heap H locs → W p l e (headSpec wsX9_plan r_X9_plan).room s m args below meth c H locs 0 0 (MQ below (va_Qi (S := Unit) (fun x _ => x = r) (fun _ t => qP D S ad (eM ad cy) Ie J t.heap) (qA S ad)) args s 0 0 (qA S ad)) (F0 m 86 ls []) := by
  have C0 := C
  obtain ⟨⟨hx, hb, hml, hown, hts⟩, hr, hlocks⟩ := C0
  intro n
  induction n with
  | zero =>
    intro x1 x3 x4 x5 I ls H locs hf hl hP hS
    rw [f_X9_plan_86] at hf
    cases hf
  | succ n ih =>
    intro x1 x3 x4 x5 I ls H locs hf hl hP hS
    rw [f_X9_plan_86] at hf
    refine lv_aload_n hx hb dX9_plan_86 rfl (lv_at hl 0 rfl) ?_
    refine lv_iload_n hx hb dX9_plan_87 rfl (lv_at hl 2 rfl) ?_
    refine lv_iload hx hb dX9_plan_88 (lv_at hl 3 rfl) ?_
    obtain ⟨v1, h2, hf⟩ := bd_ok hf
    refine q_cSi (va_runV (As := [.int x3, .int x4]) (rest := []) ⟨hx, hb, hml, hown, hts⟩ (c_X9_begins l (D := D) (ad := ad) (cy := cy) (sa := sa) (va := va) (I := I) (J := J) (S := S) h0 x3 x4 h2) (cwV 2 hts gX9_plan_X9_begins rfl rfl rfl (by decide +kernel) ⟨Nat.le_of_ble_eq_true rfl, Nat.le_of_ble_eq_true rfl⟩) ⟨qPre_blind _, q_recv hK hP (oX9 h0) rfl, fun U hU hW => ⟨rfl, qPre_of hP hK hE hN hS U hU hW⟩⟩ rfl rfl hl.1 rfl (lv_room (Nat.le_of_ble_eq_true rfl)) dX9_plan_90 ⟨Nat.le_of_ble_eq_true rfl, Nat.le_of_ble_eq_true rfl⟩) ?_
    refine lv_if_ne (tgt := 102) hx hb dX9_plan_93 (by decide) (fun cc => ?_) (fun cc => ?_)
    · have hf := (if_ok hf).2 cc
      refine lv_iload_n hx hb dX9_plan_102 rfl (lv_at hl 2 rfl) ?_
      refine lv_iload hx hb dX9_plan_103 (lv_at hl 3 rfl) ?_
      refine lv_iconst (v := -1) hx hb dX9_plan_105 (by decide) ?_
      refine lv_ixor hx hb dX9_plan_106 ?_
      refine lv_iand hx hb dX9_plan_107 ?_
      refine lv_istore_n (lv' := [(3, .int (x3 &&& (x4 ^^^ (-1 : Int32)))), (0, .ref (ad 0)), (1, .int x1), (4, .int x4), (5, .int x5)]) hx hb dX9_plan_108 rfl hl (by decide) rfl (fun ls hl => ?_)
      refine lv_iinc (v := (x5 + (1 : Int32))) (lv' := [(5, .int (x5 + (1 : Int32))), (3, .int (x3 &&& (x4 ^^^ (-1 : Int32)))), (0, .ref (ad 0)), (1, .int x1), (4, .int x4)]) hx hb dX9_plan_109 hl (k := 4) rfl rfl (by decide) rfl (fun ls hl => ?_)
      refine lv_goto (tgt := 77) hx hb dX9_plan_112 (by decide) ?_
      exact hk77 x1 (x3 &&& (x4 ^^^ (-1 : Int32))) x4 (x5 + (1 : Int32)) I _ _ _ hf (lv_sub hl [2, 3, 1, 4, 0] rfl) hP hS
    · have hf := (if_ok hf).1 cc
      refine lv_iinc (v := (x4 + (1 : Int32))) (lv' := [(4, .int (x4 + (1 : Int32))), (0, .ref (ad 0)), (1, .int x1), (3, .int x3), (5, .int x5)]) hx hb dX9_plan_96 hl (k := 3) rfl rfl (by decide) rfl (fun ls hl => ?_)
      refine lv_goto (tgt := 86) hx hb dX9_plan_99 (by decide) ?_
      exact ih x1 x3 (x4 + (1 : Int32)) x5 I _ _ _ hf (lv_sub hl [1, 2, 3, 0, 4] rfl) hP hS
set_option maxHeartbeats 4000000 in
set_option maxRecDepth 100000 in
theorem w_X9_plan_77 {S : Nat → Prop} (C : qC p s m args meth c cX9_plan 6 RX9 wsX9_plan (some .int)) (hK : qK D cy sa s) (hE : qEnv sa va (qA S ad) s s.heap) (hN : qN S ad) (h0 : isM0 S)   {J : qJ} {r : Int32} {Ie : qI} : ∀ (n : Nat) (x1 : Int32) (x3 : Int32) (x4 : Int32) (x5 : Int32)  (I : qI) (ls : Array Slot) (H : Heap) (locs : List Loc), f_X9_plan_77 n x1 x3 x4 x5 I = some (r, Ie) → lv_has ls 6 [(0, .ref (ad 0)), (1, .int x1), (3, .int x3), (4, .int x4), (5, .int x5)] → qP D S ad (eM ad cy) I J H → va_S (qA S ad) s.heap H locs → W p l e (headSpec wsX9_plan r_X9_plan).room s m args below meth c H locs 0 0 (MQ below (va_Qi (S := Unit) (fun x _ => x = r) (fun _ t => qP D S ad (eM ad cy) Ie J t.heap) (qA S ad)) args s 0 0 (qA S ad)) (F0 m 77 ls []) := by
  have C0 := C
  obtain ⟨⟨hx, hb, hml, hown, hts⟩, hr, hlocks⟩ := C0
  intro n
  induction n with
  | zero =>
    intro x1 x3 x4 x5 I ls H locs hf hl hP hS
    rw [f_X9_plan_77] at hf
    cases hf
  | succ n ih =>
    intro x1 x3 x4 x5 I ls H locs hf hl hP hS
    rw [f_X9_plan_77] at hf
    refine lv_iload hx hb dX9_plan_77 (lv_at hl 4 rfl) ?_
    refine lv_iload_n hx hb dX9_plan_79 rfl (lv_at hl 1 rfl) ?_
    refine lv_icmp_gt (tgt := 115) hx hb dX9_plan_80 (by decide) (fun cc => ?_) (fun cc => ?_)
    · have hf := (if_ok hf).1 cc
      refine lv_iload hx hb dX9_plan_115 (lv_at hl 3 rfl) ?_
      have e9 := Option.some.inj hf
      have eI9 : I = Ie := (congrArg Prod.snd e9)
      exact W.iret hx hb hr (fun t ht _ => ⟨⟨_, (), rfl, (congrArg Prod.fst e9), by show qP D _ ad _ _ _ t.heap; rw [ht, ← eI9]; exact hP⟩, hS.F ht⟩) hS.2.2 dX9_plan_117
    · have hf := (if_ok hf).2 cc
      refine lv_iconst (v := 1) hx hb dX9_plan_83 (by decide) ?_
      refine lv_istore (lv' := [(4, .int (1 : Int32)), (0, .ref (ad 0)), (1, .int x1), (3, .int x3), (5, .int x5)]) hx hb dX9_plan_84 hl (by decide) rfl (fun ls hl => ?_)
      exact w_X9_plan_86 C hK hE hN h0 (f_X9_plan_77 n) ih 1000 x1 x3 (1 : Int32) x5 I _ _ _ hf (lv_sub hl [1, 2, 3, 0, 4] rfl) hP hS
set_option maxHeartbeats 4000000 in
set_option maxRecDepth 100000 in
theorem c_X9_plan (l : Launch) {D : va_G} {ad : Nat → Nat} {cy : Nat → ClassId} {sa va : Nat → Nat} {I : qI} {J : qJ} {S : Nat → Prop} (h0 : isM0 S)   (p0 : Int32) {r : Int32} {Ie : qI} (hf : f_X9_plan p0 I = some (r, Ie)) : Met l yX9_plan wsX9_plan r_X9_plan (va_Pc [.ref (ad 0), .int p0] (qPre D S ad cy sa va (eM ad cy) I J)) (va_Qi (S := Unit) (fun x _ => x = r) (fun _ t => qP D S ad (eM ad cy) Ie J t.heap) (qA S ad)) 0 0 (qA S ad) := by
  refine Met.ofW (cc := cX9_plan) (maxL := 6) (ret := (some .int)) (by decide) rfl ?_
  intro p e s m args below meth c s₁ B hml hv
  obtain ⟨rfl, hP, hK, hE, hN⟩ := hv
  have C : qC p s m _ meth c cX9_plan 6 RX9 wsX9_plan (some .int) := ⟨⟨B.exec, B.bytes, hml, findClass_of_methodNamed B.named, atoms_spec (ws := wsX9_plan) B.pre⟩, B.returns, B.notSynchronized⟩
  have C0 := C
  obtain ⟨⟨hx, hb, hml, hown, hts⟩, hr, hlocks⟩ := C0
  have hS : va_S (qA S ad) s.heap s.heap [] := va_S.rf
  have hl := lv_entry ([.ref (ad 0), .int p0]) (n := 6) (Nat.le_of_ble_eq_true rfl)
  rw [lg_entry_eq]
  generalize (lg_sl ([.ref (ad 0), .int p0]) ++ List.replicate (6 - (lg_sl ([.ref (ad 0), .int p0])).length) Slot.unset).toArray = ls at hl ⊢
  have hl : lv_has ls 6 [(0, .ref (ad 0)), (1, .int p0)] := hl
  unfold f_X9_plan at hf
  refine lv_iload_n hx hb dX9_plan_0 rfl (lv_at hl 1 rfl) ?_
  refine lv_bipush (v := -2) hx hb dX9_plan_1 (by decide) ?_
  refine lv_icmp_ge (tgt := 14) hx hb dX9_plan_3 (by decide) (fun cc => ?_) (fun cc => ?_)
  · have hf := (if_ok hf).1 cc
    refine lv_aload_n hx hb dX9_plan_14 rfl (lv_at hl 0 rfl) ?_
    obtain ⟨v1, I2, h3, hf⟩ := bd2_ok hf
    refine q_cEi (va_runV (As := []) (rest := []) ⟨hx, hb, hml, hown, hts⟩ (c_X9_findPlan l (D := D) (ad := ad) (cy := cy) (sa := sa) (va := va) (I := I) (J := J) (S := S) h0  h3) (cwV 0 hts gX9_plan_X9_findPlan rfl rfl rfl (by decide +kernel) ⟨Nat.le_of_ble_eq_true rfl, Nat.le_of_ble_eq_true rfl⟩) ⟨qPre_blind _, q_recv hK hP (oX9 h0) rfl, fun U hU hW => ⟨rfl, qPre_of hP hK hE hN hS U hU hW⟩⟩ rfl rfl hl.1 rfl (lv_room (Nat.le_of_ble_eq_true rfl)) dX9_plan_15 ⟨Nat.le_of_ble_eq_true rfl, Nat.le_of_ble_eq_true rfl⟩) hS (fun H locs hP hS => ?_)
    refine lv_istore_n (lv' := [(2, .int v1), (0, .ref (ad 0)), (1, .int p0)]) hx hb dX9_plan_18 rfl hl (by decide) rfl (fun ls hl => ?_)
    refine lv_iload_n hx hb dX9_plan_19 rfl (lv_at hl 0 rfl) ?_
    refine lv_iconst (v := -1) hx hb dX9_plan_20 (by decide) ?_
    refine lv_icmp_ne (tgt := 26) hx hb dX9_plan_21 (by decide) (fun cc => ?_) (fun cc => ?_)
    · have hf := (if_ok hf).2 cc
      refine lv_iload_n hx hb dX9_plan_26 rfl (lv_at hl 2 rfl) ?_
      refine lv_if_ge (tgt := 49) hx hb dX9_plan_27 (by decide) (fun cc => ?_) (fun cc => ?_)
      · have hf := (if_ok hf).1 cc
        refine lv_iload_n hx hb dX9_plan_49 rfl (lv_at hl 2 rfl) ?_
        refine lv_iload_n hx hb dX9_plan_50 rfl (lv_at hl 0 rfl) ?_
        refine lv_sipush (v := 1000) hx hb dX9_plan_51 (by decide) ?_
        refine lv_idiv hx hb dX9_plan_54 (by decide) ?_
        refine lv_icmp_lt (tgt := 66) hx hb dX9_plan_55 (by decide) (fun cc => ?_) (fun cc => ?_)
        · have hf := (if_ok hf).1 cc
          refine lv_aload_n hx hb dX9_plan_66 rfl (lv_at hl 1 rfl) ?_
          obtain ⟨v4, h5, hf⟩ := bd_ok hf
          refine q_cSi (va_runV (As := []) (rest := []) ⟨hx, hb, hml, hown, hts⟩ (c_X9_waitingBits l (D := D) (ad := ad) (cy := cy) (sa := sa) (va := va) (I := I2) (J := J) (S := S) h0  h5) (cwV 0 hts gX9_plan_X9_waitingBits rfl rfl rfl (by decide +kernel) ⟨Nat.le_of_ble_eq_true rfl, Nat.le_of_ble_eq_true rfl⟩) ⟨qPre_blind _, q_recv hK hP (oX9 h0) rfl, fun U hU hW => ⟨rfl, qPre_of hP hK hE hN hS U hU hW⟩⟩ rfl rfl hl.1 rfl (lv_room (Nat.le_of_ble_eq_true rfl)) dX9_plan_67 ⟨Nat.le_of_ble_eq_true rfl, Nat.le_of_ble_eq_true rfl⟩) ?_
          refine lv_istore_n (lv' := [(3, .int v4), (2, .int v1), (0, .ref (ad 0)), (1, .int p0)]) hx hb dX9_plan_70 rfl hl (by decide) rfl (fun ls hl => ?_)
          refine lv_iconst (v := 0) hx hb dX9_plan_71 (by decide) ?_
          refine lv_istore (lv' := [(4, .int (0 : Int32)), (3, .int v4), (2, .int v1), (0, .ref (ad 0)), (1, .int p0)]) hx hb dX9_plan_72 hl (by decide) rfl (fun ls hl => ?_)
          refine lv_iconst (v := 0) hx hb dX9_plan_74 (by decide) ?_
          refine lv_istore (lv' := [(5, .int (0 : Int32)), (4, .int (0 : Int32)), (3, .int v4), (2, .int v1), (0, .ref (ad 0)), (1, .int p0)]) hx hb dX9_plan_75 hl (by decide) rfl (fun ls hl => ?_)
          exact w_X9_plan_77 C hK hE hN h0  1000 p0 v4 (0 : Int32) (0 : Int32) I2 _ _ _ hf (lv_sub hl [4, 5, 2, 1, 0] rfl) hP hS
        · have hf := (if_ok hf).2 cc
          refine lv_aload_n hx hb dX9_plan_58 rfl (lv_at hl 1 rfl) ?_
          refine lv_sipush (v := -1005) hx hb dX9_plan_59 (by decide) ?_
          obtain ⟨v6, I7, h8, hf⟩ := bd2_ok hf
          refine q_cEi (va_runV (As := [.int (-1005 : Int32)]) (rest := []) ⟨hx, hb, hml, hown, hts⟩ (c_X9_refuse l (D := D) (ad := ad) (cy := cy) (sa := sa) (va := va) (I := I2) (J := J) (S := S) h0 (-1005 : Int32) h8) (cwV 1 hts gX9_plan_X9_refuse rfl rfl rfl (by decide +kernel) ⟨Nat.le_of_ble_eq_true rfl, Nat.le_of_ble_eq_true rfl⟩) ⟨qPre_blind _, q_recv hK hP (oX9 h0) rfl, fun U hU hW => ⟨rfl, qPre_of hP hK hE hN hS U hU hW⟩⟩ rfl rfl hl.1 rfl (lv_room (Nat.le_of_ble_eq_true rfl)) dX9_plan_62 ⟨Nat.le_of_ble_eq_true rfl, Nat.le_of_ble_eq_true rfl⟩) hS (fun H locs hP hS => ?_)
          have e9 := Option.some.inj hf
          have eI9 : I7 = Ie := (congrArg Prod.snd e9)
          exact W.iret hx hb hr (fun t ht _ => ⟨⟨_, (), rfl, (congrArg Prod.fst e9), by show qP D _ ad _ _ _ t.heap; rw [ht, ← eI9]; exact hP⟩, hS.F ht⟩) hS.2.2 dX9_plan_65
      · have hf := (if_ok hf).2 cc
        refine lv_iload_n hx hb dX9_plan_30 rfl (lv_at hl 2 rfl) ?_
        refine lv_iconst (v := -1) hx hb dX9_plan_31 (by decide) ?_
        refine lv_icmp_ne (tgt := 43) hx hb dX9_plan_32 (by decide) (fun cc => ?_) (fun cc => ?_)
        · have hf := (if_ok hf).2 cc
          refine lv_iload_n hx hb dX9_plan_43 rfl (lv_at hl 0 rfl) ?_
          refine lv_sipush (v := 1000) hx hb dX9_plan_44 (by decide) ?_
          refine lv_idiv hx hb dX9_plan_47 (by decide) ?_
          have e9 := Option.some.inj hf
          have eI9 : I2 = Ie := (congrArg Prod.snd e9)
          exact W.iret hx hb hr (fun t ht _ => ⟨⟨_, (), rfl, (congrArg Prod.fst e9), by show qP D _ ad _ _ _ t.heap; rw [ht, ← eI9]; exact hP⟩, hS.F ht⟩) hS.2.2 dX9_plan_48
        · have hf := (if_ok hf).1 cc
          refine lv_iload_n hx hb dX9_plan_35 rfl (lv_at hl 0 rfl) ?_
          refine lv_sipush (v := 1000) hx hb dX9_plan_36 (by decide) ?_
          refine lv_irem hx hb dX9_plan_39 (by decide) ?_
          refine lv_goto (tgt := 48) hx hb dX9_plan_40 (by decide) ?_
          have e9 := Option.some.inj hf
          have eI9 : I2 = Ie := (congrArg Prod.snd e9)
          exact W.iret hx hb hr (fun t ht _ => ⟨⟨_, (), rfl, (congrArg Prod.fst e9), by show qP D _ ad _ _ _ t.heap; rw [ht, ← eI9]; exact hP⟩, hS.F ht⟩) hS.2.2 dX9_plan_48
    · have hf := (if_ok hf).1 cc
      refine lv_iconst (v := -1) hx hb dX9_plan_24 (by decide) ?_
      have e9 := Option.some.inj hf
      have eI9 : I2 = Ie := (congrArg Prod.snd e9)
      exact W.iret hx hb hr (fun t ht _ => ⟨⟨_, (), rfl, (congrArg Prod.fst e9), by show qP D _ ad _ _ _ t.heap; rw [ht, ← eI9]; exact hP⟩, hS.F ht⟩) hS.2.2 dX9_plan_25
  · have hf := (if_ok hf).2 cc
    refine lv_aload_n hx hb dX9_plan_6 rfl (lv_at hl 0 rfl) ?_
    refine lv_sipush (v := -1002) hx hb dX9_plan_7 (by decide) ?_
    obtain ⟨v9, I10, h11, hf⟩ := bd2_ok hf
    refine q_cEi (va_runV (As := [.int (-1002 : Int32)]) (rest := []) ⟨hx, hb, hml, hown, hts⟩ (c_X9_refuse l (D := D) (ad := ad) (cy := cy) (sa := sa) (va := va) (I := I) (J := J) (S := S) h0 (-1002 : Int32) h11) (cwV 1 hts gX9_plan_X9_refuse rfl rfl rfl (by decide +kernel) ⟨Nat.le_of_ble_eq_true rfl, Nat.le_of_ble_eq_true rfl⟩) ⟨qPre_blind _, q_recv hK hP (oX9 h0) rfl, fun U hU hW => ⟨rfl, qPre_of hP hK hE hN hS U hU hW⟩⟩ rfl rfl hl.1 rfl (lv_room (Nat.le_of_ble_eq_true rfl)) dX9_plan_10 ⟨Nat.le_of_ble_eq_true rfl, Nat.le_of_ble_eq_true rfl⟩) hS (fun H locs hP hS => ?_)
    have e9 := Option.some.inj hf
    have eI9 : I10 = Ie := (congrArg Prod.snd e9)
    exact W.iret hx hb hr (fun t ht _ => ⟨⟨_, (), rfl, (congrArg Prod.fst e9), by show qP D _ ad _ _ _ t.heap; rw [ht, ← eI9]; exact hP⟩, hS.F ht⟩) hS.2.2 dX9_plan_13
abbrev r_X9_time : Room := { frames := 5, cells := 0, slots := 0, locals := 118 }
set_option maxHeartbeats 4000000 in
set_option maxRecDepth 100000 in
theorem c_X9_time (l : Launch) {D : va_G} {ad : Nat → Nat} {cy : Nat → ClassId} {sa va : Nat → Nat} {I : qI} {J : qJ} {S : Nat → Prop} (h0 : isM0 S)    {r : Int32} {Ie : qI} (hf : f_X9_time I = some (r, Ie)) : Met l yX9_time wsX9_time r_X9_time (va_Pc [.ref (ad 0)] (qPre D S ad cy sa va (eM ad cy) I J)) (va_Qi (S := Unit) (fun x _ => x = r) (fun _ t => qP D S ad (eM ad cy) Ie J t.heap) (qA S ad)) 0 0 (qA S ad) := by
  refine Met.ofW (cc := cX9_time) (maxL := 2) (ret := (some .int)) (by decide) rfl ?_
  intro p e s m args below meth c s₁ B hml hv
  obtain ⟨rfl, hP, hK, hE, hN⟩ := hv
  have C : qC p s m _ meth c cX9_time 2 RX9 wsX9_time (some .int) := ⟨⟨B.exec, B.bytes, hml, findClass_of_methodNamed B.named, atoms_spec (ws := wsX9_time) B.pre⟩, B.returns, B.notSynchronized⟩
  have C0 := C
  obtain ⟨⟨hx, hb, hml, hown, hts⟩, hr, hlocks⟩ := C0
  have hS : va_S (qA S ad) s.heap s.heap [] := va_S.rf
  have hl := lv_entry ([.ref (ad 0)]) (n := 2) (Nat.le_of_ble_eq_true rfl)
  rw [lg_entry_eq]
  generalize (lg_sl ([.ref (ad 0)]) ++ List.replicate (2 - (lg_sl ([.ref (ad 0)])).length) Slot.unset).toArray = ls at hl ⊢
  have hl : lv_has ls 2 [(0, .ref (ad 0))] := hl
  unfold f_X9_time at hf
  refine lv_aload_n hx hb dX9_time_0 rfl (lv_at hl 0 rfl) ?_
  obtain ⟨v1, I2, h3, hf⟩ := bd2_ok hf
  refine q_cEi (va_runV (As := []) (rest := []) ⟨hx, hb, hml, hown, hts⟩ (c_X9_findPlan l (D := D) (ad := ad) (cy := cy) (sa := sa) (va := va) (I := I) (J := J) (S := S) h0  h3) (cwV 0 hts gX9_time_X9_findPlan rfl rfl rfl (by decide +kernel) ⟨Nat.le_of_ble_eq_true rfl, Nat.le_of_ble_eq_true rfl⟩) ⟨qPre_blind _, q_recv hK hP (oX9 h0) rfl, fun U hU hW => ⟨rfl, qPre_of hP hK hE hN hS U hU hW⟩⟩ rfl rfl hl.1 rfl (lv_room (Nat.le_of_ble_eq_true rfl)) dX9_time_1 ⟨Nat.le_of_ble_eq_true rfl, Nat.le_of_ble_eq_true rfl⟩) hS (fun H locs hP hS => ?_)
  refine lv_istore_n (lv' := [(1, .int v1), (0, .ref (ad 0))]) hx hb dX9_time_4 rfl hl (by decide) rfl (fun ls hl => ?_)
  refine lv_iload_n hx hb dX9_time_5 rfl (lv_at hl 0 rfl) ?_
  refine lv_iconst (v := -1) hx hb dX9_time_6 (by decide) ?_
  refine lv_icmp_ne (tgt := 14) hx hb dX9_time_7 (by decide) (fun cc => ?_) (fun cc => ?_)
  · have hf := (if_ok hf).2 cc
    refine lv_iload_n hx hb dX9_time_14 rfl (lv_at hl 0 rfl) ?_
    refine lv_sipush (v := 1000) hx hb dX9_time_15 (by decide) ?_
    refine lv_idiv hx hb dX9_time_18 (by decide) ?_
    refine lv_bipush (v := 20) hx hb dX9_time_19 (by decide) ?_
    refine lv_imul hx hb dX9_time_21 ?_
    have e9 := Option.some.inj hf
    have eI9 : I2 = Ie := (congrArg Prod.snd e9)
    exact W.iret hx hb hr (fun t ht _ => ⟨⟨_, (), rfl, (congrArg Prod.fst e9), by show qP D _ ad _ _ _ t.heap; rw [ht, ← eI9]; exact hP⟩, hS.F ht⟩) hS.2.2 dX9_time_22
  · have hf := (if_ok hf).1 cc
    refine lv_iconst (v := -1) hx hb dX9_time_10 (by decide) ?_
    refine lv_goto (tgt := 22) hx hb dX9_time_11 (by decide) ?_
    have e9 := Option.some.inj hf
    have eI9 : I2 = Ie := (congrArg Prod.snd e9)
    exact W.iret hx hb hr (fun t ht _ => ⟨⟨_, (), rfl, (congrArg Prod.fst e9), by show qP D _ ad _ _ _ t.heap; rw [ht, ← eI9]; exact hP⟩, hS.F ht⟩) hS.2.2 dX9_time_22
abbrev r_X9_worth : Room := { frames := 5, cells := 0, slots := 0, locals := 118 }
theorem in_X9_worth_X9 : ∀ w ∈ u_ws RX9 TX9 42, w ∈ wsX9_worth := by decide +kernel
set_option maxHeartbeats 4000000 in
set_option maxRecDepth 100000 in
theorem c_X9_worth (l : Launch) {D : va_G} {ad : Nat → Nat} {cy : Nat → ClassId} {sa va : Nat → Nat} {I : qI} {J : qJ} {S : Nat → Prop} (h0 : isM0 S)   (p0 : Int32) {r : Int32} {Ie : qI} (hf : f_X9_worth p0 I = some (r, Ie)) : Met l yX9_worth wsX9_worth r_X9_worth (va_Pc [.ref (ad 0), .int p0] (qPre D S ad cy sa va (eM ad cy) I J)) (va_Qi (S := Unit) (fun x _ => x = r) (fun _ t => qP D S ad (eM ad cy) Ie J t.heap) (qA S ad)) 0 0 (qA S ad) := by
  refine Met.ofW (cc := cX9_worth) (maxL := 5) (ret := (some .int)) (by decide) rfl ?_
  intro p e s m args below meth c s₁ B hml hv
  obtain ⟨rfl, hP, hK, hE, hN⟩ := hv
  have C : qC p s m _ meth c cX9_worth 5 RX9 wsX9_worth (some .int) := ⟨⟨B.exec, B.bytes, hml, findClass_of_methodNamed B.named, atoms_spec (ws := wsX9_worth) B.pre⟩, B.returns, B.notSynchronized⟩
  have C0 := C
  obtain ⟨⟨hx, hb, hml, hown, hts⟩, hr, hlocks⟩ := C0
  have hS : va_S (qA S ad) s.heap s.heap [] := va_S.rf
  have hl := lv_entry ([.ref (ad 0), .int p0]) (n := 5) (Nat.le_of_ble_eq_true rfl)
  rw [lg_entry_eq]
  generalize (lg_sl ([.ref (ad 0), .int p0]) ++ List.replicate (5 - (lg_sl ([.ref (ad 0), .int p0])).length) Slot.unset).toArray = ls at hl ⊢
  have hl : lv_has ls 5 [(0, .ref (ad 0)), (1, .int p0)] := hl
  unfold f_X9_worth at hf
  refine lv_aload_n hx hb dX9_worth_0 rfl (lv_at hl 0 rfl) ?_
  refine lv_iload_n hx hb dX9_worth_1 rfl (lv_at hl 1 rfl) ?_
  obtain ⟨v1, I2, h3, hf⟩ := bd2_ok hf
  refine q_cEi (va_runV (As := [.int p0]) (rest := []) ⟨hx, hb, hml, hown, hts⟩ (c_X9_noWaiting l (D := D) (ad := ad) (cy := cy) (sa := sa) (va := va) (I := I) (J := J) (S := S) h0 p0 h3) (cwV 1 hts gX9_worth_X9_noWaiting rfl rfl rfl (by decide +kernel) ⟨Nat.le_of_ble_eq_true rfl, Nat.le_of_ble_eq_true rfl⟩) ⟨qPre_blind _, q_recv hK hP (oX9 h0) rfl, fun U hU hW => ⟨rfl, qPre_of hP hK hE hN hS U hU hW⟩⟩ rfl rfl hl.1 rfl (lv_room (Nat.le_of_ble_eq_true rfl)) dX9_worth_2 ⟨Nat.le_of_ble_eq_true rfl, Nat.le_of_ble_eq_true rfl⟩) hS (fun H locs hP hS => ?_)
  refine lv_istore_n (lv' := [(2, .int v1), (0, .ref (ad 0)), (1, .int p0)]) hx hb dX9_worth_5 rfl hl (by decide) rfl (fun ls hl => ?_)
  refine lv_iload_n hx hb dX9_worth_6 rfl (lv_at hl 0 rfl) ?_
  refine lv_if_eq (tgt := 12) hx hb dX9_worth_7 (by decide) (fun cc => ?_) (fun cc => ?_)
  · have hf := (if_ok hf).1 cc
    refine lv_aload_n hx hb dX9_worth_12 rfl (lv_at hl 1 rfl) ?_
    obtain ⟨v4, I5, h6, hf⟩ := bd2_ok hf
    refine q_cEi (va_runV (As := []) (rest := []) ⟨hx, hb, hml, hown, hts⟩ (c_X9_findPlan l (D := D) (ad := ad) (cy := cy) (sa := sa) (va := va) (I := I2) (J := J) (S := S) h0  h6) (cwV 0 hts gX9_worth_X9_findPlan rfl rfl rfl (by decide +kernel) ⟨Nat.le_of_ble_eq_true rfl, Nat.le_of_ble_eq_true rfl⟩) ⟨qPre_blind _, q_recv hK hP (oX9 h0) rfl, fun U hU hW => ⟨rfl, qPre_of hP hK hE hN hS U hU hW⟩⟩ rfl rfl hl.1 rfl (lv_room (Nat.le_of_ble_eq_true rfl)) dX9_worth_13 ⟨Nat.le_of_ble_eq_true rfl, Nat.le_of_ble_eq_true rfl⟩) hS (fun H locs hP hS => ?_)
    refine lv_istore_n (lv' := [(3, .int v4), (2, .int v1), (0, .ref (ad 0)), (1, .int p0)]) hx hb dX9_worth_16 rfl hl (by decide) rfl (fun ls hl => ?_)
    refine lv_aload_n hx hb dX9_worth_17 rfl (lv_at hl 2 rfl) ?_
    refine lv_dup hx hb dX9_worth_18 rfl ?_
    refine q_get (C := RX9) (T := TX9) (N := 42) (ci := 9) (v := .int (I5 0 18)) hx hb hts in_X9_worth_X9 hown hK hP (oX9 h0) rfl 18 (by decide) (hts (.fieldLink RX9 100 "RowsOnlyPrimesModel" "over" "I") (by decide +kernel)) (fun _ h9 => h9) rfl dX9_worth_19 ?_
    refine lv_iconst (v := 1) hx hb dX9_worth_22 (by decide) ?_
    refine lv_iload_n hx hb dX9_worth_23 rfl (lv_at hl 3 rfl) ?_
    refine lv_ishl hx hb dX9_worth_24 ?_
    refine lv_ior hx hb dX9_worth_25 ?_
    obtain ⟨I7, eI7, hf⟩ := lt_ok hf
    refine q_put (C := RX9) (T := TX9) (N := 42) (ci := 9) (v := .int ((I5 0 18) ||| ((1 : Int32) <<< (p0 &&& (31 : Int32))))) (x := ((I5 0 18) ||| ((1 : Int32) <<< (p0 &&& (31 : Int32))))) (ty := .int) hx hb hts in_X9_worth_X9 tyX9 tyX9_ok nmX9 hown hK hP hN hS (oX9 h0) rfl 18 (by decide) (hts (.fieldLink RX9 100 "RowsOnlyPrimesModel" "over" "I") (by decide +kernel)) (fun _ h9 => h9) rfl (by decide +kernel) rfl rfl (fun _ _ => rfl) (fun _ _ => Nat.le_of_ble_eq_true rfl) dX9_worth_26 (fun H locs hP hS => ?_)
    rw [← eI7] at hP
    refine lv_aload_n hx hb dX9_worth_29 rfl (lv_at hl 2 rfl) ?_
    obtain ⟨v8, I9, h10, hf⟩ := bd2_ok hf
    refine q_cEi (va_runV (As := []) (rest := []) ⟨hx, hb, hml, hown, hts⟩ (c_X9_findPlan l (D := D) (ad := ad) (cy := cy) (sa := sa) (va := va) (I := I7) (J := J) (S := S) h0  h10) (cwV 0 hts gX9_worth_X9_findPlan rfl rfl rfl (by decide +kernel) ⟨Nat.le_of_ble_eq_true rfl, Nat.le_of_ble_eq_true rfl⟩) ⟨qPre_blind _, q_recv hK hP (oX9 h0) rfl, fun U hU hW => ⟨rfl, qPre_of hP hK hE hN hS U hU hW⟩⟩ rfl rfl hl.1 rfl (lv_room (Nat.le_of_ble_eq_true rfl)) dX9_worth_30 ⟨Nat.le_of_ble_eq_true rfl, Nat.le_of_ble_eq_true rfl⟩) hS (fun H locs hP hS => ?_)
    refine lv_istore (lv' := [(4, .int v8), (3, .int v4), (2, .int v1), (0, .ref (ad 0)), (1, .int p0)]) hx hb dX9_worth_33 hl (by decide) rfl (fun ls hl => ?_)
    refine lv_aload_n hx hb dX9_worth_35 rfl (lv_at hl 3 rfl) ?_
    refine lv_dup hx hb dX9_worth_36 rfl ?_
    refine q_get (C := RX9) (T := TX9) (N := 42) (ci := 9) (v := .int (I9 0 18)) hx hb hts in_X9_worth_X9 hown hK hP (oX9 h0) rfl 18 (by decide) (hts (.fieldLink RX9 100 "RowsOnlyPrimesModel" "over" "I") (by decide +kernel)) (fun _ h9 => h9) rfl dX9_worth_37 ?_
    refine lv_iconst (v := 1) hx hb dX9_worth_40 (by decide) ?_
    refine lv_iload_n hx hb dX9_worth_41 rfl (lv_at hl 4 rfl) ?_
    refine lv_ishl hx hb dX9_worth_42 ?_
    refine lv_iconst (v := -1) hx hb dX9_worth_43 (by decide) ?_
    refine lv_ixor hx hb dX9_worth_44 ?_
    refine lv_iand hx hb dX9_worth_45 ?_
    obtain ⟨I11, eI11, hf⟩ := lt_ok hf
    refine q_put (C := RX9) (T := TX9) (N := 42) (ci := 9) (v := .int ((I9 0 18) &&& (((1 : Int32) <<< (p0 &&& (31 : Int32))) ^^^ (-1 : Int32)))) (x := ((I9 0 18) &&& (((1 : Int32) <<< (p0 &&& (31 : Int32))) ^^^ (-1 : Int32)))) (ty := .int) hx hb hts in_X9_worth_X9 tyX9 tyX9_ok nmX9 hown hK hP hN hS (oX9 h0) rfl 18 (by decide) (hts (.fieldLink RX9 100 "RowsOnlyPrimesModel" "over" "I") (by decide +kernel)) (fun _ h9 => h9) rfl (by decide +kernel) rfl rfl (fun _ _ => rfl) (fun _ _ => Nat.le_of_ble_eq_true rfl) dX9_worth_46 (fun H locs hP hS => ?_)
    rw [← eI11] at hP
    refine lv_iload_n hx hb dX9_worth_49 rfl (lv_at hl 1 rfl) ?_
    refine lv_iconst (v := -1) hx hb dX9_worth_50 (by decide) ?_
    refine lv_icmp_eq (tgt := 60) hx hb dX9_worth_51 (by decide) (fun cc => ?_) (fun cc => ?_)
    · have hf := (if_ok hf).1 cc
      refine lv_sipush (v := -1000) hx hb dX9_worth_60 (by decide) ?_
      refine lv_goto (tgt := 78) hx hb dX9_worth_63 (by decide) ?_
      have e9 := Option.some.inj hf
      have eI9 : I11 = Ie := (congrArg Prod.snd e9)
      exact W.iret hx hb hr (fun t ht _ => ⟨⟨_, (), rfl, (congrArg Prod.fst e9), by show qP D _ ad _ _ _ t.heap; rw [ht, ← eI9]; exact hP⟩, hS.F ht⟩) hS.2.2 dX9_worth_78
    · have hf := (if_ok hf).2 cc
      refine lv_iload hx hb dX9_worth_54 (lv_at hl 0 rfl) ?_
      refine lv_iconst (v := -1) hx hb dX9_worth_56 (by decide) ?_
      refine lv_icmp_ne (tgt := 66) hx hb dX9_worth_57 (by decide) (fun cc => ?_) (fun cc => ?_)
      · have hf := (if_ok hf).2 cc
        refine lv_iload hx hb dX9_worth_66 (lv_at hl 0 rfl) ?_
        refine lv_sipush (v := 1000) hx hb dX9_worth_68 (by decide) ?_
        refine lv_irem hx hb dX9_worth_71 (by decide) ?_
        refine lv_iload_n hx hb dX9_worth_72 rfl (lv_at hl 1 rfl) ?_
        refine lv_sipush (v := 1000) hx hb dX9_worth_73 (by decide) ?_
        refine lv_irem hx hb dX9_worth_76 (by decide) ?_
        refine lv_isub hx hb dX9_worth_77 ?_
        have e9 := Option.some.inj hf
        have eI9 : I11 = Ie := (congrArg Prod.snd e9)
        exact W.iret hx hb hr (fun t ht _ => ⟨⟨_, (), rfl, (congrArg Prod.fst e9), by show qP D _ ad _ _ _ t.heap; rw [ht, ← eI9]; exact hP⟩, hS.F ht⟩) hS.2.2 dX9_worth_78
      · have hf := (if_ok hf).1 cc
        refine lv_sipush (v := -1000) hx hb dX9_worth_60 (by decide) ?_
        refine lv_goto (tgt := 78) hx hb dX9_worth_63 (by decide) ?_
        have e9 := Option.some.inj hf
        have eI9 : I11 = Ie := (congrArg Prod.snd e9)
        exact W.iret hx hb hr (fun t ht _ => ⟨⟨_, (), rfl, (congrArg Prod.fst e9), by show qP D _ ad _ _ _ t.heap; rw [ht, ← eI9]; exact hP⟩, hS.F ht⟩) hS.2.2 dX9_worth_78
  · have hf := (if_ok hf).2 cc
    refine lv_iload_n hx hb dX9_worth_10 rfl (lv_at hl 0 rfl) ?_
    have e9 := Option.some.inj hf
    have eI9 : I2 = Ie := (congrArg Prod.snd e9)
    exact W.iret hx hb hr (fun t ht _ => ⟨⟨_, (), rfl, (congrArg Prod.fst e9), by show qP D _ ad _ _ _ t.heap; rw [ht, ← eI9]; exact hP⟩, hS.F ht⟩) hS.2.2 dX9_worth_11
abbrev r_X9_isLess : Room := { frames := 0, cells := 0, slots := 0, locals := 0 }
set_option maxHeartbeats 4000000 in
set_option maxRecDepth 100000 in
theorem c_X9_isLess (l : Launch) {D : va_G} {ad : Nat → Nat} {cy : Nat → ClassId} {sa va : Nat → Nat} {I : qI} {J : qJ} {S : Nat → Prop} (h0 : isM0 S)   (p0 : Int32) (p1 : Int32) {r : Int32} (hf : f_X9_isLess p0 p1 = some r) : Met l yX9_isLess wsX9_isLess r_X9_isLess (va_Pc [.int p0, .int p1] (qPre D S ad cy sa va (eM ad cy) I J)) (vp_Si (fun x => x = r)) 0 0 (fun _ => False) := by
  refine Met.ofW (cc := cX9_isLess) (maxL := 2) (ret := (some .boolean)) (by decide) rfl ?_
  intro p e s m args below meth c s₁ B hml hv
  obtain ⟨rfl, hP, hK, hE, hN⟩ := hv
  have C : qC p s m _ meth c cX9_isLess 2 RX9 wsX9_isLess (some .boolean) := ⟨⟨B.exec, B.bytes, hml, findClass_of_methodNamed B.named, atoms_spec (ws := wsX9_isLess) B.pre⟩, B.returns, B.notSynchronized⟩
  have C0 := C
  obtain ⟨⟨hx, hb, hml, hown, hts⟩, hr, hlocks⟩ := C0
  have hl := lv_entry ([.int p0, .int p1]) (n := 2) (Nat.le_of_ble_eq_true rfl)
  rw [lg_entry_eq]
  generalize (lg_sl ([.int p0, .int p1]) ++ List.replicate (2 - (lg_sl ([.int p0, .int p1])).length) Slot.unset).toArray = ls at hl ⊢
  have hl : lv_has ls 2 [(0, .int p0), (1, .int p1)] := hl
  unfold f_X9_isLess at hf
  refine lv_iload_n hx hb dX9_isLess_0 rfl (lv_at hl 0 rfl) ?_
  refine lv_iconst (v := -1) hx hb dX9_isLess_1 (by decide) ?_
  refine lv_icmp_eq (tgt := 19) hx hb dX9_isLess_2 (by decide) (fun cc => ?_) (fun cc => ?_)
  · have hf := (if_ok hf).1 cc
    refine lv_iconst (v := 0) hx hb dX9_isLess_19 (by decide) ?_
    exact W.zret (ty := .boolean) hx hb hr rfl (fun t ht _ => ⟨_, rfl, Option.some.inj hf, ht⟩) (fun _ h => by cases h) dX9_isLess_20
  · have hf := (if_ok hf).2 cc
    refine lv_iload_n hx hb dX9_isLess_5 rfl (lv_at hl 1 rfl) ?_
    refine lv_iconst (v := -1) hx hb dX9_isLess_6 (by decide) ?_
    refine lv_icmp_eq (tgt := 15) hx hb dX9_isLess_7 (by decide) (fun cc => ?_) (fun cc => ?_)
    · have hf := (if_ok hf).1 cc
      refine lv_iconst (v := 1) hx hb dX9_isLess_15 (by decide) ?_
      refine lv_goto (tgt := 20) hx hb dX9_isLess_16 (by decide) ?_
      exact W.zret (ty := .boolean) hx hb hr rfl (fun t ht _ => ⟨_, rfl, Option.some.inj hf, ht⟩) (fun _ h => by cases h) dX9_isLess_20
    · have hf := (if_ok hf).2 cc
      refine lv_iload_n hx hb dX9_isLess_10 rfl (lv_at hl 0 rfl) ?_
      refine lv_iload_n hx hb dX9_isLess_11 rfl (lv_at hl 1 rfl) ?_
      refine lv_icmp_ge (tgt := 19) hx hb dX9_isLess_12 (by decide) (fun cc => ?_) (fun cc => ?_)
      · have hf := (if_ok hf).1 cc
        refine lv_iconst (v := 0) hx hb dX9_isLess_19 (by decide) ?_
        exact W.zret (ty := .boolean) hx hb hr rfl (fun t ht _ => ⟨_, rfl, Option.some.inj hf, ht⟩) (fun _ h => by cases h) dX9_isLess_20
      · have hf := (if_ok hf).2 cc
        refine lv_iconst (v := 1) hx hb dX9_isLess_15 (by decide) ?_
        refine lv_goto (tgt := 20) hx hb dX9_isLess_16 (by decide) ?_
        exact W.zret (ty := .boolean) hx hb hr rfl (fun t ht _ => ⟨_, rfl, Option.some.inj hf, ht⟩) (fun _ h => by cases h) dX9_isLess_20
abbrev r_X9_crossingsBy : Room := { frames := 5, cells := 0, slots := 0, locals := 118 }
theorem in_X9_crossingsBy_X9 : ∀ w ∈ u_ws RX9 TX9 42, w ∈ wsX9_crossingsBy := by decide +kernel
set_option maxHeartbeats 4000000 in
set_option maxRecDepth 100000 in
theorem c_X9_crossingsBy (l : Launch) {D : va_G} {ad : Nat → Nat} {cy : Nat → ClassId} {sa va : Nat → Nat} {I : qI} {J : qJ} {S : Nat → Prop} (h0 : isM0 S)   (p0 : Int32) {r : Int32} {Ie : qI} (hf : f_X9_crossingsBy p0 I = some (r, Ie)) : Met l yX9_crossingsBy wsX9_crossingsBy r_X9_crossingsBy (va_Pc [.ref (ad 0), .int p0] (qPre D S ad cy sa va (eM ad cy) I J)) (va_Qi (S := Unit) (fun x _ => x = r) (fun _ t => qP D S ad (eM ad cy) Ie J t.heap) (qA S ad)) 0 0 (qA S ad) := by
  refine Met.ofW (cc := cX9_crossingsBy) (maxL := 4) (ret := (some .int)) (by decide) rfl ?_
  intro p e s m args below meth c s₁ B hml hv
  obtain ⟨rfl, hP, hK, hE, hN⟩ := hv
  have C : qC p s m _ meth c cX9_crossingsBy 4 RX9 wsX9_crossingsBy (some .int) := ⟨⟨B.exec, B.bytes, hml, findClass_of_methodNamed B.named, atoms_spec (ws := wsX9_crossingsBy) B.pre⟩, B.returns, B.notSynchronized⟩
  have C0 := C
  obtain ⟨⟨hx, hb, hml, hown, hts⟩, hr, hlocks⟩ := C0
  have hS : va_S (qA S ad) s.heap s.heap [] := va_S.rf
  have hl := lv_entry ([.ref (ad 0), .int p0]) (n := 4) (Nat.le_of_ble_eq_true rfl)
  rw [lg_entry_eq]
  generalize (lg_sl ([.ref (ad 0), .int p0]) ++ List.replicate (4 - (lg_sl ([.ref (ad 0), .int p0])).length) Slot.unset).toArray = ls at hl ⊢
  have hl : lv_has ls 4 [(0, .ref (ad 0)), (1, .int p0)] := hl
  unfold f_X9_crossingsBy at hf
  refine lv_aload_n hx hb dX9_crossingsBy_0 rfl (lv_at hl 0 rfl) ?_
  refine q_get (C := RX9) (T := TX9) (N := 42) (ci := 9) (v := .int (I 0 10)) hx hb hts in_X9_crossingsBy_X9 hown hK hP (oX9 h0) rfl 10 (by decide) (hts (.fieldLink RX9 151 "RowsOnlyPrimesModel" "law" "I") (by decide +kernel)) (fun _ h9 => h9) rfl dX9_crossingsBy_1 ?_
  refine lv_istore_n (lv' := [(2, .int (I 0 10)), (0, .ref (ad 0)), (1, .int p0)]) hx hb dX9_crossingsBy_4 rfl hl (by decide) rfl (fun ls hl => ?_)
  refine lv_aload_n hx hb dX9_crossingsBy_5 rfl (lv_at hl 1 rfl) ?_
  refine lv_iload_n hx hb dX9_crossingsBy_6 rfl (lv_at hl 2 rfl) ?_
  obtain ⟨I1, eI1, hf⟩ := lt_ok hf
  refine q_put (C := RX9) (T := TX9) (N := 42) (ci := 9) (v := .int p0) (x := p0) (ty := .int) hx hb hts in_X9_crossingsBy_X9 tyX9 tyX9_ok nmX9 hown hK hP hN hS (oX9 h0) rfl 10 (by decide) (hts (.fieldLink RX9 151 "RowsOnlyPrimesModel" "law" "I") (by decide +kernel)) (fun _ h9 => h9) rfl (by decide +kernel) rfl rfl (fun _ _ => rfl) (fun _ _ => Nat.le_of_ble_eq_true rfl) dX9_crossingsBy_7 (fun H locs hP hS => ?_)
  rw [← eI1] at hP
  refine lv_aload_n hx hb dX9_crossingsBy_10 rfl (lv_at hl 1 rfl) ?_
  obtain ⟨v2, I3, h4, hf⟩ := bd2_ok hf
  refine q_cEi (va_runV (As := []) (rest := []) ⟨hx, hb, hml, hown, hts⟩ (c_X9_findPlan l (D := D) (ad := ad) (cy := cy) (sa := sa) (va := va) (I := I1) (J := J) (S := S) h0  h4) (cwV 0 hts gX9_crossingsBy_X9_findPlan rfl rfl rfl (by decide +kernel) ⟨Nat.le_of_ble_eq_true rfl, Nat.le_of_ble_eq_true rfl⟩) ⟨qPre_blind _, q_recv hK hP (oX9 h0) rfl, fun U hU hW => ⟨rfl, qPre_of hP hK hE hN hS U hU hW⟩⟩ rfl rfl hl.1 rfl (lv_room (Nat.le_of_ble_eq_true rfl)) dX9_crossingsBy_11 ⟨Nat.le_of_ble_eq_true rfl, Nat.le_of_ble_eq_true rfl⟩) hS (fun H locs hP hS => ?_)
  refine lv_istore_n (lv' := [(3, .int v2), (2, .int (I 0 10)), (0, .ref (ad 0)), (1, .int p0)]) hx hb dX9_crossingsBy_14 rfl hl (by decide) rfl (fun ls hl => ?_)
  refine lv_aload_n hx hb dX9_crossingsBy_15 rfl (lv_at hl 2 rfl) ?_
  refine lv_iload_n hx hb dX9_crossingsBy_16 rfl (lv_at hl 1 rfl) ?_
  obtain ⟨I5, eI5, hf⟩ := lt_ok hf
  refine q_put (C := RX9) (T := TX9) (N := 42) (ci := 9) (v := .int (I 0 10)) (x := (I 0 10)) (ty := .int) hx hb hts in_X9_crossingsBy_X9 tyX9 tyX9_ok nmX9 hown hK hP hN hS (oX9 h0) rfl 10 (by decide) (hts (.fieldLink RX9 151 "RowsOnlyPrimesModel" "law" "I") (by decide +kernel)) (fun _ h9 => h9) rfl (by decide +kernel) rfl rfl (fun _ _ => rfl) (fun _ _ => Nat.le_of_ble_eq_true rfl) dX9_crossingsBy_17 (fun H locs hP hS => ?_)
  rw [← eI5] at hP
  refine lv_iload_n hx hb dX9_crossingsBy_20 rfl (lv_at hl 0 rfl) ?_
  refine lv_iconst (v := -1) hx hb dX9_crossingsBy_21 (by decide) ?_
  refine lv_icmp_ne (tgt := 29) hx hb dX9_crossingsBy_22 (by decide) (fun cc => ?_) (fun cc => ?_)
  · have hf := (if_ok hf).2 cc
    refine lv_iload_n hx hb dX9_crossingsBy_29 rfl (lv_at hl 0 rfl) ?_
    refine lv_sipush (v := 1000) hx hb dX9_crossingsBy_30 (by decide) ?_
    refine lv_idiv hx hb dX9_crossingsBy_33 (by decide) ?_
    have e9 := Option.some.inj hf
    have eI9 : I5 = Ie := (congrArg Prod.snd e9)
    exact W.iret hx hb hr (fun t ht _ => ⟨⟨_, (), rfl, (congrArg Prod.fst e9), by show qP D _ ad _ _ _ t.heap; rw [ht, ← eI9]; exact hP⟩, hS.F ht⟩) hS.2.2 dX9_crossingsBy_34
  · have hf := (if_ok hf).1 cc
    refine lv_iconst (v := -1) hx hb dX9_crossingsBy_25 (by decide) ?_
    refine lv_goto (tgt := 34) hx hb dX9_crossingsBy_26 (by decide) ?_
    have e9 := Option.some.inj hf
    have eI9 : I5 = Ie := (congrArg Prod.snd e9)
    exact W.iret hx hb hr (fun t ht _ => ⟨⟨_, (), rfl, (congrArg Prod.fst e9), by show qP D _ ad _ _ _ t.heap; rw [ht, ← eI9]; exact hP⟩, hS.F ht⟩) hS.2.2 dX9_crossingsBy_34
abbrev r_X9_laws : Room := { frames := 6, cells := 0, slots := 0, locals := 141 }
set_option maxHeartbeats 4000000 in
set_option maxRecDepth 100000 in
theorem w_X9_laws_37 {S : Nat → Prop} (C : qC p s m args meth c cX9_laws 4 RX9 wsX9_laws (some .int)) (hK : qK D cy sa s) (hE : qEnv sa va (qA S ad) s s.heap) (hN : qN S ad) (h0 : isM0 S)   {J : qJ} {r : Int32} {Ie : qI} : ∀ (n : Nat) (x2 : Int32) (x3 : Int32)  (I : qI) (ls : Array Slot) (H : Heap) (locs : List Loc), f_X9_laws_37 n x2 x3 I = some (r, Ie) → lv_has ls 4 [(0, .ref (ad 0)), (2, .int x2), (3, .int x3)] → qP D S ad (eM ad cy) I J H → va_S (qA S ad) s.heap H locs → W p l e (headSpec wsX9_laws r_X9_laws).room s m args below meth c H locs 0 0 (MQ below (va_Qi (S := Unit) (fun x _ => x = r) (fun _ t => qP D S ad (eM ad cy) Ie J t.heap) (qA S ad)) args s 0 0 (qA S ad)) (F0 m 37 ls []) := by
  have C0 := C
  obtain ⟨⟨hx, hb, hml, hown, hts⟩, hr, hlocks⟩ := C0
  intro n
  induction n with
  | zero =>
    intro x2 x3 I ls H locs hf hl hP hS
    rw [f_X9_laws_37] at hf
    cases hf
  | succ n ih =>
    intro x2 x3 I ls H locs hf hl hP hS
    rw [f_X9_laws_37] at hf
    refine lv_iload_n hx hb dX9_laws_37 rfl (lv_at hl 2 rfl) ?_
    refine lv_iconst (v := 3) hx hb dX9_laws_38 (by decide) ?_
    refine lv_icmp_gt (tgt := 70) hx hb dX9_laws_39 (by decide) (fun cc => ?_) (fun cc => ?_)
    · have hf := (if_ok hf).1 cc
      refine lv_iload_n hx hb dX9_laws_70 rfl (lv_at hl 1 rfl) ?_
      have e9 := Option.some.inj hf
      have eI9 : I = Ie := (congrArg Prod.snd e9)
      exact W.iret hx hb hr (fun t ht _ => ⟨⟨_, (), rfl, (congrArg Prod.fst e9), by show qP D _ ad _ _ _ t.heap; rw [ht, ← eI9]; exact hP⟩, hS.F ht⟩) hS.2.2 dX9_laws_71
    · have hf := (if_ok hf).2 cc
      refine lv_aload_n hx hb dX9_laws_42 rfl (lv_at hl 0 rfl) ?_
      refine lv_iload_n hx hb dX9_laws_43 rfl (lv_at hl 2 rfl) ?_
      obtain ⟨v1, I2, h3, hf⟩ := bd2_ok hf
      refine q_cEi (va_runV (As := [.int x3]) (rest := []) ⟨hx, hb, hml, hown, hts⟩ (c_X9_crossingsBy l (D := D) (ad := ad) (cy := cy) (sa := sa) (va := va) (I := I) (J := J) (S := S) h0 x3 h3) (cwV 1 hts gX9_laws_X9_crossingsBy rfl rfl rfl (by decide +kernel) ⟨Nat.le_of_ble_eq_true rfl, Nat.le_of_ble_eq_true rfl⟩) ⟨qPre_blind _, q_recv hK hP (oX9 h0) rfl, fun U hU hW => ⟨rfl, qPre_of hP hK hE hN hS U hU hW⟩⟩ rfl rfl hl.1 rfl (lv_room (Nat.le_of_ble_eq_true rfl)) dX9_laws_44 ⟨Nat.le_of_ble_eq_true rfl, Nat.le_of_ble_eq_true rfl⟩) hS (fun H locs hP hS => ?_)
      refine lv_aload_n hx hb dX9_laws_47 rfl (lv_at hl 0 rfl) ?_
      refine lv_iload_n hx hb dX9_laws_48 rfl (lv_at hl 1 rfl) ?_
      obtain ⟨v4, I5, h6, hf⟩ := bd2_ok hf
      refine q_cEi (va_runV (As := [.int x2]) (rest := [.int v1]) ⟨hx, hb, hml, hown, hts⟩ (c_X9_crossingsBy l (D := D) (ad := ad) (cy := cy) (sa := sa) (va := va) (I := I2) (J := J) (S := S) h0 x2 h6) (cwV 1 hts gX9_laws_X9_crossingsBy rfl rfl rfl (by decide +kernel) ⟨Nat.le_of_ble_eq_true rfl, Nat.le_of_ble_eq_true rfl⟩) ⟨qPre_blind _, q_recv hK hP (oX9 h0) rfl, fun U hU hW => ⟨rfl, qPre_of hP hK hE hN hS U hU hW⟩⟩ rfl rfl hl.1 rfl (lv_room (Nat.le_of_ble_eq_true rfl)) dX9_laws_49 ⟨Nat.le_of_ble_eq_true rfl, Nat.le_of_ble_eq_true rfl⟩) hS (fun H locs hP hS => ?_)
      obtain ⟨v7, h8, hf⟩ := bd_ok hf
      refine q_cSi (va_runS (As := [.int v1, .int v4]) (rest := []) ⟨hx, hb, hml, hown, hts⟩ (c_X9_isLess l (D := D) (ad := ad) (cy := cy) (sa := sa) (va := va) (I := I5) (J := J) (S := S) h0 v1 v4 h8) (va_cwS 2 hts gX9_laws_X9_isLess rfl rfl rfl (by decide +kernel) ⟨Nat.le_of_ble_eq_true rfl, Nat.le_of_ble_eq_true rfl⟩) ⟨qPre_blind _, fun U hU hW => ⟨rfl, qPre_of hP hK hE hN hS U hU hW⟩⟩ rfl rfl hl.1 rfl (lv_room (Nat.le_of_ble_eq_true rfl)) dX9_laws_52 ⟨Nat.le_of_ble_eq_true rfl, Nat.le_of_ble_eq_true rfl⟩) ?_
      refine lv_if_eq (tgt := 62) hx hb dX9_laws_55 (by decide) (fun cc => ?_) (fun cc => ?_)
      · have hf := (if_ok hf).1 cc
        refine lv_iload_n hx hb dX9_laws_62 rfl (lv_at hl 1 rfl) ?_
        refine lv_istore_n (lv' := [(2, .int x2), (0, .ref (ad 0)), (3, .int x3)]) hx hb dX9_laws_63 rfl hl (by decide) rfl (fun ls hl => ?_)
        refine lv_iinc (v := (x3 + (1 : Int32))) (lv' := [(3, .int (x3 + (1 : Int32))), (2, .int x2), (0, .ref (ad 0))]) hx hb dX9_laws_64 hl (k := 2) rfl rfl (by decide) rfl (fun ls hl => ?_)
        refine lv_goto (tgt := 37) hx hb dX9_laws_67 (by decide) ?_
        exact ih x2 (x3 + (1 : Int32)) I5 _ _ _ hf (lv_sub hl [2, 1, 0] rfl) hP hS
      · have hf := (if_ok hf).2 cc
        refine lv_iload_n hx hb dX9_laws_58 rfl (lv_at hl 2 rfl) ?_
        refine lv_goto (tgt := 63) hx hb dX9_laws_59 (by decide) ?_
        refine lv_istore_n (lv' := [(2, .int x3), (0, .ref (ad 0)), (3, .int x3)]) hx hb dX9_laws_63 rfl hl (by decide) rfl (fun ls hl => ?_)
        refine lv_iinc (v := (x3 + (1 : Int32))) (lv' := [(3, .int (x3 + (1 : Int32))), (2, .int x3), (0, .ref (ad 0))]) hx hb dX9_laws_64 hl (k := 2) rfl rfl (by decide) rfl (fun ls hl => ?_)
        refine lv_goto (tgt := 37) hx hb dX9_laws_67 (by decide) ?_
        exact ih x3 (x3 + (1 : Int32)) I5 _ _ _ hf (lv_sub hl [2, 1, 0] rfl) hP hS
set_option maxHeartbeats 4000000 in
set_option maxRecDepth 100000 in
theorem c_X9_laws (l : Launch) {D : va_G} {ad : Nat → Nat} {cy : Nat → ClassId} {sa va : Nat → Nat} {I : qI} {J : qJ} {S : Nat → Prop} (h0 : isM0 S)   (p0 : Int32) {r : Int32} {Ie : qI} (hf : f_X9_laws p0 I = some (r, Ie)) : Met l yX9_laws wsX9_laws r_X9_laws (va_Pc [.ref (ad 0), .int p0] (qPre D S ad cy sa va (eM ad cy) I J)) (va_Qi (S := Unit) (fun x _ => x = r) (fun _ t => qP D S ad (eM ad cy) Ie J t.heap) (qA S ad)) 0 0 (qA S ad) := by
  refine Met.ofW (cc := cX9_laws) (maxL := 4) (ret := (some .int)) (by decide) rfl ?_
  intro p e s m args below meth c s₁ B hml hv
  obtain ⟨rfl, hP, hK, hE, hN⟩ := hv
  have C : qC p s m _ meth c cX9_laws 4 RX9 wsX9_laws (some .int) := ⟨⟨B.exec, B.bytes, hml, findClass_of_methodNamed B.named, atoms_spec (ws := wsX9_laws) B.pre⟩, B.returns, B.notSynchronized⟩
  have C0 := C
  obtain ⟨⟨hx, hb, hml, hown, hts⟩, hr, hlocks⟩ := C0
  have hS : va_S (qA S ad) s.heap s.heap [] := va_S.rf
  have hl := lv_entry ([.ref (ad 0), .int p0]) (n := 4) (Nat.le_of_ble_eq_true rfl)
  rw [lg_entry_eq]
  generalize (lg_sl ([.ref (ad 0), .int p0]) ++ List.replicate (4 - (lg_sl ([.ref (ad 0), .int p0])).length) Slot.unset).toArray = ls at hl ⊢
  have hl : lv_has ls 4 [(0, .ref (ad 0)), (1, .int p0)] := hl
  unfold f_X9_laws at hf
  refine lv_iload_n hx hb dX9_laws_0 rfl (lv_at hl 1 rfl) ?_
  refine lv_i2l hx hb dX9_laws_1 rfl ?_
  refine lv_ldc2 (own := RX9) (v := -1) hx hb hown (hts (.constantLong RX9 302 (-1)) (by decide +kernel)) dX9_laws_2 ?_
  refine lv_ldc2 (own := RX9) (v := 3) hx hb hown (hts (.constantLong RX9 154 (3)) (by decide +kernel)) dX9_laws_5 ?_
  obtain ⟨v1, h2, hf⟩ := bd_ok hf
  refine q_cSi (va_runS (As := [.long p0.toInt64, .long (-1 : Int64), .long (3 : Int64)]) (rest := []) ⟨hx, hb, hml, hown, hts⟩ (c_X9_in l (D := D) (ad := ad) (cy := cy) (sa := sa) (va := va) (I := I) (J := J) (S := S) h0 p0.toInt64 (-1 : Int64) (3 : Int64) h2) (va_cwS 3 hts gX9_laws_X9_in rfl rfl rfl (by decide +kernel) ⟨Nat.le_of_ble_eq_true rfl, Nat.le_of_ble_eq_true rfl⟩) ⟨qPre_blind _, fun U hU hW => ⟨rfl, qPre_of hP hK hE hN hS U hU hW⟩⟩ rfl rfl hl.1 rfl (lv_room (Nat.le_of_ble_eq_true rfl)) dX9_laws_8 ⟨Nat.le_of_ble_eq_true rfl, Nat.le_of_ble_eq_true rfl⟩) ?_
  refine lv_if_ne (tgt := 22) hx hb dX9_laws_11 (by decide) (fun cc => ?_) (fun cc => ?_)
  · have hf := (if_ok hf).2 cc
    refine lv_iload_n hx hb dX9_laws_22 rfl (lv_at hl 1 rfl) ?_
    refine lv_iconst (v := -1) hx hb dX9_laws_23 (by decide) ?_
    refine lv_icmp_eq (tgt := 33) hx hb dX9_laws_24 (by decide) (fun cc => ?_) (fun cc => ?_)
    · have hf := (if_ok hf).1 cc
      refine lv_iconst (v := 0) hx hb dX9_laws_33 (by decide) ?_
      refine lv_istore_n (lv' := [(2, .int (0 : Int32)), (0, .ref (ad 0)), (1, .int p0)]) hx hb dX9_laws_34 rfl hl (by decide) rfl (fun ls hl => ?_)
      refine lv_iconst (v := 1) hx hb dX9_laws_35 (by decide) ?_
      refine lv_istore_n (lv' := [(3, .int (1 : Int32)), (2, .int (0 : Int32)), (0, .ref (ad 0)), (1, .int p0)]) hx hb dX9_laws_36 rfl hl (by decide) rfl (fun ls hl => ?_)
      exact w_X9_laws_37 C hK hE hN h0  1000 (0 : Int32) (1 : Int32) I _ _ _ hf (lv_sub hl [2, 1, 0] rfl) hP hS
    · have hf := (if_ok hf).2 cc
      refine lv_aload_n hx hb dX9_laws_27 rfl (lv_at hl 0 rfl) ?_
      refine lv_iload_n hx hb dX9_laws_28 rfl (lv_at hl 1 rfl) ?_
      obtain ⟨v3, I4, h5, hf⟩ := bd2_ok hf
      refine q_cEi (va_runV (As := [.int p0]) (rest := []) ⟨hx, hb, hml, hown, hts⟩ (c_X9_crossingsBy l (D := D) (ad := ad) (cy := cy) (sa := sa) (va := va) (I := I) (J := J) (S := S) h0 p0 h5) (cwV 1 hts gX9_laws_X9_crossingsBy rfl rfl rfl (by decide +kernel) ⟨Nat.le_of_ble_eq_true rfl, Nat.le_of_ble_eq_true rfl⟩) ⟨qPre_blind _, q_recv hK hP (oX9 h0) rfl, fun U hU hW => ⟨rfl, qPre_of hP hK hE hN hS U hU hW⟩⟩ rfl rfl hl.1 rfl (lv_room (Nat.le_of_ble_eq_true rfl)) dX9_laws_29 ⟨Nat.le_of_ble_eq_true rfl, Nat.le_of_ble_eq_true rfl⟩) hS (fun H locs hP hS => ?_)
      have e9 := Option.some.inj hf
      have eI9 : I4 = Ie := (congrArg Prod.snd e9)
      exact W.iret hx hb hr (fun t ht _ => ⟨⟨_, (), rfl, (congrArg Prod.fst e9), by show qP D _ ad _ _ _ t.heap; rw [ht, ← eI9]; exact hP⟩, hS.F ht⟩) hS.2.2 dX9_laws_32
  · have hf := (if_ok hf).1 cc
    refine lv_aload_n hx hb dX9_laws_14 rfl (lv_at hl 0 rfl) ?_
    refine lv_sipush (v := -1002) hx hb dX9_laws_15 (by decide) ?_
    obtain ⟨v6, I7, h8, hf⟩ := bd2_ok hf
    refine q_cEi (va_runV (As := [.int (-1002 : Int32)]) (rest := []) ⟨hx, hb, hml, hown, hts⟩ (c_X9_refuse l (D := D) (ad := ad) (cy := cy) (sa := sa) (va := va) (I := I) (J := J) (S := S) h0 (-1002 : Int32) h8) (cwV 1 hts gX9_laws_X9_refuse rfl rfl rfl (by decide +kernel) ⟨Nat.le_of_ble_eq_true rfl, Nat.le_of_ble_eq_true rfl⟩) ⟨qPre_blind _, q_recv hK hP (oX9 h0) rfl, fun U hU hW => ⟨rfl, qPre_of hP hK hE hN hS U hU hW⟩⟩ rfl rfl hl.1 rfl (lv_room (Nat.le_of_ble_eq_true rfl)) dX9_laws_18 ⟨Nat.le_of_ble_eq_true rfl, Nat.le_of_ble_eq_true rfl⟩) hS (fun H locs hP hS => ?_)
    have e9 := Option.some.inj hf
    have eI9 : I7 = Ie := (congrArg Prod.snd e9)
    exact W.iret hx hb hr (fun t ht _ => ⟨⟨_, (), rfl, (congrArg Prod.fst e9), by show qP D _ ad _ _ _ t.heap; rw [ht, ← eI9]; exact hP⟩, hS.F ht⟩) hS.2.2 dX9_laws_21
abbrev r_X9_rules : Room := { frames := 5, cells := 0, slots := 0, locals := 118 }
theorem in_X9_rules_X9 : ∀ w ∈ u_ws RX9 TX9 42, w ∈ wsX9_rules := by decide +kernel
set_option maxHeartbeats 4000000 in
set_option maxRecDepth 100000 in
theorem w_X9_rules_45 {S : Nat → Prop} (C : qC p s m args meth c cX9_rules 6 RX9 wsX9_rules (some .int)) (hK : qK D cy sa s) (hE : qEnv sa va (qA S ad) s s.heap) (hN : qN S ad) (h0 : isM0 S)   {J : qJ} {r : Int32} {Ie : qI} (k12 : Int32 → Int32 → Int32 → Int32 → qI → Option (Int32 × qI)) (hk12 : ∀ (x1 : Int32) (x2 : Int32) (x3 : Int32) (x4 : Int32)  (I : qI) (ls : Array Slot) (H : Heap) (locs : List Loc), k12 x1 x2 x3 x4 I = some (r, Ie) → lv_has ls 6 [(0, .ref (ad 0)), (1, .int x1), (2, .int x2), (3, .int x3), (4, .int x4)] → qP D S ad (eM ad cy) I J H → va_S (qA S ad) s.heap H locs → W p l e (headSpec wsX9_rules r_X9_rules).room s m args below meth c H locs 0 0 (MQ below (va_Qi (S := Unit) (fun x _ => x = r) (fun _ t => qP D S ad (eM ad cy) Ie J t.heap) (qA S ad)) args s 0 0 (qA S ad)) (F0 m 12 ls [])) : ∀ (x1 : Int32) (x3 : Int32) (x4 : Int32) (x5 : Int32) (xs0 : Int32)  (I : qI) (ls : Array Slot) (H : Heap) (locs : List Loc), f_X9_rules_45 k12 x1 x3 x4 x5 xs0 I = some (r, Ie) → lv_has ls 6 [(0, .ref (ad 0)), (1, .int x1), (3, .int x3), (4, .int x4), (5, .int x5)] → qP D S ad (eM ad cy) I J H → va_S (qA S ad) s.heap H locs → W p l e (headSpec wsX9_rules r_X9_rules).room s m args below meth c H locs 0 0 (MQ below (va_Qi (S := Unit) (fun x _ => x = r) (fun _ t => qP D S ad (eM ad cy) Ie J t.heap) (qA S ad)) args s 0 0 (qA S ad)) (F0 m 45 ls [.int xs0]) := by
  have C0 := C
  obtain ⟨⟨hx, hb, hml, hown, hts⟩, hr, hlocks⟩ := C0
  intro x1 x3 x4 x5 xs0 I ls H locs hf hl hP hS
  unfold f_X9_rules_45 at hf
  refine lv_istore_n (lv' := [(2, .int xs0), (0, .ref (ad 0)), (1, .int x1), (3, .int x3), (4, .int x4), (5, .int x5)]) hx hb dX9_rules_45 rfl hl (by decide) rfl (fun ls hl => ?_)
  refine lv_iload hx hb dX9_rules_46 (lv_at hl 5 rfl) ?_
  refine lv_iload_n hx hb dX9_rules_48 rfl (lv_at hl 3 rfl) ?_
  obtain ⟨v1, h2, hf⟩ := bd_ok hf
  refine q_cSi (va_runS (As := [.int x5, .int x3]) (rest := []) ⟨hx, hb, hml, hown, hts⟩ (c_X9_isLess l (D := D) (ad := ad) (cy := cy) (sa := sa) (va := va) (I := I) (J := J) (S := S) h0 x5 x3 h2) (va_cwS 2 hts gX9_rules_X9_isLess rfl rfl rfl (by decide +kernel) ⟨Nat.le_of_ble_eq_true rfl, Nat.le_of_ble_eq_true rfl⟩) ⟨qPre_blind _, fun U hU hW => ⟨rfl, qPre_of hP hK hE hN hS U hU hW⟩⟩ rfl rfl hl.1 rfl (lv_room (Nat.le_of_ble_eq_true rfl)) dX9_rules_49 ⟨Nat.le_of_ble_eq_true rfl, Nat.le_of_ble_eq_true rfl⟩) ?_
  refine lv_if_eq (tgt := 60) hx hb dX9_rules_52 (by decide) (fun cc => ?_) (fun cc => ?_)
  · have hf := (if_ok hf).1 cc
    refine lv_iload_n hx hb dX9_rules_60 rfl (lv_at hl 3 rfl) ?_
    refine lv_istore_n (lv' := [(3, .int x3), (2, .int xs0), (0, .ref (ad 0)), (1, .int x1), (4, .int x4), (5, .int x5)]) hx hb dX9_rules_61 rfl hl (by decide) rfl (fun ls hl => ?_)
    refine lv_iinc (v := (x4 + (1 : Int32))) (lv' := [(4, .int (x4 + (1 : Int32))), (3, .int x3), (2, .int xs0), (0, .ref (ad 0)), (1, .int x1), (5, .int x5)]) hx hb dX9_rules_62 hl (k := 4) rfl rfl (by decide) rfl (fun ls hl => ?_)
    refine lv_goto (tgt := 12) hx hb dX9_rules_65 (by decide) ?_
    exact hk12 x1 xs0 x3 (x4 + (1 : Int32)) I _ _ _ hf (lv_sub hl [3, 4, 2, 1, 0] rfl) hP hS
  · have hf := (if_ok hf).2 cc
    refine lv_iload hx hb dX9_rules_55 (lv_at hl 5 rfl) ?_
    refine lv_goto (tgt := 61) hx hb dX9_rules_57 (by decide) ?_
    refine lv_istore_n (lv' := [(3, .int x5), (2, .int xs0), (0, .ref (ad 0)), (1, .int x1), (4, .int x4), (5, .int x5)]) hx hb dX9_rules_61 rfl hl (by decide) rfl (fun ls hl => ?_)
    refine lv_iinc (v := (x4 + (1 : Int32))) (lv' := [(4, .int (x4 + (1 : Int32))), (3, .int x5), (2, .int xs0), (0, .ref (ad 0)), (1, .int x1), (5, .int x5)]) hx hb dX9_rules_62 hl (k := 4) rfl rfl (by decide) rfl (fun ls hl => ?_)
    refine lv_goto (tgt := 12) hx hb dX9_rules_65 (by decide) ?_
    exact hk12 x1 xs0 x5 (x4 + (1 : Int32)) I _ _ _ hf (lv_sub hl [3, 4, 2, 1, 0] rfl) hP hS
set_option maxHeartbeats 4000000 in
set_option maxRecDepth 100000 in
theorem w_X9_rules_12 {S : Nat → Prop} (C : qC p s m args meth c cX9_rules 6 RX9 wsX9_rules (some .int)) (hK : qK D cy sa s) (hE : qEnv sa va (qA S ad) s s.heap) (hN : qN S ad) (h0 : isM0 S)   {J : qJ} {r : Int32} {Ie : qI} : ∀ (n : Nat) (x1 : Int32) (x2 : Int32) (x3 : Int32) (x4 : Int32)  (I : qI) (ls : Array Slot) (H : Heap) (locs : List Loc), f_X9_rules_12 n x1 x2 x3 x4 I = some (r, Ie) → lv_has ls 6 [(0, .ref (ad 0)), (1, .int x1), (2, .int x2), (3, .int x3), (4, .int x4)] → qP D S ad (eM ad cy) I J H → va_S (qA S ad) s.heap H locs → W p l e (headSpec wsX9_rules r_X9_rules).room s m args below meth c H locs 0 0 (MQ below (va_Qi (S := Unit) (fun x _ => x = r) (fun _ t => qP D S ad (eM ad cy) Ie J t.heap) (qA S ad)) args s 0 0 (qA S ad)) (F0 m 12 ls []) := by
  have C0 := C
  obtain ⟨⟨hx, hb, hml, hown, hts⟩, hr, hlocks⟩ := C0
  intro n
  induction n with
  | zero =>
    intro x1 x2 x3 x4 I ls H locs hf hl hP hS
    rw [f_X9_rules_12] at hf
    cases hf
  | succ n ih =>
    intro x1 x2 x3 x4 I ls H locs hf hl hP hS
    rw [f_X9_rules_12] at hf
    refine lv_iload hx hb dX9_rules_12 (lv_at hl 4 rfl) ?_
    refine lv_iconst (v := 3) hx hb dX9_rules_14 (by decide) ?_
    refine lv_icmp_gt (tgt := 68) hx hb dX9_rules_15 (by decide) (fun cc => ?_) (fun cc => ?_)
    · have hf := (if_ok hf).1 cc
      refine lv_aload_n hx hb dX9_rules_68 rfl (lv_at hl 0 rfl) ?_
      refine lv_iload_n hx hb dX9_rules_69 rfl (lv_at hl 1 rfl) ?_
      obtain ⟨I1, eI1, hf⟩ := lt_ok hf
      refine q_put (C := RX9) (T := TX9) (N := 42) (ci := 9) (v := .int x1) (x := x1) (ty := .int) hx hb hts in_X9_rules_X9 tyX9 tyX9_ok nmX9 hown hK hP hN hS (oX9 h0) rfl 11 (by decide) (hts (.fieldLink RX9 41 "RowsOnlyPrimesModel" "rule" "I") (by decide +kernel)) (fun _ h9 => h9) rfl (by decide +kernel) rfl rfl (fun _ _ => rfl) (fun _ _ => Nat.le_of_ble_eq_true rfl) dX9_rules_70 (fun H locs hP hS => ?_)
      rw [← eI1] at hP
      refine lv_iload_n hx hb dX9_rules_73 rfl (lv_at hl 2 rfl) ?_
      have e9 := Option.some.inj hf
      have eI9 : I1 = Ie := (congrArg Prod.snd e9)
      exact W.iret hx hb hr (fun t ht _ => ⟨⟨_, (), rfl, (congrArg Prod.fst e9), by show qP D _ ad _ _ _ t.heap; rw [ht, ← eI9]; exact hP⟩, hS.F ht⟩) hS.2.2 dX9_rules_74
    · have hf := (if_ok hf).2 cc
      refine lv_aload_n hx hb dX9_rules_18 rfl (lv_at hl 0 rfl) ?_
      refine lv_iload hx hb dX9_rules_19 (lv_at hl 4 rfl) ?_
      obtain ⟨I2, eI2, hf⟩ := lt_ok hf
      refine q_put (C := RX9) (T := TX9) (N := 42) (ci := 9) (v := .int x4) (x := x4) (ty := .int) hx hb hts in_X9_rules_X9 tyX9 tyX9_ok nmX9 hown hK hP hN hS (oX9 h0) rfl 11 (by decide) (hts (.fieldLink RX9 41 "RowsOnlyPrimesModel" "rule" "I") (by decide +kernel)) (fun _ h9 => h9) rfl (by decide +kernel) rfl rfl (fun _ _ => rfl) (fun _ _ => Nat.le_of_ble_eq_true rfl) dX9_rules_21 (fun H locs hP hS => ?_)
      rw [← eI2] at hP
      refine lv_aload_n hx hb dX9_rules_24 rfl (lv_at hl 0 rfl) ?_
      obtain ⟨v3, I4, h5, hf⟩ := bd2_ok hf
      refine q_cEi (va_runV (As := []) (rest := []) ⟨hx, hb, hml, hown, hts⟩ (c_X9_findPlan l (D := D) (ad := ad) (cy := cy) (sa := sa) (va := va) (I := I2) (J := J) (S := S) h0  h5) (cwV 0 hts gX9_rules_X9_findPlan rfl rfl rfl (by decide +kernel) ⟨Nat.le_of_ble_eq_true rfl, Nat.le_of_ble_eq_true rfl⟩) ⟨qPre_blind _, q_recv hK hP (oX9 h0) rfl, fun U hU hW => ⟨rfl, qPre_of hP hK hE hN hS U hU hW⟩⟩ rfl rfl hl.1 rfl (lv_room (Nat.le_of_ble_eq_true rfl)) dX9_rules_25 ⟨Nat.le_of_ble_eq_true rfl, Nat.le_of_ble_eq_true rfl⟩) hS (fun H locs hP hS => ?_)
      refine lv_istore (lv' := [(5, .int v3), (0, .ref (ad 0)), (1, .int x1), (2, .int x2), (3, .int x3), (4, .int x4)]) hx hb dX9_rules_28 hl (by decide) rfl (fun ls hl => ?_)
      refine lv_iload hx hb dX9_rules_30 (lv_at hl 0 rfl) ?_
      refine lv_iload_n hx hb dX9_rules_32 rfl (lv_at hl 4 rfl) ?_
      obtain ⟨v6, h7, hf⟩ := bd_ok hf
      refine q_cSi (va_runS (As := [.int v3, .int x3]) (rest := []) ⟨hx, hb, hml, hown, hts⟩ (c_X9_isLess l (D := D) (ad := ad) (cy := cy) (sa := sa) (va := va) (I := I4) (J := J) (S := S) h0 v3 x3 h7) (va_cwS 2 hts gX9_rules_X9_isLess rfl rfl rfl (by decide +kernel) ⟨Nat.le_of_ble_eq_true rfl, Nat.le_of_ble_eq_true rfl⟩) ⟨qPre_blind _, fun U hU hW => ⟨rfl, qPre_of hP hK hE hN hS U hU hW⟩⟩ rfl rfl hl.1 rfl (lv_room (Nat.le_of_ble_eq_true rfl)) dX9_rules_33 ⟨Nat.le_of_ble_eq_true rfl, Nat.le_of_ble_eq_true rfl⟩) ?_
      refine lv_if_eq (tgt := 44) hx hb dX9_rules_36 (by decide) (fun cc => ?_) (fun cc => ?_)
      · have hf := (if_ok hf).1 cc
        refine lv_iload_n hx hb dX9_rules_44 rfl (lv_at hl 3 rfl) ?_
        exact w_X9_rules_45 C hK hE hN h0 (f_X9_rules_12 n) ih  x1 x3 x4 v3 x2 I4 _ _ _ hf (lv_sub hl [1, 2, 4, 5, 0] rfl) hP hS
      · have hf := (if_ok hf).2 cc
        refine lv_iload hx hb dX9_rules_39 (lv_at hl 5 rfl) ?_
        refine lv_goto (tgt := 45) hx hb dX9_rules_41 (by decide) ?_
        exact w_X9_rules_45 C hK hE hN h0 (f_X9_rules_12 n) ih  x1 x3 x4 v3 x4 I4 _ _ _ hf (lv_sub hl [1, 2, 4, 5, 0] rfl) hP hS
set_option maxHeartbeats 4000000 in
set_option maxRecDepth 100000 in
theorem c_X9_rules (l : Launch) {D : va_G} {ad : Nat → Nat} {cy : Nat → ClassId} {sa va : Nat → Nat} {I : qI} {J : qJ} {S : Nat → Prop} (h0 : isM0 S)    {r : Int32} {Ie : qI} (hf : f_X9_rules I = some (r, Ie)) : Met l yX9_rules wsX9_rules r_X9_rules (va_Pc [.ref (ad 0)] (qPre D S ad cy sa va (eM ad cy) I J)) (va_Qi (S := Unit) (fun x _ => x = r) (fun _ t => qP D S ad (eM ad cy) Ie J t.heap) (qA S ad)) 0 0 (qA S ad) := by
  refine Met.ofW (cc := cX9_rules) (maxL := 6) (ret := (some .int)) (by decide) rfl ?_
  intro p e s m args below meth c s₁ B hml hv
  obtain ⟨rfl, hP, hK, hE, hN⟩ := hv
  have C : qC p s m _ meth c cX9_rules 6 RX9 wsX9_rules (some .int) := ⟨⟨B.exec, B.bytes, hml, findClass_of_methodNamed B.named, atoms_spec (ws := wsX9_rules) B.pre⟩, B.returns, B.notSynchronized⟩
  have C0 := C
  obtain ⟨⟨hx, hb, hml, hown, hts⟩, hr, hlocks⟩ := C0
  have hS : va_S (qA S ad) s.heap s.heap [] := va_S.rf
  have hl := lv_entry ([.ref (ad 0)]) (n := 6) (Nat.le_of_ble_eq_true rfl)
  rw [lg_entry_eq]
  generalize (lg_sl ([.ref (ad 0)]) ++ List.replicate (6 - (lg_sl ([.ref (ad 0)])).length) Slot.unset).toArray = ls at hl ⊢
  have hl : lv_has ls 6 [(0, .ref (ad 0))] := hl
  unfold f_X9_rules at hf
  refine lv_aload_n hx hb dX9_rules_0 rfl (lv_at hl 0 rfl) ?_
  refine q_get (C := RX9) (T := TX9) (N := 42) (ci := 9) (v := .int (I 0 11)) hx hb hts in_X9_rules_X9 hown hK hP (oX9 h0) rfl 11 (by decide) (hts (.fieldLink RX9 41 "RowsOnlyPrimesModel" "rule" "I") (by decide +kernel)) (fun _ h9 => h9) rfl dX9_rules_1 ?_
  refine lv_istore_n (lv' := [(1, .int (I 0 11)), (0, .ref (ad 0))]) hx hb dX9_rules_4 rfl hl (by decide) rfl (fun ls hl => ?_)
  refine lv_iconst (v := 0) hx hb dX9_rules_5 (by decide) ?_
  refine lv_istore_n (lv' := [(2, .int (0 : Int32)), (1, .int (I 0 11)), (0, .ref (ad 0))]) hx hb dX9_rules_6 rfl hl (by decide) rfl (fun ls hl => ?_)
  refine lv_iconst (v := -1) hx hb dX9_rules_7 (by decide) ?_
  refine lv_istore_n (lv' := [(3, .int (-1 : Int32)), (2, .int (0 : Int32)), (1, .int (I 0 11)), (0, .ref (ad 0))]) hx hb dX9_rules_8 rfl hl (by decide) rfl (fun ls hl => ?_)
  refine lv_iconst (v := 0) hx hb dX9_rules_9 (by decide) ?_
  refine lv_istore (lv' := [(4, .int (0 : Int32)), (3, .int (-1 : Int32)), (2, .int (0 : Int32)), (1, .int (I 0 11)), (0, .ref (ad 0))]) hx hb dX9_rules_10 hl (by decide) rfl (fun ls hl => ?_)
  exact w_X9_rules_12 C hK hE hN h0  1000 (I 0 11) (0 : Int32) (-1 : Int32) (0 : Int32) I _ _ _ hf (lv_sub hl [4, 3, 2, 1, 0] rfl) hP hS
abbrev r_X9_sizes : Room := { frames := 5, cells := 0, slots := 0, locals := 118 }
theorem in_X9_sizes_X9 : ∀ w ∈ u_ws RX9 TX9 42, w ∈ wsX9_sizes := by decide +kernel
set_option maxHeartbeats 4000000 in
set_option maxRecDepth 100000 in
theorem w_X9_sizes_45 {S : Nat → Prop} (C : qC p s m args meth c cX9_sizes 4 RX9 wsX9_sizes (some .int)) (hK : qK D cy sa s) (hE : qEnv sa va (qA S ad) s s.heap) (hN : qN S ad) (h0 : isM0 S)   {J : qJ} {r : Int32} {Ie : qI} : ∀ (x1 : Int32) (x2 : Int32)  (I : qI) (ls : Array Slot) (H : Heap) (locs : List Loc), f_X9_sizes_45 x1 x2 I = some (r, Ie) → lv_has ls 4 [(0, .ref (ad 0)), (1, .int x1), (2, .int x2)] → qP D S ad (eM ad cy) I J H → va_S (qA S ad) s.heap H locs → W p l e (headSpec wsX9_sizes r_X9_sizes).room s m args below meth c H locs 0 0 (MQ below (va_Qi (S := Unit) (fun x _ => x = r) (fun _ t => qP D S ad (eM ad cy) Ie J t.heap) (qA S ad)) args s 0 0 (qA S ad)) (F0 m 45 ls []) := by
  have C0 := C
  obtain ⟨⟨hx, hb, hml, hown, hts⟩, hr, hlocks⟩ := C0
  intro x1 x2 I ls H locs hf hl hP hS
  unfold f_X9_sizes_45 at hf
  refine lv_aload_n hx hb dX9_sizes_45 rfl (lv_at hl 0 rfl) ?_
  refine lv_iload_n hx hb dX9_sizes_46 rfl (lv_at hl 1 rfl) ?_
  obtain ⟨I1, eI1, hf⟩ := lt_ok hf
  refine q_put (C := RX9) (T := TX9) (N := 42) (ci := 9) (v := .int x1) (x := x1) (ty := .int) hx hb hts in_X9_sizes_X9 tyX9 tyX9_ok nmX9 hown hK hP hN hS (oX9 h0) rfl 9 (by decide) (hts (.fieldLink RX9 37 "RowsOnlyPrimesModel" "seats" "I") (by decide +kernel)) (fun _ h9 => h9) rfl (by decide +kernel) rfl rfl (fun _ _ => rfl) (fun _ _ => Nat.le_of_ble_eq_true rfl) dX9_sizes_47 (fun H locs hP hS => ?_)
  rw [← eI1] at hP
  refine lv_iload_n hx hb dX9_sizes_50 rfl (lv_at hl 2 rfl) ?_
  have e9 := Option.some.inj hf
  have eI9 : I1 = Ie := (congrArg Prod.snd e9)
  exact W.iret hx hb hr (fun t ht _ => ⟨⟨_, (), rfl, (congrArg Prod.fst e9), by show qP D _ ad _ _ _ t.heap; rw [ht, ← eI9]; exact hP⟩, hS.F ht⟩) hS.2.2 dX9_sizes_51
set_option maxHeartbeats 4000000 in
set_option maxRecDepth 100000 in
theorem w_X9_sizes_9 {S : Nat → Prop} (C : qC p s m args meth c cX9_sizes 4 RX9 wsX9_sizes (some .int)) (hK : qK D cy sa s) (hE : qEnv sa va (qA S ad) s s.heap) (hN : qN S ad) (h0 : isM0 S)   {J : qJ} {r : Int32} {Ie : qI} : ∀ (n : Nat) (x1 : Int32) (x2 : Int32) (x3 : Int32)  (I : qI) (ls : Array Slot) (H : Heap) (locs : List Loc), f_X9_sizes_9 n x1 x2 x3 I = some (r, Ie) → lv_has ls 4 [(0, .ref (ad 0)), (1, .int x1), (2, .int x2), (3, .int x3)] → qP D S ad (eM ad cy) I J H → va_S (qA S ad) s.heap H locs → W p l e (headSpec wsX9_sizes r_X9_sizes).room s m args below meth c H locs 0 0 (MQ below (va_Qi (S := Unit) (fun x _ => x = r) (fun _ t => qP D S ad (eM ad cy) Ie J t.heap) (qA S ad)) args s 0 0 (qA S ad)) (F0 m 9 ls []) := by
  have C0 := C
  obtain ⟨⟨hx, hb, hml, hown, hts⟩, hr, hlocks⟩ := C0
  intro n
  induction n with
  | zero =>
    intro x1 x2 x3 I ls H locs hf hl hP hS
    rw [f_X9_sizes_9] at hf
    cases hf
  | succ n ih =>
    intro x1 x2 x3 I ls H locs hf hl hP hS
    rw [f_X9_sizes_9] at hf
    refine lv_iload_n hx hb dX9_sizes_9 rfl (lv_at hl 3 rfl) ?_
    refine lv_bipush (v := 99) hx hb dX9_sizes_10 (by decide) ?_
    refine lv_icmp_gt (tgt := 45) hx hb dX9_sizes_12 (by decide) (fun cc => ?_) (fun cc => ?_)
    · have hf := (if_ok hf).1 cc
      exact w_X9_sizes_45 C hK hE hN h0   x1 x2 I _ _ _ hf (lv_sub hl [0, 1, 2] rfl) hP hS
    · have hf := (if_ok hf).2 cc
      refine lv_iload_n hx hb dX9_sizes_15 rfl (lv_at hl 2 rfl) ?_
      refine lv_iconst (v := -1) hx hb dX9_sizes_16 (by decide) ?_
      refine lv_icmp_ne (tgt := 45) hx hb dX9_sizes_17 (by decide) (fun cc => ?_) (fun cc => ?_)
      · have hf := (if_ok hf).2 cc
        exact w_X9_sizes_45 C hK hE hN h0   x1 x2 I _ _ _ hf (lv_sub hl [0, 1, 2] rfl) hP hS
      · have hf := (if_ok hf).1 cc
        refine lv_aload_n hx hb dX9_sizes_20 rfl (lv_at hl 0 rfl) ?_
        refine lv_iload_n hx hb dX9_sizes_21 rfl (lv_at hl 3 rfl) ?_
        obtain ⟨I1, eI1, hf⟩ := lt_ok hf
        refine q_put (C := RX9) (T := TX9) (N := 42) (ci := 9) (v := .int x3) (x := x3) (ty := .int) hx hb hts in_X9_sizes_X9 tyX9 tyX9_ok nmX9 hown hK hP hN hS (oX9 h0) rfl 9 (by decide) (hts (.fieldLink RX9 37 "RowsOnlyPrimesModel" "seats" "I") (by decide +kernel)) (fun _ h9 => h9) rfl (by decide +kernel) rfl rfl (fun _ _ => rfl) (fun _ _ => Nat.le_of_ble_eq_true rfl) dX9_sizes_22 (fun H locs hP hS => ?_)
        rw [← eI1] at hP
        refine lv_aload_n hx hb dX9_sizes_25 rfl (lv_at hl 0 rfl) ?_
        obtain ⟨v2, I3, h4, hf⟩ := bd2_ok hf
        refine q_cEi (va_runV (As := []) (rest := []) ⟨hx, hb, hml, hown, hts⟩ (c_X9_findPlan l (D := D) (ad := ad) (cy := cy) (sa := sa) (va := va) (I := I1) (J := J) (S := S) h0  h4) (cwV 0 hts gX9_sizes_X9_findPlan rfl rfl rfl (by decide +kernel) ⟨Nat.le_of_ble_eq_true rfl, Nat.le_of_ble_eq_true rfl⟩) ⟨qPre_blind _, q_recv hK hP (oX9 h0) rfl, fun U hU hW => ⟨rfl, qPre_of hP hK hE hN hS U hU hW⟩⟩ rfl rfl hl.1 rfl (lv_room (Nat.le_of_ble_eq_true rfl)) dX9_sizes_26 ⟨Nat.le_of_ble_eq_true rfl, Nat.le_of_ble_eq_true rfl⟩) hS (fun H locs hP hS => ?_)
        refine lv_iconst (v := -1) hx hb dX9_sizes_29 (by decide) ?_
        refine lv_icmp_ne (tgt := 37) hx hb dX9_sizes_30 (by decide) (fun cc => ?_) (fun cc => ?_)
        · have hf := (if_ok hf).2 cc
          refine lv_iload_n hx hb dX9_sizes_37 rfl (lv_at hl 3 rfl) ?_
          refine lv_istore_n (lv' := [(2, .int x3), (0, .ref (ad 0)), (1, .int x1), (3, .int x3)]) hx hb dX9_sizes_38 rfl hl (by decide) rfl (fun ls hl => ?_)
          refine lv_iinc (v := (x3 + (1 : Int32))) (lv' := [(3, .int (x3 + (1 : Int32))), (2, .int x3), (0, .ref (ad 0)), (1, .int x1)]) hx hb dX9_sizes_39 hl (k := 3) rfl rfl (by decide) rfl (fun ls hl => ?_)
          refine lv_goto (tgt := 9) hx hb dX9_sizes_42 (by decide) ?_
          exact ih x1 x3 (x3 + (1 : Int32)) I3 _ _ _ hf (lv_sub hl [2, 3, 1, 0] rfl) hP hS
        · have hf := (if_ok hf).1 cc
          refine lv_iconst (v := -1) hx hb dX9_sizes_33 (by decide) ?_
          refine lv_goto (tgt := 38) hx hb dX9_sizes_34 (by decide) ?_
          refine lv_istore_n (lv' := [(2, .int (-1 : Int32)), (0, .ref (ad 0)), (1, .int x1), (3, .int x3)]) hx hb dX9_sizes_38 rfl hl (by decide) rfl (fun ls hl => ?_)
          refine lv_iinc (v := (x3 + (1 : Int32))) (lv' := [(3, .int (x3 + (1 : Int32))), (2, .int (-1 : Int32)), (0, .ref (ad 0)), (1, .int x1)]) hx hb dX9_sizes_39 hl (k := 3) rfl rfl (by decide) rfl (fun ls hl => ?_)
          refine lv_goto (tgt := 9) hx hb dX9_sizes_42 (by decide) ?_
          exact ih x1 (-1 : Int32) (x3 + (1 : Int32)) I3 _ _ _ hf (lv_sub hl [2, 3, 1, 0] rfl) hP hS
set_option maxHeartbeats 4000000 in
set_option maxRecDepth 100000 in
theorem c_X9_sizes (l : Launch) {D : va_G} {ad : Nat → Nat} {cy : Nat → ClassId} {sa va : Nat → Nat} {I : qI} {J : qJ} {S : Nat → Prop} (h0 : isM0 S)    {r : Int32} {Ie : qI} (hf : f_X9_sizes I = some (r, Ie)) : Met l yX9_sizes wsX9_sizes r_X9_sizes (va_Pc [.ref (ad 0)] (qPre D S ad cy sa va (eM ad cy) I J)) (va_Qi (S := Unit) (fun x _ => x = r) (fun _ t => qP D S ad (eM ad cy) Ie J t.heap) (qA S ad)) 0 0 (qA S ad) := by
  refine Met.ofW (cc := cX9_sizes) (maxL := 4) (ret := (some .int)) (by decide) rfl ?_
  intro p e s m args below meth c s₁ B hml hv
  obtain ⟨rfl, hP, hK, hE, hN⟩ := hv
  have C : qC p s m _ meth c cX9_sizes 4 RX9 wsX9_sizes (some .int) := ⟨⟨B.exec, B.bytes, hml, findClass_of_methodNamed B.named, atoms_spec (ws := wsX9_sizes) B.pre⟩, B.returns, B.notSynchronized⟩
  have C0 := C
  obtain ⟨⟨hx, hb, hml, hown, hts⟩, hr, hlocks⟩ := C0
  have hS : va_S (qA S ad) s.heap s.heap [] := va_S.rf
  have hl := lv_entry ([.ref (ad 0)]) (n := 4) (Nat.le_of_ble_eq_true rfl)
  rw [lg_entry_eq]
  generalize (lg_sl ([.ref (ad 0)]) ++ List.replicate (4 - (lg_sl ([.ref (ad 0)])).length) Slot.unset).toArray = ls at hl ⊢
  have hl : lv_has ls 4 [(0, .ref (ad 0))] := hl
  unfold f_X9_sizes at hf
  refine lv_aload_n hx hb dX9_sizes_0 rfl (lv_at hl 0 rfl) ?_
  refine q_get (C := RX9) (T := TX9) (N := 42) (ci := 9) (v := .int (I 0 9)) hx hb hts in_X9_sizes_X9 hown hK hP (oX9 h0) rfl 9 (by decide) (hts (.fieldLink RX9 37 "RowsOnlyPrimesModel" "seats" "I") (by decide +kernel)) (fun _ h9 => h9) rfl dX9_sizes_1 ?_
  refine lv_istore_n (lv' := [(1, .int (I 0 9)), (0, .ref (ad 0))]) hx hb dX9_sizes_4 rfl hl (by decide) rfl (fun ls hl => ?_)
  refine lv_iconst (v := -1) hx hb dX9_sizes_5 (by decide) ?_
  refine lv_istore_n (lv' := [(2, .int (-1 : Int32)), (1, .int (I 0 9)), (0, .ref (ad 0))]) hx hb dX9_sizes_6 rfl hl (by decide) rfl (fun ls hl => ?_)
  refine lv_iconst (v := 1) hx hb dX9_sizes_7 (by decide) ?_
  refine lv_istore_n (lv' := [(3, .int (1 : Int32)), (2, .int (-1 : Int32)), (1, .int (I 0 9)), (0, .ref (ad 0))]) hx hb dX9_sizes_8 rfl hl (by decide) rfl (fun ls hl => ?_)
  exact w_X9_sizes_9 C hK hE hN h0  1000 (I 0 9) (-1 : Int32) (1 : Int32) I _ _ _ hf (lv_sub hl [3, 2, 1, 0] rfl) hP hS
abbrev r_X9_loosen : Room := { frames := 5, cells := 0, slots := 0, locals := 118 }
theorem in_X9_loosen_X9 : ∀ w ∈ u_ws RX9 TX9 42, w ∈ wsX9_loosen := by decide +kernel
set_option maxHeartbeats 4000000 in
set_option maxRecDepth 100000 in
theorem w_X9_loosen_86 {S : Nat → Prop} (C : qC p s m args meth c cX9_loosen 6 RX9 wsX9_loosen (some .int)) (hK : qK D cy sa s) (hE : qEnv sa va (qA S ad) s s.heap) (hN : qN S ad) (h0 : isM0 S)   {J : qJ} {r : Int32} {Ie : qI} (k6 : Int32 → Int32 → Int32 → qI → Option (Int32 × qI)) (hk6 : ∀ (x1 : Int32) (x2 : Int32) (x3 : Int32)  (I : qI) (ls : Array Slot) (H : Heap) (locs : List Loc), k6 x1 x2 x3 I = some (r, Ie) → lv_has ls 6 [(0, .ref (ad 0)), (1, .int x1), (2, .int x2), (3, .int x3)] → qP D S ad (eM ad cy) I J H → va_S (qA S ad) s.heap H locs → W p l e (headSpec wsX9_loosen r_X9_loosen).room s m args below meth c H locs 0 0 (MQ below (va_Qi (S := Unit) (fun x _ => x = r) (fun _ t => qP D S ad (eM ad cy) Ie J t.heap) (qA S ad)) args s 0 0 (qA S ad)) (F0 m 6 ls [])) (k19 : Int32 → Int32 → Int32 → Int32 → qI → Option (Int32 × qI)) (hk19 : ∀ (x1 : Int32) (x2 : Int32) (x3 : Int32) (x4 : Int32)  (I : qI) (ls : Array Slot) (H : Heap) (locs : List Loc), k19 x1 x2 x3 x4 I = some (r, Ie) → lv_has ls 6 [(0, .ref (ad 0)), (1, .int x1), (2, .int x2), (3, .int x3), (4, .int x4)] → qP D S ad (eM ad cy) I J H → va_S (qA S ad) s.heap H locs → W p l e (headSpec wsX9_loosen r_X9_loosen).room s m args below meth c H locs 0 0 (MQ below (va_Qi (S := Unit) (fun x _ => x = r) (fun _ t => qP D S ad (eM ad cy) Ie J t.heap) (qA S ad)) args s 0 0 (qA S ad)) (F0 m 19 ls [])) : ∀ (x2 : Int32) (x3 : Int32) (x4 : Int32) (x5 : Int32) (xs0 : Int32)  (I : qI) (ls : Array Slot) (H : Heap) (locs : List Loc), f_X9_loosen_86 k6 k19 x2 x3 x4 x5 xs0 I = some (r, Ie) → lv_has ls 6 [(0, .ref (ad 0)), (2, .int x2), (3, .int x3), (4, .int x4), (5, .int x5)] → qP D S ad (eM ad cy) I J H → va_S (qA S ad) s.heap H locs → W p l e (headSpec wsX9_loosen r_X9_loosen).room s m args below meth c H locs 0 0 (MQ below (va_Qi (S := Unit) (fun x _ => x = r) (fun _ t => qP D S ad (eM ad cy) Ie J t.heap) (qA S ad)) args s 0 0 (qA S ad)) (F0 m 86 ls [.int xs0]) := by
  have C0 := C
  obtain ⟨⟨hx, hb, hml, hown, hts⟩, hr, hlocks⟩ := C0
  intro x2 x3 x4 x5 xs0 I ls H locs hf hl hP hS
  unfold f_X9_loosen_86 at hf
  refine lv_istore_n (lv' := [(1, .int xs0), (0, .ref (ad 0)), (2, .int x2), (3, .int x3), (4, .int x4), (5, .int x5)]) hx hb dX9_loosen_86 rfl hl (by decide) rfl (fun ls hl => ?_)
  refine lv_iload_n hx hb dX9_loosen_87 rfl (lv_at hl 0 rfl) ?_
  refine lv_bipush (v := 10) hx hb dX9_loosen_88 (by decide) ?_
  refine lv_iload_n hx hb dX9_loosen_90 rfl (lv_at hl 3 rfl) ?_
  refine lv_imul hx hb dX9_loosen_91 ?_
  refine lv_iload hx hb dX9_loosen_92 (lv_at hl 4 rfl) ?_
  refine lv_iadd hx hb dX9_loosen_94 ?_
  refine lv_icmp_ne (tgt := 103) hx hb dX9_loosen_95 (by decide) (fun cc => ?_) (fun cc => ?_)
  · have hf := (if_ok hf).2 cc
    refine lv_iload_n hx hb dX9_loosen_103 rfl (lv_at hl 2 rfl) ?_
    refine lv_istore_n (lv' := [(2, .int x2), (1, .int xs0), (0, .ref (ad 0)), (3, .int x3), (4, .int x4), (5, .int x5)]) hx hb dX9_loosen_104 rfl hl (by decide) rfl (fun ls hl => ?_)
    refine lv_iinc (v := (x4 + (1 : Int32))) (lv' := [(4, .int (x4 + (1 : Int32))), (2, .int x2), (1, .int xs0), (0, .ref (ad 0)), (3, .int x3), (5, .int x5)]) hx hb dX9_loosen_105 hl (k := 4) rfl rfl (by decide) rfl (fun ls hl => ?_)
    refine lv_goto (tgt := 19) hx hb dX9_loosen_108 (by decide) ?_
    exact hk19 xs0 x2 x3 (x4 + (1 : Int32)) I _ _ _ hf (lv_sub hl [3, 2, 1, 4, 0] rfl) hP hS
  · have hf := (if_ok hf).1 cc
    refine lv_iload hx hb dX9_loosen_98 (lv_at hl 5 rfl) ?_
    refine lv_goto (tgt := 104) hx hb dX9_loosen_100 (by decide) ?_
    refine lv_istore_n (lv' := [(2, .int x5), (1, .int xs0), (0, .ref (ad 0)), (3, .int x3), (4, .int x4), (5, .int x5)]) hx hb dX9_loosen_104 rfl hl (by decide) rfl (fun ls hl => ?_)
    refine lv_iinc (v := (x4 + (1 : Int32))) (lv' := [(4, .int (x4 + (1 : Int32))), (2, .int x5), (1, .int xs0), (0, .ref (ad 0)), (3, .int x3), (5, .int x5)]) hx hb dX9_loosen_105 hl (k := 4) rfl rfl (by decide) rfl (fun ls hl => ?_)
    refine lv_goto (tgt := 19) hx hb dX9_loosen_108 (by decide) ?_
    exact hk19 xs0 x5 x3 (x4 + (1 : Int32)) I _ _ _ hf (lv_sub hl [3, 2, 1, 4, 0] rfl) hP hS
set_option maxHeartbeats 4000000 in
set_option maxRecDepth 100000 in
theorem w_X9_loosen_75 {S : Nat → Prop} (C : qC p s m args meth c cX9_loosen 6 RX9 wsX9_loosen (some .int)) (hK : qK D cy sa s) (hE : qEnv sa va (qA S ad) s s.heap) (hN : qN S ad) (h0 : isM0 S)   {J : qJ} {r : Int32} {Ie : qI} (k6 : Int32 → Int32 → Int32 → qI → Option (Int32 × qI)) (hk6 : ∀ (x1 : Int32) (x2 : Int32) (x3 : Int32)  (I : qI) (ls : Array Slot) (H : Heap) (locs : List Loc), k6 x1 x2 x3 I = some (r, Ie) → lv_has ls 6 [(0, .ref (ad 0)), (1, .int x1), (2, .int x2), (3, .int x3)] → qP D S ad (eM ad cy) I J H → va_S (qA S ad) s.heap H locs → W p l e (headSpec wsX9_loosen r_X9_loosen).room s m args below meth c H locs 0 0 (MQ below (va_Qi (S := Unit) (fun x _ => x = r) (fun _ t => qP D S ad (eM ad cy) Ie J t.heap) (qA S ad)) args s 0 0 (qA S ad)) (F0 m 6 ls [])) (k19 : Int32 → Int32 → Int32 → Int32 → qI → Option (Int32 × qI)) (hk19 : ∀ (x1 : Int32) (x2 : Int32) (x3 : Int32) (x4 : Int32)  (I : qI) (ls : Array Slot) (H : Heap) (locs : List Loc), k19 x1 x2 x3 x4 I = some (r, Ie) → lv_has ls 6 [(0, .ref (ad 0)), (1, .int x1), (2, .int x2), (3, .int x3), (4, .int x4)] → qP D S ad (eM ad cy) I J H → va_S (qA S ad) s.heap H locs → W p l e (headSpec wsX9_loosen r_X9_loosen).room s m args below meth c H locs 0 0 (MQ below (va_Qi (S := Unit) (fun x _ => x = r) (fun _ t => qP D S ad (eM ad cy) Ie J t.heap) (qA S ad)) args s 0 0 (qA S ad)) (F0 m 19 ls [])) : ∀ (x2 : Int32) (x3 : Int32) (x4 : Int32) (x5 : Int32)  (I : qI) (ls : Array Slot) (H : Heap) (locs : List Loc), f_X9_loosen_75 k6 k19 x2 x3 x4 x5 I = some (r, Ie) → lv_has ls 6 [(0, .ref (ad 0)), (2, .int x2), (3, .int x3), (4, .int x4), (5, .int x5)] → qP D S ad (eM ad cy) I J H → va_S (qA S ad) s.heap H locs → W p l e (headSpec wsX9_loosen r_X9_loosen).room s m args below meth c H locs 0 0 (MQ below (va_Qi (S := Unit) (fun x _ => x = r) (fun _ t => qP D S ad (eM ad cy) Ie J t.heap) (qA S ad)) args s 0 0 (qA S ad)) (F0 m 75 ls []) := by
  have C0 := C
  obtain ⟨⟨hx, hb, hml, hown, hts⟩, hr, hlocks⟩ := C0
  intro x2 x3 x4 x5 I ls H locs hf hl hP hS
  unfold f_X9_loosen_75 at hf
  refine lv_bipush (v := 10) hx hb dX9_loosen_75 (by decide) ?_
  refine lv_iload_n hx hb dX9_loosen_77 rfl (lv_at hl 2 rfl) ?_
  refine lv_imul hx hb dX9_loosen_78 ?_
  refine lv_iload hx hb dX9_loosen_79 (lv_at hl 3 rfl) ?_
  refine lv_iadd hx hb dX9_loosen_81 ?_
  refine lv_goto (tgt := 86) hx hb dX9_loosen_82 (by decide) ?_
  exact w_X9_loosen_86 C hK hE hN h0 k6 hk6 k19 hk19  x2 x3 x4 x5 (((10 : Int32) * x3) + x4) I _ _ _ hf (lv_sub hl [0, 1, 2, 3, 4] rfl) hP hS
set_option maxHeartbeats 4000000 in
set_option maxRecDepth 100000 in
theorem w_X9_loosen_19 {S : Nat → Prop} (C : qC p s m args meth c cX9_loosen 6 RX9 wsX9_loosen (some .int)) (hK : qK D cy sa s) (hE : qEnv sa va (qA S ad) s s.heap) (hN : qN S ad) (h0 : isM0 S)   {J : qJ} {r : Int32} {Ie : qI} (k6 : Int32 → Int32 → Int32 → qI → Option (Int32 × qI)) (hk6 : ∀ (x1 : Int32) (x2 : Int32) (x3 : Int32)  (I : qI) (ls : Array Slot) (H : Heap) (locs : List Loc), k6 x1 x2 x3 I = some (r, Ie) → lv_has ls 6 [(0, .ref (ad 0)), (1, .int x1), (2, .int x2), (3, .int x3)] → qP D S ad (eM ad cy) I J H → va_S (qA S ad) s.heap H locs → W p l e (headSpec wsX9_loosen r_X9_loosen).room s m args below meth c H locs 0 0 (MQ below (va_Qi (S := Unit) (fun x _ => x = r) (fun _ t => qP D S ad (eM ad cy) Ie J t.heap) (qA S ad)) args s 0 0 (qA S ad)) (F0 m 6 ls [])) : ∀ (n : Nat) (x1 : Int32) (x2 : Int32) (x3 : Int32) (x4 : Int32)  (I : qI) (ls : Array Slot) (H : Heap) (locs : List Loc), f_X9_loosen_19 k6 n x1 x2 x3 x4 I = some (r, Ie) → lv_has ls 6 [(0, .ref (ad 0)), (1, .int x1), (2, .int x2), (3, .int x3), (4, .int x4)] → qP D S ad (eM ad cy) I J H → va_S (qA S ad) s.heap H locs → W p l e (headSpec wsX9_loosen r_X9_loosen).room s m args below meth c H locs 0 0 (MQ below (va_Qi (S := Unit) (fun x _ => x = r) (fun _ t => qP D S ad (eM ad cy) Ie J t.heap) (qA S ad)) args s 0 0 (qA S ad)) (F0 m 19 ls []) := by
  have C0 := C
  obtain ⟨⟨hx, hb, hml, hown, hts⟩, hr, hlocks⟩ := C0
  intro n
  induction n with
  | zero =>
    intro x1 x2 x3 x4 I ls H locs hf hl hP hS
    rw [f_X9_loosen_19] at hf
    cases hf
  | succ n ih =>
    intro x1 x2 x3 x4 I ls H locs hf hl hP hS
    rw [f_X9_loosen_19] at hf
    refine lv_iload hx hb dX9_loosen_19 (lv_at hl 4 rfl) ?_
    refine lv_aload_n hx hb dX9_loosen_21 rfl (lv_at hl 0 rfl) ?_
    refine q_get (C := RX9) (T := TX9) (N := 42) (ci := 9) (v := .int (I 0 17)) hx hb hts in_X9_loosen_X9 hown hK hP (oX9 h0) rfl 17 (by decide) (hts (.fieldLink RX9 93 "RowsOnlyPrimesModel" "parties" "I") (by decide +kernel)) (fun _ h9 => h9) rfl dX9_loosen_22 ?_
    refine lv_icmp_ge (tgt := 111) hx hb dX9_loosen_25 (by decide) (fun cc => ?_) (fun cc => ?_)
    · have hf := (if_ok hf).1 cc
      refine lv_iinc (v := (x3 + (1 : Int32))) (lv' := [(3, .int (x3 + (1 : Int32))), (0, .ref (ad 0)), (1, .int x1), (2, .int x2), (4, .int x4)]) hx hb dX9_loosen_111 hl (k := 3) rfl rfl (by decide) rfl (fun ls hl => ?_)
      refine lv_goto (tgt := 6) hx hb dX9_loosen_114 (by decide) ?_
      exact hk6 x1 x2 (x3 + (1 : Int32)) I _ _ _ hf (lv_sub hl [1, 2, 3, 0] rfl) hP hS
    · have hf := (if_ok hf).2 cc
      refine lv_aload_n hx hb dX9_loosen_28 rfl (lv_at hl 0 rfl) ?_
      refine lv_iload_n hx hb dX9_loosen_29 rfl (lv_at hl 3 rfl) ?_
      refine lv_iload hx hb dX9_loosen_30 (lv_at hl 4 rfl) ?_
      obtain ⟨v1, h2, hf⟩ := bd_ok hf
      refine q_cSi (va_runV (As := [.int x3, .int x4]) (rest := []) ⟨hx, hb, hml, hown, hts⟩ (c_X9_boundOf l (D := D) (ad := ad) (cy := cy) (sa := sa) (va := va) (I := I) (J := J) (S := S) h0 x3 x4 h2) (cwV 2 hts gX9_loosen_X9_boundOf rfl rfl rfl (by decide +kernel) ⟨Nat.le_of_ble_eq_true rfl, Nat.le_of_ble_eq_true rfl⟩) ⟨qPre_blind _, q_recv hK hP (oX9 h0) rfl, fun U hU hW => ⟨rfl, qPre_of hP hK hE hN hS U hU hW⟩⟩ rfl rfl hl.1 rfl (lv_room (Nat.le_of_ble_eq_true rfl)) dX9_loosen_32 ⟨Nat.le_of_ble_eq_true rfl, Nat.le_of_ble_eq_true rfl⟩) ?_
      refine lv_iconst (v := 1) hx hb dX9_loosen_35 (by decide) ?_
      refine lv_icmp_ne (tgt := 105) hx hb dX9_loosen_36 (by decide) (fun cc => ?_) (fun cc => ?_)
      · have hf := (if_ok hf).2 cc
        refine lv_iinc (v := (x4 + (1 : Int32))) (lv' := [(4, .int (x4 + (1 : Int32))), (0, .ref (ad 0)), (1, .int x1), (2, .int x2), (3, .int x3)]) hx hb dX9_loosen_105 hl (k := 4) rfl rfl (by decide) rfl (fun ls hl => ?_)
        refine lv_goto (tgt := 19) hx hb dX9_loosen_108 (by decide) ?_
        exact ih x1 x2 x3 (x4 + (1 : Int32)) I _ _ _ hf (lv_sub hl [1, 2, 3, 4, 0] rfl) hP hS
      · have hf := (if_ok hf).1 cc
        refine lv_aload_n hx hb dX9_loosen_39 rfl (lv_at hl 0 rfl) ?_
        refine lv_iload_n hx hb dX9_loosen_40 rfl (lv_at hl 3 rfl) ?_
        refine lv_iload hx hb dX9_loosen_41 (lv_at hl 4 rfl) ?_
        refine lv_iconst (v := 0) hx hb dX9_loosen_43 (by decide) ?_
        obtain ⟨I3, h4, hf⟩ := bd_ok hf
        refine q_cEv (va_runV (As := [.int x3, .int x4, .int (0 : Int32)]) (rest := []) ⟨hx, hb, hml, hown, hts⟩ (c_X9_binds l (D := D) (ad := ad) (cy := cy) (sa := sa) (va := va) (I := I) (J := J) (S := S) h0 x3 x4 (0 : Int32) h4) (cwV 3 hts gX9_loosen_X9_binds rfl rfl rfl (by decide +kernel) ⟨Nat.le_of_ble_eq_true rfl, Nat.le_of_ble_eq_true rfl⟩) ⟨qPre_blind _, q_recv hK hP (oX9 h0) rfl, fun U hU hW => ⟨rfl, qPre_of hP hK hE hN hS U hU hW⟩⟩ rfl rfl hl.1 rfl (lv_room (Nat.le_of_ble_eq_true rfl)) dX9_loosen_44 ⟨Nat.le_of_ble_eq_true rfl, Nat.le_of_ble_eq_true rfl⟩) hS (fun H locs hP hS => ?_)
        refine lv_aload_n hx hb dX9_loosen_47 rfl (lv_at hl 0 rfl) ?_
        obtain ⟨v5, I6, h7, hf⟩ := bd2_ok hf
        refine q_cEi (va_runV (As := []) (rest := []) ⟨hx, hb, hml, hown, hts⟩ (c_X9_findPlan l (D := D) (ad := ad) (cy := cy) (sa := sa) (va := va) (I := I3) (J := J) (S := S) h0  h7) (cwV 0 hts gX9_loosen_X9_findPlan rfl rfl rfl (by decide +kernel) ⟨Nat.le_of_ble_eq_true rfl, Nat.le_of_ble_eq_true rfl⟩) ⟨qPre_blind _, q_recv hK hP (oX9 h0) rfl, fun U hU hW => ⟨rfl, qPre_of hP hK hE hN hS U hU hW⟩⟩ rfl rfl hl.1 rfl (lv_room (Nat.le_of_ble_eq_true rfl)) dX9_loosen_48 ⟨Nat.le_of_ble_eq_true rfl, Nat.le_of_ble_eq_true rfl⟩) hS (fun H locs hP hS => ?_)
        refine lv_istore (lv' := [(5, .int v5), (0, .ref (ad 0)), (1, .int x1), (2, .int x2), (3, .int x3), (4, .int x4)]) hx hb dX9_loosen_51 hl (by decide) rfl (fun ls hl => ?_)
        refine lv_aload_n hx hb dX9_loosen_53 rfl (lv_at hl 1 rfl) ?_
        refine lv_iload_n hx hb dX9_loosen_54 rfl (lv_at hl 4 rfl) ?_
        refine lv_iload hx hb dX9_loosen_55 (lv_at hl 5 rfl) ?_
        refine lv_iconst (v := 1) hx hb dX9_loosen_57 (by decide) ?_
        obtain ⟨I8, h9, hf⟩ := bd_ok hf
        refine q_cEv (va_runV (As := [.int x3, .int x4, .int (1 : Int32)]) (rest := []) ⟨hx, hb, hml, hown, hts⟩ (c_X9_binds l (D := D) (ad := ad) (cy := cy) (sa := sa) (va := va) (I := I6) (J := J) (S := S) h0 x3 x4 (1 : Int32) h9) (cwV 3 hts gX9_loosen_X9_binds rfl rfl rfl (by decide +kernel) ⟨Nat.le_of_ble_eq_true rfl, Nat.le_of_ble_eq_true rfl⟩) ⟨qPre_blind _, q_recv hK hP (oX9 h0) rfl, fun U hU hW => ⟨rfl, qPre_of hP hK hE hN hS U hU hW⟩⟩ rfl rfl hl.1 rfl (lv_room (Nat.le_of_ble_eq_true rfl)) dX9_loosen_58 ⟨Nat.le_of_ble_eq_true rfl, Nat.le_of_ble_eq_true rfl⟩) hS (fun H locs hP hS => ?_)
        refine lv_iload_n hx hb dX9_loosen_61 rfl (lv_at hl 2 rfl) ?_
        refine lv_iconst (v := -1) hx hb dX9_loosen_62 (by decide) ?_
        refine lv_icmp_eq (tgt := 75) hx hb dX9_loosen_63 (by decide) (fun cc => ?_) (fun cc => ?_)
        · have hf := (if_ok hf).1 cc
          exact w_X9_loosen_75 C hK hE hN h0 k6 hk6 (f_X9_loosen_19 k6 n) ih  x2 x3 x4 v5 I8 _ _ _ hf (lv_sub hl [1, 3, 4, 5, 0] rfl) hP hS
        · have hf := (if_ok hf).2 cc
          refine lv_iload hx hb dX9_loosen_66 (lv_at hl 0 rfl) ?_
          refine lv_iload_n hx hb dX9_loosen_68 rfl (lv_at hl 3 rfl) ?_
          obtain ⟨v10, h11, hf⟩ := bd_ok hf
          refine q_cSi (va_runS (As := [.int v5, .int x2]) (rest := []) ⟨hx, hb, hml, hown, hts⟩ (c_X9_isLess l (D := D) (ad := ad) (cy := cy) (sa := sa) (va := va) (I := I8) (J := J) (S := S) h0 v5 x2 h11) (va_cwS 2 hts gX9_loosen_X9_isLess rfl rfl rfl (by decide +kernel) ⟨Nat.le_of_ble_eq_true rfl, Nat.le_of_ble_eq_true rfl⟩) ⟨qPre_blind _, fun U hU hW => ⟨rfl, qPre_of hP hK hE hN hS U hU hW⟩⟩ rfl rfl hl.1 rfl (lv_room (Nat.le_of_ble_eq_true rfl)) dX9_loosen_69 ⟨Nat.le_of_ble_eq_true rfl, Nat.le_of_ble_eq_true rfl⟩) ?_
          refine lv_if_eq (tgt := 85) hx hb dX9_loosen_72 (by decide) (fun cc => ?_) (fun cc => ?_)
          · have hf := (if_ok hf).1 cc
            refine lv_iload_n hx hb dX9_loosen_85 rfl (lv_at hl 2 rfl) ?_
            exact w_X9_loosen_86 C hK hE hN h0 k6 hk6 (f_X9_loosen_19 k6 n) ih  x2 x3 x4 v5 x1 I8 _ _ _ hf (lv_sub hl [1, 3, 4, 5, 0] rfl) hP hS
          · have hf := (if_ok hf).2 cc
            exact w_X9_loosen_75 C hK hE hN h0 k6 hk6 (f_X9_loosen_19 k6 n) ih  x2 x3 x4 v5 I8 _ _ _ hf (lv_sub hl [1, 3, 4, 5, 0] rfl) hP hS
set_option maxHeartbeats 4000000 in
set_option maxRecDepth 100000 in
theorem w_X9_loosen_6 {S : Nat → Prop} (C : qC p s m args meth c cX9_loosen 6 RX9 wsX9_loosen (some .int)) (hK : qK D cy sa s) (hE : qEnv sa va (qA S ad) s s.heap) (hN : qN S ad) (h0 : isM0 S)   {J : qJ} {r : Int32} {Ie : qI} : ∀ (n : Nat) (x1 : Int32) (x2 : Int32) (x3 : Int32)  (I : qI) (ls : Array Slot) (H : Heap) (locs : List Loc), f_X9_loosen_6 n x1 x2 x3 I = some (r, Ie) → lv_has ls 6 [(0, .ref (ad 0)), (1, .int x1), (2, .int x2), (3, .int x3)] → qP D S ad (eM ad cy) I J H → va_S (qA S ad) s.heap H locs → W p l e (headSpec wsX9_loosen r_X9_loosen).room s m args below meth c H locs 0 0 (MQ below (va_Qi (S := Unit) (fun x _ => x = r) (fun _ t => qP D S ad (eM ad cy) Ie J t.heap) (qA S ad)) args s 0 0 (qA S ad)) (F0 m 6 ls []) := by
  have C0 := C
  obtain ⟨⟨hx, hb, hml, hown, hts⟩, hr, hlocks⟩ := C0
  intro n
  induction n with
  | zero =>
    intro x1 x2 x3 I ls H locs hf hl hP hS
    rw [f_X9_loosen_6] at hf
    cases hf
  | succ n ih =>
    intro x1 x2 x3 I ls H locs hf hl hP hS
    rw [f_X9_loosen_6] at hf
    refine lv_iload_n hx hb dX9_loosen_6 rfl (lv_at hl 3 rfl) ?_
    refine lv_aload_n hx hb dX9_loosen_7 rfl (lv_at hl 0 rfl) ?_
    refine q_get (C := RX9) (T := TX9) (N := 42) (ci := 9) (v := .int (I 0 17)) hx hb hts in_X9_loosen_X9 hown hK hP (oX9 h0) rfl 17 (by decide) (hts (.fieldLink RX9 93 "RowsOnlyPrimesModel" "parties" "I") (by decide +kernel)) (fun _ h9 => h9) rfl dX9_loosen_8 ?_
    refine lv_icmp_ge (tgt := 117) hx hb dX9_loosen_11 (by decide) (fun cc => ?_) (fun cc => ?_)
    · have hf := (if_ok hf).1 cc
      refine lv_iload_n hx hb dX9_loosen_117 rfl (lv_at hl 1 rfl) ?_
      have e9 := Option.some.inj hf
      have eI9 : I = Ie := (congrArg Prod.snd e9)
      exact W.iret hx hb hr (fun t ht _ => ⟨⟨_, (), rfl, (congrArg Prod.fst e9), by show qP D _ ad _ _ _ t.heap; rw [ht, ← eI9]; exact hP⟩, hS.F ht⟩) hS.2.2 dX9_loosen_118
    · have hf := (if_ok hf).2 cc
      refine lv_iload_n hx hb dX9_loosen_14 rfl (lv_at hl 3 rfl) ?_
      refine lv_iconst (v := 1) hx hb dX9_loosen_15 (by decide) ?_
      refine lv_iadd hx hb dX9_loosen_16 ?_
      refine lv_istore (lv' := [(4, .int (x3 + (1 : Int32))), (0, .ref (ad 0)), (1, .int x1), (2, .int x2), (3, .int x3)]) hx hb dX9_loosen_17 hl (by decide) rfl (fun ls hl => ?_)
      exact w_X9_loosen_19 C hK hE hN h0 (f_X9_loosen_6 n) ih 1000 x1 x2 x3 (x3 + (1 : Int32)) I _ _ _ hf (lv_sub hl [1, 2, 3, 4, 0] rfl) hP hS
set_option maxHeartbeats 4000000 in
set_option maxRecDepth 100000 in
theorem c_X9_loosen (l : Launch) {D : va_G} {ad : Nat → Nat} {cy : Nat → ClassId} {sa va : Nat → Nat} {I : qI} {J : qJ} {S : Nat → Prop} (h0 : isM0 S)    {r : Int32} {Ie : qI} (hf : f_X9_loosen I = some (r, Ie)) : Met l yX9_loosen wsX9_loosen r_X9_loosen (va_Pc [.ref (ad 0)] (qPre D S ad cy sa va (eM ad cy) I J)) (va_Qi (S := Unit) (fun x _ => x = r) (fun _ t => qP D S ad (eM ad cy) Ie J t.heap) (qA S ad)) 0 0 (qA S ad) := by
  refine Met.ofW (cc := cX9_loosen) (maxL := 6) (ret := (some .int)) (by decide) rfl ?_
  intro p e s m args below meth c s₁ B hml hv
  obtain ⟨rfl, hP, hK, hE, hN⟩ := hv
  have C : qC p s m _ meth c cX9_loosen 6 RX9 wsX9_loosen (some .int) := ⟨⟨B.exec, B.bytes, hml, findClass_of_methodNamed B.named, atoms_spec (ws := wsX9_loosen) B.pre⟩, B.returns, B.notSynchronized⟩
  have C0 := C
  obtain ⟨⟨hx, hb, hml, hown, hts⟩, hr, hlocks⟩ := C0
  have hS : va_S (qA S ad) s.heap s.heap [] := va_S.rf
  have hl := lv_entry ([.ref (ad 0)]) (n := 6) (Nat.le_of_ble_eq_true rfl)
  rw [lg_entry_eq]
  generalize (lg_sl ([.ref (ad 0)]) ++ List.replicate (6 - (lg_sl ([.ref (ad 0)])).length) Slot.unset).toArray = ls at hl ⊢
  have hl : lv_has ls 6 [(0, .ref (ad 0))] := hl
  unfold f_X9_loosen at hf
  refine lv_iconst (v := -1) hx hb dX9_loosen_0 (by decide) ?_
  refine lv_istore_n (lv' := [(1, .int (-1 : Int32)), (0, .ref (ad 0))]) hx hb dX9_loosen_1 rfl hl (by decide) rfl (fun ls hl => ?_)
  refine lv_iconst (v := -1) hx hb dX9_loosen_2 (by decide) ?_
  refine lv_istore_n (lv' := [(2, .int (-1 : Int32)), (1, .int (-1 : Int32)), (0, .ref (ad 0))]) hx hb dX9_loosen_3 rfl hl (by decide) rfl (fun ls hl => ?_)
  refine lv_iconst (v := 0) hx hb dX9_loosen_4 (by decide) ?_
  refine lv_istore_n (lv' := [(3, .int (0 : Int32)), (2, .int (-1 : Int32)), (1, .int (-1 : Int32)), (0, .ref (ad 0))]) hx hb dX9_loosen_5 rfl hl (by decide) rfl (fun ls hl => ?_)
  exact w_X9_loosen_6 C hK hE hN h0  1000 (-1 : Int32) (-1 : Int32) (0 : Int32) I _ _ _ hf (lv_sub hl [3, 2, 1, 0] rfl) hP hS
abbrev r_X9_findBids : Room := { frames := 0, cells := 0, slots := 0, locals := 0 }
theorem in_X9_findBids_X9 : ∀ w ∈ u_ws RX9 TX9 42, w ∈ wsX9_findBids := by decide +kernel
set_option maxHeartbeats 4000000 in
set_option maxRecDepth 100000 in
theorem w_X9_findBids_93 {S : Nat → Prop} (C : qC p s m args meth c cX9_findBids 7 RX9 wsX9_findBids none) (hK : qK D cy sa s) (hE : qEnv sa va (qA S ad) s s.heap) (hN : qN S ad) (h0 : isM0 S)   {J : qJ} {Ie : qI} (k3 : Int32 → Int32 → Int32 → qI → Option qI) (hk3 : ∀ (x1 : Int32) (x2 : Int32) (x3 : Int32)  (I : qI) (ls : Array Slot) (H : Heap) (locs : List Loc), k3 x1 x2 x3 I = some Ie → lv_has ls 7 [(0, .ref (ad 0)), (1, .int x1), (2, .int x2), (3, .int x3)] → qP D S ad (eM ad cy) I J H → va_S (qA S ad) s.heap H locs → W p l e (headSpec wsX9_findBids r_X9_findBids).room s m args below meth c H locs 0 0 (MQ below (va_Qv (S := Unit) (fun _ => True) (fun _ t => qP D S ad (eM ad cy) Ie J t.heap) (qA S ad)) args s 0 0 (qA S ad)) (F0 m 3 ls [])) (k10 : Int32 → Int32 → Int32 → Int32 → qI → Option qI) (hk10 : ∀ (x1 : Int32) (x2 : Int32) (x3 : Int32) (x4 : Int32)  (I : qI) (ls : Array Slot) (H : Heap) (locs : List Loc), k10 x1 x2 x3 x4 I = some Ie → lv_has ls 7 [(0, .ref (ad 0)), (1, .int x1), (2, .int x2), (3, .int x3), (4, .int x4)] → qP D S ad (eM ad cy) I J H → va_S (qA S ad) s.heap H locs → W p l e (headSpec wsX9_findBids r_X9_findBids).room s m args below meth c H locs 0 0 (MQ below (va_Qv (S := Unit) (fun _ => True) (fun _ t => qP D S ad (eM ad cy) Ie J t.heap) (qA S ad)) args s 0 0 (qA S ad)) (F0 m 10 ls [])) (k46 : Int32 → Int32 → Int32 → Int32 → Int32 → Int32 → qI → Option qI) (hk46 : ∀ (x1 : Int32) (x2 : Int32) (x3 : Int32) (x4 : Int32) (x5 : Int32) (x6 : Int32)  (I : qI) (ls : Array Slot) (H : Heap) (locs : List Loc), k46 x1 x2 x3 x4 x5 x6 I = some Ie → lv_has ls 7 [(0, .ref (ad 0)), (1, .int x1), (2, .int x2), (3, .int x3), (4, .int x4), (5, .int x5), (6, .int x6)] → qP D S ad (eM ad cy) I J H → va_S (qA S ad) s.heap H locs → W p l e (headSpec wsX9_findBids r_X9_findBids).room s m args below meth c H locs 0 0 (MQ below (va_Qv (S := Unit) (fun _ => True) (fun _ t => qP D S ad (eM ad cy) Ie J t.heap) (qA S ad)) args s 0 0 (qA S ad)) (F0 m 46 ls [])) : ∀ (x1 : Int32) (x2 : Int32) (x3 : Int32) (x4 : Int32) (x5 : Int32) (x6 : Int32) (xs0 : Int32) (xs1 : Int32) (xs2 : Int32) (cs3 : Nat) (hcs3 : qAZ S (eM ad cy) cy cs3 100) (I : qI) (ls : Array Slot) (H : Heap) (locs : List Loc), f_X9_findBids_93 k3 k10 k46 x1 x2 x3 x4 x5 x6 xs0 xs1 xs2 cs3 I = some Ie → lv_has ls 7 [(0, .ref (ad 0)), (1, .int x1), (2, .int x2), (3, .int x3), (4, .int x4), (5, .int x5), (6, .int x6)] → qP D S ad (eM ad cy) I J H → va_S (qA S ad) s.heap H locs → W p l e (headSpec wsX9_findBids r_X9_findBids).room s m args below meth c H locs 0 0 (MQ below (va_Qv (S := Unit) (fun _ => True) (fun _ t => qP D S ad (eM ad cy) Ie J t.heap) (qA S ad)) args s 0 0 (qA S ad)) (F0 m 93 ls [.int xs0, .int xs1, .int xs2, .ref (ad cs3)]) := by
  have C0 := C
  obtain ⟨⟨hx, hb, hml, hown, hts⟩, hr, hlocks⟩ := C0
  intro x1 x2 x3 x4 x5 x6 xs0 xs1 xs2 cs3 hcs3 I ls H locs hf hl hP hS
  unfold f_X9_findBids_93 at hf
  refine lv_ior hx hb dX9_findBids_93 ?_
  obtain ⟨g1, hf⟩ := gd_ok hf
  obtain ⟨I2, eI2, hf⟩ := lt_ok hf
  refine q_zast hx hb hK hP hN hS hcs3 g1 dX9_findBids_94 (fun H locs hP hS => ?_)
  have hP : qP D S ad (eM ad cy) I2 J H := by rw [eI2]; exact hP
  refine lv_iinc (v := (x6 + (1 : Int32))) (lv' := [(6, .int (x6 + (1 : Int32))), (0, .ref (ad 0)), (1, .int x1), (2, .int x2), (3, .int x3), (4, .int x4), (5, .int x5)]) hx hb dX9_findBids_95 hl (k := 6) rfl rfl (by decide) rfl (fun ls hl => ?_)
  refine lv_goto (tgt := 46) hx hb dX9_findBids_98 (by decide) ?_
  exact hk46 x1 x2 x3 x4 x5 (x6 + (1 : Int32)) I2 _ _ _ hf (lv_sub hl [1, 2, 3, 4, 5, 6, 0] rfl) hP hS
set_option maxHeartbeats 4000000 in
set_option maxRecDepth 100000 in
theorem w_X9_findBids_46 {S : Nat → Prop} (C : qC p s m args meth c cX9_findBids 7 RX9 wsX9_findBids none) (hK : qK D cy sa s) (hE : qEnv sa va (qA S ad) s s.heap) (hN : qN S ad) (h0 : isM0 S)   {J : qJ} {Ie : qI} (k3 : Int32 → Int32 → Int32 → qI → Option qI) (hk3 : ∀ (x1 : Int32) (x2 : Int32) (x3 : Int32)  (I : qI) (ls : Array Slot) (H : Heap) (locs : List Loc), k3 x1 x2 x3 I = some Ie → lv_has ls 7 [(0, .ref (ad 0)), (1, .int x1), (2, .int x2), (3, .int x3)] → qP D S ad (eM ad cy) I J H → va_S (qA S ad) s.heap H locs → W p l e (headSpec wsX9_findBids r_X9_findBids).room s m args below meth c H locs 0 0 (MQ below (va_Qv (S := Unit) (fun _ => True) (fun _ t => qP D S ad (eM ad cy) Ie J t.heap) (qA S ad)) args s 0 0 (qA S ad)) (F0 m 3 ls [])) (k10 : Int32 → Int32 → Int32 → Int32 → qI → Option qI) (hk10 : ∀ (x1 : Int32) (x2 : Int32) (x3 : Int32) (x4 : Int32)  (I : qI) (ls : Array Slot) (H : Heap) (locs : List Loc), k10 x1 x2 x3 x4 I = some Ie → lv_has ls 7 [(0, .ref (ad 0)), (1, .int x1), (2, .int x2), (3, .int x3), (4, .int x4)] → qP D S ad (eM ad cy) I J H → va_S (qA S ad) s.heap H locs → W p l e (headSpec wsX9_findBids r_X9_findBids).room s m args below meth c H locs 0 0 (MQ below (va_Qv (S := Unit) (fun _ => True) (fun _ t => qP D S ad (eM ad cy) Ie J t.heap) (qA S ad)) args s 0 0 (qA S ad)) (F0 m 10 ls [])) : ∀ (n : Nat) (x1 : Int32) (x2 : Int32) (x3 : Int32) (x4 : Int32) (x5 : Int32) (x6 : Int32)  (I : qI) (ls : Array Slot) (H : Heap) (locs : List Loc), f_X9_findBids_46 k3 k10 n x1 x2 x3 x4 x5 x6 I = some Ie → lv_has ls 7 [(0, .ref (ad 0)), (1, .int x1), (2, .int x2), (3, .int x3), (4, .int x4), (5, .int x5), (6, .int x6)] → qP D S ad (eM ad cy) I J H → va_S (qA S ad) s.heap H locs → W p l e (headSpec wsX9_findBids r_X9_findBids).room s m args below meth c H locs 0 0 (MQ below (va_Qv (S := Unit) (fun _ => True) (fun _ t => qP D S ad (eM ad cy) Ie J t.heap) (qA S ad)) args s 0 0 (qA S ad)) (F0 m 46 ls []) := by
  have C0 := C
  obtain ⟨⟨hx, hb, hml, hown, hts⟩, hr, hlocks⟩ := C0
  intro n
  induction n with
  | zero =>
    intro x1 x2 x3 x4 x5 x6 I ls H locs hf hl hP hS
    rw [f_X9_findBids_46] at hf
    cases hf
  | succ n ih =>
    intro x1 x2 x3 x4 x5 x6 I ls H locs hf hl hP hS
    rw [f_X9_findBids_46] at hf
    refine lv_iload hx hb dX9_findBids_46 (lv_at hl 6 rfl) ?_
    refine lv_iconst (v := 3) hx hb dX9_findBids_48 (by decide) ?_
    refine lv_icmp_gt (tgt := 101) hx hb dX9_findBids_49 (by decide) (fun cc => ?_) (fun cc => ?_)
    · have hf := (if_ok hf).1 cc
      refine lv_iinc (v := (x4 + (1 : Int32))) (lv' := [(4, .int (x4 + (1 : Int32))), (0, .ref (ad 0)), (1, .int x1), (2, .int x2), (3, .int x3), (5, .int x5), (6, .int x6)]) hx hb dX9_findBids_101 hl (k := 4) rfl rfl (by decide) rfl (fun ls hl => ?_)
      refine lv_goto (tgt := 10) hx hb dX9_findBids_104 (by decide) ?_
      exact hk10 x1 x2 x3 (x4 + (1 : Int32)) I _ _ _ hf (lv_sub hl [1, 2, 3, 4, 0] rfl) hP hS
    · have hf := (if_ok hf).2 cc
      refine lv_iload_n hx hb dX9_findBids_52 rfl (lv_at hl 3 rfl) ?_
      refine lv_iload hx hb dX9_findBids_53 (lv_at hl 6 rfl) ?_
      refine lv_iadd hx hb dX9_findBids_55 ?_
      refine lv_iload hx hb dX9_findBids_56 (lv_at hl 5 rfl) ?_
      refine lv_icmp_gt (tgt := 101) hx hb dX9_findBids_58 (by decide) (fun cc => ?_) (fun cc => ?_)
      · have hf := (if_ok hf).1 cc
        refine lv_iinc (v := (x4 + (1 : Int32))) (lv' := [(4, .int (x4 + (1 : Int32))), (0, .ref (ad 0)), (1, .int x1), (2, .int x2), (3, .int x3), (5, .int x5), (6, .int x6)]) hx hb dX9_findBids_101 hl (k := 4) rfl rfl (by decide) rfl (fun ls hl => ?_)
        refine lv_goto (tgt := 10) hx hb dX9_findBids_104 (by decide) ?_
        exact hk10 x1 x2 x3 (x4 + (1 : Int32)) I _ _ _ hf (lv_sub hl [1, 2, 3, 4, 0] rfl) hP hS
      · have hf := (if_ok hf).2 cc
        refine lv_aload_n hx hb dX9_findBids_61 rfl (lv_at hl 0 rfl) ?_
        refine q_get (C := RX9) (T := TX9) (N := 42) (ci := 9) (v := .ref (ad 27)) hx hb hts in_X9_findBids_X9 hown hK hP (oX9 h0) rfl 38 (by decide) (hts (.fieldLink RX9 85 "RowsOnlyPrimesModel" "wins" "[[Z") (by decide +kernel)) (fun _ h9 => h9) rfl dX9_findBids_62 ?_
        refine lv_iload hx hb dX9_findBids_65 (lv_at hl 4 rfl) ?_
        obtain ⟨g1, hf⟩ := gd_ok hf
        refine q_aald (t := 6) hx hb hK hP (a0X9_27 h0) rfl rfl g1 dX9_findBids_67 ?_
        refine lv_iload_n hx hb dX9_findBids_68 rfl (lv_at hl 3 rfl) ?_
        refine lv_dup2_11 hx hb dX9_findBids_69 rfl rfl ?_
        obtain ⟨g2, hf⟩ := gd_ok hf
        refine q_zald hx hb hK hP (aX9_27k h0 (j := x4.toNatClampNeg) (qin_lt g1)) g2 dX9_findBids_70 ?_
        refine lv_aload_n hx hb dX9_findBids_71 rfl (lv_at hl 0 rfl) ?_
        refine q_get (C := RX9) (T := TX9) (N := 42) (ci := 9) (v := .ref (ad 27)) hx hb hts in_X9_findBids_X9 hown hK hP (oX9 h0) rfl 38 (by decide) (hts (.fieldLink RX9 85 "RowsOnlyPrimesModel" "wins" "[[Z") (by decide +kernel)) (fun _ h9 => h9) rfl dX9_findBids_72 ?_
        refine lv_iconst (v := 1) hx hb dX9_findBids_75 (by decide) ?_
        refine lv_iload hx hb dX9_findBids_76 (lv_at hl 4 rfl) ?_
        refine lv_isub hx hb dX9_findBids_78 ?_
        obtain ⟨g3, hf⟩ := gd_ok hf
        refine q_aald (t := 6) hx hb hK hP (a0X9_27 h0) rfl rfl g3 dX9_findBids_79 ?_
        refine lv_iload_n hx hb dX9_findBids_80 rfl (lv_at hl 3 rfl) ?_
        refine lv_iload hx hb dX9_findBids_81 (lv_at hl 6 rfl) ?_
        refine lv_iadd hx hb dX9_findBids_83 ?_
        obtain ⟨g4, hf⟩ := gd_ok hf
        refine q_zald hx hb hK hP (aX9_27k h0 (j := ((1 : Int32) - x4).toNatClampNeg) (qin_lt g3)) g4 dX9_findBids_84 ?_
        refine lv_if_ne (tgt := 92) hx hb dX9_findBids_85 (by decide) (fun cc => ?_) (fun cc => ?_)
        · have hf := (if_ok hf).2 cc
          refine lv_iconst (v := 0) hx hb dX9_findBids_92 (by decide) ?_
          exact w_X9_findBids_93 C hK hE hN h0 k3 hk3 k10 hk10 (f_X9_findBids_46 k3 k10 n) ih  x1 x2 x3 x4 x5 x6 (0 : Int32) (I (28 + x4.toNatClampNeg) x3.toNatClampNeg) x3 (28 + x4.toNatClampNeg) (aX9_27k h0 (j := x4.toNatClampNeg) (qin_lt g1)) I _ _ _ hf (lv_sub hl [0, 1, 2, 3, 4, 5, 6] rfl) hP hS
        · have hf := (if_ok hf).1 cc
          refine lv_iconst (v := 1) hx hb dX9_findBids_88 (by decide) ?_
          refine lv_goto (tgt := 93) hx hb dX9_findBids_89 (by decide) ?_
          exact w_X9_findBids_93 C hK hE hN h0 k3 hk3 k10 hk10 (f_X9_findBids_46 k3 k10 n) ih  x1 x2 x3 x4 x5 x6 (1 : Int32) (I (28 + x4.toNatClampNeg) x3.toNatClampNeg) x3 (28 + x4.toNatClampNeg) (aX9_27k h0 (j := x4.toNatClampNeg) (qin_lt g1)) I _ _ _ hf (lv_sub hl [0, 1, 2, 3, 4, 5, 6] rfl) hP hS
set_option maxHeartbeats 4000000 in
set_option maxRecDepth 100000 in
theorem w_X9_findBids_30 {S : Nat → Prop} (C : qC p s m args meth c cX9_findBids 7 RX9 wsX9_findBids none) (hK : qK D cy sa s) (hE : qEnv sa va (qA S ad) s s.heap) (hN : qN S ad) (h0 : isM0 S)   {J : qJ} {Ie : qI} (k3 : Int32 → Int32 → Int32 → qI → Option qI) (hk3 : ∀ (x1 : Int32) (x2 : Int32) (x3 : Int32)  (I : qI) (ls : Array Slot) (H : Heap) (locs : List Loc), k3 x1 x2 x3 I = some Ie → lv_has ls 7 [(0, .ref (ad 0)), (1, .int x1), (2, .int x2), (3, .int x3)] → qP D S ad (eM ad cy) I J H → va_S (qA S ad) s.heap H locs → W p l e (headSpec wsX9_findBids r_X9_findBids).room s m args below meth c H locs 0 0 (MQ below (va_Qv (S := Unit) (fun _ => True) (fun _ t => qP D S ad (eM ad cy) Ie J t.heap) (qA S ad)) args s 0 0 (qA S ad)) (F0 m 3 ls [])) (k10 : Int32 → Int32 → Int32 → Int32 → qI → Option qI) (hk10 : ∀ (x1 : Int32) (x2 : Int32) (x3 : Int32) (x4 : Int32)  (I : qI) (ls : Array Slot) (H : Heap) (locs : List Loc), k10 x1 x2 x3 x4 I = some Ie → lv_has ls 7 [(0, .ref (ad 0)), (1, .int x1), (2, .int x2), (3, .int x3), (4, .int x4)] → qP D S ad (eM ad cy) I J H → va_S (qA S ad) s.heap H locs → W p l e (headSpec wsX9_findBids r_X9_findBids).room s m args below meth c H locs 0 0 (MQ below (va_Qv (S := Unit) (fun _ => True) (fun _ t => qP D S ad (eM ad cy) Ie J t.heap) (qA S ad)) args s 0 0 (qA S ad)) (F0 m 10 ls [])) : ∀ (x1 : Int32) (x2 : Int32) (x3 : Int32) (x4 : Int32) (xs0 : Int32)  (I : qI) (ls : Array Slot) (H : Heap) (locs : List Loc), f_X9_findBids_30 k3 k10 x1 x2 x3 x4 xs0 I = some Ie → lv_has ls 7 [(0, .ref (ad 0)), (1, .int x1), (2, .int x2), (3, .int x3), (4, .int x4)] → qP D S ad (eM ad cy) I J H → va_S (qA S ad) s.heap H locs → W p l e (headSpec wsX9_findBids r_X9_findBids).room s m args below meth c H locs 0 0 (MQ below (va_Qv (S := Unit) (fun _ => True) (fun _ t => qP D S ad (eM ad cy) Ie J t.heap) (qA S ad)) args s 0 0 (qA S ad)) (F0 m 30 ls [.int xs0, .ref (ad 20)]) := by
  have C0 := C
  obtain ⟨⟨hx, hb, hml, hown, hts⟩, hr, hlocks⟩ := C0
  intro x1 x2 x3 x4 xs0 I ls H locs hf hl hP hS
  unfold f_X9_findBids_30 at hf
  obtain ⟨g1, hf⟩ := gd_ok hf
  refine q_iald hx hb hK hP (a0X9_20 h0) g1 dX9_findBids_30 ?_
  refine lv_istore (lv' := [(5, .int (I 20 xs0.toNatClampNeg)), (0, .ref (ad 0)), (1, .int x1), (2, .int x2), (3, .int x3), (4, .int x4)]) hx hb dX9_findBids_31 hl (by decide) rfl (fun ls hl => ?_)
  refine lv_aload_n hx hb dX9_findBids_33 rfl (lv_at hl 1 rfl) ?_
  refine q_get (C := RX9) (T := TX9) (N := 42) (ci := 9) (v := .ref (ad 27)) hx hb hts in_X9_findBids_X9 hown hK hP (oX9 h0) rfl 38 (by decide) (hts (.fieldLink RX9 85 "RowsOnlyPrimesModel" "wins" "[[Z") (by decide +kernel)) (fun _ h9 => h9) rfl dX9_findBids_34 ?_
  refine lv_iload hx hb dX9_findBids_37 (lv_at hl 5 rfl) ?_
  obtain ⟨g2, hf⟩ := gd_ok hf
  refine q_aald (t := 6) hx hb hK hP (a0X9_27 h0) rfl rfl g2 dX9_findBids_39 ?_
  refine lv_iload_n hx hb dX9_findBids_40 rfl (lv_at hl 4 rfl) ?_
  refine lv_iconst (v := 0) hx hb dX9_findBids_41 (by decide) ?_
  obtain ⟨g3, hf⟩ := gd_ok hf
  obtain ⟨I4, eI4, hf⟩ := lt_ok hf
  refine q_zast hx hb hK hP hN hS (aX9_27k h0 (j := x4.toNatClampNeg) (qin_lt g2)) g3 dX9_findBids_42 (fun H locs hP hS => ?_)
  have hP : qP D S ad (eM ad cy) I4 J H := by rw [eI4]; exact hP
  refine lv_iconst (v := 1) hx hb dX9_findBids_43 (by decide) ?_
  refine lv_istore (lv' := [(6, .int (1 : Int32)), (5, .int (I 20 xs0.toNatClampNeg)), (0, .ref (ad 0)), (1, .int x1), (2, .int x2), (3, .int x3), (4, .int x4)]) hx hb dX9_findBids_44 hl (by decide) rfl (fun ls hl => ?_)
  exact w_X9_findBids_46 C hK hE hN h0 k3 hk3 k10 hk10 1000 x1 x2 x3 x4 (I 20 xs0.toNatClampNeg) (1 : Int32) I4 _ _ _ hf (lv_sub hl [2, 3, 4, 5, 6, 1, 0] rfl) hP hS
set_option maxHeartbeats 4000000 in
set_option maxRecDepth 100000 in
theorem w_X9_findBids_10 {S : Nat → Prop} (C : qC p s m args meth c cX9_findBids 7 RX9 wsX9_findBids none) (hK : qK D cy sa s) (hE : qEnv sa va (qA S ad) s s.heap) (hN : qN S ad) (h0 : isM0 S)   {J : qJ} {Ie : qI} (k3 : Int32 → Int32 → Int32 → qI → Option qI) (hk3 : ∀ (x1 : Int32) (x2 : Int32) (x3 : Int32)  (I : qI) (ls : Array Slot) (H : Heap) (locs : List Loc), k3 x1 x2 x3 I = some Ie → lv_has ls 7 [(0, .ref (ad 0)), (1, .int x1), (2, .int x2), (3, .int x3)] → qP D S ad (eM ad cy) I J H → va_S (qA S ad) s.heap H locs → W p l e (headSpec wsX9_findBids r_X9_findBids).room s m args below meth c H locs 0 0 (MQ below (va_Qv (S := Unit) (fun _ => True) (fun _ t => qP D S ad (eM ad cy) Ie J t.heap) (qA S ad)) args s 0 0 (qA S ad)) (F0 m 3 ls [])) : ∀ (n : Nat) (x1 : Int32) (x2 : Int32) (x3 : Int32) (x4 : Int32)  (I : qI) (ls : Array Slot) (H : Heap) (locs : List Loc), f_X9_findBids_10 k3 n x1 x2 x3 x4 I = some Ie → lv_has ls 7 [(0, .ref (ad 0)), (1, .int x1), (2, .int x2), (3, .int x3), (4, .int x4)] → qP D S ad (eM ad cy) I J H → va_S (qA S ad) s.heap H locs → W p l e (headSpec wsX9_findBids r_X9_findBids).room s m args below meth c H locs 0 0 (MQ below (va_Qv (S := Unit) (fun _ => True) (fun _ t => qP D S ad (eM ad cy) Ie J t.heap) (qA S ad)) args s 0 0 (qA S ad)) (F0 m 10 ls []) := by
  have C0 := C
  obtain ⟨⟨hx, hb, hml, hown, hts⟩, hr, hlocks⟩ := C0
  intro n
  induction n with
  | zero =>
    intro x1 x2 x3 x4 I ls H locs hf hl hP hS
    rw [f_X9_findBids_10] at hf
    cases hf
  | succ n ih =>
    intro x1 x2 x3 x4 I ls H locs hf hl hP hS
    rw [f_X9_findBids_10] at hf
    refine lv_iload hx hb dX9_findBids_10 (lv_at hl 4 rfl) ?_
    refine lv_iconst (v := 2) hx hb dX9_findBids_12 (by decide) ?_
    refine lv_icmp_ge (tgt := 107) hx hb dX9_findBids_13 (by decide) (fun cc => ?_) (fun cc => ?_)
    · have hf := (if_ok hf).1 cc
      refine lv_iinc (v := (x3 + (-1 : Int32))) (lv' := [(3, .int (x3 + (-1 : Int32))), (0, .ref (ad 0)), (1, .int x1), (2, .int x2), (4, .int x4)]) hx hb dX9_findBids_107 hl (k := 3) rfl rfl (by decide) rfl (fun ls hl => ?_)
      refine lv_goto (tgt := 3) hx hb dX9_findBids_110 (by decide) ?_
      exact hk3 x1 x2 (x3 + (-1 : Int32)) I _ _ _ hf (lv_sub hl [1, 2, 3, 0] rfl) hP hS
    · have hf := (if_ok hf).2 cc
      refine lv_aload_n hx hb dX9_findBids_16 rfl (lv_at hl 0 rfl) ?_
      refine q_get (C := RX9) (T := TX9) (N := 42) (ci := 9) (v := .ref (ad 20)) hx hb hts in_X9_findBids_X9 hown hK hP (oX9 h0) rfl 22 (by decide) (hts (.fieldLink RX9 59 "RowsOnlyPrimesModel" "purse" "[I") (by decide +kernel)) (fun _ h9 => h9) rfl dX9_findBids_17 ?_
      refine lv_iload hx hb dX9_findBids_20 (lv_at hl 4 rfl) ?_
      refine lv_if_ne (tgt := 29) hx hb dX9_findBids_22 (by decide) (fun cc => ?_) (fun cc => ?_)
      · have hf := (if_ok hf).2 cc
        refine lv_iload_n hx hb dX9_findBids_29 rfl (lv_at hl 2 rfl) ?_
        exact w_X9_findBids_30 C hK hE hN h0 k3 hk3 (f_X9_findBids_10 k3 n) ih  x1 x2 x3 x4 x2 I _ _ _ hf (lv_sub hl [0, 1, 2, 3, 4] rfl) hP hS
      · have hf := (if_ok hf).1 cc
        refine lv_iload_n hx hb dX9_findBids_25 rfl (lv_at hl 1 rfl) ?_
        refine lv_goto (tgt := 30) hx hb dX9_findBids_26 (by decide) ?_
        exact w_X9_findBids_30 C hK hE hN h0 k3 hk3 (f_X9_findBids_10 k3 n) ih  x1 x2 x3 x4 x1 I _ _ _ hf (lv_sub hl [0, 1, 2, 3, 4] rfl) hP hS
set_option maxHeartbeats 4000000 in
set_option maxRecDepth 100000 in
theorem w_X9_findBids_3 {S : Nat → Prop} (C : qC p s m args meth c cX9_findBids 7 RX9 wsX9_findBids none) (hK : qK D cy sa s) (hE : qEnv sa va (qA S ad) s s.heap) (hN : qN S ad) (h0 : isM0 S)   {J : qJ} {Ie : qI} : ∀ (n : Nat) (x1 : Int32) (x2 : Int32) (x3 : Int32)  (I : qI) (ls : Array Slot) (H : Heap) (locs : List Loc), f_X9_findBids_3 n x1 x2 x3 I = some Ie → lv_has ls 7 [(0, .ref (ad 0)), (1, .int x1), (2, .int x2), (3, .int x3)] → qP D S ad (eM ad cy) I J H → va_S (qA S ad) s.heap H locs → W p l e (headSpec wsX9_findBids r_X9_findBids).room s m args below meth c H locs 0 0 (MQ below (va_Qv (S := Unit) (fun _ => True) (fun _ t => qP D S ad (eM ad cy) Ie J t.heap) (qA S ad)) args s 0 0 (qA S ad)) (F0 m 3 ls []) := by
  have C0 := C
  obtain ⟨⟨hx, hb, hml, hown, hts⟩, hr, hlocks⟩ := C0
  intro n
  induction n with
  | zero =>
    intro x1 x2 x3 I ls H locs hf hl hP hS
    rw [f_X9_findBids_3] at hf
    cases hf
  | succ n ih =>
    intro x1 x2 x3 I ls H locs hf hl hP hS
    rw [f_X9_findBids_3] at hf
    refine lv_iload_n hx hb dX9_findBids_3 rfl (lv_at hl 3 rfl) ?_
    refine lv_if_lt (tgt := 113) hx hb dX9_findBids_4 (by decide) (fun cc => ?_) (fun cc => ?_)
    · have hf := (if_ok hf).1 cc
      have e9 := Option.some.inj hf
      have eI9 : I = Ie := e9
      exact W.vret hx hb hr (fun t ht _ => ⟨⟨(), rfl, trivial, by show qP D _ ad _ _ _ t.heap; rw [ht, ← eI9]; exact hP⟩, hS.F ht⟩) hS.2.2 dX9_findBids_113
    · have hf := (if_ok hf).2 cc
      refine lv_iconst (v := 0) hx hb dX9_findBids_7 (by decide) ?_
      refine lv_istore (lv' := [(4, .int (0 : Int32)), (0, .ref (ad 0)), (1, .int x1), (2, .int x2), (3, .int x3)]) hx hb dX9_findBids_8 hl (by decide) rfl (fun ls hl => ?_)
      exact w_X9_findBids_10 C hK hE hN h0 (f_X9_findBids_3 n) ih 1000 x1 x2 x3 (0 : Int32) I _ _ _ hf (lv_sub hl [1, 2, 3, 4, 0] rfl) hP hS
set_option maxHeartbeats 4000000 in
set_option maxRecDepth 100000 in
theorem c_X9_findBids (l : Launch) {D : va_G} {ad : Nat → Nat} {cy : Nat → ClassId} {sa va : Nat → Nat} {I : qI} {J : qJ} {S : Nat → Prop} (h0 : isM0 S)   (p0 : Int32) (p1 : Int32) {Ie : qI} (hf : f_X9_findBids p0 p1 I = some Ie) : Met l yX9_findBids wsX9_findBids r_X9_findBids (va_Pc [.ref (ad 0), .int p0, .int p1] (qPre D S ad cy sa va (eM ad cy) I J)) (va_Qv (S := Unit) (fun _ => True) (fun _ t => qP D S ad (eM ad cy) Ie J t.heap) (qA S ad)) 0 0 (qA S ad) := by
  refine Met.ofW (cc := cX9_findBids) (maxL := 7) (ret := none) (by decide) rfl ?_
  intro p e s m args below meth c s₁ B hml hv
  obtain ⟨rfl, hP, hK, hE, hN⟩ := hv
  have C : qC p s m _ meth c cX9_findBids 7 RX9 wsX9_findBids none := ⟨⟨B.exec, B.bytes, hml, findClass_of_methodNamed B.named, atoms_spec (ws := wsX9_findBids) B.pre⟩, B.returns, B.notSynchronized⟩
  have C0 := C
  obtain ⟨⟨hx, hb, hml, hown, hts⟩, hr, hlocks⟩ := C0
  have hS : va_S (qA S ad) s.heap s.heap [] := va_S.rf
  have hl := lv_entry ([.ref (ad 0), .int p0, .int p1]) (n := 7) (Nat.le_of_ble_eq_true rfl)
  rw [lg_entry_eq]
  generalize (lg_sl ([.ref (ad 0), .int p0, .int p1]) ++ List.replicate (7 - (lg_sl ([.ref (ad 0), .int p0, .int p1])).length) Slot.unset).toArray = ls at hl ⊢
  have hl : lv_has ls 7 [(0, .ref (ad 0)), (1, .int p0), (2, .int p1)] := hl
  unfold f_X9_findBids at hf
  refine lv_bipush (v := 99) hx hb dX9_findBids_0 (by decide) ?_
  refine lv_istore_n (lv' := [(3, .int (99 : Int32)), (0, .ref (ad 0)), (1, .int p0), (2, .int p1)]) hx hb dX9_findBids_2 rfl hl (by decide) rfl (fun ls hl => ?_)
  exact w_X9_findBids_3 C hK hE hN h0  1000 p0 p1 (99 : Int32) I _ _ _ hf (lv_sub hl [1, 2, 3, 0] rfl) hP hS
end
